-- ===== PART A: goes FIRST, ahead of the names: the tables' words, and 'selects' of the private methods out of them =====
/-- a private method of a class that the tables say can be made, by its rows of tables_1 -/
def lw_okq (q : MethodName × Nat) : Prop := (q.1.cls ≠ "java/lang/invoke/MethodHandle" ∧ q.1.cls ≠ "java/lang/invoke/VarHandle") ∧ Cond.instantiable q.1.cls q.2 ∈ tables_1 ∧ Cond.privateMethod q.1 ∈ tables_1 ∧ Cond.instanceMethod q.1 ∈ tables_1
theorem lw_p0 : lw_okq (⟨"LowerHalf", "refuse", "(I)I"⟩, 19) := ⟨⟨by decide +kernel, by decide +kernel⟩, List.mem_of_getElem? (i := 20) (by decide +kernel), List.mem_of_getElem? (i := 342) (by decide +kernel), List.mem_of_getElem? (i := 343) (by decide +kernel)⟩
theorem lw_p1 : lw_okq (⟨"LowerHalf", "grant", "(I)I"⟩, 19) := ⟨⟨by decide +kernel, by decide +kernel⟩, List.mem_of_getElem? (i := 20) (by decide +kernel), List.mem_of_getElem? (i := 357) (by decide +kernel), List.mem_of_getElem? (i := 358) (by decide +kernel)⟩
theorem lw_p2 : lw_okq (⟨"LowerHalf", "linkedByRow", "(III)Z"⟩, 19) := ⟨⟨by decide +kernel, by decide +kernel⟩, List.mem_of_getElem? (i := 20) (by decide +kernel), List.mem_of_getElem? (i := 557) (by decide +kernel), List.mem_of_getElem? (i := 558) (by decide +kernel)⟩
theorem lw_p3 : lw_okq (⟨"LowerHalf$Reader", "cutIntoTokens", "(LLowerHalf$Tape;I)V"⟩, 12) := ⟨⟨by decide +kernel, by decide +kernel⟩, List.mem_of_getElem? (i := 184) (by decide +kernel), List.mem_of_getElem? (i := 573) (by decide +kernel), List.mem_of_getElem? (i := 574) (by decide +kernel)⟩
theorem lw_p4 : lw_okq (⟨"LowerHalf$Reader", "addToken", "(III)V"⟩, 12) := ⟨⟨by decide +kernel, by decide +kernel⟩, List.mem_of_getElem? (i := 184) (by decide +kernel), List.mem_of_getElem? (i := 642) (by decide +kernel), List.mem_of_getElem? (i := 643) (by decide +kernel)⟩
theorem lw_p5 : lw_okq (⟨"LowerHalf$Reader", "readClause", "()Z"⟩, 12) := ⟨⟨by decide +kernel, by decide +kernel⟩, List.mem_of_getElem? (i := 184) (by decide +kernel), List.mem_of_getElem? (i := 653) (by decide +kernel), List.mem_of_getElem? (i := 654) (by decide +kernel)⟩
theorem lw_p6 : lw_okq (⟨"LowerHalf$Reader", "kind", "()I"⟩, 12) := ⟨⟨by decide +kernel, by decide +kernel⟩, List.mem_of_getElem? (i := 184) (by decide +kernel), List.mem_of_getElem? (i := 657) (by decide +kernel), List.mem_of_getElem? (i := 658) (by decide +kernel)⟩
theorem lw_p7 : lw_okq (⟨"LowerHalf$Reader", "beginsClause", "(I)Z"⟩, 12) := ⟨⟨by decide +kernel, by decide +kernel⟩, List.mem_of_getElem? (i := 184) (by decide +kernel), List.mem_of_getElem? (i := 661) (by decide +kernel), List.mem_of_getElem? (i := 662) (by decide +kernel)⟩
theorem lw_p8 : lw_okq (⟨"LowerHalf$Reader", "fail", "()Z"⟩, 12) := ⟨⟨by decide +kernel, by decide +kernel⟩, List.mem_of_getElem? (i := 184) (by decide +kernel), List.mem_of_getElem? (i := 665) (by decide +kernel), List.mem_of_getElem? (i := 666) (by decide +kernel)⟩
theorem lw_p9 : lw_okq (⟨"LowerHalf$Reader", "readSum", "(II)Z"⟩, 12) := ⟨⟨by decide +kernel, by decide +kernel⟩, List.mem_of_getElem? (i := 184) (by decide +kernel), List.mem_of_getElem? (i := 669) (by decide +kernel), List.mem_of_getElem? (i := 670) (by decide +kernel)⟩
theorem lw_p10 : lw_okq (⟨"LowerHalf$Reader", "readPart", "(I)Z"⟩, 12) := ⟨⟨by decide +kernel, by decide +kernel⟩, List.mem_of_getElem? (i := 184) (by decide +kernel), List.mem_of_getElem? (i := 673) (by decide +kernel), List.mem_of_getElem? (i := 674) (by decide +kernel)⟩
theorem lw_p11 : lw_okq (⟨"LowerHalf$Reader", "take", "(I)Z"⟩, 12) := ⟨⟨by decide +kernel, by decide +kernel⟩, List.mem_of_getElem? (i := 184) (by decide +kernel), List.mem_of_getElem? (i := 677) (by decide +kernel), List.mem_of_getElem? (i := 678) (by decide +kernel)⟩
theorem lw_p12 : lw_okq (⟨"LowerHalf$Reader", "numberNow", "()I"⟩, 12) := ⟨⟨by decide +kernel, by decide +kernel⟩, List.mem_of_getElem? (i := 184) (by decide +kernel), List.mem_of_getElem? (i := 681) (by decide +kernel), List.mem_of_getElem? (i := 682) (by decide +kernel)⟩
theorem lw_p13 : lw_okq (⟨"LowerHalf$Reader", "addStep", "(II)V"⟩, 12) := ⟨⟨by decide +kernel, by decide +kernel⟩, List.mem_of_getElem? (i := 184) (by decide +kernel), List.mem_of_getElem? (i := 685) (by decide +kernel), List.mem_of_getElem? (i := 686) (by decide +kernel)⟩
theorem lw_p14 : lw_okq (⟨"LowerHalf$Reader", "takeNumber", "(II)Z"⟩, 12) := ⟨⟨by decide +kernel, by decide +kernel⟩, List.mem_of_getElem? (i := 184) (by decide +kernel), List.mem_of_getElem? (i := 689) (by decide +kernel), List.mem_of_getElem? (i := 690) (by decide +kernel)⟩
theorem lw_p15 : lw_okq (⟨"LowerHalf$Reader", "readTest", "(II)Z"⟩, 12) := ⟨⟨by decide +kernel, by decide +kernel⟩, List.mem_of_getElem? (i := 184) (by decide +kernel), List.mem_of_getElem? (i := 711) (by decide +kernel), List.mem_of_getElem? (i := 712) (by decide +kernel)⟩
def lw_privs_1 : List (MethodName × Nat) := [(⟨"LowerHalf", "refuse", "(I)I"⟩, 19), (⟨"LowerHalf", "grant", "(I)I"⟩, 19), (⟨"LowerHalf", "linkedByRow", "(III)Z"⟩, 19), (⟨"LowerHalf$Reader", "cutIntoTokens", "(LLowerHalf$Tape;I)V"⟩, 12), (⟨"LowerHalf$Reader", "addToken", "(III)V"⟩, 12), (⟨"LowerHalf$Reader", "readClause", "()Z"⟩, 12), (⟨"LowerHalf$Reader", "kind", "()I"⟩, 12), (⟨"LowerHalf$Reader", "beginsClause", "(I)Z"⟩, 12), (⟨"LowerHalf$Reader", "fail", "()Z"⟩, 12), (⟨"LowerHalf$Reader", "readSum", "(II)Z"⟩, 12), (⟨"LowerHalf$Reader", "readPart", "(I)Z"⟩, 12), (⟨"LowerHalf$Reader", "take", "(I)Z"⟩, 12), (⟨"LowerHalf$Reader", "numberNow", "()I"⟩, 12), (⟨"LowerHalf$Reader", "addStep", "(II)V"⟩, 12), (⟨"LowerHalf$Reader", "takeNumber", "(II)Z"⟩, 12), (⟨"LowerHalf$Reader", "readTest", "(II)Z"⟩, 12)]
theorem lw_r1 : ∀ q ∈ lw_privs_1, lw_okq q := List.forall_mem_cons.mpr ⟨lw_p0, List.forall_mem_cons.mpr ⟨lw_p1, List.forall_mem_cons.mpr ⟨lw_p2, List.forall_mem_cons.mpr ⟨lw_p3, List.forall_mem_cons.mpr ⟨lw_p4, List.forall_mem_cons.mpr ⟨lw_p5, List.forall_mem_cons.mpr ⟨lw_p6, List.forall_mem_cons.mpr ⟨lw_p7, List.forall_mem_cons.mpr ⟨lw_p8, List.forall_mem_cons.mpr ⟨lw_p9, List.forall_mem_cons.mpr ⟨lw_p10, List.forall_mem_cons.mpr ⟨lw_p11, List.forall_mem_cons.mpr ⟨lw_p12, List.forall_mem_cons.mpr ⟨lw_p13, List.forall_mem_cons.mpr ⟨lw_p14, List.forall_mem_cons.mpr ⟨lw_p15, fun _ h => absurd h List.not_mem_nil⟩⟩⟩⟩⟩⟩⟩⟩⟩⟩⟩⟩⟩⟩⟩⟩
theorem lw_p16 : lw_okq (⟨"LowerHalf$Reader", "readPlain", "(I)Z"⟩, 12) := ⟨⟨by decide +kernel, by decide +kernel⟩, List.mem_of_getElem? (i := 184) (by decide +kernel), List.mem_of_getElem? (i := 715) (by decide +kernel), List.mem_of_getElem? (i := 716) (by decide +kernel)⟩
theorem lw_p17 : lw_okq (⟨"LowerHalf$Reader", "skipTillHere", "(I)V"⟩, 12) := ⟨⟨by decide +kernel, by decide +kernel⟩, List.mem_of_getElem? (i := 184) (by decide +kernel), List.mem_of_getElem? (i := 722) (by decide +kernel), List.mem_of_getElem? (i := 723) (by decide +kernel)⟩
theorem lw_p18 : lw_okq (⟨"LowerHalf", "runOnce", "(LLowerHalf$Text;I)Z"⟩, 19) := ⟨⟨by decide +kernel, by decide +kernel⟩, List.mem_of_getElem? (i := 20) (by decide +kernel), List.mem_of_getElem? (i := 782) (by decide +kernel), List.mem_of_getElem? (i := 783) (by decide +kernel)⟩
theorem lw_p19 : lw_okq (⟨"LowerHalf", "tellOrderWords", "()V"⟩, 19) := ⟨⟨by decide +kernel, by decide +kernel⟩, List.mem_of_getElem? (i := 20) (by decide +kernel), List.mem_of_getElem? (i := 786) (by decide +kernel), List.mem_of_getElem? (i := 787) (by decide +kernel)⟩
theorem lw_p20 : lw_okq (⟨"LowerHalf", "tryStride", "(II)I"⟩, 19) := ⟨⟨by decide +kernel, by decide +kernel⟩, List.mem_of_getElem? (i := 20) (by decide +kernel), List.mem_of_getElem? (i := 792) (by decide +kernel), List.mem_of_getElem? (i := 793) (by decide +kernel)⟩
theorem lw_p21 : lw_okq (⟨"LowerHalf", "tryPut", "(II)I"⟩, 19) := ⟨⟨by decide +kernel, by decide +kernel⟩, List.mem_of_getElem? (i := 20) (by decide +kernel), List.mem_of_getElem? (i := 801) (by decide +kernel), List.mem_of_getElem? (i := 802) (by decide +kernel)⟩
theorem lw_p22 : lw_okq (⟨"LowerHalf", "tryDoor", "(II)I"⟩, 19) := ⟨⟨by decide +kernel, by decide +kernel⟩, List.mem_of_getElem? (i := 20) (by decide +kernel), List.mem_of_getElem? (i := 805) (by decide +kernel), List.mem_of_getElem? (i := 806) (by decide +kernel)⟩
theorem lw_p23 : lw_okq (⟨"LowerHalf", "tryPass", "()I"⟩, 19) := ⟨⟨by decide +kernel, by decide +kernel⟩, List.mem_of_getElem? (i := 20) (by decide +kernel), List.mem_of_getElem? (i := 814) (by decide +kernel), List.mem_of_getElem? (i := 815) (by decide +kernel)⟩
theorem lw_p24 : lw_okq (⟨"LowerHalf", "settle", "(I)I"⟩, 19) := ⟨⟨by decide +kernel, by decide +kernel⟩, List.mem_of_getElem? (i := 20) (by decide +kernel), List.mem_of_getElem? (i := 842) (by decide +kernel), List.mem_of_getElem? (i := 843) (by decide +kernel)⟩
theorem lw_p25 : lw_okq (⟨"LowerHalf$Paper", "onward", "(I)I"⟩, 7) := ⟨⟨by decide +kernel, by decide +kernel⟩, List.mem_of_getElem? (i := 244) (by decide +kernel), List.mem_of_getElem? (i := 887) (by decide +kernel), List.mem_of_getElem? (i := 888) (by decide +kernel)⟩
theorem lw_p26 : lw_okq (⟨"LowerHalf$Paper", "keepThoseThatComeTo", "(II)V"⟩, 7) := ⟨⟨by decide +kernel, by decide +kernel⟩, List.mem_of_getElem? (i := 244) (by decide +kernel), List.mem_of_getElem? (i := 900) (by decide +kernel), List.mem_of_getElem? (i := 901) (by decide +kernel)⟩
theorem lw_p27 : lw_okq (⟨"LowerHalf$Paper", "drawWay", "(II)V"⟩, 7) := ⟨⟨by decide +kernel, by decide +kernel⟩, List.mem_of_getElem? (i := 244) (by decide +kernel), List.mem_of_getElem? (i := 904) (by decide +kernel), List.mem_of_getElem? (i := 905) (by decide +kernel)⟩
theorem lw_p28 : lw_okq (⟨"LowerHalf", "countFurther", "(I)I"⟩, 19) := ⟨⟨by decide +kernel, by decide +kernel⟩, List.mem_of_getElem? (i := 20) (by decide +kernel), List.mem_of_getElem? (i := 1054) (by decide +kernel), List.mem_of_getElem? (i := 1055) (by decide +kernel)⟩
theorem lw_p29 : lw_okq (⟨"LowerHalfModel", "tell", "(I)I"⟩, 58) := ⟨⟨by decide +kernel, by decide +kernel⟩, List.mem_of_getElem? (i := 1062) (by decide +kernel), List.mem_of_getElem? (i := 1270) (by decide +kernel), List.mem_of_getElem? (i := 1271) (by decide +kernel)⟩
theorem lw_p30 : lw_okq (⟨"LowerHalfModel", "putBack", "(I)V"⟩, 58) := ⟨⟨by decide +kernel, by decide +kernel⟩, List.mem_of_getElem? (i := 1062) (by decide +kernel), List.mem_of_getElem? (i := 1274) (by decide +kernel), List.mem_of_getElem? (i := 1275) (by decide +kernel)⟩
theorem lw_p31 : lw_okq (⟨"LowerHalfModel", "lasting", "(I)I"⟩, 58) := ⟨⟨by decide +kernel, by decide +kernel⟩, List.mem_of_getElem? (i := 1062) (by decide +kernel), List.mem_of_getElem? (i := 1289) (by decide +kernel), List.mem_of_getElem? (i := 1290) (by decide +kernel)⟩
def lw_privs_2 : List (MethodName × Nat) := [(⟨"LowerHalf$Reader", "readPlain", "(I)Z"⟩, 12), (⟨"LowerHalf$Reader", "skipTillHere", "(I)V"⟩, 12), (⟨"LowerHalf", "runOnce", "(LLowerHalf$Text;I)Z"⟩, 19), (⟨"LowerHalf", "tellOrderWords", "()V"⟩, 19), (⟨"LowerHalf", "tryStride", "(II)I"⟩, 19), (⟨"LowerHalf", "tryPut", "(II)I"⟩, 19), (⟨"LowerHalf", "tryDoor", "(II)I"⟩, 19), (⟨"LowerHalf", "tryPass", "()I"⟩, 19), (⟨"LowerHalf", "settle", "(I)I"⟩, 19), (⟨"LowerHalf$Paper", "onward", "(I)I"⟩, 7), (⟨"LowerHalf$Paper", "keepThoseThatComeTo", "(II)V"⟩, 7), (⟨"LowerHalf$Paper", "drawWay", "(II)V"⟩, 7), (⟨"LowerHalf", "countFurther", "(I)I"⟩, 19), (⟨"LowerHalfModel", "tell", "(I)I"⟩, 58), (⟨"LowerHalfModel", "putBack", "(I)V"⟩, 58), (⟨"LowerHalfModel", "lasting", "(I)I"⟩, 58)]
theorem lw_r2 : ∀ q ∈ lw_privs_2, lw_okq q := List.forall_mem_cons.mpr ⟨lw_p16, List.forall_mem_cons.mpr ⟨lw_p17, List.forall_mem_cons.mpr ⟨lw_p18, List.forall_mem_cons.mpr ⟨lw_p19, List.forall_mem_cons.mpr ⟨lw_p20, List.forall_mem_cons.mpr ⟨lw_p21, List.forall_mem_cons.mpr ⟨lw_p22, List.forall_mem_cons.mpr ⟨lw_p23, List.forall_mem_cons.mpr ⟨lw_p24, List.forall_mem_cons.mpr ⟨lw_p25, List.forall_mem_cons.mpr ⟨lw_p26, List.forall_mem_cons.mpr ⟨lw_p27, List.forall_mem_cons.mpr ⟨lw_p28, List.forall_mem_cons.mpr ⟨lw_p29, List.forall_mem_cons.mpr ⟨lw_p30, List.forall_mem_cons.mpr ⟨lw_p31, fun _ h => absurd h List.not_mem_nil⟩⟩⟩⟩⟩⟩⟩⟩⟩⟩⟩⟩⟩⟩⟩⟩
theorem lw_p32 : lw_okq (⟨"LowerHalfModel", "isPerch", "(I)Z"⟩, 58) := ⟨⟨by decide +kernel, by decide +kernel⟩, List.mem_of_getElem? (i := 1062) (by decide +kernel), List.mem_of_getElem? (i := 1306) (by decide +kernel), List.mem_of_getElem? (i := 1307) (by decide +kernel)⟩
theorem lw_p33 : lw_okq (⟨"LowerHalfModel", "isSafe", "(I)Z"⟩, 58) := ⟨⟨by decide +kernel, by decide +kernel⟩, List.mem_of_getElem? (i := 1062) (by decide +kernel), List.mem_of_getElem? (i := 1310) (by decide +kernel), List.mem_of_getElem? (i := 1311) (by decide +kernel)⟩
theorem lw_p34 : lw_okq (⟨"LowerHalfModel", "theirsIn", "(I)I"⟩, 58) := ⟨⟨by decide +kernel, by decide +kernel⟩, List.mem_of_getElem? (i := 1062) (by decide +kernel), List.mem_of_getElem? (i := 1314) (by decide +kernel), List.mem_of_getElem? (i := 1315) (by decide +kernel)⟩
theorem lw_p35 : lw_okq (⟨"LowerHalfModel", "tells", "(IIIIIJ)J"⟩, 58) := ⟨⟨by decide +kernel, by decide +kernel⟩, List.mem_of_getElem? (i := 1062) (by decide +kernel), List.mem_of_getElem? (i := 1319) (by decide +kernel), List.mem_of_getElem? (i := 1320) (by decide +kernel)⟩
theorem lw_p36 : lw_okq (⟨"LowerHalfModel", "isSo", "(I)Z"⟩, 58) := ⟨⟨by decide +kernel, by decide +kernel⟩, List.mem_of_getElem? (i := 1062) (by decide +kernel), List.mem_of_getElem? (i := 1324) (by decide +kernel), List.mem_of_getElem? (i := 1325) (by decide +kernel)⟩
theorem lw_p37 : lw_okq (⟨"LowerHalfModel", "reckonAll", "(II)V"⟩, 58) := ⟨⟨by decide +kernel, by decide +kernel⟩, List.mem_of_getElem? (i := 1062) (by decide +kernel), List.mem_of_getElem? (i := 1328) (by decide +kernel), List.mem_of_getElem? (i := 1329) (by decide +kernel)⟩
theorem lw_p38 : lw_okq (⟨"LowerHalfModel", "isFolk", "(I)Z"⟩, 58) := ⟨⟨by decide +kernel, by decide +kernel⟩, List.mem_of_getElem? (i := 1062) (by decide +kernel), List.mem_of_getElem? (i := 1332) (by decide +kernel), List.mem_of_getElem? (i := 1333) (by decide +kernel)⟩
theorem lw_p39 : lw_okq (⟨"LowerHalfModel", "isBadger", "(I)Z"⟩, 58) := ⟨⟨by decide +kernel, by decide +kernel⟩, List.mem_of_getElem? (i := 1062) (by decide +kernel), List.mem_of_getElem? (i := 1336) (by decide +kernel), List.mem_of_getElem? (i := 1337) (by decide +kernel)⟩
theorem lw_p40 : lw_okq (⟨"LowerHalfModel", "isThing", "(I)Z"⟩, 58) := ⟨⟨by decide +kernel, by decide +kernel⟩, List.mem_of_getElem? (i := 1062) (by decide +kernel), List.mem_of_getElem? (i := 1340) (by decide +kernel), List.mem_of_getElem? (i := 1341) (by decide +kernel)⟩
theorem lw_p41 : lw_okq (⟨"LowerHalfModel", "reckon", "(IJJ)J"⟩, 58) := ⟨⟨by decide +kernel, by decide +kernel⟩, List.mem_of_getElem? (i := 1062) (by decide +kernel), List.mem_of_getElem? (i := 1344) (by decide +kernel), List.mem_of_getElem? (i := 1345) (by decide +kernel)⟩
theorem lw_p42 : lw_okq (⟨"LowerHalfModel", "longOf", "(II)I"⟩, 58) := ⟨⟨by decide +kernel, by decide +kernel⟩, List.mem_of_getElem? (i := 1062) (by decide +kernel), List.mem_of_getElem? (i := 1354) (by decide +kernel), List.mem_of_getElem? (i := 1355) (by decide +kernel)⟩
theorem lw_p43 : lw_okq (⟨"LowerHalfModel", "goesTo", "(I)I"⟩, 58) := ⟨⟨by decide +kernel, by decide +kernel⟩, List.mem_of_getElem? (i := 1062) (by decide +kernel), List.mem_of_getElem? (i := 1374) (by decide +kernel), List.mem_of_getElem? (i := 1375) (by decide +kernel)⟩
theorem lw_p44 : lw_okq (⟨"LowerHalfModel", "setLink", "(III)V"⟩, 58) := ⟨⟨by decide +kernel, by decide +kernel⟩, List.mem_of_getElem? (i := 1062) (by decide +kernel), List.mem_of_getElem? (i := 1393) (by decide +kernel), List.mem_of_getElem? (i := 1394) (by decide +kernel)⟩
theorem lw_p45 : lw_okq (⟨"LowerHalfModel", "badgersIn", "(I)I"⟩, 58) := ⟨⟨by decide +kernel, by decide +kernel⟩, List.mem_of_getElem? (i := 1062) (by decide +kernel), List.mem_of_getElem? (i := 1401) (by decide +kernel), List.mem_of_getElem? (i := 1402) (by decide +kernel)⟩
theorem lw_p46 : lw_okq (⟨"LowerHalfModel", "canStride", "(III)Z"⟩, 58) := ⟨⟨by decide +kernel, by decide +kernel⟩, List.mem_of_getElem? (i := 1062) (by decide +kernel), List.mem_of_getElem? (i := 1409) (by decide +kernel), List.mem_of_getElem? (i := 1410) (by decide +kernel)⟩
theorem lw_p47 : lw_okq (⟨"LowerHalfModel", "change", "(II)I"⟩, 58) := ⟨⟨by decide +kernel, by decide +kernel⟩, List.mem_of_getElem? (i := 1062) (by decide +kernel), List.mem_of_getElem? (i := 1419) (by decide +kernel), List.mem_of_getElem? (i := 1420) (by decide +kernel)⟩
def lw_privs_3 : List (MethodName × Nat) := [(⟨"LowerHalfModel", "isPerch", "(I)Z"⟩, 58), (⟨"LowerHalfModel", "isSafe", "(I)Z"⟩, 58), (⟨"LowerHalfModel", "theirsIn", "(I)I"⟩, 58), (⟨"LowerHalfModel", "tells", "(IIIIIJ)J"⟩, 58), (⟨"LowerHalfModel", "isSo", "(I)Z"⟩, 58), (⟨"LowerHalfModel", "reckonAll", "(II)V"⟩, 58), (⟨"LowerHalfModel", "isFolk", "(I)Z"⟩, 58), (⟨"LowerHalfModel", "isBadger", "(I)Z"⟩, 58), (⟨"LowerHalfModel", "isThing", "(I)Z"⟩, 58), (⟨"LowerHalfModel", "reckon", "(IJJ)J"⟩, 58), (⟨"LowerHalfModel", "longOf", "(II)I"⟩, 58), (⟨"LowerHalfModel", "goesTo", "(I)I"⟩, 58), (⟨"LowerHalfModel", "setLink", "(III)V"⟩, 58), (⟨"LowerHalfModel", "badgersIn", "(I)I"⟩, 58), (⟨"LowerHalfModel", "canStride", "(III)Z"⟩, 58), (⟨"LowerHalfModel", "change", "(II)I"⟩, 58)]
theorem lw_r3 : ∀ q ∈ lw_privs_3, lw_okq q := List.forall_mem_cons.mpr ⟨lw_p32, List.forall_mem_cons.mpr ⟨lw_p33, List.forall_mem_cons.mpr ⟨lw_p34, List.forall_mem_cons.mpr ⟨lw_p35, List.forall_mem_cons.mpr ⟨lw_p36, List.forall_mem_cons.mpr ⟨lw_p37, List.forall_mem_cons.mpr ⟨lw_p38, List.forall_mem_cons.mpr ⟨lw_p39, List.forall_mem_cons.mpr ⟨lw_p40, List.forall_mem_cons.mpr ⟨lw_p41, List.forall_mem_cons.mpr ⟨lw_p42, List.forall_mem_cons.mpr ⟨lw_p43, List.forall_mem_cons.mpr ⟨lw_p44, List.forall_mem_cons.mpr ⟨lw_p45, List.forall_mem_cons.mpr ⟨lw_p46, List.forall_mem_cons.mpr ⟨lw_p47, fun _ h => absurd h List.not_mem_nil⟩⟩⟩⟩⟩⟩⟩⟩⟩⟩⟩⟩⟩⟩⟩⟩
theorem lw_p48 : lw_okq (⟨"LowerHalfModel", "four", "(I)V"⟩, 58) := ⟨⟨by decide +kernel, by decide +kernel⟩, List.mem_of_getElem? (i := 1062) (by decide +kernel), List.mem_of_getElem? (i := 1435) (by decide +kernel), List.mem_of_getElem? (i := 1436) (by decide +kernel)⟩
theorem lw_p49 : lw_okq (⟨"LowerHalfModel", "beginText", "(Z)V"⟩, 58) := ⟨⟨by decide +kernel, by decide +kernel⟩, List.mem_of_getElem? (i := 1062) (by decide +kernel), List.mem_of_getElem? (i := 1451) (by decide +kernel), List.mem_of_getElem? (i := 1452) (by decide +kernel)⟩
theorem lw_p50 : lw_okq (⟨"LowerHalfModel", "begin", "()V"⟩, 58) := ⟨⟨by decide +kernel, by decide +kernel⟩, List.mem_of_getElem? (i := 1062) (by decide +kernel), List.mem_of_getElem? (i := 1455) (by decide +kernel), List.mem_of_getElem? (i := 1456) (by decide +kernel)⟩
theorem lw_p51 : lw_okq (⟨"LowerHalfModel", "next", "()V"⟩, 58) := ⟨⟨by decide +kernel, by decide +kernel⟩, List.mem_of_getElem? (i := 1062) (by decide +kernel), List.mem_of_getElem? (i := 1459) (by decide +kernel), List.mem_of_getElem? (i := 1460) (by decide +kernel)⟩
theorem lw_p52 : lw_okq (⟨"LowerHalfModel", "readLaw", "()V"⟩, 58) := ⟨⟨by decide +kernel, by decide +kernel⟩, List.mem_of_getElem? (i := 1062) (by decide +kernel), List.mem_of_getElem? (i := 1473) (by decide +kernel), List.mem_of_getElem? (i := 1474) (by decide +kernel)⟩
theorem lw_p53 : lw_okq (⟨"LowerHalfModel", "isWord", "(J)Z"⟩, 58) := ⟨⟨by decide +kernel, by decide +kernel⟩, List.mem_of_getElem? (i := 1062) (by decide +kernel), List.mem_of_getElem? (i := 1477) (by decide +kernel), List.mem_of_getElem? (i := 1478) (by decide +kernel)⟩
theorem lw_p54 : lw_okq (⟨"LowerHalfModel", "must", "(Z)V"⟩, 58) := ⟨⟨by decide +kernel, by decide +kernel⟩, List.mem_of_getElem? (i := 1062) (by decide +kernel), List.mem_of_getElem? (i := 1481) (by decide +kernel), List.mem_of_getElem? (i := 1482) (by decide +kernel)⟩
theorem lw_p55 : lw_okq (⟨"LowerHalfModel", "readExpression", "(Z)V"⟩, 58) := ⟨⟨by decide +kernel, by decide +kernel⟩, List.mem_of_getElem? (i := 1062) (by decide +kernel), List.mem_of_getElem? (i := 1485) (by decide +kernel), List.mem_of_getElem? (i := 1486) (by decide +kernel)⟩
theorem lw_p56 : lw_okq (⟨"LowerHalfModel", "readPlain", "()I"⟩, 58) := ⟨⟨by decide +kernel, by decide +kernel⟩, List.mem_of_getElem? (i := 1062) (by decide +kernel), List.mem_of_getElem? (i := 1489) (by decide +kernel), List.mem_of_getElem? (i := 1490) (by decide +kernel)⟩
theorem lw_p57 : lw_okq (⟨"LowerHalfModel", "push", "(II)V"⟩, 58) := ⟨⟨by decide +kernel, by decide +kernel⟩, List.mem_of_getElem? (i := 1062) (by decide +kernel), List.mem_of_getElem? (i := 1494) (by decide +kernel), List.mem_of_getElem? (i := 1495) (by decide +kernel)⟩
theorem lw_p58 : lw_okq (⟨"LowerHalfModel", "isSign", "(I)Z"⟩, 58) := ⟨⟨by decide +kernel, by decide +kernel⟩, List.mem_of_getElem? (i := 1062) (by decide +kernel), List.mem_of_getElem? (i := 1498) (by decide +kernel), List.mem_of_getElem? (i := 1499) (by decide +kernel)⟩
theorem lw_p59 : lw_okq (⟨"LowerHalfModel", "openBracket", "(I)V"⟩, 58) := ⟨⟨by decide +kernel, by decide +kernel⟩, List.mem_of_getElem? (i := 1062) (by decide +kernel), List.mem_of_getElem? (i := 1502) (by decide +kernel), List.mem_of_getElem? (i := 1503) (by decide +kernel)⟩
theorem lw_p60 : lw_okq (⟨"LowerHalfModel", "readPart", "()I"⟩, 58) := ⟨⟨by decide +kernel, by decide +kernel⟩, List.mem_of_getElem? (i := 1062) (by decide +kernel), List.mem_of_getElem? (i := 1506) (by decide +kernel), List.mem_of_getElem? (i := 1507) (by decide +kernel)⟩
theorem lw_p61 : lw_okq (⟨"LowerHalfModel", "orderPartAt", "()I"⟩, 58) := ⟨⟨by decide +kernel, by decide +kernel⟩, List.mem_of_getElem? (i := 1062) (by decide +kernel), List.mem_of_getElem? (i := 1510) (by decide +kernel), List.mem_of_getElem? (i := 1511) (by decide +kernel)⟩
theorem lw_p62 : lw_okq (⟨"LowerHalfModel", "partAt", "()I"⟩, 58) := ⟨⟨by decide +kernel, by decide +kernel⟩, List.mem_of_getElem? (i := 1062) (by decide +kernel), List.mem_of_getElem? (i := 1514) (by decide +kernel), List.mem_of_getElem? (i := 1515) (by decide +kernel)⟩
theorem lw_p63 : lw_okq (⟨"LowerHalfModel", "leaf", "(ZII)V"⟩, 58) := ⟨⟨by decide +kernel, by decide +kernel⟩, List.mem_of_getElem? (i := 1062) (by decide +kernel), List.mem_of_getElem? (i := 1519) (by decide +kernel), List.mem_of_getElem? (i := 1520) (by decide +kernel)⟩
def lw_privs_4 : List (MethodName × Nat) := [(⟨"LowerHalfModel", "four", "(I)V"⟩, 58), (⟨"LowerHalfModel", "beginText", "(Z)V"⟩, 58), (⟨"LowerHalfModel", "begin", "()V"⟩, 58), (⟨"LowerHalfModel", "next", "()V"⟩, 58), (⟨"LowerHalfModel", "readLaw", "()V"⟩, 58), (⟨"LowerHalfModel", "isWord", "(J)Z"⟩, 58), (⟨"LowerHalfModel", "must", "(Z)V"⟩, 58), (⟨"LowerHalfModel", "readExpression", "(Z)V"⟩, 58), (⟨"LowerHalfModel", "readPlain", "()I"⟩, 58), (⟨"LowerHalfModel", "push", "(II)V"⟩, 58), (⟨"LowerHalfModel", "isSign", "(I)Z"⟩, 58), (⟨"LowerHalfModel", "openBracket", "(I)V"⟩, 58), (⟨"LowerHalfModel", "readPart", "()I"⟩, 58), (⟨"LowerHalfModel", "orderPartAt", "()I"⟩, 58), (⟨"LowerHalfModel", "partAt", "()I"⟩, 58), (⟨"LowerHalfModel", "leaf", "(ZII)V"⟩, 58)]
theorem lw_r4 : ∀ q ∈ lw_privs_4, lw_okq q := List.forall_mem_cons.mpr ⟨lw_p48, List.forall_mem_cons.mpr ⟨lw_p49, List.forall_mem_cons.mpr ⟨lw_p50, List.forall_mem_cons.mpr ⟨lw_p51, List.forall_mem_cons.mpr ⟨lw_p52, List.forall_mem_cons.mpr ⟨lw_p53, List.forall_mem_cons.mpr ⟨lw_p54, List.forall_mem_cons.mpr ⟨lw_p55, List.forall_mem_cons.mpr ⟨lw_p56, List.forall_mem_cons.mpr ⟨lw_p57, List.forall_mem_cons.mpr ⟨lw_p58, List.forall_mem_cons.mpr ⟨lw_p59, List.forall_mem_cons.mpr ⟨lw_p60, List.forall_mem_cons.mpr ⟨lw_p61, List.forall_mem_cons.mpr ⟨lw_p62, List.forall_mem_cons.mpr ⟨lw_p63, fun _ h => absurd h List.not_mem_nil⟩⟩⟩⟩⟩⟩⟩⟩⟩⟩⟩⟩⟩⟩⟩⟩
theorem lw_p64 : lw_okq (⟨"LowerHalfModel", "emit", "(II)V"⟩, 58) := ⟨⟨by decide +kernel, by decide +kernel⟩, List.mem_of_getElem? (i := 1062) (by decide +kernel), List.mem_of_getElem? (i := 1523) (by decide +kernel), List.mem_of_getElem? (i := 1524) (by decide +kernel)⟩
theorem lw_p65 : lw_okq (⟨"LowerHalfModel", "number", "(JJ)I"⟩, 58) := ⟨⟨by decide +kernel, by decide +kernel⟩, List.mem_of_getElem? (i := 1062) (by decide +kernel), List.mem_of_getElem? (i := 1527) (by decide +kernel), List.mem_of_getElem? (i := 1528) (by decide +kernel)⟩
theorem lw_p66 : lw_okq (⟨"LowerHalfModel", "behindSum", "(Z)I"⟩, 58) := ⟨⟨by decide +kernel, by decide +kernel⟩, List.mem_of_getElem? (i := 1062) (by decide +kernel), List.mem_of_getElem? (i := 1531) (by decide +kernel), List.mem_of_getElem? (i := 1532) (by decide +kernel)⟩
theorem lw_p67 : lw_okq (⟨"LowerHalfModel", "settle", "(I)V"⟩, 58) := ⟨⟨by decide +kernel, by decide +kernel⟩, List.mem_of_getElem? (i := 1062) (by decide +kernel), List.mem_of_getElem? (i := 1538) (by decide +kernel), List.mem_of_getElem? (i := 1539) (by decide +kernel)⟩
theorem lw_p68 : lw_okq (⟨"LowerHalfModel", "inner", "()I"⟩, 58) := ⟨⟨by decide +kernel, by decide +kernel⟩, List.mem_of_getElem? (i := 1062) (by decide +kernel), List.mem_of_getElem? (i := 1542) (by decide +kernel), List.mem_of_getElem? (i := 1543) (by decide +kernel)⟩
theorem lw_p69 : lw_okq (⟨"LowerHalfModel", "isCompared", "()Z"⟩, 58) := ⟨⟨by decide +kernel, by decide +kernel⟩, List.mem_of_getElem? (i := 1062) (by decide +kernel), List.mem_of_getElem? (i := 1546) (by decide +kernel), List.mem_of_getElem? (i := 1547) (by decide +kernel)⟩
theorem lw_p70 : lw_okq (⟨"LowerHalfModel", "behindTest", "()I"⟩, 58) := ⟨⟨by decide +kernel, by decide +kernel⟩, List.mem_of_getElem? (i := 1062) (by decide +kernel), List.mem_of_getElem? (i := 1554) (by decide +kernel), List.mem_of_getElem? (i := 1555) (by decide +kernel)⟩
theorem lw_p71 : lw_okq (⟨"LowerHalfModel", "endText", "()V"⟩, 58) := ⟨⟨by decide +kernel, by decide +kernel⟩, List.mem_of_getElem? (i := 1062) (by decide +kernel), List.mem_of_getElem? (i := 1561) (by decide +kernel), List.mem_of_getElem? (i := 1562) (by decide +kernel)⟩
theorem lw_p72 : lw_okq (⟨"LowerHalfModel", "isLaw", "(I)Z"⟩, 58) := ⟨⟨by decide +kernel, by decide +kernel⟩, List.mem_of_getElem? (i := 1062) (by decide +kernel), List.mem_of_getElem? (i := 1569) (by decide +kernel), List.mem_of_getElem? (i := 1570) (by decide +kernel)⟩
theorem lw_p73 : lw_okq (⟨"LowerHalfModel", "strideNow", "(II)I"⟩, 58) := ⟨⟨by decide +kernel, by decide +kernel⟩, List.mem_of_getElem? (i := 1062) (by decide +kernel), List.mem_of_getElem? (i := 1577) (by decide +kernel), List.mem_of_getElem? (i := 1578) (by decide +kernel)⟩
theorem lw_p74 : lw_okq (⟨"LowerHalfModel", "remember", "(I)V"⟩, 58) := ⟨⟨by decide +kernel, by decide +kernel⟩, List.mem_of_getElem? (i := 1062) (by decide +kernel), List.mem_of_getElem? (i := 1581) (by decide +kernel), List.mem_of_getElem? (i := 1582) (by decide +kernel)⟩
theorem lw_p75 : lw_okq (⟨"LowerHalfModel", "keepAll", "(I)V"⟩, 58) := ⟨⟨by decide +kernel, by decide +kernel⟩, List.mem_of_getElem? (i := 1062) (by decide +kernel), List.mem_of_getElem? (i := 1585) (by decide +kernel), List.mem_of_getElem? (i := 1586) (by decide +kernel)⟩
theorem lw_p76 : lw_okq (⟨"LowerHalfModel", "putNow", "(II)I"⟩, 58) := ⟨⟨by decide +kernel, by decide +kernel⟩, List.mem_of_getElem? (i := 1062) (by decide +kernel), List.mem_of_getElem? (i := 1593) (by decide +kernel), List.mem_of_getElem? (i := 1594) (by decide +kernel)⟩
theorem lw_p77 : lw_okq (⟨"LowerHalfModel", "doorNow", "(II)I"⟩, 58) := ⟨⟨by decide +kernel, by decide +kernel⟩, List.mem_of_getElem? (i := 1062) (by decide +kernel), List.mem_of_getElem? (i := 1601) (by decide +kernel), List.mem_of_getElem? (i := 1602) (by decide +kernel)⟩
theorem lw_p78 : lw_okq (⟨"LowerHalfModel", "passNow", "()I"⟩, 58) := ⟨⟨by decide +kernel, by decide +kernel⟩, List.mem_of_getElem? (i := 1062) (by decide +kernel), List.mem_of_getElem? (i := 1609) (by decide +kernel), List.mem_of_getElem? (i := 1610) (by decide +kernel)⟩
theorem lw_p79 : lw_okq (⟨"LowerHalfModel", "passIt", "()I"⟩, 58) := ⟨⟨by decide +kernel, by decide +kernel⟩, List.mem_of_getElem? (i := 1062) (by decide +kernel), List.mem_of_getElem? (i := 1613) (by decide +kernel), List.mem_of_getElem? (i := 1614) (by decide +kernel)⟩
def lw_privs_5 : List (MethodName × Nat) := [(⟨"LowerHalfModel", "emit", "(II)V"⟩, 58), (⟨"LowerHalfModel", "number", "(JJ)I"⟩, 58), (⟨"LowerHalfModel", "behindSum", "(Z)I"⟩, 58), (⟨"LowerHalfModel", "settle", "(I)V"⟩, 58), (⟨"LowerHalfModel", "inner", "()I"⟩, 58), (⟨"LowerHalfModel", "isCompared", "()Z"⟩, 58), (⟨"LowerHalfModel", "behindTest", "()I"⟩, 58), (⟨"LowerHalfModel", "endText", "()V"⟩, 58), (⟨"LowerHalfModel", "isLaw", "(I)Z"⟩, 58), (⟨"LowerHalfModel", "strideNow", "(II)I"⟩, 58), (⟨"LowerHalfModel", "remember", "(I)V"⟩, 58), (⟨"LowerHalfModel", "keepAll", "(I)V"⟩, 58), (⟨"LowerHalfModel", "putNow", "(II)I"⟩, 58), (⟨"LowerHalfModel", "doorNow", "(II)I"⟩, 58), (⟨"LowerHalfModel", "passNow", "()I"⟩, 58), (⟨"LowerHalfModel", "passIt", "()I"⟩, 58)]
theorem lw_r5 : ∀ q ∈ lw_privs_5, lw_okq q := List.forall_mem_cons.mpr ⟨lw_p64, List.forall_mem_cons.mpr ⟨lw_p65, List.forall_mem_cons.mpr ⟨lw_p66, List.forall_mem_cons.mpr ⟨lw_p67, List.forall_mem_cons.mpr ⟨lw_p68, List.forall_mem_cons.mpr ⟨lw_p69, List.forall_mem_cons.mpr ⟨lw_p70, List.forall_mem_cons.mpr ⟨lw_p71, List.forall_mem_cons.mpr ⟨lw_p72, List.forall_mem_cons.mpr ⟨lw_p73, List.forall_mem_cons.mpr ⟨lw_p74, List.forall_mem_cons.mpr ⟨lw_p75, List.forall_mem_cons.mpr ⟨lw_p76, List.forall_mem_cons.mpr ⟨lw_p77, List.forall_mem_cons.mpr ⟨lw_p78, List.forall_mem_cons.mpr ⟨lw_p79, fun _ h => absurd h List.not_mem_nil⟩⟩⟩⟩⟩⟩⟩⟩⟩⟩⟩⟩⟩⟩⟩⟩
theorem lw_p80 : lw_okq (⟨"LowerHalfModel", "allGo", "()V"⟩, 58) := ⟨⟨by decide +kernel, by decide +kernel⟩, List.mem_of_getElem? (i := 1062) (by decide +kernel), List.mem_of_getElem? (i := 1617) (by decide +kernel), List.mem_of_getElem? (i := 1618) (by decide +kernel)⟩
theorem lw_p81 : lw_okq (⟨"LowerHalfModel", "laySoonest", "(II)I"⟩, 58) := ⟨⟨by decide +kernel, by decide +kernel⟩, List.mem_of_getElem? (i := 1062) (by decide +kernel), List.mem_of_getElem? (i := 1625) (by decide +kernel), List.mem_of_getElem? (i := 1626) (by decide +kernel)⟩
theorem lw_p82 : lw_okq (⟨"LowerHalfModel", "goesOn", "(IIIII)Z"⟩, 58) := ⟨⟨by decide +kernel, by decide +kernel⟩, List.mem_of_getElem? (i := 1062) (by decide +kernel), List.mem_of_getElem? (i := 1629) (by decide +kernel), List.mem_of_getElem? (i := 1630) (by decide +kernel)⟩
theorem lw_p83 : lw_okq (⟨"LowerHalfModel", "layComing", "(III)V"⟩, 58) := ⟨⟨by decide +kernel, by decide +kernel⟩, List.mem_of_getElem? (i := 1062) (by decide +kernel), List.mem_of_getElem? (i := 1633) (by decide +kernel), List.mem_of_getElem? (i := 1634) (by decide +kernel)⟩
theorem lw_p84 : lw_okq (⟨"LowerHalfModel", "layStrides", "(I)V"⟩, 58) := ⟨⟨by decide +kernel, by decide +kernel⟩, List.mem_of_getElem? (i := 1062) (by decide +kernel), List.mem_of_getElem? (i := 1641) (by decide +kernel), List.mem_of_getElem? (i := 1642) (by decide +kernel)⟩
theorem lw_p85 : lw_okq (⟨"LowerHalfModel", "nearBy", "(III)I"⟩, 58) := ⟨⟨by decide +kernel, by decide +kernel⟩, List.mem_of_getElem? (i := 1062) (by decide +kernel), List.mem_of_getElem? (i := 1645) (by decide +kernel), List.mem_of_getElem? (i := 1646) (by decide +kernel)⟩
theorem lw_p86 : lw_okq (⟨"LowerHalfModel", "isSafeAllDay", "(I)Z"⟩, 58) := ⟨⟨by decide +kernel, by decide +kernel⟩, List.mem_of_getElem? (i := 1062) (by decide +kernel), List.mem_of_getElem? (i := 1661) (by decide +kernel), List.mem_of_getElem? (i := 1662) (by decide +kernel)⟩
theorem lw_p87 : lw_okq (⟨"LowerHalfModel", "layLater", "()V"⟩, 58) := ⟨⟨by decide +kernel, by decide +kernel⟩, List.mem_of_getElem? (i := 1062) (by decide +kernel), List.mem_of_getElem? (i := 1698) (by decide +kernel), List.mem_of_getElem? (i := 1699) (by decide +kernel)⟩
theorem lw_p88 : lw_okq (⟨"LowerHalfModel", "thatCanBe", "()I"⟩, 58) := ⟨⟨by decide +kernel, by decide +kernel⟩, List.mem_of_getElem? (i := 1062) (by decide +kernel), List.mem_of_getElem? (i := 1702) (by decide +kernel), List.mem_of_getElem? (i := 1703) (by decide +kernel)⟩
theorem lw_p89 : lw_okq (⟨"LowerHalfModel", "mostAlike", "(II)I"⟩, 58) := ⟨⟨by decide +kernel, by decide +kernel⟩, List.mem_of_getElem? (i := 1062) (by decide +kernel), List.mem_of_getElem? (i := 1710) (by decide +kernel), List.mem_of_getElem? (i := 1711) (by decide +kernel)⟩
theorem lw_p90 : lw_okq (⟨"LowerHalfModel", "readOrder", "()V"⟩, 58) := ⟨⟨by decide +kernel, by decide +kernel⟩, List.mem_of_getElem? (i := 1062) (by decide +kernel), List.mem_of_getElem? (i := 1728) (by decide +kernel), List.mem_of_getElem? (i := 1729) (by decide +kernel)⟩
theorem lw_p91 : lw_okq (⟨"LowerHalfModel", "readSum", "(I)V"⟩, 58) := ⟨⟨by decide +kernel, by decide +kernel⟩, List.mem_of_getElem? (i := 1062) (by decide +kernel), List.mem_of_getElem? (i := 1732) (by decide +kernel), List.mem_of_getElem? (i := 1733) (by decide +kernel)⟩
theorem lw_p92 : lw_okq (⟨"LowerHalfModel", "run", "(I)I"⟩, 58) := ⟨⟨by decide +kernel, by decide +kernel⟩, List.mem_of_getElem? (i := 1062) (by decide +kernel), List.mem_of_getElem? (i := 1737) (by decide +kernel), List.mem_of_getElem? (i := 1738) (by decide +kernel)⟩
theorem lw_p93 : lw_okq (⟨"LowerHalfModel", "sumOf", "(I)I"⟩, 58) := ⟨⟨by decide +kernel, by decide +kernel⟩, List.mem_of_getElem? (i := 1062) (by decide +kernel), List.mem_of_getElem? (i := 1741) (by decide +kernel), List.mem_of_getElem? (i := 1742) (by decide +kernel)⟩
theorem lw_p94 : lw_okq (⟨"LowerHalfModel", "act", "(III)I"⟩, 58) := ⟨⟨by decide +kernel, by decide +kernel⟩, List.mem_of_getElem? (i := 1062) (by decide +kernel), List.mem_of_getElem? (i := 1745) (by decide +kernel), List.mem_of_getElem? (i := 1746) (by decide +kernel)⟩
theorem lw_p95 : lw_okq (⟨"LowerHalfModel", "giveBack", "(I)V"⟩, 58) := ⟨⟨by decide +kernel, by decide +kernel⟩, List.mem_of_getElem? (i := 1062) (by decide +kernel), List.mem_of_getElem? (i := 1749) (by decide +kernel), List.mem_of_getElem? (i := 1750) (by decide +kernel)⟩
def lw_privs_6 : List (MethodName × Nat) := [(⟨"LowerHalfModel", "allGo", "()V"⟩, 58), (⟨"LowerHalfModel", "laySoonest", "(II)I"⟩, 58), (⟨"LowerHalfModel", "goesOn", "(IIIII)Z"⟩, 58), (⟨"LowerHalfModel", "layComing", "(III)V"⟩, 58), (⟨"LowerHalfModel", "layStrides", "(I)V"⟩, 58), (⟨"LowerHalfModel", "nearBy", "(III)I"⟩, 58), (⟨"LowerHalfModel", "isSafeAllDay", "(I)Z"⟩, 58), (⟨"LowerHalfModel", "layLater", "()V"⟩, 58), (⟨"LowerHalfModel", "thatCanBe", "()I"⟩, 58), (⟨"LowerHalfModel", "mostAlike", "(II)I"⟩, 58), (⟨"LowerHalfModel", "readOrder", "()V"⟩, 58), (⟨"LowerHalfModel", "readSum", "(I)V"⟩, 58), (⟨"LowerHalfModel", "run", "(I)I"⟩, 58), (⟨"LowerHalfModel", "sumOf", "(I)I"⟩, 58), (⟨"LowerHalfModel", "act", "(III)I"⟩, 58), (⟨"LowerHalfModel", "giveBack", "(I)V"⟩, 58)]
theorem lw_r6 : ∀ q ∈ lw_privs_6, lw_okq q := List.forall_mem_cons.mpr ⟨lw_p80, List.forall_mem_cons.mpr ⟨lw_p81, List.forall_mem_cons.mpr ⟨lw_p82, List.forall_mem_cons.mpr ⟨lw_p83, List.forall_mem_cons.mpr ⟨lw_p84, List.forall_mem_cons.mpr ⟨lw_p85, List.forall_mem_cons.mpr ⟨lw_p86, List.forall_mem_cons.mpr ⟨lw_p87, List.forall_mem_cons.mpr ⟨lw_p88, List.forall_mem_cons.mpr ⟨lw_p89, List.forall_mem_cons.mpr ⟨lw_p90, List.forall_mem_cons.mpr ⟨lw_p91, List.forall_mem_cons.mpr ⟨lw_p92, List.forall_mem_cons.mpr ⟨lw_p93, List.forall_mem_cons.mpr ⟨lw_p94, List.forall_mem_cons.mpr ⟨lw_p95, fun _ h => absurd h List.not_mem_nil⟩⟩⟩⟩⟩⟩⟩⟩⟩⟩⟩⟩⟩⟩⟩⟩
theorem lw_p96 : lw_okq (⟨"LowerHalfModel", "draw", "(I)I"⟩, 58) := ⟨⟨by decide +kernel, by decide +kernel⟩, List.mem_of_getElem? (i := 1062) (by decide +kernel), List.mem_of_getElem? (i := 1761) (by decide +kernel), List.mem_of_getElem? (i := 1762) (by decide +kernel)⟩
def lw_privs_7 : List (MethodName × Nat) := [(⟨"LowerHalfModel", "draw", "(I)I"⟩, 58)]
theorem lw_r7 : ∀ q ∈ lw_privs_7, lw_okq q := List.forall_mem_cons.mpr ⟨lw_p96, fun _ h => absurd h List.not_mem_nil⟩
def lw_privs : List (MethodName × Nat) := lw_privs_1 ++ (lw_privs_2 ++ (lw_privs_3 ++ (lw_privs_4 ++ (lw_privs_5 ++ (lw_privs_6 ++ (lw_privs_7))))))
def lw_tbl : List Cond := k2_sels lw_privs ++ tables_1
theorem lw_privs_ok : ∀ q ∈ lw_privs, lw_okq q := by
  show ∀ q ∈ lw_privs_1 ++ (lw_privs_2 ++ (lw_privs_3 ++ (lw_privs_4 ++ (lw_privs_5 ++ (lw_privs_6 ++ (lw_privs_7)))))), lw_okq q
  exact List.forall_mem_append.mpr ⟨lw_r1, List.forall_mem_append.mpr ⟨lw_r2, List.forall_mem_append.mpr ⟨lw_r3, List.forall_mem_append.mpr ⟨lw_r4, List.forall_mem_append.mpr ⟨lw_r5, List.forall_mem_append.mpr ⟨lw_r6, lw_r7⟩⟩⟩⟩⟩⟩

def RX0 : String := "LowerHalf$Deeds"
def TX0 : u_T := fun k => match k with
  | 0 => ("LowerHalf$Deeds", "rows", "[I", true)
  | _ => ("LowerHalf$Deeds", "size", "I", false)
def tyX0 : Nat → FieldType := fun k => match k with
  | 0 => .array .int
  | _ => .int
abbrev wsX00 : List Cond := u_ws RX0 TX0 2
theorem nmX0 : ∀ a, a < 2 → ∀ b, b < 2 → a ≠ b → (TX0 a).2.1 ≠ (TX0 b).2.1 := by decide +kernel
theorem tyX0_ok : ∀ k, k < 2 → parseFieldDescriptor (TX0 k).2.2.1 = some (tyX0 k) := by decide +kernel
abbrev cX0_init : ByteArray := prog_2_method_1_code
def yX0_init : MethodName := ⟨RX0, "<init>", "()V"⟩
abbrev cX0_isEmpty : ByteArray := prog_2_method_2_code
def yX0_isEmpty : MethodName := ⟨RX0, "isEmpty", "()Z"⟩
abbrev cX0_clear : ByteArray := prog_2_method_3_code
def yX0_clear : MethodName := ⟨RX0, "clear", "()V"⟩
abbrev cX0_copyFrom : ByteArray := prog_2_method_4_code
def yX0_copyFrom : MethodName := ⟨RX0, "copyFrom", "(LLowerHalf$Deeds;)V"⟩
abbrev cX0_add : ByteArray := prog_2_method_5_code
def yX0_add : MethodName := ⟨RX0, "add", "(IIILLowerHalf$House;)V"⟩
abbrev cX0_takeBack : ByteArray := prog_2_method_6_code
def yX0_takeBack : MethodName := ⟨RX0, "takeBack", "(LLowerHalf$House;)I"⟩
def RX1 : String := "LowerHalf$House"
def TX1 : u_T := fun k => match k with
  | 0 => ("LowerHalf$House", "perches", "LLowerHalf$Perches;", true)
  | 1 => ("LowerHalf$House", "doors", "[I", true)
  | 2 => ("LowerHalf$House", "legs", "[I", true)
  | 3 => ("LowerHalf$House", "folkOn", "[I", true)
  | 4 => ("LowerHalf$House", "badgerIn", "[I", true)
  | 5 => ("LowerHalf$House", "thingOn", "[I", true)
  | 6 => ("LowerHalf$House", "toFolk", "[I", true)
  | 7 => ("LowerHalf$House", "toBadgers", "[I", true)
  | 8 => ("LowerHalf$House", "seenHours", "[I", true)
  | 9 => ("LowerHalf$House", "seenRooms", "[I", true)
  | 10 => ("LowerHalf$House", "terms", "[I", true)
  | 11 => ("LowerHalf$House", "laws", "[LLowerHalf$Text;", true)
  | 12 => ("LowerHalf$House", "reckoner", "LLowerHalf$Reckoner;", true)
  | 13 => ("LowerHalf$House", "folkCount", "I", false)
  | 14 => ("LowerHalf$House", "badgerCount", "I", false)
  | 15 => ("LowerHalf$House", "thingCount", "I", false)
  | 16 => ("LowerHalf$House", "seenCount", "I", false)
  | 17 => ("LowerHalf$House", "lawCount", "I", false)
  | 18 => ("LowerHalf$House", "caught", "I", false)
  | _ => ("LowerHalf$House", "inForce", "I", false)
def tyX1 : Nat → FieldType := fun k => match k with
  | 0 => .object "LowerHalf$Perches"
  | 1 => .array .int
  | 2 => .array .int
  | 3 => .array .int
  | 4 => .array .int
  | 5 => .array .int
  | 6 => .array .int
  | 7 => .array .int
  | 8 => .array .int
  | 9 => .array .int
  | 10 => .array .int
  | 11 => .array (.object "LowerHalf$Text")
  | 12 => .object "LowerHalf$Reckoner"
  | 13 => .int
  | 14 => .int
  | 15 => .int
  | 16 => .int
  | 17 => .int
  | 18 => .int
  | _ => .int
abbrev wsX10 : List Cond := u_ws RX1 TX1 20
theorem nmX1 : ∀ a, a < 20 → ∀ b, b < 20 → a ≠ b → (TX1 a).2.1 ≠ (TX1 b).2.1 := by decide +kernel
theorem tyX1_ok : ∀ k, k < 20 → parseFieldDescriptor (TX1 k).2.2.1 = some (tyX1 k) := by decide +kernel
abbrev cX1_init : ByteArray := prog_3_method_1_code
def yX1_init : MethodName := ⟨RX1, "<init>", "()V"⟩
abbrev cX1_copyFrom : ByteArray := prog_3_method_2_code
def yX1_copyFrom : MethodName := ⟨RX1, "copyFrom", "(LLowerHalf$House;)V"⟩
abbrev cX1_isFolk : ByteArray := prog_3_method_3_code
def yX1_isFolk : MethodName := ⟨RX1, "isFolk", "(I)Z"⟩
abbrev cX1_isBadger : ByteArray := prog_3_method_4_code
def yX1_isBadger : MethodName := ⟨RX1, "isBadger", "(I)Z"⟩
abbrev cX1_isThing : ByteArray := prog_3_method_5_code
def yX1_isThing : MethodName := ⟨RX1, "isThing", "(I)Z"⟩
abbrev cX1_isLaw : ByteArray := prog_3_method_6_code
def yX1_isLaw : MethodName := ⟨RX1, "isLaw", "(I)Z"⟩
abbrev cX1_isOpen : ByteArray := prog_3_method_7_code
def yX1_isOpen : MethodName := ⟨RX1, "isOpen", "(II)Z"⟩
abbrev cX1_turnDoor : ByteArray := prog_3_method_8_code
def yX1_turnDoor : MethodName := ⟨RX1, "turnDoor", "(II)V"⟩
abbrev cX1_badgersIn : ByteArray := prog_3_method_9_code
def yX1_badgersIn : MethodName := ⟨RX1, "badgersIn", "(I)I"⟩
abbrev cX1_lawInForce : ByteArray := prog_3_method_10_code
def yX1_lawInForce : MethodName := ⟨RX1, "lawInForce", "()LLowerHalf$Text;"⟩
abbrev cX1_theirsBy : ByteArray := prog_3_method_11_code
def yX1_theirsBy : MethodName := ⟨RX1, "theirsBy", "(LLowerHalf$Text;II)I"⟩
abbrev cX1_whither : ByteArray := prog_3_method_12_code
def yX1_whither : MethodName := ⟨RX1, "whither", "(III)I"⟩
abbrev cX1_isBarred : ByteArray := prog_3_method_13_code
def yX1_isBarred : MethodName := ⟨RX1, "isBarred", "(III)Z"⟩
abbrev cX1_unbarred : ByteArray := prog_3_method_14_code
def yX1_unbarred : MethodName := ⟨RX1, "unbarred", "(III)I"⟩
abbrev cX1_isSafe : ByteArray := prog_3_method_15_code
def yX1_isSafe : MethodName := ⟨RX1, "isSafe", "(II)Z"⟩
abbrev cX1_safePerches : ByteArray := prog_3_method_16_code
def yX1_safePerches : MethodName := ⟨RX1, "safePerches", "(I)I"⟩
abbrev cX1_leads : ByteArray := prog_3_method_17_code
def yX1_leads : MethodName := ⟨RX1, "leads", "(III)Z"⟩
abbrev cX1_mayStride : ByteArray := prog_3_method_18_code
def yX1_mayStride : MethodName := ⟨RX1, "mayStride", "(II)Z"⟩
abbrev cX1_passHour : ByteArray := prog_3_method_19_code
def yX1_passHour : MethodName := ⟨RX1, "passHour", "()I"⟩
abbrev cX1_lesserShare : ByteArray := prog_3_method_20_code
def yX1_lesserShare : MethodName := ⟨RX1, "lesserShare", "(I)I"⟩
def RX2 : String := "LowerHalf$Paper"
def TX2 : u_T := fun k => match k with
  | 0 => ("LowerHalf$Paper", "way", "[I", true)
  | 1 => ("LowerHalf$Paper", "tracks", "[[I", true)
  | 2 => ("LowerHalf$Paper", "steps", "[I", true)
  | 3 => ("LowerHalf$Paper", "open", "[I", true)
  | 4 => ("LowerHalf$Paper", "ahead", "[I", true)
  | 5 => ("LowerHalf$Paper", "together", "[I", true)
  | _ => ("LowerHalf$Paper", "chances", "[J", true)
def tyX2 : Nat → FieldType := fun k => match k with
  | 0 => .array .int
  | 1 => .array (.array .int)
  | 2 => .array .int
  | 3 => .array .int
  | 4 => .array .int
  | 5 => .array .int
  | _ => .array .long
abbrev wsX20 : List Cond := u_ws RX2 TX2 7
theorem nmX2 : ∀ a, a < 7 → ∀ b, b < 7 → a ≠ b → (TX2 a).2.1 ≠ (TX2 b).2.1 := by decide +kernel
theorem tyX2_ok : ∀ k, k < 7 → parseFieldDescriptor (TX2 k).2.2.1 = some (tyX2 k) := by decide +kernel
abbrev cX2_init : ByteArray := prog_4_method_1_code
def yX2_init : MethodName := ⟨RX2, "<init>", "()V"⟩
abbrev cX2_drawSteps : ByteArray := prog_4_method_2_code
def yX2_drawSteps : MethodName := ⟨RX2, "drawSteps", "(LLowerHalf$House;I)V"⟩
abbrev cX2_onward : ByteArray := prog_4_method_3_code
def yX2_onward : MethodName := ⟨RX2, "onward", "(I)I"⟩
abbrev cX2_reached : ByteArray := prog_4_method_4_code
def yX2_reached : MethodName := ⟨RX2, "reached", "(III)I"⟩
abbrev cX2_hoursTo : ByteArray := prog_4_method_5_code
def yX2_hoursTo : MethodName := ⟨RX2, "hoursTo", "(LLowerHalf$House;II)I"⟩
abbrev cX2_keepThoseThatComeTo : ByteArray := prog_4_method_6_code
def yX2_keepThoseThatComeTo : MethodName := ⟨RX2, "keepThoseThatComeTo", "(II)V"⟩
abbrev cX2_drawWay : ByteArray := prog_4_method_7_code
def yX2_drawWay : MethodName := ⟨RX2, "drawWay", "(II)V"⟩
abbrev cX2_lowestOf : ByteArray := prog_4_method_8_code
def yX2_lowestOf : MethodName := ⟨RX2, "lowestOf", "(I)I"⟩
abbrev cX2_fewestBetween : ByteArray := prog_4_method_9_code
def yX2_fewestBetween : MethodName := ⟨RX2, "fewestBetween", "(LLowerHalf$House;II)I"⟩
abbrev cX2_nearestRoost : ByteArray := prog_4_method_10_code
def yX2_nearestRoost : MethodName := ⟨RX2, "nearestRoost", "(LLowerHalf$House;I)I"⟩
abbrev cX2_drawTrack : ByteArray := prog_4_method_11_code
def yX2_drawTrack : MethodName := ⟨RX2, "drawTrack", "(LLowerHalf$House;I)V"⟩
abbrev cX2_whoCanBe : ByteArray := prog_4_method_12_code
def yX2_whoCanBe : MethodName := ⟨RX2, "whoCanBe", "(LLowerHalf$House;)I"⟩
abbrev cX2_mostTogether : ByteArray := prog_4_method_13_code
def yX2_mostTogether : MethodName := ⟨RX2, "mostTogether", "(II)I"⟩
abbrev cX2_chanceOfFew : ByteArray := prog_4_method_14_code
def yX2_chanceOfFew : MethodName := ⟨RX2, "chanceOfFew", "(III)J"⟩
def RX3 : String := "LowerHalf$Perches"
def TX3 : u_T := fun k => match k with
  | 0 => ("LowerHalf$Perches", "rooms", "[I", true)
  | 1 => ("LowerHalf$Perches", "highs", "[I", true)
  | 2 => ("LowerHalf$Perches", "strides", "[I", true)
  | _ => ("LowerHalf$Perches", "count", "I", false)
def tyX3 : Nat → FieldType := fun k => match k with
  | 0 => .array .int
  | 1 => .array .int
  | 2 => .array .int
  | _ => .int
abbrev wsX30 : List Cond := u_ws RX3 TX3 4
theorem nmX3 : ∀ a, a < 4 → ∀ b, b < 4 → a ≠ b → (TX3 a).2.1 ≠ (TX3 b).2.1 := by decide +kernel
theorem tyX3_ok : ∀ k, k < 4 → parseFieldDescriptor (TX3 k).2.2.1 = some (tyX3 k) := by decide +kernel
abbrev cX3_init : ByteArray := prog_5_method_1_code
def yX3_init : MethodName := ⟨RX3, "<init>", "()V"⟩
abbrev cX3_canBeLong : ByteArray := prog_5_method_2_code
def yX3_canBeLong : MethodName := ⟨RX3, "canBeLong", "(I)Z"⟩
abbrev cX3_isOne : ByteArray := prog_5_method_3_code
def yX3_isOne : MethodName := ⟨RX3, "isOne", "(I)Z"⟩
abbrev cX3_roomOf : ByteArray := prog_5_method_4_code
def yX3_roomOf : MethodName := ⟨RX3, "roomOf", "(I)I"⟩
abbrev cX3_highOf : ByteArray := prog_5_method_5_code
def yX3_highOf : MethodName := ⟨RX3, "highOf", "(I)I"⟩
abbrev cX3_all : ByteArray := prog_5_method_6_code
def yX3_all : MethodName := ⟨RX3, "all", "()I"⟩
abbrev cX3_add : ByteArray := prog_5_method_7_code
def yX3_add : MethodName := ⟨RX3, "add", "(II)I"⟩
abbrev cX3_between : ByteArray := prog_5_method_8_code
def yX3_between : MethodName := ⟨RX3, "between", "(II)I"⟩
abbrev cX3_join : ByteArray := prog_5_method_9_code
def yX3_join : MethodName := ⟨RX3, "join", "(III)V"⟩
abbrev cX3_copyFrom : ByteArray := prog_5_method_10_code
def yX3_copyFrom : MethodName := ⟨RX3, "copyFrom", "(LLowerHalf$Perches;)V"⟩
def RX4 : String := "LowerHalf$Reader"
def TX4 : u_T := fun k => match k with
  | 0 => ("LowerHalf$Reader", "kinds", "[I", true)
  | 1 => ("LowerHalf$Reader", "places", "[I", true)
  | 2 => ("LowerHalf$Reader", "numbers", "[I", true)
  | 3 => ("LowerHalf$Reader", "steps", "[I", true)
  | 4 => ("LowerHalf$Reader", "rows", "[I", true)
  | 5 => ("LowerHalf$Reader", "tokens", "I", false)
  | 6 => ("LowerHalf$Reader", "now", "I", false)
  | 7 => ("LowerHalf$Reader", "stepCount", "I", false)
  | 8 => ("LowerHalf$Reader", "clauseCount", "I", false)
  | 9 => ("LowerHalf$Reader", "parts", "I", false)
  | 10 => ("LowerHalf$Reader", "ofLaws", "Z", false)
  | _ => ("LowerHalf$Reader", "fault", "I", false)
def tyX4 : Nat → FieldType := fun k => match k with
  | 0 => .array .int
  | 1 => .array .int
  | 2 => .array .int
  | 3 => .array .int
  | 4 => .array .int
  | 5 => .int
  | 6 => .int
  | 7 => .int
  | 8 => .int
  | 9 => .int
  | 10 => .boolean
  | _ => .int
abbrev wsX40 : List Cond := u_ws RX4 TX4 12
theorem nmX4 : ∀ a, a < 12 → ∀ b, b < 12 → a ≠ b → (TX4 a).2.1 ≠ (TX4 b).2.1 := by decide +kernel
theorem tyX4_ok : ∀ k, k < 12 → parseFieldDescriptor (TX4 k).2.2.1 = some (tyX4 k) := by decide +kernel
abbrev cX4_init : ByteArray := prog_6_method_1_code
def yX4_init : MethodName := ⟨RX4, "<init>", "()V"⟩
abbrev cX4_read : ByteArray := prog_6_method_2_code
def yX4_read : MethodName := ⟨RX4, "read", "(LLowerHalf$Tape;IZ)LLowerHalf$Text;"⟩
abbrev cX4_cutIntoTokens : ByteArray := prog_6_method_3_code
def yX4_cutIntoTokens : MethodName := ⟨RX4, "cutIntoTokens", "(LLowerHalf$Tape;I)V"⟩
abbrev cX4_endOfToken : ByteArray := prog_6_method_4_code
def yX4_endOfToken : MethodName := ⟨RX4, "endOfToken", "(LLowerHalf$Tape;II)I"⟩
abbrev cX4_addToken : ByteArray := prog_6_method_5_code
def yX4_addToken : MethodName := ⟨RX4, "addToken", "(III)V"⟩
abbrev cX4_isLetter : ByteArray := prog_6_method_6_code
def yX4_isLetter : MethodName := ⟨RX4, "isLetter", "(I)Z"⟩
abbrev cX4_isDigit : ByteArray := prog_6_method_7_code
def yX4_isDigit : MethodName := ⟨RX4, "isDigit", "(I)Z"⟩
abbrev cX4_numberAt : ByteArray := prog_6_method_8_code
def yX4_numberAt : MethodName := ⟨RX4, "numberAt", "(LLowerHalf$Tape;II)I"⟩
abbrev cX4_wordAt : ByteArray := prog_6_method_9_code
def yX4_wordAt : MethodName := ⟨RX4, "wordAt", "(LLowerHalf$Tape;II)I"⟩
abbrev cX4_isWordAt : ByteArray := prog_6_method_10_code
def yX4_isWordAt : MethodName := ⟨RX4, "isWordAt", "(LLowerHalf$Tape;III)Z"⟩
abbrev cX4_kind : ByteArray := prog_6_method_11_code
def yX4_kind : MethodName := ⟨RX4, "kind", "()I"⟩
abbrev cX4_fail : ByteArray := prog_6_method_12_code
def yX4_fail : MethodName := ⟨RX4, "fail", "()Z"⟩
abbrev cX4_take : ByteArray := prog_6_method_13_code
def yX4_take : MethodName := ⟨RX4, "take", "(I)Z"⟩
abbrev cX4_addStep : ByteArray := prog_6_method_14_code
def yX4_addStep : MethodName := ⟨RX4, "addStep", "(II)V"⟩
abbrev cX4_skipTillHere : ByteArray := prog_6_method_15_code
def yX4_skipTillHere : MethodName := ⟨RX4, "skipTillHere", "(I)V"⟩
abbrev cX4_readClause : ByteArray := prog_6_method_16_code
def yX4_readClause : MethodName := ⟨RX4, "readClause", "()Z"⟩
abbrev cX4_beginsClause : ByteArray := prog_6_method_17_code
def yX4_beginsClause : MethodName := ⟨RX4, "beginsClause", "(I)Z"⟩
abbrev cX4_linkOf : ByteArray := prog_6_method_18_code
def yX4_linkOf : MethodName := ⟨RX4, "linkOf", "(I)I"⟩
abbrev cX4_numberNow : ByteArray := prog_6_method_19_code
def yX4_numberNow : MethodName := ⟨RX4, "numberNow", "()I"⟩
abbrev cX4_takeNumber : ByteArray := prog_6_method_20_code
def yX4_takeNumber : MethodName := ⟨RX4, "takeNumber", "(II)Z"⟩
abbrev cX4_readTest : ByteArray := prog_6_method_21_code
def yX4_readTest : MethodName := ⟨RX4, "readTest", "(II)Z"⟩
abbrev cX4_readPlain : ByteArray := prog_6_method_22_code
def yX4_readPlain : MethodName := ⟨RX4, "readPlain", "(I)Z"⟩
abbrev cX4_comparisonOf : ByteArray := prog_6_method_23_code
def yX4_comparisonOf : MethodName := ⟨RX4, "comparisonOf", "(I)I"⟩
abbrev cX4_readSum : ByteArray := prog_6_method_24_code
def yX4_readSum : MethodName := ⟨RX4, "readSum", "(II)Z"⟩
abbrev cX4_sumStepOf : ByteArray := prog_6_method_25_code
def yX4_sumStepOf : MethodName := ⟨RX4, "sumStepOf", "(I)I"⟩
abbrev cX4_termStepOf : ByteArray := prog_6_method_26_code
def yX4_termStepOf : MethodName := ⟨RX4, "termStepOf", "(I)I"⟩
abbrev cX4_readPart : ByteArray := prog_6_method_27_code
def yX4_readPart : MethodName := ⟨RX4, "readPart", "(I)Z"⟩
abbrev cX4_lawWordOf : ByteArray := prog_6_method_28_code
def yX4_lawWordOf : MethodName := ⟨RX4, "lawWordOf", "(I)I"⟩
abbrev cX4_orderWordOf : ByteArray := prog_6_method_29_code
def yX4_orderWordOf : MethodName := ⟨RX4, "orderWordOf", "(I)I"⟩
abbrev cX4_manyOf : ByteArray := prog_6_method_30_code
def yX4_manyOf : MethodName := ⟨RX4, "manyOf", "(I)I"⟩
def RX5 : String := "LowerHalf$Reckoner"
def TX5 : u_T := fun k => match k with
  | 0 => ("LowerHalf$Reckoner", "words", "[I", true)
  | _ => ("LowerHalf$Reckoner", "pile", "[J", true)
def tyX5 : Nat → FieldType := fun k => match k with
  | 0 => .array .int
  | _ => .array .long
abbrev wsX50 : List Cond := u_ws RX5 TX5 2
theorem nmX5 : ∀ a, a < 2 → ∀ b, b < 2 → a ≠ b → (TX5 a).2.1 ≠ (TX5 b).2.1 := by decide +kernel
theorem tyX5_ok : ∀ k, k < 2 → parseFieldDescriptor (TX5 k).2.2.1 = some (tyX5 k) := by decide +kernel
abbrev cX5_init : ByteArray := prog_7_method_1_code
def yX5_init : MethodName := ⟨RX5, "<init>", "()V"⟩
abbrev cX5_tellLawWords : ByteArray := prog_7_method_2_code
def yX5_tellLawWords : MethodName := ⟨RX5, "tellLawWords", "(III)V"⟩
abbrev cX5_value : ByteArray := prog_7_method_3_code
def yX5_value : MethodName := ⟨RX5, "value", "([III)J"⟩
abbrev cX5_joined : ByteArray := prog_7_method_4_code
def yX5_joined : MethodName := ⟨RX5, "joined", "(IJJ)J"⟩
def RX6 : String := "LowerHalf$Tape"
def TX6 : u_T := fun k => match k with
  | 0 => ("LowerHalf$Tape", "bytes", "[B", true)
  | _ => ("LowerHalf$Tape", "length", "I", false)
def tyX6 : Nat → FieldType := fun k => match k with
  | 0 => .array .byte
  | _ => .int
abbrev wsX60 : List Cond := u_ws RX6 TX6 2
theorem nmX6 : ∀ a, a < 2 → ∀ b, b < 2 → a ≠ b → (TX6 a).2.1 ≠ (TX6 b).2.1 := by decide +kernel
theorem tyX6_ok : ∀ k, k < 2 → parseFieldDescriptor (TX6 k).2.2.1 = some (tyX6 k) := by decide +kernel
abbrev cX6_init : ByteArray := prog_8_method_1_code
def yX6_init : MethodName := ⟨RX6, "<init>", "()V"⟩
abbrev cX6_hasPlaceFor : ByteArray := prog_8_method_2_code
def yX6_hasPlaceFor : MethodName := ⟨RX6, "hasPlaceFor", "(I)Z"⟩
abbrev cX6_addNumber : ByteArray := prog_8_method_3_code
def yX6_addNumber : MethodName := ⟨RX6, "addNumber", "(I)V"⟩
abbrev cX6_byteAt : ByteArray := prog_8_method_4_code
def yX6_byteAt : MethodName := ⟨RX6, "byteAt", "(I)I"⟩
def RX7 : String := "LowerHalf$Text"
def TX7 : u_T := fun k => match k with
  | 0 => ("LowerHalf$Text", "steps", "[I", true)
  | 1 => ("LowerHalf$Text", "rows", "[I", true)
  | _ => ("LowerHalf$Text", "clauses", "I", true)
def tyX7 : Nat → FieldType := fun k => match k with
  | 0 => .array .int
  | 1 => .array .int
  | _ => .int
abbrev wsX70 : List Cond := u_ws RX7 TX7 3
theorem nmX7 : ∀ a, a < 3 → ∀ b, b < 3 → a ≠ b → (TX7 a).2.1 ≠ (TX7 b).2.1 := by decide +kernel
theorem tyX7_ok : ∀ k, k < 3 → parseFieldDescriptor (TX7 k).2.2.1 = some (tyX7 k) := by decide +kernel
abbrev cX7_init : ByteArray := prog_9_method_1_code
def yX7_init : MethodName := ⟨RX7, "<init>", "([I[II)V"⟩
abbrev cX7_field : ByteArray := prog_9_method_2_code
def yX7_field : MethodName := ⟨RX7, "field", "(II)I"⟩
abbrev cX7_told : ByteArray := prog_9_method_3_code
def yX7_told : MethodName := ⟨RX7, "told", "(ILLowerHalf$Reckoner;)J"⟩
def RX8 : String := "LowerHalf"
def TX8 : u_T := fun k => match k with
  | 0 => ("LowerHalf", "house", "LLowerHalf$House;", true)
  | 1 => ("LowerHalf", "beforeOrders", "LLowerHalf$House;", true)
  | 2 => ("LowerHalf", "dusk", "LLowerHalf$House;", true)
  | 3 => ("LowerHalf", "images", "[LLowerHalf$House;", true)
  | 4 => ("LowerHalf", "kept", "[Z", true)
  | 5 => ("LowerHalf", "tape", "LLowerHalf$Tape;", true)
  | 6 => ("LowerHalf", "reader", "LLowerHalf$Reader;", true)
  | 7 => ("LowerHalf", "clerk", "LLowerHalf$Reckoner;", true)
  | 8 => ("LowerHalf", "deeds", "LLowerHalf$Deeds;", true)
  | 9 => ("LowerHalf", "deedsBeforeOrders", "LLowerHalf$Deeds;", true)
  | 10 => ("LowerHalf", "paper", "LLowerHalf$Paper;", true)
  | 11 => ("LowerHalf", "refusals", "[I", true)
  | 12 => ("LowerHalf", "hasDusk", "Z", false)
  | 13 => ("LowerHalf", "ordersRun", "I", false)
  | 14 => ("LowerHalf", "latestPass", "I", false)
  | 15 => ("LowerHalf", "faultPlace", "I", false)
  | 16 => ("LowerHalf", "scratchCount", "I", false)
  | 17 => ("LowerHalf", "stoppedAt", "I", false)
  | _ => ("LowerHalf", "refusal", "I", false)
def tyX8 : Nat → FieldType := fun k => match k with
  | 0 => .object "LowerHalf$House"
  | 1 => .object "LowerHalf$House"
  | 2 => .object "LowerHalf$House"
  | 3 => .array (.object "LowerHalf$House")
  | 4 => .array .boolean
  | 5 => .object "LowerHalf$Tape"
  | 6 => .object "LowerHalf$Reader"
  | 7 => .object "LowerHalf$Reckoner"
  | 8 => .object "LowerHalf$Deeds"
  | 9 => .object "LowerHalf$Deeds"
  | 10 => .object "LowerHalf$Paper"
  | 11 => .array .int
  | 12 => .boolean
  | 13 => .int
  | 14 => .int
  | 15 => .int
  | 16 => .int
  | 17 => .int
  | _ => .int
abbrev wsX80 : List Cond := u_ws RX8 TX8 19
theorem nmX8 : ∀ a, a < 19 → ∀ b, b < 19 → a ≠ b → (TX8 a).2.1 ≠ (TX8 b).2.1 := by decide +kernel
theorem tyX8_ok : ∀ k, k < 19 → parseFieldDescriptor (TX8 k).2.2.1 = some (tyX8 k) := by decide +kernel
abbrev cX8_init : ByteArray := prog_1_method_1_code
def yX8_init : MethodName := ⟨RX8, "<init>", "()V"⟩
abbrev cX8_perch : ByteArray := prog_1_method_2_code
def yX8_perch : MethodName := ⟨RX8, "perch", "(II)I"⟩
abbrev cX8_at : ByteArray := prog_1_method_3_code
def yX8_at : MethodName := ⟨RX8, "at", "(II)I"⟩
abbrev cX8_folk : ByteArray := prog_1_method_4_code
def yX8_folk : MethodName := ⟨RX8, "folk", "(II)I"⟩
abbrev cX8_of : ByteArray := prog_1_method_5_code
def yX8_of : MethodName := ⟨RX8, "of", "(II)I"⟩
abbrev cX8_badger : ByteArray := prog_1_method_6_code
def yX8_badger : MethodName := ⟨RX8, "badger", "(I)I"⟩
abbrev cX8_sow : ByteArray := prog_1_method_7_code
def yX8_sow : MethodName := ⟨RX8, "sow", "(II)I"⟩
abbrev cX8_thing : ByteArray := prog_1_method_8_code
def yX8_thing : MethodName := ⟨RX8, "thing", "(III)I"⟩
abbrev cX8_has : ByteArray := prog_1_method_9_code
def yX8_has : MethodName := ⟨RX8, "has", "(II)I"⟩
abbrev cX8_link : ByteArray := prog_1_method_10_code
def yX8_link : MethodName := ⟨RX8, "link", "(III)I"⟩
abbrev cX8_room : ByteArray := prog_1_method_11_code
def yX8_room : MethodName := ⟨RX8, "room", "(II)I"⟩
abbrev cX8_can : ByteArray := prog_1_method_12_code
def yX8_can : MethodName := ⟨RX8, "can", "(II)I"⟩
abbrev cX8_terms : ByteArray := prog_1_method_13_code
def yX8_terms : MethodName := ⟨RX8, "terms", "(II)I"⟩
abbrev cX8_mostOfTerm : ByteArray := prog_1_method_14_code
def yX8_mostOfTerm : MethodName := ⟨RX8, "mostOfTerm", "(I)I"⟩
abbrev cX8_feed : ByteArray := prog_1_method_15_code
def yX8_feed : MethodName := ⟨RX8, "feed", "(IIIII)I"⟩
abbrev cX8_end : ByteArray := prog_1_method_16_code
def yX8_end : MethodName := ⟨RX8, "end", "(I)I"⟩
abbrev cX8_row : ByteArray := prog_1_method_17_code
def yX8_row : MethodName := ⟨RX8, "row", "()I"⟩
abbrev cX8_linkedByRow : ByteArray := prog_1_method_18_code
def yX8_linkedByRow : MethodName := ⟨RX8, "linkedByRow", "(III)Z"⟩
abbrev cX8_scratches : ByteArray := prog_1_method_19_code
def yX8_scratches : MethodName := ⟨RX8, "scratches", "()I"⟩
abbrev cX8_law : ByteArray := prog_1_method_20_code
def yX8_law : MethodName := ⟨RX8, "law", "()I"⟩
abbrev cX8_orders : ByteArray := prog_1_method_21_code
def yX8_orders : MethodName := ⟨RX8, "orders", "()I"⟩
abbrev cX8_runOnce : ByteArray := prog_1_method_22_code
def yX8_runOnce : MethodName := ⟨RX8, "runOnce", "(LLowerHalf$Text;I)Z"⟩
abbrev cX8_tellOrderWords : ByteArray := prog_1_method_23_code
def yX8_tellOrderWords : MethodName := ⟨RX8, "tellOrderWords", "()V"⟩
abbrev cX8_fault : ByteArray := prog_1_method_24_code
def yX8_fault : MethodName := ⟨RX8, "fault", "()I"⟩
abbrev cX8_stopped : ByteArray := prog_1_method_25_code
def yX8_stopped : MethodName := ⟨RX8, "stopped", "()I"⟩
abbrev cX8_force : ByteArray := prog_1_method_26_code
def yX8_force : MethodName := ⟨RX8, "force", "(I)I"⟩
abbrev cX8_stride : ByteArray := prog_1_method_27_code
def yX8_stride : MethodName := ⟨RX8, "stride", "(II)I"⟩
abbrev cX8_tryStride : ByteArray := prog_1_method_28_code
def yX8_tryStride : MethodName := ⟨RX8, "tryStride", "(II)I"⟩
abbrev cX8_put : ByteArray := prog_1_method_29_code
def yX8_put : MethodName := ⟨RX8, "put", "(II)I"⟩
abbrev cX8_tryPut : ByteArray := prog_1_method_30_code
def yX8_tryPut : MethodName := ⟨RX8, "tryPut", "(II)I"⟩
abbrev cX8_door : ByteArray := prog_1_method_31_code
def yX8_door : MethodName := ⟨RX8, "door", "(II)I"⟩
abbrev cX8_tryDoor : ByteArray := prog_1_method_32_code
def yX8_tryDoor : MethodName := ⟨RX8, "tryDoor", "(II)I"⟩
abbrev cX8_pass : ByteArray := prog_1_method_33_code
def yX8_pass : MethodName := ⟨RX8, "pass", "()I"⟩
abbrev cX8_tryPass : ByteArray := prog_1_method_34_code
def yX8_tryPass : MethodName := ⟨RX8, "tryPass", "()I"⟩
abbrev cX8_undo : ByteArray := prog_1_method_35_code
def yX8_undo : MethodName := ⟨RX8, "undo", "()I"⟩
abbrev cX8_soonest : ByteArray := prog_1_method_36_code
def yX8_soonest : MethodName := ⟨RX8, "soonest", "(III)I"⟩
abbrev cX8_near : ByteArray := prog_1_method_37_code
def yX8_near : MethodName := ⟨RX8, "near", "(II)I"⟩
abbrev cX8_cut : ByteArray := prog_1_method_38_code
def yX8_cut : MethodName := ⟨RX8, "cut", "(III)I"⟩
abbrev cX8_roost : ByteArray := prog_1_method_39_code
def yX8_roost : MethodName := ⟨RX8, "roost", "(I)I"⟩
abbrev cX8_where : ByteArray := prog_1_method_40_code
def yX8_where : MethodName := ⟨RX8, "where", "(II)I"⟩
abbrev cX8_meeting : ByteArray := prog_1_method_41_code
def yX8_meeting : MethodName := ⟨RX8, "meeting", "(II)I"⟩
abbrev cX8_free : ByteArray := prog_1_method_42_code
def yX8_free : MethodName := ⟨RX8, "free", "(I)I"⟩
abbrev cX8_shares : ByteArray := prog_1_method_43_code
def yX8_shares : MethodName := ⟨RX8, "shares", "(I)I"⟩
abbrev cX8_low : ByteArray := prog_1_method_44_code
def yX8_low : MethodName := ⟨RX8, "low", "(I)I"⟩
abbrev cX8_seen : ByteArray := prog_1_method_45_code
def yX8_seen : MethodName := ⟨RX8, "seen", "(II)I"⟩
abbrev cX8_forget : ByteArray := prog_1_method_46_code
def yX8_forget : MethodName := ⟨RX8, "forget", "()I"⟩
abbrev cX8_canBe : ByteArray := prog_1_method_47_code
def yX8_canBe : MethodName := ⟨RX8, "canBe", "()I"⟩
abbrev cX8_look : ByteArray := prog_1_method_48_code
def yX8_look : MethodName := ⟨RX8, "look", "(I)I"⟩
abbrev cX8_few : ByteArray := prog_1_method_49_code
def yX8_few : MethodName := ⟨RX8, "few", "(II)J"⟩
abbrev cX8_compare : ByteArray := prog_1_method_50_code
def yX8_compare : MethodName := ⟨RX8, "compare", "(II)I"⟩
abbrev cX8_dusks : ByteArray := prog_1_method_51_code
def yX8_dusks : MethodName := ⟨RX8, "dusks", "(II)I"⟩
abbrev cX8_drawnFrom : ByteArray := prog_1_method_52_code
def yX8_drawnFrom : MethodName := ⟨RX8, "drawnFrom", "(I)I"⟩
abbrev cX8_drawn : ByteArray := prog_1_method_53_code
def yX8_drawn : MethodName := ⟨RX8, "drawn", "(II)I"⟩
abbrev cX8_image : ByteArray := prog_1_method_54_code
def yX8_image : MethodName := ⟨RX8, "image", "(I)I"⟩
abbrev cX8_back : ByteArray := prog_1_method_55_code
def yX8_back : MethodName := ⟨RX8, "back", "(I)I"⟩
abbrev cX8_count : ByteArray := prog_1_method_56_code
def yX8_count : MethodName := ⟨RX8, "count", "(I)I"⟩
abbrev cX8_countFurther : ByteArray := prog_1_method_57_code
def yX8_countFurther : MethodName := ⟨RX8, "countFurther", "(I)I"⟩
abbrev cX8_status : ByteArray := prog_1_method_58_code
def yX8_status : MethodName := ⟨RX8, "status", "()I"⟩
abbrev cX8_settle : ByteArray := prog_1_method_59_code
def yX8_settle : MethodName := ⟨RX8, "settle", "(I)I"⟩
abbrev cX8_grant : ByteArray := prog_1_method_60_code
def yX8_grant : MethodName := ⟨RX8, "grant", "(I)I"⟩
abbrev cX8_refuse : ByteArray := prog_1_method_61_code
def yX8_refuse : MethodName := ⟨RX8, "refuse", "(I)I"⟩
abbrev cX8_kindOfRefusal : ByteArray := prog_1_method_62_code
def yX8_kindOfRefusal : MethodName := ⟨RX8, "kindOfRefusal", "(I)I"⟩
abbrev cX8_isRoom : ByteArray := prog_1_method_63_code
def yX8_isRoom : MethodName := ⟨RX8, "isRoom", "(J)Z"⟩
abbrev cX8_hasBit : ByteArray := prog_1_method_64_code
def yX8_hasBit : MethodName := ⟨RX8, "hasBit", "(II)Z"⟩
abbrev cX8_copyRow : ByteArray := prog_1_method_65_code
def yX8_copyRow : MethodName := ⟨RX8, "copyRow", "([I[I)V"⟩
def RX9 : String := "LowerHalfModel"
def TX9 : u_T := fun k => match k with
  | 0 => ("LowerHalfModel", "thrown", "I", false)
  | 1 => ("LowerHalfModel", "status", "I", false)
  | 2 => ("LowerHalfModel", "refusals", "[I", true)
  | 3 => ("LowerHalfModel", "row", "[I", true)
  | 4 => ("LowerHalfModel", "images", "[I", true)
  | 5 => ("LowerHalfModel", "isKept", "[Z", true)
  | 6 => ("LowerHalfModel", "undos", "[I", true)
  | 7 => ("LowerHalfModel", "sorts", "[I", true)
  | 8 => ("LowerHalfModel", "nUndo", "I", false)
  | 9 => ("LowerHalfModel", "undosBefore", "[I", true)
  | 10 => ("LowerHalfModel", "sortsBefore", "[I", true)
  | 11 => ("LowerHalfModel", "scratches", "I", false)
  | 12 => ("LowerHalfModel", "tape", "[I", true)
  | 13 => ("LowerHalfModel", "taped", "I", false)
  | 14 => ("LowerHalfModel", "from", "I", false)
  | 15 => ("LowerHalfModel", "to", "I", false)
  | 16 => ("LowerHalfModel", "sort", "I", false)
  | 17 => ("LowerHalfModel", "worth", "J", false)
  | 18 => ("LowerHalfModel", "fault", "I", false)
  | 19 => ("LowerHalfModel", "bad", "Z", false)
  | 20 => ("LowerHalfModel", "ordered", "Z", false)
  | 21 => ("LowerHalfModel", "nClauses", "I", false)
  | 22 => ("LowerHalfModel", "nClause", "[I", true)
  | 23 => ("LowerHalfModel", "nCode", "I", false)
  | 24 => ("LowerHalfModel", "nOp", "[I", true)
  | 25 => ("LowerHalfModel", "nArg", "[I", true)
  | 26 => ("LowerHalfModel", "nLeaves", "I", false)
  | 27 => ("LowerHalfModel", "pile", "[I", true)
  | 28 => ("LowerHalfModel", "pileAt", "[I", true)
  | 29 => ("LowerHalfModel", "piled", "I", false)
  | 30 => ("LowerHalfModel", "opened", "I", false)
  | 31 => ("LowerHalfModel", "words", "[J", true)
  | 32 => ("LowerHalfModel", "orderWords", "[J", true)
  | 33 => ("LowerHalfModel", "heads", "[J", true)
  | 34 => ("LowerHalfModel", "law", "I", false)
  | 35 => ("LowerHalfModel", "set", "[J", true)
  | 36 => ("LowerHalfModel", "now", "[J", true)
  | 37 => ("LowerHalfModel", "rest", "[J", true)
  | 38 => ("LowerHalfModel", "broken", "Z", false)
  | 39 => ("LowerHalfModel", "value", "J", false)
  | 40 => ("LowerHalfModel", "sum", "J", false)
  | 41 => ("LowerHalfModel", "going", "[I", true)
  | 42 => ("LowerHalfModel", "canBeOn", "[Z", true)
  | 43 => ("LowerHalfModel", "comesOn", "[Z", true)
  | 44 => ("LowerHalfModel", "strides", "[Z", true)
  | 45 => ("LowerHalfModel", "later", "[I", true)
  | 46 => ("LowerHalfModel", "parts", "[J", true)
  | 47 => ("LowerHalfModel", "acts", "[J", true)
  | 48 => ("LowerHalfModel", "betweens", "[J", true)
  | 49 => ("LowerHalfModel", "nOrder", "[I", true)
  | 50 => ("LowerHalfModel", "done", "I", false)
  | 51 => ("LowerHalfModel", "latest", "I", false)
  | 52 => ("LowerHalfModel", "stopped", "I", false)
  | 53 => ("LowerHalfModel", "off", "Z", false)
  | 54 => ("LowerHalfModel", "state", "J", false)
  | 55 => ("LowerHalfModel", "drawn", "[I", true)
  | 56 => ("LowerHalfModel", "drawnFolk", "I", false)
  | _ => ("LowerHalfModel", "drawnBadgers", "I", false)
def tyX9 : Nat → FieldType := fun k => match k with
  | 0 => .int
  | 1 => .int
  | 2 => .array .int
  | 3 => .array .int
  | 4 => .array .int
  | 5 => .array .boolean
  | 6 => .array .int
  | 7 => .array .int
  | 8 => .int
  | 9 => .array .int
  | 10 => .array .int
  | 11 => .int
  | 12 => .array .int
  | 13 => .int
  | 14 => .int
  | 15 => .int
  | 16 => .int
  | 17 => .long
  | 18 => .int
  | 19 => .boolean
  | 20 => .boolean
  | 21 => .int
  | 22 => .array .int
  | 23 => .int
  | 24 => .array .int
  | 25 => .array .int
  | 26 => .int
  | 27 => .array .int
  | 28 => .array .int
  | 29 => .int
  | 30 => .int
  | 31 => .array .long
  | 32 => .array .long
  | 33 => .array .long
  | 34 => .int
  | 35 => .array .long
  | 36 => .array .long
  | 37 => .array .long
  | 38 => .boolean
  | 39 => .long
  | 40 => .long
  | 41 => .array .int
  | 42 => .array .boolean
  | 43 => .array .boolean
  | 44 => .array .boolean
  | 45 => .array .int
  | 46 => .array .long
  | 47 => .array .long
  | 48 => .array .long
  | 49 => .array .int
  | 50 => .int
  | 51 => .int
  | 52 => .int
  | 53 => .boolean
  | 54 => .long
  | 55 => .array .int
  | 56 => .int
  | _ => .int
abbrev wsX90 : List Cond := u_ws RX9 TX9 58
theorem nmX9 : ∀ a, a < 58 → ∀ b, b < 58 → a ≠ b → (TX9 a).2.1 ≠ (TX9 b).2.1 := by decide +kernel
theorem tyX9_ok : ∀ k, k < 58 → parseFieldDescriptor (TX9 k).2.2.1 = some (tyX9 k) := by decide +kernel
abbrev cX9_init : ByteArray := prog_11_method_1_code
def yX9_init : MethodName := ⟨RX9, "<init>", "()V"⟩
abbrev cX9_in : ByteArray := prog_11_method_3_code
def yX9_in : MethodName := ⟨RX9, "in", "(JJJ)Z"⟩
abbrev cX9_is : ByteArray := prog_11_method_4_code
def yX9_is : MethodName := ⟨RX9, "is", "(II)Z"⟩
abbrev cX9_ones : ByteArray := prog_11_method_5_code
def yX9_ones : MethodName := ⟨RX9, "ones", "(I)I"⟩
abbrev cX9_bounded : ByteArray := prog_11_method_6_code
def yX9_bounded : MethodName := ⟨RX9, "bounded", "(JII)I"⟩
abbrev cX9_tell : ByteArray := prog_11_method_7_code
def yX9_tell : MethodName := ⟨RX9, "tell", "(I)I"⟩
abbrev cX9_change : ByteArray := prog_11_method_8_code
def yX9_change : MethodName := ⟨RX9, "change", "(II)I"⟩
abbrev cX9_lasting : ByteArray := prog_11_method_9_code
def yX9_lasting : MethodName := ⟨RX9, "lasting", "(I)I"⟩
abbrev cX9_keepAll : ByteArray := prog_11_method_10_code
def yX9_keepAll : MethodName := ⟨RX9, "keepAll", "(I)V"⟩
abbrev cX9_putBack : ByteArray := prog_11_method_11_code
def yX9_putBack : MethodName := ⟨RX9, "putBack", "(I)V"⟩
abbrev cX9_remember : ByteArray := prog_11_method_12_code
def yX9_remember : MethodName := ⟨RX9, "remember", "(I)V"⟩
abbrev cX9_undo : ByteArray := prog_11_method_13_code
def yX9_undo : MethodName := ⟨RX9, "undo", "()I"⟩
abbrev cX9_image : ByteArray := prog_11_method_14_code
def yX9_image : MethodName := ⟨RX9, "image", "(I)I"⟩
abbrev cX9_back : ByteArray := prog_11_method_15_code
def yX9_back : MethodName := ⟨RX9, "back", "(I)I"⟩
abbrev cX9_isPerch : ByteArray := prog_11_method_16_code
def yX9_isPerch : MethodName := ⟨RX9, "isPerch", "(I)Z"⟩
abbrev cX9_isFolk : ByteArray := prog_11_method_17_code
def yX9_isFolk : MethodName := ⟨RX9, "isFolk", "(I)Z"⟩
abbrev cX9_isBadger : ByteArray := prog_11_method_18_code
def yX9_isBadger : MethodName := ⟨RX9, "isBadger", "(I)Z"⟩
abbrev cX9_isThing : ByteArray := prog_11_method_19_code
def yX9_isThing : MethodName := ⟨RX9, "isThing", "(I)Z"⟩
abbrev cX9_isRoom : ByteArray := prog_11_method_20_code
def yX9_isRoom : MethodName := ⟨RX9, "isRoom", "(J)Z"⟩
abbrev cX9_longOf : ByteArray := prog_11_method_21_code
def yX9_longOf : MethodName := ⟨RX9, "longOf", "(II)I"⟩
abbrev cX9_perch : ByteArray := prog_11_method_22_code
def yX9_perch : MethodName := ⟨RX9, "perch", "(II)I"⟩
abbrev cX9_at : ByteArray := prog_11_method_23_code
def yX9_at : MethodName := ⟨RX9, "at", "(II)I"⟩
abbrev cX9_folk : ByteArray := prog_11_method_24_code
def yX9_folk : MethodName := ⟨RX9, "folk", "(II)I"⟩
abbrev cX9_of : ByteArray := prog_11_method_25_code
def yX9_of : MethodName := ⟨RX9, "of", "(II)I"⟩
abbrev cX9_badger : ByteArray := prog_11_method_26_code
def yX9_badger : MethodName := ⟨RX9, "badger", "(I)I"⟩
abbrev cX9_sow : ByteArray := prog_11_method_27_code
def yX9_sow : MethodName := ⟨RX9, "sow", "(II)I"⟩
abbrev cX9_thing : ByteArray := prog_11_method_28_code
def yX9_thing : MethodName := ⟨RX9, "thing", "(III)I"⟩
abbrev cX9_has : ByteArray := prog_11_method_29_code
def yX9_has : MethodName := ⟨RX9, "has", "(II)I"⟩
abbrev cX9_setLink : ByteArray := prog_11_method_30_code
def yX9_setLink : MethodName := ⟨RX9, "setLink", "(III)V"⟩
abbrev cX9_link : ByteArray := prog_11_method_31_code
def yX9_link : MethodName := ⟨RX9, "link", "(III)I"⟩
abbrev cX9_badgersIn : ByteArray := prog_11_method_32_code
def yX9_badgersIn : MethodName := ⟨RX9, "badgersIn", "(I)I"⟩
abbrev cX9_room : ByteArray := prog_11_method_33_code
def yX9_room : MethodName := ⟨RX9, "room", "(II)I"⟩
abbrev cX9_can : ByteArray := prog_11_method_34_code
def yX9_can : MethodName := ⟨RX9, "can", "(II)I"⟩
abbrev cX9_terms : ByteArray := prog_11_method_35_code
def yX9_terms : MethodName := ⟨RX9, "terms", "(II)I"⟩
abbrev cX9_row : ByteArray := prog_11_method_36_code
def yX9_row : MethodName := ⟨RX9, "row", "()I"⟩
abbrev cX9_scratches : ByteArray := prog_11_method_37_code
def yX9_scratches : MethodName := ⟨RX9, "scratches", "()I"⟩
abbrev cX9_four : ByteArray := prog_11_method_38_code
def yX9_four : MethodName := ⟨RX9, "four", "(I)V"⟩
abbrev cX9_feed : ByteArray := prog_11_method_39_code
def yX9_feed : MethodName := ⟨RX9, "feed", "(IIIII)I"⟩
abbrev cX9_end : ByteArray := prog_11_method_40_code
def yX9_end : MethodName := ⟨RX9, "end", "(I)I"⟩
abbrev cX9_isSmall : ByteArray := prog_11_method_41_code
def yX9_isSmall : MethodName := ⟨RX9, "isSmall", "(I)Z"⟩
abbrev cX9_isDigit : ByteArray := prog_11_method_42_code
def yX9_isDigit : MethodName := ⟨RX9, "isDigit", "(I)Z"⟩
abbrev cX9_begin : ByteArray := prog_11_method_43_code
def yX9_begin : MethodName := ⟨RX9, "begin", "()V"⟩
abbrev cX9_next : ByteArray := prog_11_method_44_code
def yX9_next : MethodName := ⟨RX9, "next", "()V"⟩
abbrev cX9_isWord : ByteArray := prog_11_method_45_code
def yX9_isWord : MethodName := ⟨RX9, "isWord", "(J)Z"⟩
abbrev cX9_isSign : ByteArray := prog_11_method_46_code
def yX9_isSign : MethodName := ⟨RX9, "isSign", "(I)Z"⟩
abbrev cX9_must : ByteArray := prog_11_method_47_code
def yX9_must : MethodName := ⟨RX9, "must", "(Z)V"⟩
abbrev cX9_number : ByteArray := prog_11_method_48_code
def yX9_number : MethodName := ⟨RX9, "number", "(JJ)I"⟩
abbrev cX9_fault : ByteArray := prog_11_method_49_code
def yX9_fault : MethodName := ⟨RX9, "fault", "()I"⟩
abbrev cX9_emit : ByteArray := prog_11_method_50_code
def yX9_emit : MethodName := ⟨RX9, "emit", "(II)V"⟩
abbrev cX9_push : ByteArray := prog_11_method_51_code
def yX9_push : MethodName := ⟨RX9, "push", "(II)V"⟩
abbrev cX9_binds : ByteArray := prog_11_method_52_code
def yX9_binds : MethodName := ⟨RX9, "binds", "(I)I"⟩
abbrev cX9_settle : ByteArray := prog_11_method_53_code
def yX9_settle : MethodName := ⟨RX9, "settle", "(I)V"⟩
abbrev cX9_inner : ByteArray := prog_11_method_54_code
def yX9_inner : MethodName := ⟨RX9, "inner", "()I"⟩
abbrev cX9_isCompared : ByteArray := prog_11_method_55_code
def yX9_isCompared : MethodName := ⟨RX9, "isCompared", "()Z"⟩
abbrev cX9_partAt : ByteArray := prog_11_method_56_code
def yX9_partAt : MethodName := ⟨RX9, "partAt", "()I"⟩
abbrev cX9_orderPartAt : ByteArray := prog_11_method_57_code
def yX9_orderPartAt : MethodName := ⟨RX9, "orderPartAt", "()I"⟩
abbrev cX9_openBracket : ByteArray := prog_11_method_58_code
def yX9_openBracket : MethodName := ⟨RX9, "openBracket", "(I)V"⟩
abbrev cX9_leaf : ByteArray := prog_11_method_59_code
def yX9_leaf : MethodName := ⟨RX9, "leaf", "(ZII)V"⟩
abbrev cX9_readPart : ByteArray := prog_11_method_60_code
def yX9_readPart : MethodName := ⟨RX9, "readPart", "()I"⟩
abbrev cX9_readPlain : ByteArray := prog_11_method_61_code
def yX9_readPlain : MethodName := ⟨RX9, "readPlain", "()I"⟩
abbrev cX9_behindSum : ByteArray := prog_11_method_62_code
def yX9_behindSum : MethodName := ⟨RX9, "behindSum", "(Z)I"⟩
abbrev cX9_behindTest : ByteArray := prog_11_method_63_code
def yX9_behindTest : MethodName := ⟨RX9, "behindTest", "()I"⟩
abbrev cX9_readExpression : ByteArray := prog_11_method_64_code
def yX9_readExpression : MethodName := ⟨RX9, "readExpression", "(Z)V"⟩
abbrev cX9_beginText : ByteArray := prog_11_method_65_code
def yX9_beginText : MethodName := ⟨RX9, "beginText", "(Z)V"⟩
abbrev cX9_endText : ByteArray := prog_11_method_66_code
def yX9_endText : MethodName := ⟨RX9, "endText", "()V"⟩
abbrev cX9_readLaw : ByteArray := prog_11_method_67_code
def yX9_readLaw : MethodName := ⟨RX9, "readLaw", "()V"⟩
abbrev cX9_law : ByteArray := prog_11_method_68_code
def yX9_law : MethodName := ⟨RX9, "law", "()I"⟩
abbrev cX9_isLaw : ByteArray := prog_11_method_69_code
def yX9_isLaw : MethodName := ⟨RX9, "isLaw", "(I)Z"⟩
abbrev cX9_force : ByteArray := prog_11_method_70_code
def yX9_force : MethodName := ⟨RX9, "force", "(I)I"⟩
abbrev cX9_reckon : ByteArray := prog_11_method_71_code
def yX9_reckon : MethodName := ⟨RX9, "reckon", "(IJJ)J"⟩
abbrev cX9_reckonAll : ByteArray := prog_11_method_72_code
def yX9_reckonAll : MethodName := ⟨RX9, "reckonAll", "(II)V"⟩
abbrev cX9_isSo : ByteArray := prog_11_method_73_code
def yX9_isSo : MethodName := ⟨RX9, "isSo", "(I)Z"⟩
abbrev cX9_tells : ByteArray := prog_11_method_74_code
def yX9_tells : MethodName := ⟨RX9, "tells", "(IIIIIJ)J"⟩
abbrev cX9_theirsIn : ByteArray := prog_11_method_75_code
def yX9_theirsIn : MethodName := ⟨RX9, "theirsIn", "(I)I"⟩
abbrev cX9_isSafe : ByteArray := prog_11_method_76_code
def yX9_isSafe : MethodName := ⟨RX9, "isSafe", "(I)Z"⟩
abbrev cX9_goesTo : ByteArray := prog_11_method_77_code
def yX9_goesTo : MethodName := ⟨RX9, "goesTo", "(I)I"⟩
abbrev cX9_canStride : ByteArray := prog_11_method_78_code
def yX9_canStride : MethodName := ⟨RX9, "canStride", "(III)Z"⟩
abbrev cX9_strideNow : ByteArray := prog_11_method_79_code
def yX9_strideNow : MethodName := ⟨RX9, "strideNow", "(II)I"⟩
abbrev cX9_stride : ByteArray := prog_11_method_80_code
def yX9_stride : MethodName := ⟨RX9, "stride", "(II)I"⟩
abbrev cX9_putNow : ByteArray := prog_11_method_81_code
def yX9_putNow : MethodName := ⟨RX9, "putNow", "(II)I"⟩
abbrev cX9_put : ByteArray := prog_11_method_82_code
def yX9_put : MethodName := ⟨RX9, "put", "(II)I"⟩
abbrev cX9_doorNow : ByteArray := prog_11_method_83_code
def yX9_doorNow : MethodName := ⟨RX9, "doorNow", "(II)I"⟩
abbrev cX9_door : ByteArray := prog_11_method_84_code
def yX9_door : MethodName := ⟨RX9, "door", "(II)I"⟩
abbrev cX9_allGo : ByteArray := prog_11_method_85_code
def yX9_allGo : MethodName := ⟨RX9, "allGo", "()V"⟩
abbrev cX9_passIt : ByteArray := prog_11_method_86_code
def yX9_passIt : MethodName := ⟨RX9, "passIt", "()I"⟩
abbrev cX9_passNow : ByteArray := prog_11_method_87_code
def yX9_passNow : MethodName := ⟨RX9, "passNow", "()I"⟩
abbrev cX9_pass : ByteArray := prog_11_method_88_code
def yX9_pass : MethodName := ⟨RX9, "pass", "()I"⟩
abbrev cX9_goesOn : ByteArray := prog_11_method_89_code
def yX9_goesOn : MethodName := ⟨RX9, "goesOn", "(IIIII)Z"⟩
abbrev cX9_laySoonest : ByteArray := prog_11_method_90_code
def yX9_laySoonest : MethodName := ⟨RX9, "laySoonest", "(II)I"⟩
abbrev cX9_layComing : ByteArray := prog_11_method_91_code
def yX9_layComing : MethodName := ⟨RX9, "layComing", "(III)V"⟩
abbrev cX9_soonest : ByteArray := prog_11_method_92_code
def yX9_soonest : MethodName := ⟨RX9, "soonest", "(III)I"⟩
abbrev cX9_nearBy : ByteArray := prog_11_method_93_code
def yX9_nearBy : MethodName := ⟨RX9, "nearBy", "(III)I"⟩
abbrev cX9_layStrides : ByteArray := prog_11_method_94_code
def yX9_layStrides : MethodName := ⟨RX9, "layStrides", "(I)V"⟩
abbrev cX9_near : ByteArray := prog_11_method_95_code
def yX9_near : MethodName := ⟨RX9, "near", "(II)I"⟩
abbrev cX9_cut : ByteArray := prog_11_method_96_code
def yX9_cut : MethodName := ⟨RX9, "cut", "(III)I"⟩
abbrev cX9_isSafeAllDay : ByteArray := prog_11_method_97_code
def yX9_isSafeAllDay : MethodName := ⟨RX9, "isSafeAllDay", "(I)Z"⟩
abbrev cX9_roost : ByteArray := prog_11_method_98_code
def yX9_roost : MethodName := ⟨RX9, "roost", "(I)I"⟩
abbrev cX9_where : ByteArray := prog_11_method_99_code
def yX9_where : MethodName := ⟨RX9, "where", "(II)I"⟩
abbrev cX9_meeting : ByteArray := prog_11_method_100_code
def yX9_meeting : MethodName := ⟨RX9, "meeting", "(II)I"⟩
abbrev cX9_free : ByteArray := prog_11_method_101_code
def yX9_free : MethodName := ⟨RX9, "free", "(I)I"⟩
abbrev cX9_shares : ByteArray := prog_11_method_102_code
def yX9_shares : MethodName := ⟨RX9, "shares", "(I)I"⟩
abbrev cX9_low : ByteArray := prog_11_method_103_code
def yX9_low : MethodName := ⟨RX9, "low", "(I)I"⟩
abbrev cX9_seen : ByteArray := prog_11_method_104_code
def yX9_seen : MethodName := ⟨RX9, "seen", "(II)I"⟩
abbrev cX9_forget : ByteArray := prog_11_method_105_code
def yX9_forget : MethodName := ⟨RX9, "forget", "()I"⟩
abbrev cX9_layLater : ByteArray := prog_11_method_106_code
def yX9_layLater : MethodName := ⟨RX9, "layLater", "()V"⟩
abbrev cX9_thatCanBe : ByteArray := prog_11_method_107_code
def yX9_thatCanBe : MethodName := ⟨RX9, "thatCanBe", "()I"⟩
abbrev cX9_canBe : ByteArray := prog_11_method_108_code
def yX9_canBe : MethodName := ⟨RX9, "canBe", "()I"⟩
abbrev cX9_mostAlike : ByteArray := prog_11_method_109_code
def yX9_mostAlike : MethodName := ⟨RX9, "mostAlike", "(II)I"⟩
abbrev cX9_look : ByteArray := prog_11_method_110_code
def yX9_look : MethodName := ⟨RX9, "look", "(I)I"⟩
abbrev cX9_few : ByteArray := prog_11_method_111_code
def yX9_few : MethodName := ⟨RX9, "few", "(II)J"⟩
abbrev cX9_compare : ByteArray := prog_11_method_112_code
def yX9_compare : MethodName := ⟨RX9, "compare", "(II)I"⟩
abbrev cX9_readSum : ByteArray := prog_11_method_113_code
def yX9_readSum : MethodName := ⟨RX9, "readSum", "(I)V"⟩
abbrev cX9_readOrder : ByteArray := prog_11_method_114_code
def yX9_readOrder : MethodName := ⟨RX9, "readOrder", "()V"⟩
abbrev cX9_sumOf : ByteArray := prog_11_method_115_code
def yX9_sumOf : MethodName := ⟨RX9, "sumOf", "(I)I"⟩
abbrev cX9_act : ByteArray := prog_11_method_116_code
def yX9_act : MethodName := ⟨RX9, "act", "(III)I"⟩
abbrev cX9_run : ByteArray := prog_11_method_117_code
def yX9_run : MethodName := ⟨RX9, "run", "(I)I"⟩
abbrev cX9_orders : ByteArray := prog_11_method_118_code
def yX9_orders : MethodName := ⟨RX9, "orders", "()I"⟩
abbrev cX9_giveBack : ByteArray := prog_11_method_119_code
def yX9_giveBack : MethodName := ⟨RX9, "giveBack", "(I)V"⟩
abbrev cX9_stopped : ByteArray := prog_11_method_120_code
def yX9_stopped : MethodName := ⟨RX9, "stopped", "()I"⟩
abbrev cX9_draw : ByteArray := prog_11_method_121_code
def yX9_draw : MethodName := ⟨RX9, "draw", "(I)I"⟩
abbrev cX9_dusks : ByteArray := prog_11_method_122_code
def yX9_dusks : MethodName := ⟨RX9, "dusks", "(II)I"⟩
abbrev cX9_drawn : ByteArray := prog_11_method_123_code
def yX9_drawn : MethodName := ⟨RX9, "drawn", "(II)I"⟩
abbrev cX9_count : ByteArray := prog_11_method_124_code
def yX9_count : MethodName := ⟨RX9, "count", "(I)I"⟩
abbrev cX9_status : ByteArray := prog_11_method_125_code
def yX9_status : MethodName := ⟨RX9, "status", "()I"⟩
def RJx145de : String := "java/io/Serializable"
def TJx145de : u_T := fun k => match k with
  | _ => ("", "", "", false)
def tyJx145de : Nat → FieldType := fun k => match k with
  | _ => .int
theorem nmJx145de : ∀ a, a < 0 → ∀ b, b < 0 → a ≠ b → (TJx145de a).2.1 ≠ (TJx145de b).2.1 := by decide +kernel
theorem tyJx145de_ok : ∀ k, k < 0 → parseFieldDescriptor (TJx145de k).2.2.1 = some (tyJx145de k) := by decide +kernel
def RJx9f9b0 : String := "java/lang/CharSequence"
def TJx9f9b0 : u_T := fun k => match k with
  | _ => ("", "", "", false)
def tyJx9f9b0 : Nat → FieldType := fun k => match k with
  | _ => .int
theorem nmJx9f9b0 : ∀ a, a < 0 → ∀ b, b < 0 → a ≠ b → (TJx9f9b0 a).2.1 ≠ (TJx9f9b0 b).2.1 := by decide +kernel
theorem tyJx9f9b0_ok : ∀ k, k < 0 → parseFieldDescriptor (TJx9f9b0 k).2.2.1 = some (tyJx9f9b0 k) := by decide +kernel
def RJx8e188 : String := "java/lang/Cloneable"
def TJx8e188 : u_T := fun k => match k with
  | _ => ("", "", "", false)
def tyJx8e188 : Nat → FieldType := fun k => match k with
  | _ => .int
theorem nmJx8e188 : ∀ a, a < 0 → ∀ b, b < 0 → a ≠ b → (TJx8e188 a).2.1 ≠ (TJx8e188 b).2.1 := by decide +kernel
theorem tyJx8e188_ok : ∀ k, k < 0 → parseFieldDescriptor (TJx8e188 k).2.2.1 = some (tyJx8e188 k) := by decide +kernel
def RJxb160c : String := "java/lang/Comparable"
def TJxb160c : u_T := fun k => match k with
  | _ => ("", "", "", false)
def tyJxb160c : Nat → FieldType := fun k => match k with
  | _ => .int
theorem nmJxb160c : ∀ a, a < 0 → ∀ b, b < 0 → a ≠ b → (TJxb160c a).2.1 ≠ (TJxb160c b).2.1 := by decide +kernel
theorem tyJxb160c_ok : ∀ k, k < 0 → parseFieldDescriptor (TJxb160c k).2.2.1 = some (tyJxb160c k) := by decide +kernel
def RJ6 : String := "java/lang/Integer"
def TJ6 : u_T := fun k => match k with
  | _ => ("", "", "", false)
def tyJ6 : Nat → FieldType := fun k => match k with
  | _ => .int
theorem nmJ6 : ∀ a, a < 0 → ∀ b, b < 0 → a ≠ b → (TJ6 a).2.1 ≠ (TJ6 b).2.1 := by decide +kernel
theorem tyJ6_ok : ∀ k, k < 0 → parseFieldDescriptor (TJ6 k).2.2.1 = some (tyJ6 k) := by decide +kernel
abbrev cJ6_bitCount_0f7a4 : ByteArray := prog_13_method_49_code
def yJ6_bitCount_0f7a4 : MethodName := ⟨RJ6, "bitCount", "(I)I"⟩
def RJ9 : String := "java/lang/Math"
def TJ9 : u_T := fun k => match k with
  | _ => ("", "", "", false)
def tyJ9 : Nat → FieldType := fun k => match k with
  | _ => .int
theorem nmJ9 : ∀ a, a < 0 → ∀ b, b < 0 → a ≠ b → (TJ9 a).2.1 ≠ (TJ9 b).2.1 := by decide +kernel
theorem tyJ9_ok : ∀ k, k < 0 → parseFieldDescriptor (TJ9 k).2.2.1 = some (tyJ9 k) := by decide +kernel
abbrev cJ9_max_7cf53 : ByteArray := prog_14_method_65_code
def yJ9_max_7cf53 : MethodName := ⟨RJ9, "max", "(II)I"⟩
abbrev cJ9_max_f86c9 : ByteArray := prog_14_method_66_code
def yJ9_max_f86c9 : MethodName := ⟨RJ9, "max", "(JJ)J"⟩
abbrev cJ9_min_7cf53 : ByteArray := prog_14_method_69_code
def yJ9_min_7cf53 : MethodName := ⟨RJ9, "min", "(II)I"⟩
abbrev cJ9_min_f86c9 : ByteArray := prog_14_method_70_code
def yJ9_min_f86c9 : MethodName := ⟨RJ9, "min", "(JJ)J"⟩
def RJ0 : String := "java/lang/String"
def TJ0 : u_T := fun k => match k with
  | _ => ("", "", "", false)
def tyJ0 : Nat → FieldType := fun k => match k with
  | _ => .int
theorem nmJ0 : ∀ a, a < 0 → ∀ b, b < 0 → a ≠ b → (TJ0 a).2.1 ≠ (TJ0 b).2.1 := by decide +kernel
theorem tyJ0_ok : ∀ k, k < 0 → parseFieldDescriptor (TJ0 k).2.2.1 = some (tyJ0 k) := by decide +kernel
abbrev cJ0_length_8abf5 : ByteArray := prog_15_method_54_code
def yJ0_length_8abf5 : MethodName := ⟨RJ0, "length", "()I"⟩
abbrev cJ0_charAt_5068e : ByteArray := prog_15_method_56_code
def yJ0_charAt_5068e : MethodName := ⟨RJ0, "charAt", "(I)C"⟩
abbrev cJ0_coder_7d493 : ByteArray := prog_15_method_152_code
def yJ0_coder_7d493 : MethodName := ⟨RJ0, "coder", "()B"⟩
abbrev cJ0_isLatin1_aae02 : ByteArray := prog_15_method_154_code
def yJ0_isLatin1_aae02 : MethodName := ⟨RJ0, "isLatin1", "()Z"⟩
abbrev cJ0_checkIndex_df160 : ByteArray := prog_15_method_155_code
def yJ0_checkIndex_df160 : MethodName := ⟨RJ0, "checkIndex", "(II)V"⟩
def RJ1 : String := "java/lang/StringLatin1"
def TJ1 : u_T := fun k => match k with
  | _ => ("", "", "", false)
def tyJ1 : Nat → FieldType := fun k => match k with
  | _ => .int
theorem nmJ1 : ∀ a, a < 0 → ∀ b, b < 0 → a ≠ b → (TJ1 a).2.1 ≠ (TJ1 b).2.1 := by decide +kernel
theorem tyJ1_ok : ∀ k, k < 0 → parseFieldDescriptor (TJ1 k).2.2.1 = some (tyJ1 k) := by decide +kernel
abbrev cJ1_charAt_3b067 : ByteArray := prog_16_method_2_code
def yJ1_charAt_3b067 : MethodName := ⟨RJ1, "charAt", "([BI)C"⟩
def RJ2 : String := "java/lang/StringUTF16"
def TJ2 : u_T := fun k => match k with
  | _ => ("", "", "", false)
def tyJ2 : Nat → FieldType := fun k => match k with
  | _ => .int
theorem nmJ2 : ∀ a, a < 0 → ∀ b, b < 0 → a ≠ b → (TJ2 a).2.1 ≠ (TJ2 b).2.1 := by decide +kernel
theorem tyJ2_ok : ∀ k, k < 0 → parseFieldDescriptor (TJ2 k).2.2.1 = some (tyJ2 k) := by decide +kernel
abbrev cJ2_getChar_3b067 : ByteArray := prog_17_method_5_code
def yJ2_getChar_3b067 : MethodName := ⟨RJ2, "getChar", "([BI)C"⟩
abbrev cJ2_length_9d52b : ByteArray := prog_17_method_6_code
def yJ2_length_9d52b : MethodName := ⟨RJ2, "length", "([B)I"⟩
abbrev cJ2_charAt_3b067 : ByteArray := prog_17_method_83_code
def yJ2_charAt_3b067 : MethodName := ⟨RJ2, "charAt", "([BI)C"⟩
abbrev cJ2_checkIndex_2214a : ByteArray := prog_17_method_91_code
def yJ2_checkIndex_2214a : MethodName := ⟨RJ2, "checkIndex", "(I[B)V"⟩
def RJ10 : String := "java/lang/System"
def TJ10 : u_T := fun k => match k with
  | _ => ("", "", "", false)
def tyJ10 : Nat → FieldType := fun k => match k with
  | _ => .int
theorem nmJ10 : ∀ a, a < 0 → ∀ b, b < 0 → a ≠ b → (TJ10 a).2.1 ≠ (TJ10 b).2.1 := by decide +kernel
theorem tyJ10_ok : ∀ k, k < 0 → parseFieldDescriptor (TJ10 k).2.2.1 = some (tyJ10 k) := by decide +kernel
def RJxfd54e : String := "java/lang/constant/Constable"
def TJxfd54e : u_T := fun k => match k with
  | _ => ("", "", "", false)
def tyJxfd54e : Nat → FieldType := fun k => match k with
  | _ => .int
theorem nmJxfd54e : ∀ a, a < 0 → ∀ b, b < 0 → a ≠ b → (TJxfd54e a).2.1 ≠ (TJxfd54e b).2.1 := by decide +kernel
theorem tyJxfd54e_ok : ∀ k, k < 0 → parseFieldDescriptor (TJxfd54e k).2.2.1 = some (tyJxfd54e k) := by decide +kernel
def RJx3cf43 : String := "java/lang/constant/ConstantDesc"
def TJx3cf43 : u_T := fun k => match k with
  | _ => ("", "", "", false)
def tyJx3cf43 : Nat → FieldType := fun k => match k with
  | _ => .int
theorem nmJx3cf43 : ∀ a, a < 0 → ∀ b, b < 0 → a ≠ b → (TJx3cf43 a).2.1 ≠ (TJx3cf43 b).2.1 := by decide +kernel
theorem tyJx3cf43_ok : ∀ k, k < 0 → parseFieldDescriptor (TJx3cf43 k).2.2.1 = some (tyJx3cf43 k) := by decide +kernel
def RJ7 : String := "java/util/Arrays"
def TJ7 : u_T := fun k => match k with
  | _ => ("", "", "", false)
def tyJ7 : Nat → FieldType := fun k => match k with
  | _ => .int
theorem nmJ7 : ∀ a, a < 0 → ∀ b, b < 0 → a ≠ b → (TJ7 a).2.1 ≠ (TJ7 b).2.1 := by decide +kernel
theorem tyJ7_ok : ∀ k, k < 0 → parseFieldDescriptor (TJ7 k).2.2.1 = some (tyJ7 k) := by decide +kernel
abbrev cJ7_fill_d0a16 : ByteArray := prog_19_method_101_code
def yJ7_fill_d0a16 : MethodName := ⟨RJ7, "fill", "([JJ)V"⟩
abbrev cJ7_fill_53178 : ByteArray := prog_19_method_103_code
def yJ7_fill_53178 : MethodName := ⟨RJ7, "fill", "([II)V"⟩
abbrev cJ7_copyOf_59c91 : ByteArray := prog_19_method_123_code
def yJ7_copyOf_59c91 : MethodName := ⟨RJ7, "copyOf", "([II)[I"⟩
def RJ3 : String := "jdk/internal/util/Preconditions"
def TJ3 : u_T := fun k => match k with
  | _ => ("", "", "", false)
def tyJ3 : Nat → FieldType := fun k => match k with
  | _ => .int
theorem nmJ3 : ∀ a, a < 0 → ∀ b, b < 0 → a ≠ b → (TJ3 a).2.1 ≠ (TJ3 b).2.1 := by decide +kernel
theorem tyJ3_ok : ∀ k, k < 0 → parseFieldDescriptor (TJ3 k).2.2.1 = some (tyJ3 k) := by decide +kernel
abbrev cJ3_checkIndex_8e157 : ByteArray := prog_20_method_11_code
def yJ3_checkIndex_8e157 : MethodName := ⟨RJ3, "checkIndex", "(IILjava/util/function/BiFunction;)I"⟩
def RL : String := "LowerHalfLaw"
abbrev cL_law : ByteArray := code
def yL_law : MethodName := ⟨RL, "law", "([I)Z"⟩
abbrev vwCl : List vw_C := [(RX0, TX0, 2), (RX1, TX1, 20), (RX2, TX2, 7), (RX3, TX3, 4), (RX4, TX4, 12), (RX5, TX5, 2), (RX6, TX6, 2), (RX7, TX7, 3), (RX8, TX8, 19), (RX9, TX9, 58)]
