section
-- ===== PART A: goes FIRST, ahead of the names: the tables' words, and 'selects' of the private methods out of them =====
/-- a private method of a class that the tables say can be made, by its rows of tables_1 -/
def lw_okq (q : MethodName × Nat) : Prop := (q.1.cls ≠ "java/lang/invoke/MethodHandle" ∧ q.1.cls ≠ "java/lang/invoke/VarHandle") ∧ Cond.instantiable q.1.cls q.2 ∈ tables_1 ∧ Cond.privateMethod q.1 ∈ tables_1 ∧ Cond.instanceMethod q.1 ∈ tables_1
theorem lw_p0 : lw_okq (⟨"Creasebook", "begin", "(II)V"⟩, 8) := ⟨⟨by decide +kernel, by decide +kernel⟩, List.mem_of_getElem? (i := 22) (by decide +kernel), List.mem_of_getElem? (i := 110) (by decide +kernel), List.mem_of_getElem? (i := 111) (by decide +kernel)⟩
theorem lw_p1 : lw_okq (⟨"Creasebook$Paper", "renew", "(II)V"⟩, 9) := ⟨⟨by decide +kernel, by decide +kernel⟩, List.mem_of_getElem? (i := 30) (by decide +kernel), List.mem_of_getElem? (i := 114) (by decide +kernel), List.mem_of_getElem? (i := 115) (by decide +kernel)⟩
theorem lw_p2 : lw_okq (⟨"Creasebook$Form", "spread", "(II)V"⟩, 8) := ⟨⟨by decide +kernel, by decide +kernel⟩, List.mem_of_getElem? (i := 72) (by decide +kernel), List.mem_of_getElem? (i := 118) (by decide +kernel), List.mem_of_getElem? (i := 119) (by decide +kernel)⟩
theorem lw_p3 : lw_okq (⟨"Creasebook$Form", "measurePiles", "()V"⟩, 8) := ⟨⟨by decide +kernel, by decide +kernel⟩, List.mem_of_getElem? (i := 72) (by decide +kernel), List.mem_of_getElem? (i := 122) (by decide +kernel), List.mem_of_getElem? (i := 123) (by decide +kernel)⟩
theorem lw_p4 : lw_okq (⟨"Creasebook$Form", "hasPlace", "(II)Z"⟩, 8) := ⟨⟨by decide +kernel, by decide +kernel⟩, List.mem_of_getElem? (i := 72) (by decide +kernel), List.mem_of_getElem? (i := 126) (by decide +kernel), List.mem_of_getElem? (i := 127) (by decide +kernel)⟩
theorem lw_p5 : lw_okq (⟨"Creasebook", "isHeldByGlue", "()Z"⟩, 8) := ⟨⟨by decide +kernel, by decide +kernel⟩, List.mem_of_getElem? (i := 22) (by decide +kernel), List.mem_of_getElem? (i := 159) (by decide +kernel), List.mem_of_getElem? (i := 160) (by decide +kernel)⟩
theorem lw_p6 : lw_okq (⟨"Creasebook$Paper", "areGlued", "(II)Z"⟩, 9) := ⟨⟨by decide +kernel, by decide +kernel⟩, List.mem_of_getElem? (i := 30) (by decide +kernel), List.mem_of_getElem? (i := 163) (by decide +kernel), List.mem_of_getElem? (i := 164) (by decide +kernel)⟩
theorem lw_p7 : lw_okq (⟨"Creasebook$Paper", "hasCell", "(I)Z"⟩, 9) := ⟨⟨by decide +kernel, by decide +kernel⟩, List.mem_of_getElem? (i := 30) (by decide +kernel), List.mem_of_getElem? (i := 167) (by decide +kernel), List.mem_of_getElem? (i := 168) (by decide +kernel)⟩
theorem lw_p8 : lw_okq (⟨"Creasebook$Form", "goes", "(II)Z"⟩, 8) := ⟨⟨by decide +kernel, by decide +kernel⟩, List.mem_of_getElem? (i := 72) (by decide +kernel), List.mem_of_getElem? (i := 171) (by decide +kernel), List.mem_of_getElem? (i := 172) (by decide +kernel)⟩
theorem lw_p9 : lw_okq (⟨"Creasebook$Paper", "smoothCreasesOf", "(I)V"⟩, 9) := ⟨⟨by decide +kernel, by decide +kernel⟩, List.mem_of_getElem? (i := 30) (by decide +kernel), List.mem_of_getElem? (i := 184) (by decide +kernel), List.mem_of_getElem? (i := 185) (by decide +kernel)⟩
theorem lw_p10 : lw_okq (⟨"Creasebook$Form", "copyFrom", "(LCreasebook$Form;)V"⟩, 8) := ⟨⟨by decide +kernel, by decide +kernel⟩, List.mem_of_getElem? (i := 72) (by decide +kernel), List.mem_of_getElem? (i := 188) (by decide +kernel), List.mem_of_getElem? (i := 189) (by decide +kernel)⟩
theorem lw_p11 : lw_okq (⟨"Creasebook$Form", "turnOver", "()V"⟩, 8) := ⟨⟨by decide +kernel, by decide +kernel⟩, List.mem_of_getElem? (i := 72) (by decide +kernel), List.mem_of_getElem? (i := 196) (by decide +kernel), List.mem_of_getElem? (i := 197) (by decide +kernel)⟩
theorem lw_p12 : lw_okq (⟨"Creasebook$Form", "layerFromAbove", "(I)I"⟩, 8) := ⟨⟨by decide +kernel, by decide +kernel⟩, List.mem_of_getElem? (i := 72) (by decide +kernel), List.mem_of_getElem? (i := 200) (by decide +kernel), List.mem_of_getElem? (i := 201) (by decide +kernel)⟩
theorem lw_p13 : lw_okq (⟨"Creasebook$Form", "heightAt", "(II)I"⟩, 8) := ⟨⟨by decide +kernel, by decide +kernel⟩, List.mem_of_getElem? (i := 72) (by decide +kernel), List.mem_of_getElem? (i := 204) (by decide +kernel), List.mem_of_getElem? (i := 205) (by decide +kernel)⟩
theorem lw_p14 : lw_okq (⟨"Creasebook$Form", "frontsSeenFromAbove", "()I"⟩, 8) := ⟨⟨by decide +kernel, by decide +kernel⟩, List.mem_of_getElem? (i := 72) (by decide +kernel), List.mem_of_getElem? (i := 208) (by decide +kernel), List.mem_of_getElem? (i := 209) (by decide +kernel)⟩
theorem lw_p15 : lw_okq (⟨"Creasebook$Form", "isOutermost", "(IZ)Z"⟩, 8) := ⟨⟨by decide +kernel, by decide +kernel⟩, List.mem_of_getElem? (i := 72) (by decide +kernel), List.mem_of_getElem? (i := 212) (by decide +kernel), List.mem_of_getElem? (i := 213) (by decide +kernel)⟩
def lw_privs_1 : List (MethodName × Nat) := [(⟨"Creasebook", "begin", "(II)V"⟩, 8), (⟨"Creasebook$Paper", "renew", "(II)V"⟩, 9), (⟨"Creasebook$Form", "spread", "(II)V"⟩, 8), (⟨"Creasebook$Form", "measurePiles", "()V"⟩, 8), (⟨"Creasebook$Form", "hasPlace", "(II)Z"⟩, 8), (⟨"Creasebook", "isHeldByGlue", "()Z"⟩, 8), (⟨"Creasebook$Paper", "areGlued", "(II)Z"⟩, 9), (⟨"Creasebook$Paper", "hasCell", "(I)Z"⟩, 9), (⟨"Creasebook$Form", "goes", "(II)Z"⟩, 8), (⟨"Creasebook$Paper", "smoothCreasesOf", "(I)V"⟩, 9), (⟨"Creasebook$Form", "copyFrom", "(LCreasebook$Form;)V"⟩, 8), (⟨"Creasebook$Form", "turnOver", "()V"⟩, 8), (⟨"Creasebook$Form", "layerFromAbove", "(I)I"⟩, 8), (⟨"Creasebook$Form", "heightAt", "(II)I"⟩, 8), (⟨"Creasebook$Form", "frontsSeenFromAbove", "()I"⟩, 8), (⟨"Creasebook$Form", "isOutermost", "(IZ)Z"⟩, 8)]
theorem lw_r1 : ∀ q ∈ lw_privs_1, lw_okq q := List.forall_mem_cons.mpr ⟨lw_p0, List.forall_mem_cons.mpr ⟨lw_p1, List.forall_mem_cons.mpr ⟨lw_p2, List.forall_mem_cons.mpr ⟨lw_p3, List.forall_mem_cons.mpr ⟨lw_p4, List.forall_mem_cons.mpr ⟨lw_p5, List.forall_mem_cons.mpr ⟨lw_p6, List.forall_mem_cons.mpr ⟨lw_p7, List.forall_mem_cons.mpr ⟨lw_p8, List.forall_mem_cons.mpr ⟨lw_p9, List.forall_mem_cons.mpr ⟨lw_p10, List.forall_mem_cons.mpr ⟨lw_p11, List.forall_mem_cons.mpr ⟨lw_p12, List.forall_mem_cons.mpr ⟨lw_p13, List.forall_mem_cons.mpr ⟨lw_p14, List.forall_mem_cons.mpr ⟨lw_p15, fun _ h => absurd h List.not_mem_nil⟩⟩⟩⟩⟩⟩⟩⟩⟩⟩⟩⟩⟩⟩⟩⟩
theorem lw_p16 : lw_okq (⟨"Creasebook$Form", "turnRound", "()V"⟩, 8) := ⟨⟨by decide +kernel, by decide +kernel⟩, List.mem_of_getElem? (i := 72) (by decide +kernel), List.mem_of_getElem? (i := 220) (by decide +kernel), List.mem_of_getElem? (i := 221) (by decide +kernel)⟩
theorem lw_p17 : lw_okq (⟨"Creasebook$Form", "highestAt", "(II)I"⟩, 8) := ⟨⟨by decide +kernel, by decide +kernel⟩, List.mem_of_getElem? (i := 72) (by decide +kernel), List.mem_of_getElem? (i := 224) (by decide +kernel), List.mem_of_getElem? (i := 225) (by decide +kernel)⟩
theorem lw_p18 : lw_okq (⟨"Creasebook$Form", "cellAt", "(III)I"⟩, 8) := ⟨⟨by decide +kernel, by decide +kernel⟩, List.mem_of_getElem? (i := 72) (by decide +kernel), List.mem_of_getElem? (i := 228) (by decide +kernel), List.mem_of_getElem? (i := 229) (by decide +kernel)⟩
theorem lw_p19 : lw_okq (⟨"Creasebook$Form", "liesAt", "(III)Z"⟩, 8) := ⟨⟨by decide +kernel, by decide +kernel⟩, List.mem_of_getElem? (i := 72) (by decide +kernel), List.mem_of_getElem? (i := 232) (by decide +kernel), List.mem_of_getElem? (i := 233) (by decide +kernel)⟩
theorem lw_p20 : lw_okq (⟨"Creasebook$Paper", "dryAll", "()I"⟩, 9) := ⟨⟨by decide +kernel, by decide +kernel⟩, List.mem_of_getElem? (i := 30) (by decide +kernel), List.mem_of_getElem? (i := 240) (by decide +kernel), List.mem_of_getElem? (i := 241) (by decide +kernel)⟩
theorem lw_p21 : lw_okq (⟨"Creasebook$Paper", "isWet", "(I)Z"⟩, 9) := ⟨⟨by decide +kernel, by decide +kernel⟩, List.mem_of_getElem? (i := 30) (by decide +kernel), List.mem_of_getElem? (i := 244) (by decide +kernel), List.mem_of_getElem? (i := 245) (by decide +kernel)⟩
theorem lw_p22 : lw_okq (⟨"Creasebook$Form", "hasLine", "(II)Z"⟩, 8) := ⟨⟨by decide +kernel, by decide +kernel⟩, List.mem_of_getElem? (i := 72) (by decide +kernel), List.mem_of_getElem? (i := 254) (by decide +kernel), List.mem_of_getElem? (i := 255) (by decide +kernel)⟩
theorem lw_p23 : lw_okq (⟨"Creasebook$Form", "becomeFolded", "(LCreasebook$Form;I)V"⟩, 8) := ⟨⟨by decide +kernel, by decide +kernel⟩, List.mem_of_getElem? (i := 72) (by decide +kernel), List.mem_of_getElem? (i := 258) (by decide +kernel), List.mem_of_getElem? (i := 259) (by decide +kernel)⟩
theorem lw_p24 : lw_okq (⟨"Creasebook$Form", "mirroredColumn", "(II)I"⟩, 8) := ⟨⟨by decide +kernel, by decide +kernel⟩, List.mem_of_getElem? (i := 72) (by decide +kernel), List.mem_of_getElem? (i := 269) (by decide +kernel), List.mem_of_getElem? (i := 270) (by decide +kernel)⟩
theorem lw_p25 : lw_okq (⟨"Creasebook$Form", "mirroredRow", "(II)I"⟩, 8) := ⟨⟨by decide +kernel, by decide +kernel⟩, List.mem_of_getElem? (i := 72) (by decide +kernel), List.mem_of_getElem? (i := 273) (by decide +kernel), List.mem_of_getElem? (i := 274) (by decide +kernel)⟩
theorem lw_p26 : lw_okq (⟨"Creasebook$Form", "layerBehind", "(II)I"⟩, 8) := ⟨⟨by decide +kernel, by decide +kernel⟩, List.mem_of_getElem? (i := 72) (by decide +kernel), List.mem_of_getElem? (i := 277) (by decide +kernel), List.mem_of_getElem? (i := 278) (by decide +kernel)⟩
theorem lw_p27 : lw_okq (⟨"Creasebook$Form", "places", "()I"⟩, 8) := ⟨⟨by decide +kernel, by decide +kernel⟩, List.mem_of_getElem? (i := 72) (by decide +kernel), List.mem_of_getElem? (i := 284) (by decide +kernel), List.mem_of_getElem? (i := 285) (by decide +kernel)⟩
theorem lw_p28 : lw_okq (⟨"java/lang/Throwable", "fillInStackTrace", "(I)Ljava/lang/Throwable;"⟩, 6) := ⟨⟨by decide +kernel, by decide +kernel⟩, List.mem_of_getElem? (i := 346) (by decide +kernel), List.mem_of_getElem? (i := 344) (by decide +kernel), List.mem_of_getElem? (i := 345) (by decide +kernel)⟩
theorem lw_p29 : lw_okq (⟨"Creasebook$Paper", "countCreases", "(I)I"⟩, 9) := ⟨⟨by decide +kernel, by decide +kernel⟩, List.mem_of_getElem? (i := 30) (by decide +kernel), List.mem_of_getElem? (i := 376) (by decide +kernel), List.mem_of_getElem? (i := 377) (by decide +kernel)⟩
theorem lw_p30 : lw_okq (⟨"Creasebook$Paper", "sumOfMarks", "()I"⟩, 9) := ⟨⟨by decide +kernel, by decide +kernel⟩, List.mem_of_getElem? (i := 30) (by decide +kernel), List.mem_of_getElem? (i := 380) (by decide +kernel), List.mem_of_getElem? (i := 381) (by decide +kernel)⟩
theorem lw_p31 : lw_okq (⟨"Creasebook$Paper", "countSides", "(I)I"⟩, 9) := ⟨⟨by decide +kernel, by decide +kernel⟩, List.mem_of_getElem? (i := 30) (by decide +kernel), List.mem_of_getElem? (i := 384) (by decide +kernel), List.mem_of_getElem? (i := 385) (by decide +kernel)⟩
def lw_privs_2 : List (MethodName × Nat) := [(⟨"Creasebook$Form", "turnRound", "()V"⟩, 8), (⟨"Creasebook$Form", "highestAt", "(II)I"⟩, 8), (⟨"Creasebook$Form", "cellAt", "(III)I"⟩, 8), (⟨"Creasebook$Form", "liesAt", "(III)Z"⟩, 8), (⟨"Creasebook$Paper", "dryAll", "()I"⟩, 9), (⟨"Creasebook$Paper", "isWet", "(I)Z"⟩, 9), (⟨"Creasebook$Form", "hasLine", "(II)Z"⟩, 8), (⟨"Creasebook$Form", "becomeFolded", "(LCreasebook$Form;I)V"⟩, 8), (⟨"Creasebook$Form", "mirroredColumn", "(II)I"⟩, 8), (⟨"Creasebook$Form", "mirroredRow", "(II)I"⟩, 8), (⟨"Creasebook$Form", "layerBehind", "(II)I"⟩, 8), (⟨"Creasebook$Form", "places", "()I"⟩, 8), (⟨"java/lang/Throwable", "fillInStackTrace", "(I)Ljava/lang/Throwable;"⟩, 6), (⟨"Creasebook$Paper", "countCreases", "(I)I"⟩, 9), (⟨"Creasebook$Paper", "sumOfMarks", "()I"⟩, 9), (⟨"Creasebook$Paper", "countSides", "(I)I"⟩, 9)]
theorem lw_r2 : ∀ q ∈ lw_privs_2, lw_okq q := List.forall_mem_cons.mpr ⟨lw_p16, List.forall_mem_cons.mpr ⟨lw_p17, List.forall_mem_cons.mpr ⟨lw_p18, List.forall_mem_cons.mpr ⟨lw_p19, List.forall_mem_cons.mpr ⟨lw_p20, List.forall_mem_cons.mpr ⟨lw_p21, List.forall_mem_cons.mpr ⟨lw_p22, List.forall_mem_cons.mpr ⟨lw_p23, List.forall_mem_cons.mpr ⟨lw_p24, List.forall_mem_cons.mpr ⟨lw_p25, List.forall_mem_cons.mpr ⟨lw_p26, List.forall_mem_cons.mpr ⟨lw_p27, List.forall_mem_cons.mpr ⟨lw_p28, List.forall_mem_cons.mpr ⟨lw_p29, List.forall_mem_cons.mpr ⟨lw_p30, List.forall_mem_cons.mpr ⟨lw_p31, fun _ h => absurd h List.not_mem_nil⟩⟩⟩⟩⟩⟩⟩⟩⟩⟩⟩⟩⟩⟩⟩⟩
theorem lw_p32 : lw_okq (⟨"Creasebook$Paper", "sumOfHoles", "()I"⟩, 9) := ⟨⟨by decide +kernel, by decide +kernel⟩, List.mem_of_getElem? (i := 30) (by decide +kernel), List.mem_of_getElem? (i := 388) (by decide +kernel), List.mem_of_getElem? (i := 389) (by decide +kernel)⟩
theorem lw_p33 : lw_okq (⟨"Creasebook$Form", "highestPile", "()I"⟩, 8) := ⟨⟨by decide +kernel, by decide +kernel⟩, List.mem_of_getElem? (i := 72) (by decide +kernel), List.mem_of_getElem? (i := 392) (by decide +kernel), List.mem_of_getElem? (i := 393) (by decide +kernel)⟩
theorem lw_p34 : lw_okq (⟨"Creasebook$Form", "frontsSeenFromBelow", "()I"⟩, 8) := ⟨⟨by decide +kernel, by decide +kernel⟩, List.mem_of_getElem? (i := 72) (by decide +kernel), List.mem_of_getElem? (i := 396) (by decide +kernel), List.mem_of_getElem? (i := 397) (by decide +kernel)⟩
theorem lw_p35 : lw_okq (⟨"Creasebook", "digestOfCell", "(JI)J"⟩, 8) := ⟨⟨by decide +kernel, by decide +kernel⟩, List.mem_of_getElem? (i := 22) (by decide +kernel), List.mem_of_getElem? (i := 400) (by decide +kernel), List.mem_of_getElem? (i := 401) (by decide +kernel)⟩
theorem lw_p36 : lw_okq (⟨"Creasebook", "requireCell", "(I)V"⟩, 8) := ⟨⟨by decide +kernel, by decide +kernel⟩, List.mem_of_getElem? (i := 22) (by decide +kernel), List.mem_of_getElem? (i := 408) (by decide +kernel), List.mem_of_getElem? (i := 409) (by decide +kernel)⟩
theorem lw_p37 : lw_okq (⟨"Creasebook$Form", "isFrontUp", "(I)Z"⟩, 8) := ⟨⟨by decide +kernel, by decide +kernel⟩, List.mem_of_getElem? (i := 72) (by decide +kernel), List.mem_of_getElem? (i := 429) (by decide +kernel), List.mem_of_getElem? (i := 430) (by decide +kernel)⟩
theorem lw_p38 : lw_okq (⟨"Creasebook$Paper", "creasesOf", "(I)I"⟩, 9) := ⟨⟨by decide +kernel, by decide +kernel⟩, List.mem_of_getElem? (i := 30) (by decide +kernel), List.mem_of_getElem? (i := 439) (by decide +kernel), List.mem_of_getElem? (i := 440) (by decide +kernel)⟩
theorem lw_p39 : lw_okq (⟨"Creasebook$Paper", "cellBeside", "(IZ)I"⟩, 9) := ⟨⟨by decide +kernel, by decide +kernel⟩, List.mem_of_getElem? (i := 30) (by decide +kernel), List.mem_of_getElem? (i := 446) (by decide +kernel), List.mem_of_getElem? (i := 447) (by decide +kernel)⟩
theorem lw_p40 : lw_okq (⟨"Creasebook", "digestOfPlace", "(JII)J"⟩, 8) := ⟨⟨by decide +kernel, by decide +kernel⟩, List.mem_of_getElem? (i := 22) (by decide +kernel), List.mem_of_getElem? (i := 456) (by decide +kernel), List.mem_of_getElem? (i := 457) (by decide +kernel)⟩
theorem lw_p41 : lw_okq (⟨"Creasebook", "requirePlace", "(II)V"⟩, 8) := ⟨⟨by decide +kernel, by decide +kernel⟩, List.mem_of_getElem? (i := 22) (by decide +kernel), List.mem_of_getElem? (i := 464) (by decide +kernel), List.mem_of_getElem? (i := 465) (by decide +kernel)⟩
theorem lw_p42 : lw_okq (⟨"Creasebook", "holesAt", "(II)I"⟩, 8) := ⟨⟨by decide +kernel, by decide +kernel⟩, List.mem_of_getElem? (i := 22) (by decide +kernel), List.mem_of_getElem? (i := 472) (by decide +kernel), List.mem_of_getElem? (i := 473) (by decide +kernel)⟩
theorem lw_p43 : lw_okq (⟨"Creasebook", "gluedAt", "(II)I"⟩, 8) := ⟨⟨by decide +kernel, by decide +kernel⟩, List.mem_of_getElem? (i := 22) (by decide +kernel), List.mem_of_getElem? (i := 477) (by decide +kernel), List.mem_of_getElem? (i := 478) (by decide +kernel)⟩
theorem lw_p44 : lw_okq (⟨"Creasebook$Form", "isJustUpon", "(II)Z"⟩, 8) := ⟨⟨by decide +kernel, by decide +kernel⟩, List.mem_of_getElem? (i := 72) (by decide +kernel), List.mem_of_getElem? (i := 488) (by decide +kernel), List.mem_of_getElem? (i := 489) (by decide +kernel)⟩
theorem lw_p45 : lw_okq (⟨"Creasebook", "requireLine", "(II)V"⟩, 8) := ⟨⟨by decide +kernel, by decide +kernel⟩, List.mem_of_getElem? (i := 22) (by decide +kernel), List.mem_of_getElem? (i := 510) (by decide +kernel), List.mem_of_getElem? (i := 511) (by decide +kernel)⟩
theorem lw_p46 : lw_okq (⟨"Creasebook", "spreadInk", "(I)I"⟩, 8) := ⟨⟨by decide +kernel, by decide +kernel⟩, List.mem_of_getElem? (i := 22) (by decide +kernel), List.mem_of_getElem? (i := 534) (by decide +kernel), List.mem_of_getElem? (i := 535) (by decide +kernel)⟩
theorem lw_p47 : lw_okq (⟨"Creasebook", "cellThatMeets", "(II)I"⟩, 8) := ⟨⟨by decide +kernel, by decide +kernel⟩, List.mem_of_getElem? (i := 22) (by decide +kernel), List.mem_of_getElem? (i := 538) (by decide +kernel), List.mem_of_getElem? (i := 539) (by decide +kernel)⟩
def lw_privs_3 : List (MethodName × Nat) := [(⟨"Creasebook$Paper", "sumOfHoles", "()I"⟩, 9), (⟨"Creasebook$Form", "highestPile", "()I"⟩, 8), (⟨"Creasebook$Form", "frontsSeenFromBelow", "()I"⟩, 8), (⟨"Creasebook", "digestOfCell", "(JI)J"⟩, 8), (⟨"Creasebook", "requireCell", "(I)V"⟩, 8), (⟨"Creasebook$Form", "isFrontUp", "(I)Z"⟩, 8), (⟨"Creasebook$Paper", "creasesOf", "(I)I"⟩, 9), (⟨"Creasebook$Paper", "cellBeside", "(IZ)I"⟩, 9), (⟨"Creasebook", "digestOfPlace", "(JII)J"⟩, 8), (⟨"Creasebook", "requirePlace", "(II)V"⟩, 8), (⟨"Creasebook", "holesAt", "(II)I"⟩, 8), (⟨"Creasebook", "gluedAt", "(II)I"⟩, 8), (⟨"Creasebook$Form", "isJustUpon", "(II)Z"⟩, 8), (⟨"Creasebook", "requireLine", "(II)V"⟩, 8), (⟨"Creasebook", "spreadInk", "(I)I"⟩, 8), (⟨"Creasebook", "cellThatMeets", "(II)I"⟩, 8)]
theorem lw_r3 : ∀ q ∈ lw_privs_3, lw_okq q := List.forall_mem_cons.mpr ⟨lw_p32, List.forall_mem_cons.mpr ⟨lw_p33, List.forall_mem_cons.mpr ⟨lw_p34, List.forall_mem_cons.mpr ⟨lw_p35, List.forall_mem_cons.mpr ⟨lw_p36, List.forall_mem_cons.mpr ⟨lw_p37, List.forall_mem_cons.mpr ⟨lw_p38, List.forall_mem_cons.mpr ⟨lw_p39, List.forall_mem_cons.mpr ⟨lw_p40, List.forall_mem_cons.mpr ⟨lw_p41, List.forall_mem_cons.mpr ⟨lw_p42, List.forall_mem_cons.mpr ⟨lw_p43, List.forall_mem_cons.mpr ⟨lw_p44, List.forall_mem_cons.mpr ⟨lw_p45, List.forall_mem_cons.mpr ⟨lw_p46, List.forall_mem_cons.mpr ⟨lw_p47, fun _ h => absurd h List.not_mem_nil⟩⟩⟩⟩⟩⟩⟩⟩⟩⟩⟩⟩⟩⟩⟩⟩
theorem lw_p48 : lw_okq (⟨"Creasebook", "isBlot", "(III)Z"⟩, 8) := ⟨⟨by decide +kernel, by decide +kernel⟩, List.mem_of_getElem? (i := 22) (by decide +kernel), List.mem_of_getElem? (i := 546) (by decide +kernel), List.mem_of_getElem? (i := 547) (by decide +kernel)⟩
theorem lw_p49 : lw_okq (⟨"Creasebook", "outerSide", "(IZ)I"⟩, 8) := ⟨⟨by decide +kernel, by decide +kernel⟩, List.mem_of_getElem? (i := 22) (by decide +kernel), List.mem_of_getElem? (i := 550) (by decide +kernel), List.mem_of_getElem? (i := 551) (by decide +kernel)⟩
theorem lw_p50 : lw_okq (⟨"Creasebook$Paper", "wet", "(I)Z"⟩, 9) := ⟨⟨by decide +kernel, by decide +kernel⟩, List.mem_of_getElem? (i := 30) (by decide +kernel), List.mem_of_getElem? (i := 555) (by decide +kernel), List.mem_of_getElem? (i := 556) (by decide +kernel)⟩
theorem lw_p51 : lw_okq (⟨"Creasebook", "creaseAlong", "(I)I"⟩, 8) := ⟨⟨by decide +kernel, by decide +kernel⟩, List.mem_of_getElem? (i := 22) (by decide +kernel), List.mem_of_getElem? (i := 559) (by decide +kernel), List.mem_of_getElem? (i := 560) (by decide +kernel)⟩
theorem lw_p52 : lw_okq (⟨"Creasebook", "creasePair", "(IZI)Z"⟩, 8) := ⟨⟨by decide +kernel, by decide +kernel⟩, List.mem_of_getElem? (i := 22) (by decide +kernel), List.mem_of_getElem? (i := 563) (by decide +kernel), List.mem_of_getElem? (i := 564) (by decide +kernel)⟩
theorem lw_p53 : lw_okq (⟨"Creasebook$Form", "isLineBetween", "(III)Z"⟩, 8) := ⟨⟨by decide +kernel, by decide +kernel⟩, List.mem_of_getElem? (i := 72) (by decide +kernel), List.mem_of_getElem? (i := 567) (by decide +kernel), List.mem_of_getElem? (i := 568) (by decide +kernel)⟩
theorem lw_p54 : lw_okq (⟨"Creasebook$Paper", "press", "(III)V"⟩, 9) := ⟨⟨by decide +kernel, by decide +kernel⟩, List.mem_of_getElem? (i := 30) (by decide +kernel), List.mem_of_getElem? (i := 571) (by decide +kernel), List.mem_of_getElem? (i := 572) (by decide +kernel)⟩
theorem lw_p55 : lw_okq (⟨"Creasebook$Paper", "stick", "(II)V"⟩, 9) := ⟨⟨by decide +kernel, by decide +kernel⟩, List.mem_of_getElem? (i := 30) (by decide +kernel), List.mem_of_getElem? (i := 597) (by decide +kernel), List.mem_of_getElem? (i := 598) (by decide +kernel)⟩
theorem lw_p56 : lw_okq (⟨"Creasebook$Paper", "tellPair", "(II)I"⟩, 9) := ⟨⟨by decide +kernel, by decide +kernel⟩, List.mem_of_getElem? (i := 30) (by decide +kernel), List.mem_of_getElem? (i := 629) (by decide +kernel), List.mem_of_getElem? (i := 630) (by decide +kernel)⟩
theorem lw_p57 : lw_okq (⟨"Creasebook", "countBlots", "(I)I"⟩, 8) := ⟨⟨by decide +kernel, by decide +kernel⟩, List.mem_of_getElem? (i := 22) (by decide +kernel), List.mem_of_getElem? (i := 657) (by decide +kernel), List.mem_of_getElem? (i := 658) (by decide +kernel)⟩
theorem lw_p58 : lw_okq (⟨"CreasebookModel", "refuse", "(I)I"⟩, 13) := ⟨⟨by decide +kernel, by decide +kernel⟩, List.mem_of_getElem? (i := 665) (by decide +kernel), List.mem_of_getElem? (i := 786) (by decide +kernel), List.mem_of_getElem? (i := 787) (by decide +kernel)⟩
theorem lw_p59 : lw_okq (⟨"CreasebookModel", "cells", "()I"⟩, 13) := ⟨⟨by decide +kernel, by decide +kernel⟩, List.mem_of_getElem? (i := 665) (by decide +kernel), List.mem_of_getElem? (i := 794) (by decide +kernel), List.mem_of_getElem? (i := 795) (by decide +kernel)⟩
theorem lw_p60 : lw_okq (⟨"CreasebookModel", "isLine", "(II)Z"⟩, 13) := ⟨⟨by decide +kernel, by decide +kernel⟩, List.mem_of_getElem? (i := 665) (by decide +kernel), List.mem_of_getElem? (i := 802) (by decide +kernel), List.mem_of_getElem? (i := 803) (by decide +kernel)⟩
theorem lw_p61 : lw_okq (⟨"CreasebookModel", "blot", "(IIZZZ)I"⟩, 13) := ⟨⟨by decide +kernel, by decide +kernel⟩, List.mem_of_getElem? (i := 665) (by decide +kernel), List.mem_of_getElem? (i := 814) (by decide +kernel), List.mem_of_getElem? (i := 815) (by decide +kernel)⟩
theorem lw_p62 : lw_okq (⟨"CreasebookModel", "beside", "(IZ)I"⟩, 13) := ⟨⟨by decide +kernel, by decide +kernel⟩, List.mem_of_getElem? (i := 665) (by decide +kernel), List.mem_of_getElem? (i := 855) (by decide +kernel), List.mem_of_getElem? (i := 856) (by decide +kernel)⟩
theorem lw_p63 : lw_okq (⟨"CreasebookModel", "isAcross", "(IIII)Z"⟩, 13) := ⟨⟨by decide +kernel, by decide +kernel⟩, List.mem_of_getElem? (i := 665) (by decide +kernel), List.mem_of_getElem? (i := 859) (by decide +kernel), List.mem_of_getElem? (i := 860) (by decide +kernel)⟩
def lw_privs_4 : List (MethodName × Nat) := [(⟨"Creasebook", "isBlot", "(III)Z"⟩, 8), (⟨"Creasebook", "outerSide", "(IZ)I"⟩, 8), (⟨"Creasebook$Paper", "wet", "(I)Z"⟩, 9), (⟨"Creasebook", "creaseAlong", "(I)I"⟩, 8), (⟨"Creasebook", "creasePair", "(IZI)Z"⟩, 8), (⟨"Creasebook$Form", "isLineBetween", "(III)Z"⟩, 8), (⟨"Creasebook$Paper", "press", "(III)V"⟩, 9), (⟨"Creasebook$Paper", "stick", "(II)V"⟩, 9), (⟨"Creasebook$Paper", "tellPair", "(II)I"⟩, 9), (⟨"Creasebook", "countBlots", "(I)I"⟩, 8), (⟨"CreasebookModel", "refuse", "(I)I"⟩, 13), (⟨"CreasebookModel", "cells", "()I"⟩, 13), (⟨"CreasebookModel", "isLine", "(II)Z"⟩, 13), (⟨"CreasebookModel", "blot", "(IIZZZ)I"⟩, 13), (⟨"CreasebookModel", "beside", "(IZ)I"⟩, 13), (⟨"CreasebookModel", "isAcross", "(IIII)Z"⟩, 13)]
theorem lw_r4 : ∀ q ∈ lw_privs_4, lw_okq q := List.forall_mem_cons.mpr ⟨lw_p48, List.forall_mem_cons.mpr ⟨lw_p49, List.forall_mem_cons.mpr ⟨lw_p50, List.forall_mem_cons.mpr ⟨lw_p51, List.forall_mem_cons.mpr ⟨lw_p52, List.forall_mem_cons.mpr ⟨lw_p53, List.forall_mem_cons.mpr ⟨lw_p54, List.forall_mem_cons.mpr ⟨lw_p55, List.forall_mem_cons.mpr ⟨lw_p56, List.forall_mem_cons.mpr ⟨lw_p57, List.forall_mem_cons.mpr ⟨lw_p58, List.forall_mem_cons.mpr ⟨lw_p59, List.forall_mem_cons.mpr ⟨lw_p60, List.forall_mem_cons.mpr ⟨lw_p61, List.forall_mem_cons.mpr ⟨lw_p62, List.forall_mem_cons.mpr ⟨lw_p63, fun _ h => absurd h List.not_mem_nil⟩⟩⟩⟩⟩⟩⟩⟩⟩⟩⟩⟩⟩⟩⟩⟩
theorem lw_p64 : lw_okq (⟨"java/util/ArrayList", "add", "(Ljava/lang/Object;[Ljava/lang/Object;I)V"⟩, 3) := ⟨⟨by decide +kernel, by decide +kernel⟩, List.mem_of_getElem? (i := 709) (by decide +kernel), List.mem_of_getElem? (i := 869) (by decide +kernel), List.mem_of_getElem? (i := 870) (by decide +kernel)⟩
theorem lw_p65 : lw_okq (⟨"java/util/ArrayList", "grow", "()[Ljava/lang/Object;"⟩, 3) := ⟨⟨by decide +kernel, by decide +kernel⟩, List.mem_of_getElem? (i := 709) (by decide +kernel), List.mem_of_getElem? (i := 873) (by decide +kernel), List.mem_of_getElem? (i := 874) (by decide +kernel)⟩
theorem lw_p66 : lw_okq (⟨"java/util/ArrayList", "grow", "(I)[Ljava/lang/Object;"⟩, 3) := ⟨⟨by decide +kernel, by decide +kernel⟩, List.mem_of_getElem? (i := 709) (by decide +kernel), List.mem_of_getElem? (i := 877) (by decide +kernel), List.mem_of_getElem? (i := 878) (by decide +kernel)⟩
theorem lw_p67 : lw_okq (⟨"java/util/ArrayList", "fastRemove", "([Ljava/lang/Object;I)V"⟩, 3) := ⟨⟨by decide +kernel, by decide +kernel⟩, List.mem_of_getElem? (i := 709) (by decide +kernel), List.mem_of_getElem? (i := 938) (by decide +kernel), List.mem_of_getElem? (i := 939) (by decide +kernel)⟩
theorem lw_p68 : lw_okq (⟨"CreasebookModel", "isPlace", "(II)Z"⟩, 13) := ⟨⟨by decide +kernel, by decide +kernel⟩, List.mem_of_getElem? (i := 665) (by decide +kernel), List.mem_of_getElem? (i := 964) (by decide +kernel), List.mem_of_getElem? (i := 965) (by decide +kernel)⟩
theorem lw_p69 : lw_okq (⟨"CreasebookModel", "inked", "(I)I"⟩, 13) := ⟨⟨by decide +kernel, by decide +kernel⟩, List.mem_of_getElem? (i := 665) (by decide +kernel), List.mem_of_getElem? (i := 972) (by decide +kernel), List.mem_of_getElem? (i := 973) (by decide +kernel)⟩
theorem lw_p70 : lw_okq (⟨"CreasebookModel", "gluedAt", "(II)I"⟩, 13) := ⟨⟨by decide +kernel, by decide +kernel⟩, List.mem_of_getElem? (i := 665) (by decide +kernel), List.mem_of_getElem? (i := 984) (by decide +kernel), List.mem_of_getElem? (i := 985) (by decide +kernel)⟩
theorem lw_p71 : lw_okq (⟨"CreasebookModel", "ofPlaceNow", "(III)I"⟩, 13) := ⟨⟨by decide +kernel, by decide +kernel⟩, List.mem_of_getElem? (i := 665) (by decide +kernel), List.mem_of_getElem? (i := 992) (by decide +kernel), List.mem_of_getElem? (i := 993) (by decide +kernel)⟩
theorem lw_p72 : lw_okq (⟨"CreasebookModel", "holesAt", "(II)I"⟩, 13) := ⟨⟨by decide +kernel, by decide +kernel⟩, List.mem_of_getElem? (i := 665) (by decide +kernel), List.mem_of_getElem? (i := 996) (by decide +kernel), List.mem_of_getElem? (i := 997) (by decide +kernel)⟩
theorem lw_p73 : lw_okq (⟨"CreasebookModel", "isCell", "(I)Z"⟩, 13) := ⟨⟨by decide +kernel, by decide +kernel⟩, List.mem_of_getElem? (i := 665) (by decide +kernel), List.mem_of_getElem? (i := 1008) (by decide +kernel), List.mem_of_getElem? (i := 1009) (by decide +kernel)⟩
theorem lw_p74 : lw_okq (⟨"CreasebookModel", "ofCellNow", "(II)I"⟩, 13) := ⟨⟨by decide +kernel, by decide +kernel⟩, List.mem_of_getElem? (i := 665) (by decide +kernel), List.mem_of_getElem? (i := 1012) (by decide +kernel), List.mem_of_getElem? (i := 1013) (by decide +kernel)⟩
theorem lw_p75 : lw_okq (⟨"CreasebookModel", "creased", "(I)I"⟩, 13) := ⟨⟨by decide +kernel, by decide +kernel⟩, List.mem_of_getElem? (i := 665) (by decide +kernel), List.mem_of_getElem? (i := 1016) (by decide +kernel), List.mem_of_getElem? (i := 1017) (by decide +kernel)⟩
theorem lw_p76 : lw_okq (⟨"CreasebookModel", "ofPairNow", "(IZI)I"⟩, 13) := ⟨⟨by decide +kernel, by decide +kernel⟩, List.mem_of_getElem? (i := 665) (by decide +kernel), List.mem_of_getElem? (i := 1024) (by decide +kernel), List.mem_of_getElem? (i := 1025) (by decide +kernel)⟩
theorem lw_p77 : lw_okq (⟨"CreasebookModel", "manyNow", "(I)I"⟩, 13) := ⟨⟨by decide +kernel, by decide +kernel⟩, List.mem_of_getElem? (i := 665) (by decide +kernel), List.mem_of_getElem? (i := 1036) (by decide +kernel), List.mem_of_getElem? (i := 1037) (by decide +kernel)⟩
theorem lw_p78 : lw_okq (⟨"CreasebookModel", "creases", "(I)I"⟩, 13) := ⟨⟨by decide +kernel, by decide +kernel⟩, List.mem_of_getElem? (i := 665) (by decide +kernel), List.mem_of_getElem? (i := 1040) (by decide +kernel), List.mem_of_getElem? (i := 1041) (by decide +kernel)⟩
theorem lw_p79 : lw_okq (⟨"CreasebookModel", "bestNow", "()I"⟩, 13) := ⟨⟨by decide +kernel, by decide +kernel⟩, List.mem_of_getElem? (i := 665) (by decide +kernel), List.mem_of_getElem? (i := 1068) (by decide +kernel), List.mem_of_getElem? (i := 1069) (by decide +kernel)⟩
def lw_privs_5 : List (MethodName × Nat) := [(⟨"java/util/ArrayList", "add", "(Ljava/lang/Object;[Ljava/lang/Object;I)V"⟩, 3), (⟨"java/util/ArrayList", "grow", "()[Ljava/lang/Object;"⟩, 3), (⟨"java/util/ArrayList", "grow", "(I)[Ljava/lang/Object;"⟩, 3), (⟨"java/util/ArrayList", "fastRemove", "([Ljava/lang/Object;I)V"⟩, 3), (⟨"CreasebookModel", "isPlace", "(II)Z"⟩, 13), (⟨"CreasebookModel", "inked", "(I)I"⟩, 13), (⟨"CreasebookModel", "gluedAt", "(II)I"⟩, 13), (⟨"CreasebookModel", "ofPlaceNow", "(III)I"⟩, 13), (⟨"CreasebookModel", "holesAt", "(II)I"⟩, 13), (⟨"CreasebookModel", "isCell", "(I)Z"⟩, 13), (⟨"CreasebookModel", "ofCellNow", "(II)I"⟩, 13), (⟨"CreasebookModel", "creased", "(I)I"⟩, 13), (⟨"CreasebookModel", "ofPairNow", "(IZI)I"⟩, 13), (⟨"CreasebookModel", "manyNow", "(I)I"⟩, 13), (⟨"CreasebookModel", "creases", "(I)I"⟩, 13), (⟨"CreasebookModel", "bestNow", "()I"⟩, 13)]
theorem lw_r5 : ∀ q ∈ lw_privs_5, lw_okq q := List.forall_mem_cons.mpr ⟨lw_p64, List.forall_mem_cons.mpr ⟨lw_p65, List.forall_mem_cons.mpr ⟨lw_p66, List.forall_mem_cons.mpr ⟨lw_p67, List.forall_mem_cons.mpr ⟨lw_p68, List.forall_mem_cons.mpr ⟨lw_p69, List.forall_mem_cons.mpr ⟨lw_p70, List.forall_mem_cons.mpr ⟨lw_p71, List.forall_mem_cons.mpr ⟨lw_p72, List.forall_mem_cons.mpr ⟨lw_p73, List.forall_mem_cons.mpr ⟨lw_p74, List.forall_mem_cons.mpr ⟨lw_p75, List.forall_mem_cons.mpr ⟨lw_p76, List.forall_mem_cons.mpr ⟨lw_p77, List.forall_mem_cons.mpr ⟨lw_p78, List.forall_mem_cons.mpr ⟨lw_p79, fun _ h => absurd h List.not_mem_nil⟩⟩⟩⟩⟩⟩⟩⟩⟩⟩⟩⟩⟩⟩⟩⟩
theorem lw_p80 : lw_okq (⟨"CreasebookModel", "isCode", "(I)Z"⟩, 13) := ⟨⟨by decide +kernel, by decide +kernel⟩, List.mem_of_getElem? (i := 665) (by decide +kernel), List.mem_of_getElem? (i := 1072) (by decide +kernel), List.mem_of_getElem? (i := 1073) (by decide +kernel)⟩
theorem lw_p81 : lw_okq (⟨"CreasebookModel", "byCode", "(I)LCreasebookModel$Form;"⟩, 13) := ⟨⟨by decide +kernel, by decide +kernel⟩, List.mem_of_getElem? (i := 665) (by decide +kernel), List.mem_of_getElem? (i := 1076) (by decide +kernel), List.mem_of_getElem? (i := 1077) (by decide +kernel)⟩
theorem lw_p82 : lw_okq (⟨"CreasebookModel", "bringNow", "(II)I"⟩, 13) := ⟨⟨by decide +kernel, by decide +kernel⟩, List.mem_of_getElem? (i := 665) (by decide +kernel), List.mem_of_getElem? (i := 1084) (by decide +kernel), List.mem_of_getElem? (i := 1085) (by decide +kernel)⟩
theorem lw_p83 : lw_okq (⟨"CreasebookModel", "fewestNow", "()I"⟩, 13) := ⟨⟨by decide +kernel, by decide +kernel⟩, List.mem_of_getElem? (i := 665) (by decide +kernel), List.mem_of_getElem? (i := 1095) (by decide +kernel), List.mem_of_getElem? (i := 1096) (by decide +kernel)⟩
theorem lw_p84 : lw_okq (⟨"CreasebookModel", "add", "(I)V"⟩, 13) := ⟨⟨by decide +kernel, by decide +kernel⟩, List.mem_of_getElem? (i := 665) (by decide +kernel), List.mem_of_getElem? (i := 1104) (by decide +kernel), List.mem_of_getElem? (i := 1105) (by decide +kernel)⟩
def lw_privs_6 : List (MethodName × Nat) := [(⟨"CreasebookModel", "isCode", "(I)Z"⟩, 13), (⟨"CreasebookModel", "byCode", "(I)LCreasebookModel$Form;"⟩, 13), (⟨"CreasebookModel", "bringNow", "(II)I"⟩, 13), (⟨"CreasebookModel", "fewestNow", "()I"⟩, 13), (⟨"CreasebookModel", "add", "(I)V"⟩, 13)]
theorem lw_r6 : ∀ q ∈ lw_privs_6, lw_okq q := List.forall_mem_cons.mpr ⟨lw_p80, List.forall_mem_cons.mpr ⟨lw_p81, List.forall_mem_cons.mpr ⟨lw_p82, List.forall_mem_cons.mpr ⟨lw_p83, List.forall_mem_cons.mpr ⟨lw_p84, fun _ h => absurd h List.not_mem_nil⟩⟩⟩⟩⟩
def lw_privs : List (MethodName × Nat) := lw_privs_1 ++ (lw_privs_2 ++ (lw_privs_3 ++ (lw_privs_4 ++ (lw_privs_5 ++ (lw_privs_6)))))
def lw_tbl : List Cond := k2_sels lw_privs ++ tables_1
theorem lw_privs_ok : ∀ q ∈ lw_privs, lw_okq q := by
  show ∀ q ∈ lw_privs_1 ++ (lw_privs_2 ++ (lw_privs_3 ++ (lw_privs_4 ++ (lw_privs_5 ++ (lw_privs_6))))), lw_okq q
  exact List.forall_mem_append.mpr ⟨lw_r1, List.forall_mem_append.mpr ⟨lw_r2, List.forall_mem_append.mpr ⟨lw_r3, List.forall_mem_append.mpr ⟨lw_r4, List.forall_mem_append.mpr ⟨lw_r5, lw_r6⟩⟩⟩⟩⟩
/-- the streams that the claim lets the run draw from -/
abbrev lw_cs : List Choice := [Jvm.Choice.named "NaN.bits"]
theorem lw_bits : nanBits ∈ lw_cs := by first | decide | exact List.mem_cons_self | simp [lw_cs, nanBits]
-- ===== end of PART A; then your names; then what follows =====
end
section
/-! ===== BEGIN words of one list among another's, by their places ===== -/
theorem goodIn_r {big : List Cond} (ws : List Cond) (ps : List Nat) (hp : ws = ps.filterMap (fun i => big[i]?)) (h : ws.all goodWord = true) : GoodIn big ws := by
  intro w hw
  have h1 := List.all_eq_true.mp h w hw
  rw [hp] at hw
  obtain ⟨i, -, hi⟩ := List.mem_filterMap.mp hw
  have hm : w ∈ big := by first | exact List.mem_of_getElem? hi | exact List.getElem?_mem hi
  exact ⟨hm, good_of_word h1⟩
theorem goodIn_app {big a b : List Cond} (ha : GoodIn big a) (hb : GoodIn big b) : GoodIn big (a ++ b) := fun w h => (List.mem_append.mp h).elim (ha w) (hb w)
theorem goodIn_ca {big a b : List Cond} {c : Cond} (ha : GoodIn big (c :: a)) (hb : GoodIn big b) : GoodIn big (c :: (a ++ b)) := fun w h => (List.mem_cons.mp h).elim (fun e => ha w (List.mem_cons.mpr (Or.inl e))) (fun h => (List.mem_append.mp h).elim (fun h => ha w (List.mem_cons.mpr (Or.inr h))) (hb w))
theorem goodIn_sub {big ws : List Cond} (hm : ∀ w ∈ ws, w ∈ big) (h : ws.all goodWord = true) : GoodIn big ws := fun w hw => ⟨hm w hw, good_of_word (List.all_eq_true.mp h w hw)⟩
/-! ===== END ===== -/

/-! ===== BEGIN exceptions that leave a method, and their catching by the caller (launches without stack traces) ===== -/
section VXA
/-! The laws vx_back, vx_callV, vx_callS, vx_callSW, vx_throw0, vx_throwS follow proofs of the library, with one case more: JvmDerived/Free/Laws.lean (Back.of_free), Shelf42/LK1.lean (callV, callS), Shelf/KitTraced.lean (throwNew0V, throwNewS). -/
/-- where a method has thrown q: the class by its name, the cell, what was written, the world -/
def vx_T (XC : String → State → State → Prop) (st : State) (q : Addr) (t : State) (mc ms : Nat) (free : Addr → Prop) : Prop :=
  ∃ (E : String) (ce : Cell) (L : List Loc), XC E st t ∧ t.heap[q]? = some ce ∧ ce.vm = .none ∧ st.vm.findClass E = some ce.cls ∧ st.WarmedH t.vm ∧ st.sameButNew ({ t with vm := st.vm } : State) L mc ms ∧ ∀ z ∈ L, free z.base
def vx_Q (Qc : Array Value → State → Outcome → State → Prop) (XC : String → State → State → Prop) (mc ms : Nat) (free : Addr → Prop) : Array Value → State → Outcome → State → Prop := fun a st o t =>
  (Qc a st o t ∧ ∃ L, FrameEnd st o t L mc ms ∧ ∀ q ∈ L, free q.base) ∨ ∃ q, o = .threw q ∧ vx_T XC st q t mc ms free
/-- a callee that returns or throws -/
def vx_Met (l : Launch) (y : MethodName) (ws : List Cond) (rm : Room) (Pc : Array Value → State → Prop) (Qc : Array Value → State → Outcome → State → Prop) (XC : String → State → State → Prop) (mc ms : Nat) (free : Addr → Prop) : Prop :=
  MetFree l y (headSpec ws rm) Pc (fun _ _ _ _ _ => True) (vx_Q Qc XC mc ms free)
def vx_Post (XC : String → State → State → Prop) (mc ms : Nat) (free : Addr → Prop) : Pt → Array Value → Addr → Pt → Prop := fun A a q B =>
  ∃ (g : JFrame) (mk : MethodId) (t : State) (L : List Loc) (E : String) (ce : Cell), B.U.heap = t.heap ∧ B.U.vm = t.vm ∧ XC E (A.U.calling g mk a) t ∧ t.heap[q]? = some ce ∧ ce.vm = .none ∧ A.U.vm.findClass E = some ce.cls ∧ B.locs = A.locs ++ L ∧ (∀ z ∈ L, free z.base) ∧ B.cells = A.cells + mc ∧ B.slots = A.slots + ms
def vx_Back (l : Launch) (R : Room) (p : Program) (e : Env) (below : List Frame) (s : State) (sargs : Array Value) (y : MethodName) (len W9 : Nat)
    (Pre : Pt → Array Value → Prop) (Post : Pt → Array Value → Option Value → Pt → Prop) (PostX : Pt → Array Value → Addr → Pt → Prop) : Prop :=
  ∀ (m : MethodId) (meth : Method) (c : Code) (A : Pt) (g : JFrame) (ig : Instr) (mk : MethodId) (a : Array Value),
    Stand p l e R s m sargs below meth c A.U A.locs A.cells A.slots → g.method = m → g.locals.size = c.maxLocals → decode c.code g.pc = .ok (ig, len) →
    2 * g.monitorRoom + (g.stack.map fun v => v.category).sum ≤ W9 → A.U.methodNamed? y = some mk → Pre A a →
    (∃ (v : Option Value) (B : Pt), Stand p l e R s m sargs below meth c B.U B.locs B.cells B.slots ∧ Post A a v B ∧
      Steps p.tables e below (doInvoke e (A.U.setTop g) [] mk a).1 (B.U.setTop { g with pc := g.pc + len, stack := v.toList ++ g.stack })) ∨
    (∃ (q : Addr) (B : Pt), Stand p l e R s m sargs below meth c B.U B.locs B.cells B.slots ∧ PostX A a q B ∧
      Steps p.tables e below (doInvoke e (A.U.setTop g) [] mk a).1 ((B.U.setTop g).pushFrame (.throwing q)))
section Payer
variable {l : Launch} {R : Room} {p : Program} {e : Env} {below : List Frame} {s : State} {sargs : Array Value} {y : MethodName} {len W9 : Nat}
theorem vx_back {ws : List Cond} {rm : Room} {Pc : Array Value → State → Prop} {Qc : Array Value → State → Outcome → State → Prop} {XC : String → State → State → Prop} {mc ms : Nat} {free : Addr → Prop} {bytes : ByteArray} {maxL : Nat} {ret : Option FieldType}
    (hM : vx_Met l y ws rm Pc Qc XC mc ms free) (hblind : FrameBlind Pc) (hrc : rm.cells = mc) (hrs : rm.slots = ms)
    (hframes : rm.frames + 1 ≤ R.frames) (hlocals : W9 + (maxL + 11) + rm.locals ≤ R.locals)
    (hws : ∀ w ∈ ws, ∀ a' U, s.WarmedH U.vm → w.before a' U = true) (hcode : Cond.code y bytes maxL ret ∈ ws) (hinit : ∀ a' U, s.WarmedH U.vm → (Cond.initialized y.cls).before a' U = true) :
    vx_Back l R p e below s sargs y len W9 (PreOf R mc ms Pc) (PostOf Qc mc ms free) (vx_Post XC mc ms free) := by
  intro m meth c A g ig mk a X hg hsize hdg hW hn hp
  have h1 : (headSpec ws rm).pre.before a A.U = true := atoms_intro fun w hw => hws w hw _ _ X.warmed
  have h2 : (Cond.code y bytes maxL ret).before a A.U = true := hws _ hcode _ _ X.warmed
  have h3 : (Cond.initialized y.cls).before a A.U = true := hinit _ _ X.warmed
  have h4 : A.cells + (headSpec ws rm).room.cells ≤ R.cells := by rw [show (headSpec ws rm).room.cells = mc from hrc]; exact hp.1
  have h5 : A.slots + (headSpec ws rm).room.slots ≤ R.slots := by rw [show (headSpec ws rm).room.slots = ms from hrs]; exact hp.2.1
  have hPc : Pc a (A.U.calling g mk a) := hblind _ _ _ _ hp.2.2
  obtain ⟨U, Ls, c0, s0⟩ := A
  dsimp only [Pt.U, Pt.locs, Pt.cells, Pt.slots] at h1 h2 h3 h4 h5 X hn hPc ⊢
  obtain ⟨methY, cY, hmY, hcY, -, hlY, -, -, -, -⟩ := Cond.code_spec hn h2
  obtain ⟨kY, hkY, -⟩ := className_of_methodNamed hn
  have hinitY : kY.init = .initialized := Cond.initialized_spec (findClass_of_methodNamed hn) hkY h3
  have h : At U g.method c below := by rw [hg]; exact X.here
  have hlocals9 : W9 + (maxL + 11) + (headSpec ws rm).room.locals ≤ R.locals := hlocals
  have happ : (headSpec ws rm).appliesLoose y e.platform (U.calling g mk a) = true :=
    Spec.appliesLoose_calling (g := g) h hdg hn hkY hinitY
      (X.room_calling (g := g) (R' := (headSpec ws rm).room) hsize hmY hcY hframes (by rw [hlY]; omega) h4 h5) h1
  obtain ⟨mid, hmid⟩ := h.above
  have hfr : (U.setTop g).frames = (.java g :: mid) ++ below := by rw [State.frames_setTop' g h.top, hmid]; rfl
  obtain ⟨o, s₂, hsteps, -, hend, hq⟩ := Steps.callFree hM p X.admits X.cas X.clock (acts := []) hfr happ hPc trivial
  have hq' : vx_Q Qc XC mc ms free a (U.calling g mk a) o s₂ := hq
  rw [State.frames_setTop' g h.top] at hend
  obtain ⟨g₀, hg0⟩ := Option.isSome_iff_exists.mp h.top
  obtain ⟨r, hr⟩ := State.topJava?_eq_some.mp hg0
  have hr' : (({ U with heap := s₂.heap, slotsUsed := s₂.slotsUsed } : State).setVm s₂.vm).frames = .java g₀ :: r := hr
  rcases hq' with ⟨hqc, L, hfe, hL⟩ | ⟨q, rfl, E, ce, L, hx, hce, hcv, hcl, hW₂, hsm, hL⟩
  · obtain ⟨⟨v, rfl⟩, hW₂, e2, q2, q3, q4, q5, q6⟩ := id hfe
    have e3 : s₂ = ({ (U.calling g mk a).setFrames s₂.frames with heap := s₂.heap, slotsUsed := s₂.slotsUsed } : State).setVm s₂.vm := by
      have : s₂ = ({ s₂ with vm := (U.calling g mk a).vm } : State).setVm s₂.vm := rfl
      rw [e2] at this
      exact this
    obtain ⟨c₂, i₂, len₂, hc₂, hd₂, hf₂⟩ := hend
    have hW' : U.WarmedH s₂.vm := hW₂
    have hcc : c₂ = c := by
      have h1 : s₂.code? g.method = U.code? g.method := by
        rw [State.code?_eq, State.code?_eq, hW'.alike.method?]
      exact Option.some.inj (hc₂.symm.trans (h1.trans h.code))
    subst hcc
    have hlen : len₂ = len := by rw [hdg] at hd₂; cases hd₂; rfl
    subst hlen
    have hs₂ : s₂ = (({ U with heap := s₂.heap, slotsUsed := s₂.slotsUsed } : State).setVm s₂.vm).setTop { g with pc := g.pc + len₂, stack := v.toList ++ g.stack } := by
      refine e3.trans ?_
      rw [hf₂, State.calling_eq h.top, State.setFrames_setFrames, State.setTop_of_frames _ hr', hr]
      rfl
    have hsame : U.sameButNew ({ U with heap := s₂.heap, slotsUsed := s₂.slotsUsed } : State) L mc ms := by
      refine ⟨?_, q2, q3, q4, q5, q6⟩
      obtain ⟨t, ht, -⟩ := State.frames_cons hr
      show ({ U with heap := s₂.heap, slotsUsed := s₂.slotsUsed } : State) = { U.setFrames U.frames with heap := s₂.heap, slotsUsed := s₂.slotsUsed }
      rw [State.setFrames_self ht]
    subst hg
    refine Or.inl ⟨v, ⟨(({ U with heap := s₂.heap, slotsUsed := s₂.slotsUsed } : State).setVm s₂.vm), Ls ++ L, c0 + mc, s0 + ms⟩,
      ⟨X.admits, X.cas, X.clock, X.frames, X.room, X.hears, X.method, X.code, (X.here.setHeapUsed s₂.heap s₂.slotsUsed).setVm hW'.alike, X.tail, State.WarmedH.trans X.warmed hW', X.limits, X.bytes, X.same.trans (hsame.setVm s.vm)⟩,
      ⟨g, mk, s₂, L, rfl, rfl, hqc, rfl, hL, rfl, rfl⟩, ?_⟩
    show Steps p.tables e below _ ((({ U with heap := s₂.heap, slotsUsed := s₂.slotsUsed } : State).setVm s₂.vm).setTop { g with pc := g.pc + len₂, stack := v.toList ++ g.stack })
    rw [← hs₂]
    exact hsteps
  · obtain ⟨e2, q2, q3, q4, q5, q6⟩ := id hsm
    have e3 : s₂ = ({ (U.calling g mk a).setFrames s₂.frames with heap := s₂.heap, slotsUsed := s₂.slotsUsed } : State).setVm s₂.vm := by
      have : s₂ = ({ s₂ with vm := (U.calling g mk a).vm } : State).setVm s₂.vm := rfl
      rw [e2] at this
      exact this
    have hf₂ : s₂.frames = .throwing q :: .java g :: U.frames.tail := hend
    have hW' : U.WarmedH s₂.vm := hW₂
    have hs₂ : s₂ = ((({ U with heap := s₂.heap, slotsUsed := s₂.slotsUsed } : State).setVm s₂.vm).setTop g).pushFrame (.throwing q) := by
      refine e3.trans ?_
      rw [hf₂, State.calling_eq h.top, State.setFrames_setFrames, State.pushFrame, State.frames_setTop _ hr', State.setTop_of_frames _ hr', State.setFrames_setFrames, hr]
      rfl
    have hsame : U.sameButNew ({ U with heap := s₂.heap, slotsUsed := s₂.slotsUsed } : State) L mc ms := by
      refine ⟨?_, q2, q3, q4, q5, q6⟩
      obtain ⟨t, ht, -⟩ := State.frames_cons hr
      show ({ U with heap := s₂.heap, slotsUsed := s₂.slotsUsed } : State) = { U.setFrames U.frames with heap := s₂.heap, slotsUsed := s₂.slotsUsed }
      rw [State.setFrames_self ht]
    subst hg
    refine Or.inr ⟨q, ⟨(({ U with heap := s₂.heap, slotsUsed := s₂.slotsUsed } : State).setVm s₂.vm), Ls ++ L, c0 + mc, s0 + ms⟩,
      ⟨X.admits, X.cas, X.clock, X.frames, X.room, X.hears, X.method, X.code, (X.here.setHeapUsed s₂.heap s₂.slotsUsed).setVm hW'.alike, X.tail, State.WarmedH.trans X.warmed hW', X.limits, X.bytes, X.same.trans (hsame.setVm s.vm)⟩,
      ⟨g, mk, s₂, L, E, ce, rfl, rfl, hx, hce, hcv, hcl, rfl, hL, rfl, rfl⟩, ?_⟩
    show Steps p.tables e below _ (((({ U with heap := s₂.heap, slotsUsed := s₂.slotsUsed } : State).setVm s₂.vm).setTop g).pushFrame (.throwing q))
    rw [← hs₂]
    exact hsteps
end Payer
section Calls
variable {p : Program} {l : Launch} {e : Env} {R : Room} {s : State} {m : MethodId} {args : Array Value} {below : List Frame} {meth : Method} {c : Code} {T : State} {locs : List Loc} {cells slots : Nat}
theorem vx_callV (X : Stand p l e R s m args below meth c T locs cells slots) (hexec : p.tables.exec = Jvm.exec) {own C : String} {index : Nat} {y : MethodName} {bytes : ByteArray} {maxL : Nat} {ret : Option FieldType}
    (hown : s.vm.findClass own = some m.cls) (hlink : (Cond.methodLink own index y).before args s = true) (hinst : (Cond.instanceMethod y).before args s = true) (hsel : (Cond.selects C y y).before args s = true)
    (hcode : (Cond.code y bytes maxL ret).before args s = true) (hy : y.cls ≠ "java/lang/invoke/MethodHandle" ∧ y.cls ≠ "java/lang/invoke/VarHandle")
    {W9 : Nat} {Pre : Pt → Array Value → Prop} {Post : Pt → Array Value → Option Value → Pt → Prop} {PostX : Pt → Array Value → Addr → Pt → Prop} (hK : vx_Back l R p e below s args y 3 W9 Pre Post PostX)
    {b : Addr} {cellB : Cell} (hcell : T.heap[b]? = some cellB) (hobj : cellB.vm.isStatics = false) (hcls : s.vm.findClass C = some cellB.cls)
    {g : JFrame} (hg : g.method = m) (hsize : g.locals.size = c.maxLocals) {argsL rest : List Value} (hlen : ∀ sig, parseMethodDescriptor y.desc = some sig → argsL.length = sig.parameters.length)
    (hstack : g.stack = argsL.reverse ++ .ref b :: rest) (hW : 2 * g.monitorRoom + (rest.map fun v => v.category).sum ≤ W9) (hdg : decode c.code g.pc = .ok (.invokevirtual index, 3))
    (hpre : ∀ vm₁, s.WarmedH vm₁ → Pre ⟨T.setVm vm₁, locs, cells, slots⟩ (Value.ref b :: argsL).toArray) :
    (∃ (v : Option Value) (vm₁ : Vm) (B : Pt), s.WarmedH vm₁ ∧ Stand p l e R s m args below meth c B.U B.locs B.cells B.slots ∧ Post ⟨T.setVm vm₁, locs, cells, slots⟩ (Value.ref b :: argsL).toArray v B ∧
      ∀ target, Steps p.tables e below (B.U.setTop { g with pc := g.pc + 3, stack := v.toList ++ rest }) target → Steps p.tables e below (T.setTop g) target) ∨
    (∃ (q : Addr) (vm₁ : Vm) (B : Pt), s.WarmedH vm₁ ∧ Stand p l e R s m args below meth c B.U B.locs B.cells B.slots ∧ PostX ⟨T.setVm vm₁, locs, cells, slots⟩ (Value.ref b :: argsL).toArray q B ∧
      Steps p.tables e below (T.setTop g) ((B.U.setTop { g with stack := rest }).pushFrame (.throwing q))) := by
  obtain ⟨mk, methM, hnamed, hmethM, hstM, habM⟩ := Cond.instanceMethod_spec hinst
  obtain ⟨methM', cM, hmethM', -, -, -, -, -, -, hsigM⟩ := Cond.code_spec hnamed hcode
  cases hmethM.symm.trans hmethM'
  obtain ⟨c2, r2, m2, q1, q2, q3, q4, kP, hkP, hkPi⟩ := Cond.selects_spec hsel
  cases hcls.symm.trans q1
  cases (State.methodFound?_of_named hnamed hy).symm.trans q2
  cases hnamed.symm.trans q3
  have hselP : selectMethod e.platform s.vm cellB.cls mk = .method mk := by rw [Launch.admits_selectMethod X.admits]; exact q4
  obtain ⟨vm₁, X₁, hstep₁⟩ := X.invokevirtual hexec hown hlink hnamed hmethM hstM hkP hkPi hy (a := b) (cell := cellB) hcell
    (fun z h => by rw [h] at hobj; cases hobj) hselP hmethM habM hkP hkPi (g := g) hg (argsL := argsL) (rest := rest) (hlen _ hsigM) hstack hdg
  rcases hK m meth c ⟨T.setVm vm₁, locs, cells, slots⟩ { g with stack := rest } (.invokevirtual index) mk (Value.ref b :: argsL).toArray X₁ hg hsize hdg hW (X₁.named hnamed) (hpre vm₁ X₁.warmed) with ⟨v, B, X', hpost, hsteps⟩ | ⟨q, B, X', hpost, hsteps⟩
  · exact Or.inl ⟨v, vm₁, B, X₁.warmed, X', hpost, fun target h => hstep₁ _ fun acts => by rw [doInvoke_state]; exact hsteps.trans h⟩
  · exact Or.inr ⟨q, vm₁, B, X₁.warmed, X', hpost, hstep₁ _ fun acts => by rw [doInvoke_state]; exact hsteps⟩
theorem vx_callS (X : Stand p l e R s m args below meth c T locs cells slots) (hexec : p.tables.exec = Jvm.exec) {own : String} {index : Nat} {y : MethodName} {bytes : ByteArray} {maxL : Nat} {ret : Option FieldType}
    (hown : s.vm.findClass own = some m.cls) (hlink : (Cond.methodLink own index y).before args s = true) (hstat : (Cond.static y).before args s = true) (hinit : (Cond.initialized y.cls).before args s = true)
    (hcode : (Cond.code y bytes maxL ret).before args s = true) (hy : y.cls ≠ "java/lang/invoke/MethodHandle" ∧ y.cls ≠ "java/lang/invoke/VarHandle")
    {W9 : Nat} {Pre : Pt → Array Value → Prop} {Post : Pt → Array Value → Option Value → Pt → Prop} {PostX : Pt → Array Value → Addr → Pt → Prop} (hK : vx_Back l R p e below s args y 3 W9 Pre Post PostX)
    {g : JFrame} (hg : g.method = m) (hsize : g.locals.size = c.maxLocals) {argsL rest : List Value} (hlen : ∀ sig, parseMethodDescriptor y.desc = some sig → argsL.length = sig.parameters.length)
    (hstack : g.stack = argsL.reverse ++ rest) (hW : 2 * g.monitorRoom + (rest.map fun v => v.category).sum ≤ W9) (hdg : decode c.code g.pc = .ok (.invokestatic index, 3))
    (hpre : ∀ vm₁, s.WarmedH vm₁ → Pre ⟨T.setVm vm₁, locs, cells, slots⟩ argsL.toArray) :
    (∃ (v : Option Value) (vm₁ : Vm) (B : Pt), s.WarmedH vm₁ ∧ Stand p l e R s m args below meth c B.U B.locs B.cells B.slots ∧ Post ⟨T.setVm vm₁, locs, cells, slots⟩ argsL.toArray v B ∧
      ∀ target, Steps p.tables e below (B.U.setTop { g with pc := g.pc + 3, stack := v.toList ++ rest }) target → Steps p.tables e below (T.setTop g) target) ∨
    (∃ (q : Addr) (vm₁ : Vm) (B : Pt), s.WarmedH vm₁ ∧ Stand p l e R s m args below meth c B.U B.locs B.cells B.slots ∧ PostX ⟨T.setVm vm₁, locs, cells, slots⟩ argsL.toArray q B ∧
      Steps p.tables e below (T.setTop g) ((B.U.setTop { g with stack := rest }).pushFrame (.throwing q))) := by
  obtain ⟨mk, hnamed⟩ := Cond.code_named hcode
  obtain ⟨methM, cM, hmethM, -, -, -, -, -, -, hsigM⟩ := Cond.code_spec hnamed hcode
  have hstatic : methM.isStatic = true := Cond.static_spec hnamed hmethM hstat
  obtain ⟨kP, hkP, -⟩ := className_of_methodNamed hnamed
  have hinitP : kP.init = .initialized := Cond.initialized_spec (findClass_of_methodNamed hnamed) hkP hinit
  obtain ⟨vm₁, X₁, hstep₁⟩ := X.invokestatic hexec hown hlink hnamed hmethM hstatic hkP hinitP hy (g := g) hg (argsL := argsL) (rest := rest) (hlen _ hsigM) hstack hdg
  rcases hK m meth c ⟨T.setVm vm₁, locs, cells, slots⟩ { g with stack := rest } (.invokestatic index) mk argsL.toArray X₁ hg hsize hdg hW (X₁.named hnamed) (hpre vm₁ X₁.warmed) with ⟨v, B, X', hpost, hsteps⟩ | ⟨q, B, X', hpost, hsteps⟩
  · exact Or.inl ⟨v, vm₁, B, X₁.warmed, X', hpost, fun target h => hstep₁ _ fun acts => by rw [doInvoke_state]; exact hsteps.trans h⟩
  · exact Or.inr ⟨q, vm₁, B, X₁.warmed, X', hpost, hstep₁ _ fun acts => by rw [doInvoke_state]; exact hsteps⟩
end Calls
theorem vx_cls {s : State} {T : State} {vm₁ : Vm} {E : String} {k : ClassId} (hW : s.WarmedH vm₁) (h : (T.setVm vm₁).vm.findClass E = some k) : s.vm.findClass E = some k := by
  have h1 : vm₁.findClass E = some k := h
  rw [hW.alike.findClass] at h1
  exact h1
/-- the method's frame g, with q thrown over it -/
def vx_W (p : Program) (l : Launch) (e : Env) (R : Room) (s : State) (m : MethodId) (args : Array Value) (below : List Frame) (meth : Method) (c : Code) (H : Heap) (locs : List Loc) (cells slots : Nat) (Q : State → Prop) (g : JFrame) (q : Addr) : Prop :=
  ∀ T : State, T.heap = H → Stand p l e R s m args below meth c T locs cells slots → ∃ t, Steps p.tables e below ((T.setTop g).pushFrame (.throwing q)) t ∧ Q t
def vx_Run (p : Program) (l : Launch) (e : Env) (R : Room) (s : State) (m : MethodId) (args : Array Value) (below : List Frame) (meth : Method) (c : Code) (H : Heap) (locs : List Loc) (cells slots mc ms : Nat) (g : JFrame) (rest : List Value) (Qa : State → Outcome → State → Prop) (XC : String → State → State → Prop) (free : Addr → Prop) : Prop :=
  ∀ T : State, T.heap = H → Stand p l e R s m args below meth c T locs cells slots →
    (∃ (v : Option Value) (st₀ t T' : State) (L : List Loc), st₀.heap = H ∧ Stand p l e R s m args below meth c T' (locs ++ L) (cells + mc) (slots + ms) ∧ (∀ q ∈ L, free q.base) ∧ T'.heap = t.heap ∧ T'.vm = t.vm ∧ Qa st₀ (.returned v) t ∧
      Goes p e below T g T' { g with pc := g.pc + 3, stack := v.toList ++ rest }) ∨
    (∃ (q : Addr) (st₀ t T' : State) (L : List Loc) (E : String) (ce : Cell), st₀.heap = H ∧ Stand p l e R s m args below meth c T' (locs ++ L) (cells + mc) (slots + ms) ∧ (∀ z ∈ L, free z.base) ∧ T'.heap = t.heap ∧ T'.vm = t.vm ∧ XC E st₀ t ∧ t.heap[q]? = some ce ∧ ce.vm = .none ∧ s.vm.findClass E = some ce.cls ∧
      Steps p.tables e below (T.setTop g) ((T'.setTop { g with stack := rest }).pushFrame (.throwing q)))
def vx_X {S : Type} (px : S → Prop) (B : String → S → State → Prop) (A : Nat → Prop) : String → State → State → Prop := fun E st t => ∃ u : S, px u ∧ B E u t ∧ va_F A st t
section Runs
variable {p : Program} {l : Launch} {e : Env} {R : Room} {s : State} {m : MethodId} {args : Array Value} {below : List Frame} {meth : Method} {c : Code} {H : Heap} {locs : List Loc} {cells slots : Nat}
variable {y : MethodName} {bytes cc : ByteArray} {maxL nL mc ms n index : Nat} {ret : Option FieldType} {ws : List Cond} {rm : Room} {Pc : Array Value → State → Prop} {Qc : Array Value → State → Outcome → State → Prop} {XC : String → State → State → Prop} {free : Addr → Prop} {Ts : List Cond} {own C : String} {b : Addr} {As rest : List Value} {g : JFrame}
theorem vx_callBack (cb : CallB R s args own index y bytes maxL ret ws rm mc ms n) (hM : vx_Met l y ws rm Pc Qc XC mc ms free) (hbl : FrameBlind Pc) : vx_Back l R p e below s args y 3 8 (PreOf R mc ms Pc) (PostOf Qc mc ms free) (vx_Post XC mc ms free) := by
  obtain ⟨hrc, hrs, hfr, hlo, hws, hcw, -, hini, -⟩ := cb
  exact vx_back (bytes := bytes) (maxL := maxL) (ret := ret) hM hbl hrc hrs hfr hlo hws hcw (fun a' U hW => word_at hW (Or.inl (by first | rfl | simp [Cond.onTables, Cond.keeps, Cond.steady])) hini)
theorem vx_runV (S : CallFix p m c cc nL s args Ts own) (hM : vx_Met l y ws rm Pc Qc XC mc ms free) (cw : CallW R s args own C index y bytes maxL ret ws rm mc ms n) (hp : PreV s H C b Pc As)
    (hg : g.method = m) (hn : As.length = n) (hsize : g.locals.size = nL) (hstack : g.stack = As.reverse ++ .ref b :: rest) (hW : 2 * g.monitorRoom + (rest.map fun v => v.category).sum ≤ 8) (hdg : decode cc g.pc = .ok (.invokevirtual index, 3)) (hf : cells + mc ≤ R.cells ∧ slots + ms ≤ R.slots) :
    vx_Run p l e R s m args below meth c H locs cells slots mc ms g rest (Qc (Value.ref b :: As).toArray) XC free := by
  have hK : vx_Back l R p e below s args y 3 8 (PreOf R mc ms Pc) (PostOf Qc mc ms free) (vx_Post XC mc ms free) := vx_callBack cw.1 hM hp.1
  obtain ⟨⟨-, -, -, -, -, -, hcode, -, hy, hlen, hl⟩, hin, hse⟩ := cw
  obtain ⟨hx, hb, hml, ho, -⟩ := S
  obtain ⟨-, ⟨cellB, hcB, hoB, hclB⟩, hPc⟩ := hp
  intro T hT X
  rcases vx_callV X hx (C := C) (bytes := bytes) (maxL := maxL) (ret := ret) ho hl hin hse hcode hy hK (by rw [hT]; exact hcB) hoB hclB hg (hsize.trans hml.symm) (argsL := As) (rest := rest) (fun sig h => hn.trans (hlen sig h)) hstack hW (by rw [hb]; exact hdg)
    (fun vm₁ hW₁ => ⟨hf.1, hf.2, hPc (T.setVm vm₁) hT hW₁⟩) with ⟨v, vm₁, ⟨U', l2, c2, s2⟩, hW₁, X', ⟨g', mk, t, L, e1, e2, hq, h1, hL, h2, h3⟩, st⟩ | ⟨q, vm₁, ⟨U', l2, c2, s2⟩, hW₁, X', ⟨g', mk, t, L, E, ce, e1, e2, hq, hce, hcv, hcl, h1, hL, h2, h3⟩, st⟩
  · dsimp only [Pt.U, Pt.locs, Pt.cells, Pt.slots] at X' e1 e2 h1 h2 h3 st
    subst h1; subst h2; subst h3
    exact Or.inl ⟨v, (T.setVm vm₁).calling g' mk (Value.ref b :: As).toArray, t, U', L, hT, X', hL, e1, e2, hq, st⟩
  · dsimp only [Pt.U, Pt.locs, Pt.cells, Pt.slots] at X' e1 e2 h1 h2 h3 st hcl
    subst h1; subst h2; subst h3
    exact Or.inr ⟨q, (T.setVm vm₁).calling g' mk (Value.ref b :: As).toArray, t, U', L, E, ce, hT, X', hL, e1, e2, hq, hce, hcv, vx_cls hW₁ hcl, st⟩
theorem vx_runS (S : CallFix p m c cc nL s args Ts own) (hM : vx_Met l y ws rm Pc Qc XC mc ms free) (cw : CallB R s args own index y bytes maxL ret ws rm mc ms n ∧ (Cond.static y).before args s = true) (hp : PreS s H Pc As)
    (hg : g.method = m) (hn : As.length = n) (hsize : g.locals.size = nL) (hstack : g.stack = As.reverse ++ rest) (hW : 2 * g.monitorRoom + (rest.map fun v => v.category).sum ≤ 8) (hdg : decode cc g.pc = .ok (.invokestatic index, 3)) (hf : cells + mc ≤ R.cells ∧ slots + ms ≤ R.slots) :
    vx_Run p l e R s m args below meth c H locs cells slots mc ms g rest (Qc As.toArray) XC free := by
  have hK : vx_Back l R p e below s args y 3 8 (PreOf R mc ms Pc) (PostOf Qc mc ms free) (vx_Post XC mc ms free) := vx_callBack cw.1 hM hp.1
  obtain ⟨⟨-, -, -, -, -, -, hcode, hini, hy, hlen, hl⟩, hstt⟩ := cw
  obtain ⟨hx, hb, hml, ho, -⟩ := S
  intro T hT X
  rcases vx_callS X hx (bytes := bytes) (maxL := maxL) (ret := ret) ho hl hstt hini hcode hy hK hg (hsize.trans hml.symm) (argsL := As) (rest := rest) (fun sig h => hn.trans (hlen sig h)) hstack hW (by rw [hb]; exact hdg)
    (fun vm₁ hW₁ => ⟨hf.1, hf.2, hp.2 (T.setVm vm₁) hT hW₁⟩) with ⟨v, vm₁, ⟨U', l2, c2, s2⟩, hW₁, X', ⟨g', mk, t, L, e1, e2, hq, h1, hL, h2, h3⟩, st⟩ | ⟨q, vm₁, ⟨U', l2, c2, s2⟩, hW₁, X', ⟨g', mk, t, L, E, ce, e1, e2, hq, hce, hcv, hcl, h1, hL, h2, h3⟩, st⟩
  · dsimp only [Pt.U, Pt.locs, Pt.cells, Pt.slots] at X' e1 e2 h1 h2 h3 st
    subst h1; subst h2; subst h3
    exact Or.inl ⟨v, (T.setVm vm₁).calling g' mk As.toArray, t, U', L, hT, X', hL, e1, e2, hq, st⟩
  · dsimp only [Pt.U, Pt.locs, Pt.cells, Pt.slots] at X' e1 e2 h1 h2 h3 st hcl
    subst h1; subst h2; subst h3
    exact Or.inr ⟨q, (T.setVm vm₁).calling g' mk As.toArray, t, U', L, E, ce, hT, X', hL, e1, e2, hq, hce, hcv, vx_cls hW₁ hcl, st⟩
end Runs
section Rows
variable {p : Program} {l : Launch} {e : Env} {R : Room} {s : State} {m : MethodId} {args : Array Value} {below : List Frame} {meth : Method} {c : Code} {H : Heap} {locs : List Loc} {cells slots : Nat} {Q : State → Prop}
variable {mc ms : Nat} {free : Addr → Prop} {A0 A1 : Nat → Prop} {H0 : Heap} {a : Array Value} {pc : Nat} {ls : Array Slot} {st0 rest : List Value}
theorem vx_keep {st₀ t T' : State} {L : List Loc} (h0 : st₀.heap = H) (e1 : T'.heap = t.heap) (hS : va_S A0 H0 H locs) (hA : ∀ q, q < H.size → A1 q → A0 q) (hf : ∀ q, free q → A0 q) (hL : ∀ q ∈ L, free q.base) (hF : va_F A1 st₀ t) :
    H.size ≤ T'.heap.size ∧ (∀ q : Nat, q < H.size → ¬ A1 q → T'.heap[q]? = H[q]?) ∧ va_S A0 H0 T'.heap (locs ++ L) := by
  obtain ⟨hz, hk⟩ := hF
  rw [h0] at hz hk
  exact ⟨by rw [e1]; exact hz, fun q h1 h2 => by rw [e1]; exact hk q h1 h2,
    ⟨Nat.le_trans hS.1 (by rw [e1]; exact hz), fun q h1 h2 => by rw [e1, hk q (Nat.lt_of_lt_of_le h1 hS.1) (fun z => h2 (hA q (Nat.lt_of_lt_of_le h1 hS.1) z))]; exact hS.2.1 q h1 h2, fun q hq => by
      rcases List.mem_append.mp hq with h | h
      · exact hS.2.2 q h
      · exact hf _ (hL q h)⟩⟩
theorem vx_calli {S SX : Type} {post : Int32 → S → Prop} {px : SX → Prop} {B : S → State → Prop} {BX : String → SX → State → Prop} {AX : Nat → Prop} (hr : vx_Run p l e R s m args below meth c H locs cells slots mc ms (F0 m pc ls st0) rest (va_Qi post B A1 a) (vx_X px BX AX) free) (hS : va_S A0 H0 H locs) (hA : ∀ q, q < H.size → A1 q → A0 q) (hf : ∀ q, free q → A0 q) (hAX : ∀ q, q < H.size → AX q → A0 q)
    (kx : ∀ (E : String) (ce : Cell) (q9 : Addr) (u : SX) (t : State) (H1 : Heap) (locs1 : List Loc), t.heap = H1 → s.vm.Alike t.vm → px u → BX E u t → H.size ≤ H1.size → (∀ q : Nat, q < H.size → ¬ AX q → H1[q]? = H[q]?) → va_S A0 H0 H1 locs1 → H1[q9]? = some ce → ce.vm = .none → s.vm.findClass E = some ce.cls → vx_W p l e R s m args below meth c H1 locs1 (cells + mc) (slots + ms) Q (F0 m pc ls rest) q9)
    (kk : ∀ (r : Int32) (u : S) (t : State) (H1 : Heap) (locs1 : List Loc), t.heap = H1 → s.vm.Alike t.vm → post r u → B u t → H.size ≤ H1.size → (∀ q : Nat, q < H.size → ¬ A1 q → H1[q]? = H[q]?) → va_S A0 H0 H1 locs1 → W p l e R s m args below meth c H1 locs1 (cells + mc) (slots + ms) Q (F0 m (pc + 3) ls (.int r :: rest))) : W p l e R s m args below meth c H locs cells slots Q (F0 m pc ls st0) := by
  intro T hT X
  rcases hr T hT X with ⟨v, st₀, t, T', L, h0, X', hL, e1, e2, ⟨⟨r, u, hv, hp, hb⟩, hF⟩, st⟩ | ⟨q, st₀, t, T', L, E, ce, h0, X', hL, e1, e2, ⟨u, hp, hb, hF⟩, hce, hcv, hcl, st⟩
  · cases hv
    obtain ⟨k1, k2, k3⟩ := vx_keep h0 e1 hS hA hf hL hF
    obtain ⟨t2, a1, b1⟩ := kk r u t T'.heap (locs ++ L) e1.symm (by rw [← e2]; exact X'.warmed.alike) hp hb k1 k2 k3 T' rfl X'
    exact ⟨t2, st t2 a1, b1⟩
  · obtain ⟨k1, k2, k3⟩ := vx_keep h0 e1 hS hAX hf hL hF
    obtain ⟨t2, a1, b1⟩ := kx E ce q u t T'.heap (locs ++ L) e1.symm (by rw [← e2]; exact X'.warmed.alike) hp hb k1 k2 k3 (by rw [e1]; exact hce) hcv hcl T' rfl X'
    exact ⟨t2, st.trans a1, b1⟩
theorem vx_calll {S SX : Type} {post : Int64 → S → Prop} {px : SX → Prop} {B : S → State → Prop} {BX : String → SX → State → Prop} {AX : Nat → Prop} (hr : vx_Run p l e R s m args below meth c H locs cells slots mc ms (F0 m pc ls st0) rest (va_Ql post B A1 a) (vx_X px BX AX) free) (hS : va_S A0 H0 H locs) (hA : ∀ q, q < H.size → A1 q → A0 q) (hf : ∀ q, free q → A0 q) (hAX : ∀ q, q < H.size → AX q → A0 q)
    (kx : ∀ (E : String) (ce : Cell) (q9 : Addr) (u : SX) (t : State) (H1 : Heap) (locs1 : List Loc), t.heap = H1 → s.vm.Alike t.vm → px u → BX E u t → H.size ≤ H1.size → (∀ q : Nat, q < H.size → ¬ AX q → H1[q]? = H[q]?) → va_S A0 H0 H1 locs1 → H1[q9]? = some ce → ce.vm = .none → s.vm.findClass E = some ce.cls → vx_W p l e R s m args below meth c H1 locs1 (cells + mc) (slots + ms) Q (F0 m pc ls rest) q9)
    (kk : ∀ (r : Int64) (u : S) (t : State) (H1 : Heap) (locs1 : List Loc), t.heap = H1 → s.vm.Alike t.vm → post r u → B u t → H.size ≤ H1.size → (∀ q : Nat, q < H.size → ¬ A1 q → H1[q]? = H[q]?) → va_S A0 H0 H1 locs1 → W p l e R s m args below meth c H1 locs1 (cells + mc) (slots + ms) Q (F0 m (pc + 3) ls (.long r :: rest))) : W p l e R s m args below meth c H locs cells slots Q (F0 m pc ls st0) := by
  intro T hT X
  rcases hr T hT X with ⟨v, st₀, t, T', L, h0, X', hL, e1, e2, ⟨⟨r, u, hv, hp, hb⟩, hF⟩, st⟩ | ⟨q, st₀, t, T', L, E, ce, h0, X', hL, e1, e2, ⟨u, hp, hb, hF⟩, hce, hcv, hcl, st⟩
  · cases hv
    obtain ⟨k1, k2, k3⟩ := vx_keep h0 e1 hS hA hf hL hF
    obtain ⟨t2, a1, b1⟩ := kk r u t T'.heap (locs ++ L) e1.symm (by rw [← e2]; exact X'.warmed.alike) hp hb k1 k2 k3 T' rfl X'
    exact ⟨t2, st t2 a1, b1⟩
  · obtain ⟨k1, k2, k3⟩ := vx_keep h0 e1 hS hAX hf hL hF
    obtain ⟨t2, a1, b1⟩ := kx E ce q u t T'.heap (locs ++ L) e1.symm (by rw [← e2]; exact X'.warmed.alike) hp hb k1 k2 k3 (by rw [e1]; exact hce) hcv hcl T' rfl X'
    exact ⟨t2, st.trans a1, b1⟩
theorem vx_callf {S SX : Type} {post : UInt32 → S → Prop} {px : SX → Prop} {B : S → State → Prop} {BX : String → SX → State → Prop} {AX : Nat → Prop} (hr : vx_Run p l e R s m args below meth c H locs cells slots mc ms (F0 m pc ls st0) rest (va_Qf post B A1 a) (vx_X px BX AX) free) (hS : va_S A0 H0 H locs) (hA : ∀ q, q < H.size → A1 q → A0 q) (hf : ∀ q, free q → A0 q) (hAX : ∀ q, q < H.size → AX q → A0 q)
    (kx : ∀ (E : String) (ce : Cell) (q9 : Addr) (u : SX) (t : State) (H1 : Heap) (locs1 : List Loc), t.heap = H1 → s.vm.Alike t.vm → px u → BX E u t → H.size ≤ H1.size → (∀ q : Nat, q < H.size → ¬ AX q → H1[q]? = H[q]?) → va_S A0 H0 H1 locs1 → H1[q9]? = some ce → ce.vm = .none → s.vm.findClass E = some ce.cls → vx_W p l e R s m args below meth c H1 locs1 (cells + mc) (slots + ms) Q (F0 m pc ls rest) q9)
    (kk : ∀ (r : UInt32) (u : S) (t : State) (H1 : Heap) (locs1 : List Loc), t.heap = H1 → s.vm.Alike t.vm → post r u → B u t → H.size ≤ H1.size → (∀ q : Nat, q < H.size → ¬ A1 q → H1[q]? = H[q]?) → va_S A0 H0 H1 locs1 → W p l e R s m args below meth c H1 locs1 (cells + mc) (slots + ms) Q (F0 m (pc + 3) ls (.float r :: rest))) : W p l e R s m args below meth c H locs cells slots Q (F0 m pc ls st0) := by
  intro T hT X
  rcases hr T hT X with ⟨v, st₀, t, T', L, h0, X', hL, e1, e2, ⟨⟨r, u, hv, hp, hb⟩, hF⟩, st⟩ | ⟨q, st₀, t, T', L, E, ce, h0, X', hL, e1, e2, ⟨u, hp, hb, hF⟩, hce, hcv, hcl, st⟩
  · cases hv
    obtain ⟨k1, k2, k3⟩ := vx_keep h0 e1 hS hA hf hL hF
    obtain ⟨t2, a1, b1⟩ := kk r u t T'.heap (locs ++ L) e1.symm (by rw [← e2]; exact X'.warmed.alike) hp hb k1 k2 k3 T' rfl X'
    exact ⟨t2, st t2 a1, b1⟩
  · obtain ⟨k1, k2, k3⟩ := vx_keep h0 e1 hS hAX hf hL hF
    obtain ⟨t2, a1, b1⟩ := kx E ce q u t T'.heap (locs ++ L) e1.symm (by rw [← e2]; exact X'.warmed.alike) hp hb k1 k2 k3 (by rw [e1]; exact hce) hcv hcl T' rfl X'
    exact ⟨t2, st.trans a1, b1⟩
theorem vx_calld {S SX : Type} {post : UInt64 → S → Prop} {px : SX → Prop} {B : S → State → Prop} {BX : String → SX → State → Prop} {AX : Nat → Prop} (hr : vx_Run p l e R s m args below meth c H locs cells slots mc ms (F0 m pc ls st0) rest (va_Qd post B A1 a) (vx_X px BX AX) free) (hS : va_S A0 H0 H locs) (hA : ∀ q, q < H.size → A1 q → A0 q) (hf : ∀ q, free q → A0 q) (hAX : ∀ q, q < H.size → AX q → A0 q)
    (kx : ∀ (E : String) (ce : Cell) (q9 : Addr) (u : SX) (t : State) (H1 : Heap) (locs1 : List Loc), t.heap = H1 → s.vm.Alike t.vm → px u → BX E u t → H.size ≤ H1.size → (∀ q : Nat, q < H.size → ¬ AX q → H1[q]? = H[q]?) → va_S A0 H0 H1 locs1 → H1[q9]? = some ce → ce.vm = .none → s.vm.findClass E = some ce.cls → vx_W p l e R s m args below meth c H1 locs1 (cells + mc) (slots + ms) Q (F0 m pc ls rest) q9)
    (kk : ∀ (r : UInt64) (u : S) (t : State) (H1 : Heap) (locs1 : List Loc), t.heap = H1 → s.vm.Alike t.vm → post r u → B u t → H.size ≤ H1.size → (∀ q : Nat, q < H.size → ¬ A1 q → H1[q]? = H[q]?) → va_S A0 H0 H1 locs1 → W p l e R s m args below meth c H1 locs1 (cells + mc) (slots + ms) Q (F0 m (pc + 3) ls (.double r :: rest))) : W p l e R s m args below meth c H locs cells slots Q (F0 m pc ls st0) := by
  intro T hT X
  rcases hr T hT X with ⟨v, st₀, t, T', L, h0, X', hL, e1, e2, ⟨⟨r, u, hv, hp, hb⟩, hF⟩, st⟩ | ⟨q, st₀, t, T', L, E, ce, h0, X', hL, e1, e2, ⟨u, hp, hb, hF⟩, hce, hcv, hcl, st⟩
  · cases hv
    obtain ⟨k1, k2, k3⟩ := vx_keep h0 e1 hS hA hf hL hF
    obtain ⟨t2, a1, b1⟩ := kk r u t T'.heap (locs ++ L) e1.symm (by rw [← e2]; exact X'.warmed.alike) hp hb k1 k2 k3 T' rfl X'
    exact ⟨t2, st t2 a1, b1⟩
  · obtain ⟨k1, k2, k3⟩ := vx_keep h0 e1 hS hAX hf hL hF
    obtain ⟨t2, a1, b1⟩ := kx E ce q u t T'.heap (locs ++ L) e1.symm (by rw [← e2]; exact X'.warmed.alike) hp hb k1 k2 k3 (by rw [e1]; exact hce) hcv hcl T' rfl X'
    exact ⟨t2, st.trans a1, b1⟩
theorem vx_callv {S SX : Type} {post : S → Prop} {px : SX → Prop} {B : S → State → Prop} {BX : String → SX → State → Prop} {AX : Nat → Prop} (hr : vx_Run p l e R s m args below meth c H locs cells slots mc ms (F0 m pc ls st0) rest (va_Qv post B A1 a) (vx_X px BX AX) free) (hS : va_S A0 H0 H locs) (hA : ∀ q, q < H.size → A1 q → A0 q) (hf : ∀ q, free q → A0 q) (hAX : ∀ q, q < H.size → AX q → A0 q)
    (kx : ∀ (E : String) (ce : Cell) (q9 : Addr) (u : SX) (t : State) (H1 : Heap) (locs1 : List Loc), t.heap = H1 → s.vm.Alike t.vm → px u → BX E u t → H.size ≤ H1.size → (∀ q : Nat, q < H.size → ¬ AX q → H1[q]? = H[q]?) → va_S A0 H0 H1 locs1 → H1[q9]? = some ce → ce.vm = .none → s.vm.findClass E = some ce.cls → vx_W p l e R s m args below meth c H1 locs1 (cells + mc) (slots + ms) Q (F0 m pc ls rest) q9)
    (kk : ∀ (u : S) (t : State) (H1 : Heap) (locs1 : List Loc), t.heap = H1 → s.vm.Alike t.vm → post u → B u t → H.size ≤ H1.size → (∀ q : Nat, q < H.size → ¬ A1 q → H1[q]? = H[q]?) → va_S A0 H0 H1 locs1 → W p l e R s m args below meth c H1 locs1 (cells + mc) (slots + ms) Q (F0 m (pc + 3) ls (rest))) : W p l e R s m args below meth c H locs cells slots Q (F0 m pc ls st0) := by
  intro T hT X
  rcases hr T hT X with ⟨v, st₀, t, T', L, h0, X', hL, e1, e2, ⟨⟨u, hv, hp, hb⟩, hF⟩, st⟩ | ⟨q, st₀, t, T', L, E, ce, h0, X', hL, e1, e2, ⟨u, hp, hb, hF⟩, hce, hcv, hcl, st⟩
  · cases hv
    obtain ⟨k1, k2, k3⟩ := vx_keep h0 e1 hS hA hf hL hF
    obtain ⟨t2, a1, b1⟩ := kk u t T'.heap (locs ++ L) e1.symm (by rw [← e2]; exact X'.warmed.alike) hp hb k1 k2 k3 T' rfl X'
    exact ⟨t2, st t2 a1, b1⟩
  · obtain ⟨k1, k2, k3⟩ := vx_keep h0 e1 hS hAX hf hL hF
    obtain ⟨t2, a1, b1⟩ := kx E ce q u t T'.heap (locs ++ L) e1.symm (by rw [← e2]; exact X'.warmed.alike) hp hb k1 k2 k3 (by rw [e1]; exact hce) hcv hcl T' rfl X'
    exact ⟨t2, st.trans a1, b1⟩
/-- caught by the row x of this method's table; the rows ahead don't take it -/
theorem vx_catch {own name : String} {E : String} {ce : Cell} {q : Addr} (hown : s.vm.findClass own = some m.cls) (pre : List ExceptionTableEntry) (x : ExceptionTableEntry) (suf : List ExceptionTableEntry) (hsplit : c.exceptionTable.toList = pre ++ x :: suf)
    (hpass : ∀ z ∈ pre, covers z pc = false ∨ (z.catchType ≠ 0 ∧ ∃ nm : String, (Cond.classLink own z.catchType nm).before args s = true ∧ va_Nc E nm s)) (hx : covers x pc = true) (h0 : x.catchType ≠ 0)
    (hlink : (Cond.classLink own x.catchType name).before args s = true) (hcast : (Cond.castable E name).before args s = true) (hcell : H[q]? = some ce) (hv : ce.vm = .none) (hcl : s.vm.findClass E = some ce.cls)
    (kk : W p l e R s m args below meth c H locs cells slots Q (F0 m x.handlerPc ls [.ref q])) : vx_W p l e R s m args below meth c H locs cells slots Q (F0 m pc ls rest) q := by
  intro T hT X
  have hpl : e.platform.magicAccessors = ({} : Platform).magicAccessors := by rw [X.admits.platform]
  obtain ⟨c3, c4, hc3, hc4, hasg⟩ := Cond.castable_spec hcast
  cases Option.some.inj (hc3.symm.trans hcl)
  obtain ⟨c5, hc5, hcl5⟩ := Cond.classLink_spec hown hlink e.platform hpl
  cases Option.some.inj (hc4.symm.trans hc5)
  obtain ⟨vm', X', st⟩ := X.thenCaughtThrough q (g := F0 m pc ls rest) rfl (Steps.refl _) (by rw [hT]; exact hcell) (by rw [hv]; rfl) (by obtain ⟨k9, h9, -⟩ := Vm.findClass_spec hcl; exact ⟨k9, h9⟩) pre x suf hsplit
    (fun z hz => by
      rcases hpass z hz with h | ⟨hz0, nm, hl1, hn1⟩
      · exact Or.inl h
      · obtain ⟨c6, hc6, hcl6⟩ := Cond.classLink_spec hown hl1 e.platform hpl
        obtain ⟨a8, b8, h1, h2, h3⟩ := hn1
        cases Option.some.inj (h1.symm.trans hcl)
        cases Option.some.inj (h2.symm.trans hc6)
        exact Or.inr ⟨hz0, _, hcl6, h3⟩) hx (Or.inr ⟨h0, c4, hcl5, hasg⟩)
  obtain ⟨t, a1, b1⟩ := kk (T.setVm vm') hT X'
  exact ⟨t, st.trans a1, b1⟩
end Rows
section Ends
variable {p : Program} {l : Launch} {e : Env} {R : Room} {s : State} {m : MethodId} {args : Array Value} {below : List Frame} {meth : Method} {c : Code} {H : Heap} {locs : List Loc} {cells slots : Nat} {Q : State → Prop}
variable {mc ms : Nat} {free : Addr → Prop} {A0 A1 : Nat → Prop} {H0 : Heap} {a : Array Value} {ls : Array Slot} {st0 rest : List Value}
variable {Qc : Array Value → State → Outcome → State → Prop} {XC : String → State → State → Prop}
/-- what a body that may throw owes at its end -/
def vx_MQ (below : List Frame) (Qc : Array Value → State → Outcome → State → Prop) (XC : String → State → State → Prop) (a : Array Value) (s : State) (mc ms : Nat) (free : Addr → Prop) : State → Prop := fun t =>
  ∃ o, t.status = .running ∧ Ended t below o ∧ vx_Q Qc XC mc ms free a s o t
theorem vx_ret {g : JFrame} {mc ms : Nat} (k : W p l e R s m args below meth c H locs cells slots (MQ below Qc args s mc ms free) g) : W p l e R s m args below meth c H locs cells slots (vx_MQ below Qc XC args s mc ms free) g := by
  intro T hT X
  obtain ⟨t, a1, o, b1, b2, b3, b4⟩ := k T hT X
  exact ⟨t, a1, o, b1, b2, Or.inl ⟨b3, b4⟩⟩
/-- not caught here: it goes on to the caller -/
theorem vx_widen {g : JFrame} {q : Addr} {k n : Nat} (h1 : cells ≤ k) (h2 : slots ≤ n) (kk : vx_W p l e R s m args below meth c H locs k n Q g q) : vx_W p l e R s m args below meth c H locs cells slots Q g q := fun T hT X => kk T hT (stand_widen X h1 h2)
theorem vx_out {pc : Nat} {E : String} {ce : Cell} {q : Addr} {mc ms : Nat} (hout : ∀ x ∈ c.exceptionTable.toList, covers x pc = false) (hlocks : meth.locks = false) (hcell : H[q]? = some ce) (hv : ce.vm = .none) (hcl : s.vm.findClass E = some ce.cls)
    (hx : ∀ t : State, t.heap = H → s.vm.Alike t.vm → XC E s t) (hf : ∀ z ∈ locs, free z.base) (hc : cells ≤ mc) (hs : slots ≤ ms) :
    vx_W p l e R s m args below meth c H locs cells slots (vx_MQ below Qc XC args s mc ms free) (F0 m pc ls rest) q := by
  intro T hT X
  obtain ⟨st1, hrun, hend, hW, hsm⟩ := X.leaveThrown q (g := F0 m pc ls rest) rfl rfl rfl hout hlocks
  have hcell9 : (T.setFrames (.throwing q :: below)).heap[q]? = some ce := by
    show T.heap[q]? = some ce
    rw [hT]; exact hcell
  exact ⟨_, st1, .threw q, hrun, hend, Or.inr ⟨q, rfl, E, ce, locs, hx _ hT hW.alike, hcell9, hv, hcl, hW, hsm.mono hc hs, hf⟩⟩
theorem vx_frame {U : State} {k n : Nat} (h : s.sameButNew ({ U with vm := s.vm } : State) locs k n) : s.heap.size ≤ U.heap.size ∧ ∀ q : Nat, q < s.heap.size → (∀ z ∈ locs, z.base ≠ q) → U.heap[q]? = s.heap[q]? := by
  obtain ⟨-, h2, -, -, -, h6⟩ := h
  refine ⟨h2, fun q hq hz => ?_⟩
  obtain ⟨c9, e1, e2, e3, e4⟩ := h6 q _ (Array.getElem?_eq_getElem hq)
  have hs : c9.slots = (s.heap[q]).slots := Array.ext_getElem? fun i => e4 i fun hm => hz _ hm rfl
  have h9 : c9 = s.heap[q] := by
    rw [hs] at e2
    exact e2
  have e5 : U.heap[q]? = some c9 := e1
  rw [e5, h9, Array.getElem?_eq_getElem hq]
/-- the words of a throw but the four that speak of the heap -/
def vx_no (w : Cond) : Bool := decide (w ≠ .isRef (.static Bundle.tN "UNASSIGNED_STACK" Bundle.steD)) && decide (w ≠ .isRef (.static Bundle.tN "SUPPRESSED_SENTINEL" Bundle.listD)) && decide (w ≠ .laysStatic Bundle.tN "UNASSIGNED_STACK" Bundle.steD) && decide (w ≠ .laysStatic Bundle.tN "SUPPRESSED_SENTINEL" Bundle.listD)
def vx_at0 (own : String) (ic : Nat) (X : String) (names : List String) : List Cond := (Bundle.ownAtoms0 own ic X names).filter vx_no
def vx_atS (own : String) (ic : Nat) (X : String) (names : List String) : List Cond := (Bundle.ownAtoms own ic X names).filter vx_no
/-- a word that the tables alone decide, or a good one -/
def vx_ot (w : Cond) : Bool := w.onTables || goodWord w
theorem vx_ot_at {args a' : Array Value} {s U : State} {w : Cond} (hW : s.WarmedH U.vm) (hvm : s.vm = U.vm) (hg : vx_ot w = true) (h : w.before args s = true) : w.before a' U = true := by
  simp only [vx_ot, Bool.or_eq_true] at hg
  rcases hg with hg | hg
  · exact va_tabs hg hvm h
  · exact word_at hW (good_of_word hg) h
/-- a list's words: the good ones out of the method's own list, the others by premises of their own -/
theorem vx_hat {args : Array Value} {s : State} {L B : List Cond} (h1 : ∀ w ∈ L.filter goodWord, w.before args s = true) (h2 : ∀ w ∈ L.filter (fun w => !goodWord w), w ∈ B) (h3 : ∀ w ∈ B, w.before args s = true) : ∀ w ∈ L, w.before args s = true := by
  intro w hw
  by_cases g : goodWord w = true
  · exact h1 w (List.mem_filter.mpr ⟨hw, g⟩)
  · refine h3 w (h2 w (List.mem_filter.mpr ⟨hw, ?_⟩))
    show (!goodWord w) = true
    cases hgw : goodWord w
    · rfl
    · exact absurd hgw g
theorem vx_c {args : Array Value} {s : State} {w : Cond} {B : List Cond} (h : w.before args s = true) (t : ∀ w ∈ B, w.before args s = true) : ∀ w' ∈ w :: B, w'.before args s = true := fun w' h' => (List.mem_cons.mp h').elim (fun e => by rw [e]; exact h) (t w')
theorem vx_n {args : Array Value} {s : State} : ∀ w ∈ ([] : List Cond), w.before args s = true := fun _ h => nomatch h
theorem vx_own {args : Array Value} {s : State} {L : List Cond} (h1 : ∀ w ∈ L.filter vx_no, w.before args s = true)
    (hU : (Cond.isRef (.static Bundle.tN "UNASSIGNED_STACK" Bundle.steD)).before args s = true) (hN : (Cond.isRef (.static Bundle.tN "SUPPRESSED_SENTINEL" Bundle.listD)).before args s = true)
    (lU : (Cond.laysStatic Bundle.tN "UNASSIGNED_STACK" Bundle.steD).before args s = true) (lN : (Cond.laysStatic Bundle.tN "SUPPRESSED_SENTINEL" Bundle.listD).before args s = true) : ∀ w ∈ L, w.before args s = true := by
  intro w hw
  by_cases e1 : w = .isRef (.static Bundle.tN "UNASSIGNED_STACK" Bundle.steD)
  · rw [e1]; exact hU
  · by_cases e2 : w = .isRef (.static Bundle.tN "SUPPRESSED_SENTINEL" Bundle.listD)
    · rw [e2]; exact hN
    · by_cases e3 : w = .laysStatic Bundle.tN "UNASSIGNED_STACK" Bundle.steD
      · rw [e3]; exact lU
      · by_cases e4 : w = .laysStatic Bundle.tN "SUPPRESSED_SENTINEL" Bundle.listD
        · rw [e4]; exact lN
        · exact h1 w (List.mem_filter.mpr ⟨hw, by unfold vx_no; rw [decide_eq_true e1, decide_eq_true e2, decide_eq_true e3, decide_eq_true e4]; rfl⟩)
/-- where a static field lies, its class's statics cell in H -/
def vx_L (C n d : String) (A : Nat → Prop) (U : State) (H : Heap) : Prop := ∃ (c : ClassId) (k : Class) (i : Nat) (f : Field) (a : Nat) (cell : Cell), U.vm.findClass C = some c ∧ U.fieldFound? C n d = some (c, k, i, f) ∧ f.isStatic = true ∧ k.statics = some a ∧ H[a]? = some cell ∧ cell.vm.isStatics = true ∧ cell.cls = c ∧ f.slot < cell.slots.size ∧ k.staticTypes[f.slot]? = some f.type ∧ ¬ A a
theorem vx_L.moved {C n d : String} {A : Nat → Prop} {u U : State} {H : Heap} (hvm : u.vm.Alike U.vm) (h : vx_L C n d A u H) : vx_L C n d A U H := by
  obtain ⟨c, k, i, f, a, cell, h1, h2, h3, h4, h5, h6, h7, h8, h9, h10⟩ := h
  obtain ⟨k', hi', he⟩ := State.fieldFound?_setVm hvm h2
  exact ⟨c, k', i, f, a, cell, by rw [hvm.findClass]; exact h1, hi', h3, by rw [he]; exact h4, h5, h6, h7, h8, by rw [he]; exact h9, h10⟩
theorem vx_L.kept {C n d : String} {A : Nat → Prop} {U : State} {H H1 : Heap} (h : vx_L C n d A U H) (hq : ∀ a : Nat, a < H.size → ¬ A a → H1[a]? = H[a]?) : vx_L C n d A U H1 := by
  obtain ⟨c, k, i, f, a, cell, h1, h2, h3, h4, h5, h6, h7, h8, h9, h10⟩ := h
  exact ⟨c, k, i, f, a, cell, h1, h2, h3, h4, by rw [hq a (Array.getElem?_eq_some_iff.mp h5).1 h10]; exact h5, h6, h7, h8, h9, h10⟩
theorem vx_L.narrow {C n d : String} {A B : Nat → Prop} {U : State} {H : Heap} (h : vx_L C n d A U H) (hAB : ∀ q, B q → A q) : vx_L C n d B U H := by
  obtain ⟨c, k, i, f, a, cell, h1, h2, h3, h4, h5, h6, h7, h8, h9, h10⟩ := h
  exact ⟨c, k, i, f, a, cell, h1, h2, h3, h4, h5, h6, h7, h8, h9, fun z => h10 (hAB _ z)⟩
theorem vx_L.word {C n d : String} {A : Nat → Prop} {s : State} {args : Array Value} (h : vx_L C n d A s s.heap) : (Cond.laysStatic C n d).before args s = true := by
  obtain ⟨c, k, i, f, a, cell, h1, h2, h3, h4, h5, h6, h7, h8, h9, -⟩ := h
  show (Cond.laysStatic C n d).holds args s none s [] = true
  exact Cond.laysStatic_of h1 h2 h3 h4 h5 h6 h7 h8 h9
/-- .. and what it holds: null or some reference -/
def vx_Zq (C n d : String) (A : Nat → Prop) (U : State) (H : Heap) : Prop := va_Zq C n d A U H ∧ vx_L C n d A U H
theorem vx_Zq.moved {C n d : String} {A : Nat → Prop} {u U : State} {H : Heap} (hvm : u.vm.Alike U.vm) (h : vx_Zq C n d A u H) : vx_Zq C n d A U H := ⟨va_Zq.moved hvm h.1, vx_L.moved hvm h.2⟩
theorem vx_Zq.kept {C n d : String} {A : Nat → Prop} {U : State} {H H1 : Heap} (h : vx_Zq C n d A U H) (hq : ∀ a : Nat, a < H.size → ¬ A a → H1[a]? = H[a]?) : vx_Zq C n d A U H1 := ⟨va_Zq.kept h.1 hq, vx_L.kept h.2 hq⟩
theorem vx_Zq.narrow {C n d : String} {A B : Nat → Prop} {U : State} {H : Heap} (h : vx_Zq C n d A U H) (hAB : ∀ q, B q → A q) : vx_Zq C n d B U H := ⟨va_Zq.narrow h.1 hAB, vx_L.narrow h.2 hAB⟩
theorem vx_Zqof {args : Array Value} {s : State} {C n d : String} {A : Nat → Prop} (hl : (Cond.laysStatic C n d).before args s = true) (hini : (Cond.initialized C).before args s = true) (h : (Cond.isRef (.static C n d)).before args s = true) (hA : ∀ a : Nat, a < s.heap.size → ¬ A a) : vx_Zq C n d A s s.heap := by
  refine ⟨va_Zqof hl hini h hA, ?_⟩
  obtain ⟨c, k, i, f, a, cell, h1, h2, h3, h4, h5, h6, h7, h8, h9⟩ := Cond.laysStatic_spec hl
  exact ⟨c, k, i, f, a, cell, h1, h2, h3, h4, h5, h6, h7, h8, h9, hA a (Array.getElem?_eq_some_iff.mp h5).1⟩
theorem vx_isRef {C n d : String} {v : Value} {A : Nat → Prop} {s : State} {args : Array Value} (h : va_Z C n d v A s s.heap) (hv : v.isRef = true) : (Cond.isRef (.static C n d)).before args s = true := by
  obtain ⟨cf, kf, fi, f, a, cell, h1, h2, h3, h4, h5, h6, h7, -⟩ := h
  have he : (Term.static C n d).eval args s none [] s = some v := by
    simp [Term.eval, State.fieldNamed?, h1, h2, h4, h5, h6, h7]
  simp only [Cond.before, Cond.holds, Cond.value, he]
  cases v <;> simp_all [Value.isRef]
theorem vx_isRefq {C n d : String} {A : Nat → Prop} {s : State} {args : Array Value} (h : va_Zq C n d A s s.heap) : (Cond.isRef (.static C n d)).before args s = true := by
  rcases h with h | ⟨t, h⟩
  · exact vx_isRef h rfl
  · exact vx_isRef h rfl
/-- the same frame, seen from here: as if the method were called anew in this heap -/
theorem vx_rebase {T : State} (X : Stand p l e R s m args below meth c T locs cells slots) {R' : Room} (hf : R'.frames ≤ R.frames) (hl : R'.locals ≤ R.locals) (hc : cells + R'.cells ≤ R.cells) (hs : slots + R'.slots ≤ R.slots) :
    Stand p l e R' ((T.setVm s.vm).setFrames (.invoking m args :: below)) m args below meth c T [] 0 0 := by
  have htop : (T.setVm s.vm).topJava?.isSome := X.here.top
  have hF : ((T.setVm s.vm).setFrames (.invoking m args :: below)).frames = .invoking m args :: below := State.frames_setFrames _ (State.cur_lt_of_top htop)
  obtain ⟨g₀, hg0⟩ := Option.isSome_iff_exists.mp htop
  obtain ⟨r, hr⟩ := State.topJava?_eq_some.mp hg0
  have hl9 : e.platform.stackLimits (T.setVm s.vm).me = e.platform.stackLimits s.me := X.limits
  have hb9 : (T.setVm s.vm).me.stackBytes = s.me.stackBytes := X.bytes
  refine ⟨X.admits, X.cas, X.clock, hF, ?_, X.hears, X.method, X.code, X.here, X.tail, X.warmed, ?_, ?_, ?_⟩
  · have h := X.room
    have hU : ((T.setVm s.vm).setFrames (.invoking m args :: below)).localsInUse = s.localsInUse := by
      rw [State.localsInUse_invoking hF (meth := meth) (c := c) X.method X.code, State.localsInUse_invoking X.frames X.method X.code]
    simp only [State.hasRoom, Bool.and_eq_true, decide_eq_true_eq] at h ⊢
    obtain ⟨⟨⟨⟨h1, h2, h3, h4, h5, h6⟩, h7⟩, h8⟩, h9⟩ := h
    rw [X.frames, List.length_cons] at h2 h3
    have q1 := X.heapSize
    have q2 := X.used
    simp only [hF, hU, List.length_cons, State.stackLimits_setFrames, State.stackBytes_setFrames, hl9, hb9]
    refine ⟨⟨⟨⟨by omega, by omega, by omega, by omega, by omega, h6⟩, ?_⟩, ?_⟩, X.book⟩
    · show T.heap.size + R'.cells ≤ e.platform.maxCells
      omega
    · show T.slotsUsed + R'.slots ≤ e.platform.maxSlots
      omega
  · rw [State.stackLimits_setFrames]; rfl
  · rw [State.stackBytes_setFrames]; rfl
  · refine ⟨?_, Nat.le_refl _, Nat.le_refl _, ?_, ?_, fun a c9 h9 => ⟨c9, h9, rfl, rfl, fun _ _ => rfl⟩⟩
    · obtain ⟨t, ht, -⟩ := State.frames_cons hr
      show T.setVm s.vm = { ((T.setVm s.vm).setFrames (.invoking m args :: below)).setFrames (T.setVm s.vm).frames with heap := T.heap, slotsUsed := T.slotsUsed }
      rw [State.setFrames_setFrames, State.setFrames_self ht]
      rfl
    · show T.slotsUsed = T.slotsUsed + ((T.heap.toList.drop T.heap.size).map (·.slots.size)).sum
      rw [List.drop_eq_nil_of_le (Nat.le_of_eq Array.length_toList)]
      rfl
    · show ((T.heap.toList.drop T.heap.size).map (·.slots.size)).sum ≤ 0
      rw [List.drop_eq_nil_of_le (Nat.le_of_eq Array.length_toList)]
      exact Nat.le_refl _
/-- 'throw new E()': new; dup; invokespecial; athrow -/
theorem vx_throw0 {cc : ByteArray} {pc : Nat} (hexec : p.tables.exec = Jvm.exec) (hb : c.code = cc) (hl : l.stackTraces = false) {own cls : String} {names : List String} {ik ic mc ms : Nat} {A : Nat → Prop}
    (hown : s.vm.findClass own = some m.cls) (hcls : Bundle.fit cls = true) (hnames : ∀ n ∈ names, Bundle.fit n = true)
    (hk : (Cond.classLink own ik cls).before args s = true) (hini : (Cond.initialized cls).before args s = true) (hat : ∀ w ∈ vx_at0 own ic cls names, w.before args s = true)
    (hgood : ∀ w ∈ Cond.classLink own ik cls :: Cond.initialized cls :: vx_at0 own ic cls names, vx_ot w = true)
    (hU : vx_Zq Bundle.tN "UNASSIGNED_STACK" Bundle.steD A s s.heap) (hN : vx_Zq Bundle.tN "SUPPRESSED_SENTINEL" Bundle.listD A s s.heap) (hS : va_S A s.heap H locs) (hsize : ls.size = c.maxLocals)
    (d0 : decode cc pc = .ok (.new ik, 3)) (d3 : decode cc (pc + 3) = .ok (.dup, 1)) (d4 : decode cc (pc + 4) = .ok (.invokespecial ic, 3)) (d7 : decode cc (pc + 7) = .ok (.athrow, 1))
    (hout : ∀ x ∈ c.exceptionTable.toList, covers x (pc + 7) = false)
    (hRframes : names.length + 3 < R.frames) (hRlocals : (rest.map fun v => v.category).sum + (13 * (names.length + 1) + 42) ≤ R.locals) (hRcells : cells + 1 ≤ R.cells) (hRslots : slots + 6 ≤ R.slots) (hlocks : meth.locks = false)
    (hx : ∀ t : State, s.vm.Alike t.vm → H.size ≤ t.heap.size → (∀ q : Nat, q < H.size → t.heap[q]? = H[q]?) → XC cls s t)
    (hf : ∀ z ∈ locs, free z.base) (hc : cells + 1 ≤ mc) (hs : slots + 6 ≤ ms) :
    W p l e R s m args below meth c H locs cells slots (vx_MQ below Qc XC args s mc ms free) (F0 m pc ls rest) := by
  intro T hT X
  have htr : e.platform.stackTraces = false := (show e.platform.stackTraces = l.stackTraces by rw [X.admits.platform]).trans hl
  have Y := vx_rebase X (R' := { frames := R.frames, locals := R.locals, cells := 1, slots := 6 }) (Nat.le_refl _) (Nat.le_refl _) hRcells hRslots
  obtain ⟨s', hA⟩ : ∃ z, z = (T.setVm s.vm).setFrames (.invoking m args :: below) := ⟨_, rfl⟩
  rw [← hA] at Y
  have hvm : s'.vm = s.vm := by rw [hA]; rfl
  have hhp : s'.heap = H := by rw [hA]; exact hT
  have hW0 : s.WarmedH s'.vm := by rw [hvm]; exact State.WarmedH.refl s
  have hat' : ∀ w ∈ vx_at0 own ic cls names, w.before args s' = true := fun w hw => vx_ot_at hW0 hvm.symm (hgood w (List.mem_cons_of_mem _ (List.mem_cons_of_mem _ hw))) (hat w hw)
  have hk' : (Cond.classLink own ik cls).before args s' = true := vx_ot_at hW0 hvm.symm (hgood _ List.mem_cons_self) hk
  have hini' : (Cond.initialized cls).before args s' = true := vx_ot_at hW0 hvm.symm (hgood _ (List.mem_cons_of_mem _ List.mem_cons_self)) hini
  have hU' : vx_Zq Bundle.tN "UNASSIGNED_STACK" Bundle.steD A s' s'.heap := by rw [hhp]; exact vx_Zq.moved hW0.alike (hU.kept hS.2.1)
  have hN' : vx_Zq Bundle.tN "SUPPRESSED_SENTINEL" Bundle.listD A s' s'.heap := by rw [hhp]; exact vx_Zq.moved hW0.alike (hN.kept hS.2.1)
  have h : ∀ w ∈ Bundle.ownAtoms0 own ic cls names, w.before args s' = true := vx_own hat' (vx_isRefq hU'.1) (vx_isRefq hN'.1) hU'.2.word hN'.2.word
  have hown' : s'.vm.findClass own = some m.cls := by rw [hvm]; exact hown
  have hins : (Cond.instantiable cls 6).before args s' = true := h _ (by simp [Bundle.ownAtoms0])
  obtain ⟨vm₁, cX, kX, hfX, hkX, -, -, X₁, st1⟩ := Y.newCold hexec (own := own) (C := cls) (index := ik) (n := 6) hown' hk' hins hini'
    (g := F0 m pc ls rest) rfl (by rw [hb]; exact d0) (Nat.le_refl _) (Nat.le_refl _)
  generalize hT1 : (T.setVm vm₁).pushCell { cls := cX, slots := kX.instanceTypes.map defaultValue, vm := .none } = T1 at X₁ st1
  have hcat : (Value.ref T.heap.size).category = 1 := rfl
  have hcellA : T1.heap[T.heap.size]? = some (freshCell cX kX) := by rw [← hT1]; exact State.heap_pushCell_size _ _
  have d3' : decode c.code (pc + 3) = .ok (.dup, 1) := by rw [hb]; exact d3
  obtain ⟨U, hsteps, hrun, hend, hW, hsame, ce, hce, hO⟩ := X₁.ctorThrow0 hexec htr (own := own) (cls := cls) (names := names) (ic := ic) hown' hcls hnames h (fun x hx => nomatch hx) hfX hkX hcellA (by rw [hhp, hT]; exact Nat.le_refl _)
    (g := { method := m, pc := pc + 4, locals := ls, stack := .ref T.heap.size :: .ref T.heap.size :: rest, locked := none }) rfl hsize rfl rfl (rest := rest) rfl
    (by rw [hb]; exact d4) (by rw [hb]; exact d7) hout hRframes (by simp only [List.map_cons, List.sum_cons, hcat]; omega) hlocks
  obtain ⟨f1, f2⟩ := vx_frame hsame
  rw [hhp] at f1 f2
  have hWs : s.WarmedH U.vm := State.WarmedH.trans hW0 hW
  have hcl : s.vm.findClass cls = some ce.cls := by
    have h9 := hO.cls
    rw [hvm] at h9
    exact h9
  have hall : s.sameButNew ({ U with vm := s.vm } : State) locs mc ms := by
    subst hA
    obtain ⟨e1, e2⟩ := hsame
    rw [State.setFrames_setFrames] at e1
    have h2 : (T.setVm s.vm).sameButNew ({ U with vm := s.vm } : State) [] (0 + 1) (0 + 6) := ⟨e1, e2⟩
    have h3 := X.same.trans h2
    rw [List.append_nil] at h3
    exact h3.mono hc hs
  refine ⟨U, ?_, .threw T.heap.size, hrun, hend, Or.inr ⟨T.heap.size, rfl, cls, ce, locs, hx U hWs.alike f1 (fun q hq => f2 q hq (fun z hz => nomatch hz)), hce, hO.vm, hcl, hWs, hall, hf⟩⟩
  refine st1 _ ?_
  show Steps p.tables e below (T1.setTop { method := m, pc := pc + 3, locals := ls, stack := .ref T.heap.size :: rest, locked := none }) _
  jvm_step X₁.here [X₁.here.top, hexec, d3', Value.category]
  exact hsteps
/-- 'throw new E("text")': new; dup; ldc; invokespecial; athrow -/
theorem vx_throwS {cc : ByteArray} {pc : Nat} (hexec : p.tables.exec = Jvm.exec) (hb : c.code = cc) (hl : l.stackTraces = false) {own cls text : String} {names : List String} {ik is ic mc ms sa : Nat} {A : Nat → Prop}
    (hown : s.vm.findClass own = some m.cls) (hcls : Bundle.fit cls = true) (hnames : ∀ n ∈ names, Bundle.fit n = true)
    (hk : (Cond.classLink own ik cls).before args s = true) (hini : (Cond.initialized cls).before args s = true) (hstr : vk_R own is text sa s) (hat : ∀ w ∈ vx_atS own ic cls names, w.before args s = true)
    (hgood : ∀ w ∈ Cond.classLink own ik cls :: Cond.initialized cls :: vx_atS own ic cls names, vx_ot w = true)
    (hU : vx_Zq Bundle.tN "UNASSIGNED_STACK" Bundle.steD A s s.heap) (hN : vx_Zq Bundle.tN "SUPPRESSED_SENTINEL" Bundle.listD A s s.heap) (hS : va_S A s.heap H locs) (hsize : ls.size = c.maxLocals)
    (d0 : decode cc pc = .ok (.new ik, 3)) (d3 : decode cc (pc + 3) = .ok (.dup, 1)) (d4 : decode cc (pc + 4) = .ok (.ldc is, 2)) (d6 : decode cc (pc + 6) = .ok (.invokespecial ic, 3)) (d9 : decode cc (pc + 9) = .ok (.athrow, 1))
    (hout : ∀ x ∈ c.exceptionTable.toList, covers x (pc + 9) = false)
    (hRframes : names.length + 3 < R.frames) (hRlocals : (rest.map fun v => v.category).sum + (13 * (names.length + 1) + 43) ≤ R.locals) (hRcells : cells + 1 ≤ R.cells) (hRslots : slots + 6 ≤ R.slots) (hlocks : meth.locks = false)
    (hx : ∀ t : State, s.vm.Alike t.vm → H.size ≤ t.heap.size → (∀ q : Nat, q < H.size → t.heap[q]? = H[q]?) → XC cls s t)
    (hf : ∀ z ∈ locs, free z.base) (hc : cells + 1 ≤ mc) (hs : slots + 6 ≤ ms) :
    W p l e R s m args below meth c H locs cells slots (vx_MQ below Qc XC args s mc ms free) (F0 m pc ls rest) := by
  intro T hT X
  have htr : e.platform.stackTraces = false := (show e.platform.stackTraces = l.stackTraces by rw [X.admits.platform]).trans hl
  have Y := vx_rebase X (R' := { frames := R.frames, locals := R.locals, cells := 1, slots := 6 }) (Nat.le_refl _) (Nat.le_refl _) hRcells hRslots
  obtain ⟨s', hA⟩ : ∃ z, z = (T.setVm s.vm).setFrames (.invoking m args :: below) := ⟨_, rfl⟩
  rw [← hA] at Y
  have hvm : s'.vm = s.vm := by rw [hA]; rfl
  have hhp : s'.heap = H := by rw [hA]; exact hT
  have hW0 : s.WarmedH s'.vm := by rw [hvm]; exact State.WarmedH.refl s
  have hat' : ∀ w ∈ vx_atS own ic cls names, w.before args s' = true := fun w hw => vx_ot_at hW0 hvm.symm (hgood w (List.mem_cons_of_mem _ (List.mem_cons_of_mem _ hw))) (hat w hw)
  have hk' : (Cond.classLink own ik cls).before args s' = true := vx_ot_at hW0 hvm.symm (hgood _ List.mem_cons_self) hk
  have hini' : (Cond.initialized cls).before args s' = true := vx_ot_at hW0 hvm.symm (hgood _ (List.mem_cons_of_mem _ List.mem_cons_self)) hini
  have hU' : vx_Zq Bundle.tN "UNASSIGNED_STACK" Bundle.steD A s' s'.heap := by rw [hhp]; exact vx_Zq.moved hW0.alike (hU.kept hS.2.1)
  have hN' : vx_Zq Bundle.tN "SUPPRESSED_SENTINEL" Bundle.listD A s' s'.heap := by rw [hhp]; exact vx_Zq.moved hW0.alike (hN.kept hS.2.1)
  have h : ∀ w ∈ Bundle.ownAtoms own ic cls names, w.before args s' = true := vx_own hat' (vx_isRefq hU'.1) (vx_isRefq hN'.1) hU'.2.word hN'.2.word
  have hown' : s'.vm.findClass own = some m.cls := by rw [hvm]; exact hown
  have hins : (Cond.instantiable cls 6).before args s' = true := h _ (by simp [Bundle.ownAtoms])
  obtain ⟨vm₁, cX, kX, hfX, hkX, -, -, X₁, st1⟩ := Y.newCold hexec (own := own) (C := cls) (index := ik) (n := 6) hown' hk' hins hini'
    (g := F0 m pc ls rest) rfl (by rw [hb]; exact d0) (Nat.le_refl _) (Nat.le_refl _)
  generalize hT1 : (T.setVm vm₁).pushCell { cls := cX, slots := kX.instanceTypes.map defaultValue, vm := .none } = T1 at X₁ st1
  have hcat : (Value.ref T.heap.size).category = 1 := rfl
  have hcellA : T1.heap[T.heap.size]? = some (freshCell cX kX) := by rw [← hT1]; exact State.heap_pushCell_size _ _
  have d3' : decode c.code (pc + 3) = .ok (.dup, 1) := by rw [hb]; exact d3
  have d4' : decode c.code (pc + 4) = .ok (.ldc is, 2) := by rw [hb]; exact d4
  have hstr' : vk_R own is text sa s' := vk_R.warm hW0 hstr
  obtain ⟨U, hsteps, hrun, hend, hW, hsame, ce, hce, hO⟩ := X₁.ctorThrowS hexec htr (own := own) (cls := cls) (names := names) (ic := ic) hown' hcls hnames h (fun x hx => nomatch hx) hfX hkX hcellA (by rw [hhp, hT]; exact Nat.le_refl _) (msg := .ref sa) rfl
    (g := { method := m, pc := pc + 6, locals := ls, stack := .ref sa :: .ref T.heap.size :: .ref T.heap.size :: rest, locked := none }) rfl hsize rfl rfl (rest := rest) rfl
    (by rw [hb]; exact d6) (by rw [hb]; exact d9) hout hRframes (by simp only [List.map_cons, List.sum_cons, hcat]; omega) hlocks
  obtain ⟨f1, f2⟩ := vx_frame hsame
  rw [hhp] at f1 f2
  have hWs : s.WarmedH U.vm := State.WarmedH.trans hW0 hW
  have hcl : s.vm.findClass cls = some ce.cls := by
    have h9 := hO.cls
    rw [hvm] at h9
    exact h9
  have hall : s.sameButNew ({ U with vm := s.vm } : State) locs mc ms := by
    subst hA
    obtain ⟨e1, e2⟩ := hsame
    rw [State.setFrames_setFrames] at e1
    have h2 : (T.setVm s.vm).sameButNew ({ U with vm := s.vm } : State) [] (0 + 1) (0 + 6) := ⟨e1, e2⟩
    have h3 := X.same.trans h2
    rw [List.append_nil] at h3
    exact h3.mono hc hs
  refine ⟨U, ?_, .threw T.heap.size, hrun, hend, Or.inr ⟨T.heap.size, rfl, cls, ce, locs, hx U hWs.alike f1 (fun q hq => f2 q hq (fun z hz => nomatch hz)), hce, hO.vm, hcl, hWs, hall, hf⟩⟩
  refine st1 _ ?_
  show Steps p.tables e below (T1.setTop { method := m, pc := pc + 3, locals := ls, stack := .ref T.heap.size :: rest, locked := none }) _
  jvm_step X₁.here [X₁.here.top, hexec, d3', Value.category]
  exact X₁.ldcString hexec (own := own) (text := text) (index := is) (a := sa) hown' hstr'.1 hstr'.2
    (g := { method := m, pc := pc + 4, locals := ls, stack := .ref T.heap.size :: .ref T.heap.size :: rest, locked := none }) rfl d4' _ hsteps
/-- 'throw new E("text")', the text by a wide index -/
theorem vx_throwSW {cc : ByteArray} {pc : Nat} (hexec : p.tables.exec = Jvm.exec) (hb : c.code = cc) (hl : l.stackTraces = false) {own cls text : String} {names : List String} {ik is ic mc ms sa : Nat} {A : Nat → Prop}
    (hown : s.vm.findClass own = some m.cls) (hcls : Bundle.fit cls = true) (hnames : ∀ n ∈ names, Bundle.fit n = true)
    (hk : (Cond.classLink own ik cls).before args s = true) (hini : (Cond.initialized cls).before args s = true) (hstr : vk_R own is text sa s) (hat : ∀ w ∈ vx_atS own ic cls names, w.before args s = true)
    (hgood : ∀ w ∈ Cond.classLink own ik cls :: Cond.initialized cls :: vx_atS own ic cls names, vx_ot w = true)
    (hU : vx_Zq Bundle.tN "UNASSIGNED_STACK" Bundle.steD A s s.heap) (hN : vx_Zq Bundle.tN "SUPPRESSED_SENTINEL" Bundle.listD A s s.heap) (hS : va_S A s.heap H locs) (hsize : ls.size = c.maxLocals)
    (d0 : decode cc pc = .ok (.new ik, 3)) (d3 : decode cc (pc + 3) = .ok (.dup, 1)) (d4 : decode cc (pc + 4) = .ok (.ldc_w is, 3)) (d7 : decode cc (pc + 7) = .ok (.invokespecial ic, 3)) (d10 : decode cc (pc + 10) = .ok (.athrow, 1))
    (hout : ∀ x ∈ c.exceptionTable.toList, covers x (pc + 10) = false)
    (hRframes : names.length + 3 < R.frames) (hRlocals : (rest.map fun v => v.category).sum + (13 * (names.length + 1) + 43) ≤ R.locals) (hRcells : cells + 1 ≤ R.cells) (hRslots : slots + 6 ≤ R.slots) (hlocks : meth.locks = false)
    (hx : ∀ t : State, s.vm.Alike t.vm → H.size ≤ t.heap.size → (∀ q : Nat, q < H.size → t.heap[q]? = H[q]?) → XC cls s t)
    (hf : ∀ z ∈ locs, free z.base) (hc : cells + 1 ≤ mc) (hs : slots + 6 ≤ ms) :
    W p l e R s m args below meth c H locs cells slots (vx_MQ below Qc XC args s mc ms free) (F0 m pc ls rest) := by
  intro T hT X
  have htr : e.platform.stackTraces = false := (show e.platform.stackTraces = l.stackTraces by rw [X.admits.platform]).trans hl
  have Y := vx_rebase X (R' := { frames := R.frames, locals := R.locals, cells := 1, slots := 6 }) (Nat.le_refl _) (Nat.le_refl _) hRcells hRslots
  obtain ⟨s', hA⟩ : ∃ z, z = (T.setVm s.vm).setFrames (.invoking m args :: below) := ⟨_, rfl⟩
  rw [← hA] at Y
  have hvm : s'.vm = s.vm := by rw [hA]; rfl
  have hhp : s'.heap = H := by rw [hA]; exact hT
  have hW0 : s.WarmedH s'.vm := by rw [hvm]; exact State.WarmedH.refl s
  have hat' : ∀ w ∈ vx_atS own ic cls names, w.before args s' = true := fun w hw => vx_ot_at hW0 hvm.symm (hgood w (List.mem_cons_of_mem _ (List.mem_cons_of_mem _ hw))) (hat w hw)
  have hk' : (Cond.classLink own ik cls).before args s' = true := vx_ot_at hW0 hvm.symm (hgood _ List.mem_cons_self) hk
  have hini' : (Cond.initialized cls).before args s' = true := vx_ot_at hW0 hvm.symm (hgood _ (List.mem_cons_of_mem _ List.mem_cons_self)) hini
  have hU' : vx_Zq Bundle.tN "UNASSIGNED_STACK" Bundle.steD A s' s'.heap := by rw [hhp]; exact vx_Zq.moved hW0.alike (hU.kept hS.2.1)
  have hN' : vx_Zq Bundle.tN "SUPPRESSED_SENTINEL" Bundle.listD A s' s'.heap := by rw [hhp]; exact vx_Zq.moved hW0.alike (hN.kept hS.2.1)
  have h : ∀ w ∈ Bundle.ownAtoms own ic cls names, w.before args s' = true := vx_own hat' (vx_isRefq hU'.1) (vx_isRefq hN'.1) hU'.2.word hN'.2.word
  have hown' : s'.vm.findClass own = some m.cls := by rw [hvm]; exact hown
  have hins : (Cond.instantiable cls 6).before args s' = true := h _ (by simp [Bundle.ownAtoms])
  obtain ⟨vm₁, cX, kX, hfX, hkX, -, -, X₁, st1⟩ := Y.newCold hexec (own := own) (C := cls) (index := ik) (n := 6) hown' hk' hins hini'
    (g := F0 m pc ls rest) rfl (by rw [hb]; exact d0) (Nat.le_refl _) (Nat.le_refl _)
  generalize hT1 : (T.setVm vm₁).pushCell { cls := cX, slots := kX.instanceTypes.map defaultValue, vm := .none } = T1 at X₁ st1
  have hcat : (Value.ref T.heap.size).category = 1 := rfl
  have hcellA : T1.heap[T.heap.size]? = some (freshCell cX kX) := by rw [← hT1]; exact State.heap_pushCell_size _ _
  have d3' : decode c.code (pc + 3) = .ok (.dup, 1) := by rw [hb]; exact d3
  have d4' : decode c.code (pc + 4) = .ok (.ldc_w is, 3) := by rw [hb]; exact d4
  have hstr' : vk_R own is text sa s' := vk_R.warm hW0 hstr
  obtain ⟨U, hsteps, hrun, hend, hW, hsame, ce, hce, hO⟩ := X₁.ctorThrowS hexec htr (own := own) (cls := cls) (names := names) (ic := ic) hown' hcls hnames h (fun x hx => nomatch hx) hfX hkX hcellA (by rw [hhp, hT]; exact Nat.le_refl _) (msg := .ref sa) rfl
    (g := { method := m, pc := pc + 7, locals := ls, stack := .ref sa :: .ref T.heap.size :: .ref T.heap.size :: rest, locked := none }) rfl hsize rfl rfl (rest := rest) rfl
    (by rw [hb]; exact d7) (by rw [hb]; exact d10) hout hRframes (by simp only [List.map_cons, List.sum_cons, hcat]; omega) hlocks
  obtain ⟨f1, f2⟩ := vx_frame hsame
  rw [hhp] at f1 f2
  have hWs : s.WarmedH U.vm := State.WarmedH.trans hW0 hW
  have hcl : s.vm.findClass cls = some ce.cls := by
    have h9 := hO.cls
    rw [hvm] at h9
    exact h9
  have hall : s.sameButNew ({ U with vm := s.vm } : State) locs mc ms := by
    subst hA
    obtain ⟨e1, e2⟩ := hsame
    rw [State.setFrames_setFrames] at e1
    have h2 : (T.setVm s.vm).sameButNew ({ U with vm := s.vm } : State) [] (0 + 1) (0 + 6) := ⟨e1, e2⟩
    have h3 := X.same.trans h2
    rw [List.append_nil] at h3
    exact h3.mono hc hs
  refine ⟨U, ?_, .threw T.heap.size, hrun, hend, Or.inr ⟨T.heap.size, rfl, cls, ce, locs, hx U hWs.alike f1 (fun q hq => f2 q hq (fun z hz => nomatch hz)), hce, hO.vm, hcl, hWs, hall, hf⟩⟩
  refine st1 _ ?_
  show Steps p.tables e below (T1.setTop { method := m, pc := pc + 3, locals := ls, stack := .ref T.heap.size :: rest, locked := none }) _
  jvm_step X₁.here [X₁.here.top, hexec, d3', Value.category]
  exact X₁.ldcStringW hexec (own := own) (text := text) (index := is) (a := sa) hown' hstr'.1 hstr'.2
    (g := { method := m, pc := pc + 4, locals := ls, stack := .ref T.heap.size :: .ref T.heap.size :: rest, locked := none }) rfl d4' _ hsteps
end Ends
section Bodies
variable {l : Launch}
theorem vx_ofW {y : MethodName} {ws ws' : List Cond} {rm : Room} {Pc : Array Value → State → Prop} {Qc : Array Value → State → Outcome → State → Prop} {XC : String → State → State → Prop} {mc ms : Nat} {free : Addr → Prop} {cc : ByteArray} {maxL : Nat} {ret : Option FieldType}
    (hy : plainName y.cls = true) (hw : ws = Cond.code y cc maxL ret :: ws')
    (body : ∀ p e s m args below meth c s₁, BodyLoose p l y (headSpec ws rm) cc maxL ret e s m args below meth c s₁ → c.maxLocals = maxL → (∀ x ∈ c.exceptionTable.toList, False) → Pc args s →
      W p l e (headSpec ws rm).room s m args below meth c s.heap [] 0 0 (vx_MQ below Qc XC args s mc ms free) (entryFrame m args maxL)) : vx_Met l y ws rm Pc Qc XC mc ms free := by
  refine MetFree.of_bodyS (code := cc) (maxLocals := maxL) (ret := ret) hy ?_ ?_
  · intro args s m h hn
    obtain ⟨meth, c, h1, h2, h3, h4, h5, h6, -, -⟩ := Cond.code_spec hn (atoms_spec (ws := ws) h _ (by rw [hw]; exact List.mem_cons_self))
    exact ⟨meth, c, h1, h2, h3, h4, h5, h6⟩
  · intro p e s m args below meth c s₁ B hml hP _
    have hh0 : s₁.heap = s.heap := by rw [B.state]; rfl
    have ht : ∀ x ∈ c.exceptionTable.toList, False := by
      obtain ⟨meth9, c9, h1, h2, -, -, -, -, h7, -⟩ := Cond.code_spec B.named (atoms_spec (ws := ws) B.pre _ (by rw [hw]; exact List.mem_cons_self))
      cases Option.some.inj (h1.symm.trans B.method)
      cases Option.some.inj (h2.symm.trans (Stand.of_body B).code)
      intro x hx
      rw [Array.isEmpty_iff.mp h7] at hx
      cases hx
    obtain ⟨t, a1, o, b1, b2, b3⟩ := body p e s m args below meth c s₁ B hml ht hP s₁ hh0 (Stand.of_body B)
    exact ⟨t, o, a1, b1, b2, b3⟩
/-- the table of a body with handlers -/
theorem vx_table {p : Program} {x y : MethodName} {S : Spec} {cc bytes : ByteArray} {maxL maxL' : Nat} {ret ret' : Option FieldType} {e : Env} {s s₁ : State} {m : MethodId} {args : Array Value} {below : List Frame} {meth : Method} {c : Code} {hh : List (Nat × Nat × Nat × Nat)}
    (B : BodyLoose p l y S cc maxL ret e s m args below meth c s₁) (h : (Cond.codeWith y bytes maxL' ret' hh).before args s = true) : c.exceptionTable.toList = tableOf hh := by
  obtain ⟨m9, meth9, c9, hn9, h1, h2, -, -, h6, -⟩ := Cond.codeWith_spec h
  cases Option.some.inj (hn9.symm.trans B.named)
  cases Option.some.inj (h1.symm.trans B.method)
  cases Option.some.inj (h2.symm.trans (Stand.of_body B).code)
  rw [← h6, table_eq]
end Bodies
end VXA
/-! ===== END ===== -/
/-! ===== BEGIN a static call of a method with an exception table ===== -/
section VXS
variable {p : Program} {l : Launch} {e : Env} {R : Room} {s : State} {m : MethodId} {args : Array Value} {below : List Frame} {meth : Method} {c : Code} {T : State} {H : Heap} {locs : List Loc} {cells slots : Nat}
abbrev vx_CSW (R : Room) (s : State) (args : Array Value) (own : String) (index : Nat) (y : MethodName) (bytes : ByteArray) (maxL : Nat) (ret : Option FieldType) (hh : List (Nat × Nat × Nat × Nat)) (ws : List Cond) (rm : Room) (mc ms n : Nat) : Prop :=
  (rm.cells = mc ∧ rm.slots = ms ∧ rm.frames + 1 ≤ R.frames ∧ 8 + (maxL + 11) + rm.locals ≤ R.locals ∧ (∀ w ∈ ws, ∀ (a' : Array Value) (U : State), s.WarmedH U.vm → w.before a' U = true) ∧ Cond.codeWith y bytes maxL ret hh ∈ ws) ∧
  (Cond.codeWith y bytes maxL ret hh).before args s = true ∧ (Cond.initialized y.cls).before args s = true ∧ (y.cls ≠ "java/lang/invoke/MethodHandle" ∧ y.cls ≠ "java/lang/invoke/VarHandle") ∧
  (∀ sig, parseMethodDescriptor y.desc = some sig → n = sig.parameters.length) ∧ (Cond.methodLink own index y).before args s = true ∧ (Cond.static y).before args s = true
theorem vx_cwSW {own : String} {index maxL mc ms : Nat} {y : MethodName} {bytes : ByteArray} {ret : Option FieldType} {hh : List (Nat × Nat × Nat × Nat)} {Ts ws ws' : List Cond} {rm : Room} (n : Nat) (ht : ∀ w ∈ Ts, w.before args s = true) (hT : GoodIn Ts (va_wsS own index y ws)) (hw : ws = Cond.codeWith y bytes maxL ret hh :: ws') (hrc : rm.cells = mc) (hrs : rm.slots = ms)
    (hd : y.cls ≠ "java/lang/invoke/MethodHandle" ∧ y.cls ≠ "java/lang/invoke/VarHandle" ∧ (parseMethodDescriptor y.desc).map (fun d => d.parameters.length) = some n) (hR : rm.frames + 1 ≤ R.frames ∧ 8 + (maxL + 11) + rm.locals ≤ R.locals) :
    vx_CSW R s args own index y bytes maxL ret hh ws rm mc ms n := by
  have ok : ∀ w ∈ va_wsS own index y ws, w.before args s = true := fun w h => ht w (hT w h).1
  have hG : GoodIn Ts ws := fun w h => hT w (by unfold va_wsS; exact List.mem_append_right _ h)
  have hc : Cond.codeWith y bytes maxL ret hh ∈ ws := by rw [hw]; exact List.mem_cons_self
  refine ⟨⟨hrc, hrs, hR.1, hR.2, pay_in ht hG, hc⟩, ht _ (hG _ hc).1, ok _ (by simp [va_wsS]), ⟨hd.1, hd.2.1⟩, fun sig h => ?_, ok _ (by simp [va_wsS]), ok _ (by simp [va_wsS])⟩
  have h2 := hd.2.2
  rw [h] at h2
  exact (Option.some.inj h2).symm
theorem vx_callSW (X : Stand p l e R s m args below meth c T locs cells slots) (hexec : p.tables.exec = Jvm.exec) {own : String} {index : Nat} {y : MethodName} {bytes : ByteArray} {maxL : Nat} {ret : Option FieldType} {hh : List (Nat × Nat × Nat × Nat)}
    (hown : s.vm.findClass own = some m.cls) (hlink : (Cond.methodLink own index y).before args s = true) (hstat : (Cond.static y).before args s = true) (hinit : (Cond.initialized y.cls).before args s = true)
    (hcode : (Cond.codeWith y bytes maxL ret hh).before args s = true) (hy : y.cls ≠ "java/lang/invoke/MethodHandle" ∧ y.cls ≠ "java/lang/invoke/VarHandle")
    {W9 : Nat} {Pre : Pt → Array Value → Prop} {Post : Pt → Array Value → Option Value → Pt → Prop} (hK : Back l R p e below s args y 3 W9 Pre Post)
    {g : JFrame} (hg : g.method = m) (hsize : g.locals.size = c.maxLocals) {argsL rest : List Value} (hlen : ∀ sig, parseMethodDescriptor y.desc = some sig → argsL.length = sig.parameters.length)
    (hstack : g.stack = argsL.reverse ++ rest) (hW : 2 * g.monitorRoom + (rest.map fun v => v.category).sum ≤ W9) (hdg : decode c.code g.pc = .ok (.invokestatic index, 3))
    (hpre : ∀ vm₁, s.WarmedH vm₁ → Pre ⟨T.setVm vm₁, locs, cells, slots⟩ argsL.toArray) :
    ∃ (v : Option Value) (vm₁ : Vm) (B : Pt), s.WarmedH vm₁ ∧ Stand p l e R s m args below meth c B.U B.locs B.cells B.slots ∧ Post ⟨T.setVm vm₁, locs, cells, slots⟩ argsL.toArray v B ∧
      ∀ target, Steps p.tables e below (B.U.setTop { g with pc := g.pc + 3, stack := v.toList ++ rest }) target → Steps p.tables e below (T.setTop g) target := by
  obtain ⟨mk, methM, cM, hnamed, hmethM, -, -, -, -, -, -, hsigM⟩ := Cond.codeWith_spec hcode
  have hstatic : methM.isStatic = true := Cond.static_spec hnamed hmethM hstat
  obtain ⟨kP, hkP, -⟩ := className_of_methodNamed hnamed
  have hinitP : kP.init = .initialized := Cond.initialized_spec (findClass_of_methodNamed hnamed) hkP hinit
  obtain ⟨vm₁, X₁, hstep₁⟩ := X.invokestatic hexec hown hlink hnamed hmethM hstatic hkP hinitP hy (g := g) hg (argsL := argsL) (rest := rest) (hlen _ hsigM) hstack hdg
  obtain ⟨v, B, X', hpost, hsteps⟩ := hK m meth c ⟨T.setVm vm₁, locs, cells, slots⟩ { g with stack := rest } (.invokestatic index) mk argsL.toArray X₁ hg hsize hdg hW (X₁.named hnamed) (hpre vm₁ X₁.warmed)
  exact ⟨v, vm₁, B, X₁.warmed, X', hpost, fun target h => hstep₁ _ fun acts => by rw [doInvoke_state]; exact hsteps.trans h⟩
theorem vx_runSW {y : MethodName} {bytes cc : ByteArray} {maxL nL mc ms n index : Nat} {ret : Option FieldType} {hh : List (Nat × Nat × Nat × Nat)} {ws : List Cond} {rm : Room} {Pc : Array Value → State → Prop} {Qc : Array Value → State → Outcome → State → Prop} {free : Addr → Prop} {Ts : List Cond} {own : String} {As rest : List Value} {g : JFrame}
    (S : CallFix p m c cc nL s args Ts own) (hM : Met l y ws rm Pc Qc mc ms free) (cw : vx_CSW R s args own index y bytes maxL ret hh ws rm mc ms n) (hp : PreS s H Pc As)
    (hg : g.method = m) (hn : As.length = n) (hsize : g.locals.size = nL) (hstack : g.stack = As.reverse ++ rest) (hW : 2 * g.monitorRoom + (rest.map fun v => v.category).sum ≤ 8) (hdg : decode cc g.pc = .ok (.invokestatic index, 3)) (hf : cells + mc ≤ R.cells ∧ slots + ms ≤ R.slots) :
    va_Run p l e R s m args below meth c H locs cells slots mc ms g rest (Qc As.toArray) (free) := by
  obtain ⟨⟨hrc, hrs, hfr, hlo, hws, hcw⟩, hcode, hini, hy, hlen, hl, hstt⟩ := cw
  have hK : Back l R p e below s args y 3 8 (PreOf R mc ms Pc) (PostOf Qc mc ms free) := va_backW (hh := hh) (bytes := bytes) (maxL := maxL) (ret := ret) hM hp.1 hrc hrs hfr hlo hws hcw (fun a' U hW => word_at hW (Or.inl (by first | rfl | simp [Cond.onTables, Cond.keeps, Cond.steady])) hini)
  obtain ⟨hx, hb, hml, ho, -⟩ := S
  intro T hT X
  obtain ⟨v, vm₁, ⟨U', l2, c2, s2⟩, hW₁, X', ⟨g', mk, t, L, e1, e2, hq, h1, hL, h2, h3⟩, st⟩ := vx_callSW X hx (hh := hh) (bytes := bytes) (maxL := maxL) (ret := ret) ho hl hstt hini hcode hy hK hg (hsize.trans hml.symm) (argsL := As) (rest := rest) (fun sig h => hn.trans (hlen sig h)) hstack hW (by rw [hb]; exact hdg)
    (fun vm₁ hW₁ => ⟨hf.1, hf.2, hp.2 (T.setVm vm₁) hT hW₁⟩)
  dsimp only [Pt.U, Pt.locs, Pt.cells, Pt.slots] at X' e1 e2 h1 h2 h3 st
  subst h1; subst h2; subst h3
  exact ⟨v, (T.setVm vm₁).calling g' mk As.toArray, t, U', L, hT, X', hL, e1, e2, hq, st⟩
/-- not caught here, past rows that name other classes: it goes on to the caller -/
theorem vx_outP {p : Program} {l : Launch} {e : Env} {R : Room} {s : State} {m : MethodId} {args : Array Value} {below : List Frame} {meth : Method} {c : Code} {H : Heap} {locs : List Loc} {cells slots : Nat} {free : Addr → Prop} {ls : Array Slot} {rest : List Value} {Qc : Array Value → State → Outcome → State → Prop} {XC : String → State → State → Prop}
    {pc : Nat} {own E : String} {ce : Cell} {q : Addr} {mc ms : Nat} (hown : s.vm.findClass own = some m.cls) (hlocks : meth.locks = false)
    (hpass : ∀ z ∈ c.exceptionTable.toList, covers z pc = false ∨ (z.catchType ≠ 0 ∧ ∃ nm : String, (Cond.classLink own z.catchType nm).before args s = true ∧ va_Nc E nm s)) (hcell : H[q]? = some ce) (hv : ce.vm = .none) (hcl : s.vm.findClass E = some ce.cls)
    (hx : ∀ t : State, t.heap = H → s.vm.Alike t.vm → XC E s t) (hf : ∀ z ∈ locs, free z.base) (hc : cells ≤ mc) (hs : slots ≤ ms) :
    vx_W p l e R s m args below meth c H locs cells slots (vx_MQ below Qc XC args s mc ms free) (F0 m pc ls rest) q := by
  intro T hT X
  have hpl : e.platform.magicAccessors = ({} : Platform).magicAccessors := by rw [X.admits.platform]
  obtain ⟨vm', hW', X', st⟩ := X.outThrough hlocks q (g := F0 m pc ls rest) rfl rfl rfl (cell := ce) (by rw [hT]; exact hcell) (by rw [hv]; rfl)
    (by obtain ⟨k9, h9, -⟩ := Vm.findClass_spec hcl; exact ⟨k9, h9⟩) (fun z hz => by
      rcases hpass z hz with h | ⟨hz0, nm, hl1, hn1⟩
      · exact Or.inl h
      · obtain ⟨c6, hc6, hcl6⟩ := Cond.classLink_spec hown hl1 e.platform hpl
        obtain ⟨a8, b8, h1, h2, h3⟩ := hn1
        cases Option.some.inj (h1.symm.trans hcl)
        cases Option.some.inj (h2.symm.trans hc6)
        exact Or.inr ⟨hz0, _, hcl6, h3⟩)
  obtain ⟨g₀, hfr⟩ := X'.frames_eq
  have hcell9 : ((T.setVm vm').setFrames (.throwing q :: below)).heap[q]? = some ce := by
    show T.heap[q]? = some ce
    rw [hT]; exact hcell
  have hend : Ended ((T.setVm vm').setFrames (.throwing q :: below)) below (.threw q) := State.frames_setFrames _ (State.cur_lt_of_frames hfr)
  refine ⟨(T.setVm vm').setFrames (.throwing q :: below), ?_, .threw q, X'.here.running, hend, Or.inr ⟨q, rfl, E, ce, locs, hx _ hT (X'.ends _).1.alike, hcell9, hv, hcl, (X'.ends _).1, (X'.ends _).2.mono hc hs, hf⟩⟩
  rw [X.pushThrowing_eq]
  exact st
/-- a thing of a world lies in the heap -/
theorem vx_lt {D : va_G} {cl : List vw_C} {ws : va_W} {H1 : Heap} (h : va_P D cl ws H1) {k : Nat} {q : Nat × va_E} (hk : ws[k]? = some q) : q.1 < H1.size := (h k q hk).lt
end VXS
/-! ===== END ===== -/
/-! ===== BEGIN methods with a table of their own: called by a name, returning or throwing ===== -/
section VXH
/-! vx_backW, vx_callVX, vx_callSX, vx_callVW, vx_runVW, vx_runVX, vx_runSX, vx_ofWH follow the same proofs as their sisters above (Free/Laws.lean, Shelf42/LK1.lean); vx_outP calls Shelf42/NT130.lean (outThrough). -/
section
variable {l : Launch} {R : Room} {p : Program} {e : Env} {below : List Frame} {s : State} {sargs : Array Value} {y : MethodName} {len W9 : Nat}
theorem vx_backW {ws : List Cond} {rm : Room} {Pc : Array Value → State → Prop} {Qc : Array Value → State → Outcome → State → Prop} {XC : String → State → State → Prop} {mc ms : Nat} {free : Addr → Prop} {bytes : ByteArray} {maxL : Nat} {ret : Option FieldType} {hh : List (Nat × Nat × Nat × Nat)}
    (hM : vx_Met l y ws rm Pc Qc XC mc ms free) (hblind : FrameBlind Pc) (hrc : rm.cells = mc) (hrs : rm.slots = ms)
    (hframes : rm.frames + 1 ≤ R.frames) (hlocals : W9 + (maxL + 11) + rm.locals ≤ R.locals)
    (hws : ∀ w ∈ ws, ∀ a' U, s.WarmedH U.vm → w.before a' U = true) (hcode : Cond.codeWith y bytes maxL ret hh ∈ ws) (hinit : ∀ a' U, s.WarmedH U.vm → (Cond.initialized y.cls).before a' U = true) :
    vx_Back l R p e below s sargs y len W9 (PreOf R mc ms Pc) (PostOf Qc mc ms free) (vx_Post XC mc ms free) := by
  intro m meth c A g ig mk a X hg hsize hdg hW hn hp
  have h1 : (headSpec ws rm).pre.before a A.U = true := atoms_intro fun w hw => hws w hw _ _ X.warmed
  have h2 : (Cond.codeWith y bytes maxL ret hh).before a A.U = true := hws _ hcode _ _ X.warmed
  have h3 : (Cond.initialized y.cls).before a A.U = true := hinit _ _ X.warmed
  have h4 : A.cells + (headSpec ws rm).room.cells ≤ R.cells := by rw [show (headSpec ws rm).room.cells = mc from hrc]; exact hp.1
  have h5 : A.slots + (headSpec ws rm).room.slots ≤ R.slots := by rw [show (headSpec ws rm).room.slots = ms from hrs]; exact hp.2.1
  have hPc : Pc a (A.U.calling g mk a) := hblind _ _ _ _ hp.2.2
  obtain ⟨U, Ls, c0, s0⟩ := A
  dsimp only [Pt.U, Pt.locs, Pt.cells, Pt.slots] at h1 h2 h3 h4 h5 X hn hPc ⊢
  obtain ⟨m9, methY, cY, hn9, hmY, hcY, -, hlY, -⟩ := Cond.codeWith_spec h2
  cases Option.some.inj (hn9.symm.trans hn)
  obtain ⟨kY, hkY, -⟩ := className_of_methodNamed hn
  have hinitY : kY.init = .initialized := Cond.initialized_spec (findClass_of_methodNamed hn) hkY h3
  have h : At U g.method c below := by rw [hg]; exact X.here
  have hlocals9 : W9 + (maxL + 11) + (headSpec ws rm).room.locals ≤ R.locals := hlocals
  have happ : (headSpec ws rm).appliesLoose y e.platform (U.calling g mk a) = true :=
    Spec.appliesLoose_calling (g := g) h hdg hn hkY hinitY
      (X.room_calling (g := g) (R' := (headSpec ws rm).room) hsize hmY hcY hframes (by rw [hlY]; omega) h4 h5) h1
  obtain ⟨mid, hmid⟩ := h.above
  have hfr : (U.setTop g).frames = (.java g :: mid) ++ below := by rw [State.frames_setTop' g h.top, hmid]; rfl
  obtain ⟨o, s₂, hsteps, -, hend, hq⟩ := Steps.callFree hM p X.admits X.cas X.clock (acts := []) hfr happ hPc trivial
  have hq' : vx_Q Qc XC mc ms free a (U.calling g mk a) o s₂ := hq
  rw [State.frames_setTop' g h.top] at hend
  obtain ⟨g₀, hg0⟩ := Option.isSome_iff_exists.mp h.top
  obtain ⟨r, hr⟩ := State.topJava?_eq_some.mp hg0
  have hr' : (({ U with heap := s₂.heap, slotsUsed := s₂.slotsUsed } : State).setVm s₂.vm).frames = .java g₀ :: r := hr
  rcases hq' with ⟨hqc, L, hfe, hL⟩ | ⟨q, rfl, E, ce, L, hx, hce, hcv, hcl, hW₂, hsm, hL⟩
  · obtain ⟨⟨v, rfl⟩, hW₂, e2, q2, q3, q4, q5, q6⟩ := id hfe
    have e3 : s₂ = ({ (U.calling g mk a).setFrames s₂.frames with heap := s₂.heap, slotsUsed := s₂.slotsUsed } : State).setVm s₂.vm := by
      have : s₂ = ({ s₂ with vm := (U.calling g mk a).vm } : State).setVm s₂.vm := rfl
      rw [e2] at this
      exact this
    obtain ⟨c₂, i₂, len₂, hc₂, hd₂, hf₂⟩ := hend
    have hW' : U.WarmedH s₂.vm := hW₂
    have hcc : c₂ = c := by
      have h1 : s₂.code? g.method = U.code? g.method := by
        rw [State.code?_eq, State.code?_eq, hW'.alike.method?]
      exact Option.some.inj (hc₂.symm.trans (h1.trans h.code))
    subst hcc
    have hlen : len₂ = len := by rw [hdg] at hd₂; cases hd₂; rfl
    subst hlen
    have hs₂ : s₂ = (({ U with heap := s₂.heap, slotsUsed := s₂.slotsUsed } : State).setVm s₂.vm).setTop { g with pc := g.pc + len₂, stack := v.toList ++ g.stack } := by
      refine e3.trans ?_
      rw [hf₂, State.calling_eq h.top, State.setFrames_setFrames, State.setTop_of_frames _ hr', hr]
      rfl
    have hsame : U.sameButNew ({ U with heap := s₂.heap, slotsUsed := s₂.slotsUsed } : State) L mc ms := by
      refine ⟨?_, q2, q3, q4, q5, q6⟩
      obtain ⟨t, ht, -⟩ := State.frames_cons hr
      show ({ U with heap := s₂.heap, slotsUsed := s₂.slotsUsed } : State) = { U.setFrames U.frames with heap := s₂.heap, slotsUsed := s₂.slotsUsed }
      rw [State.setFrames_self ht]
    subst hg
    refine Or.inl ⟨v, ⟨(({ U with heap := s₂.heap, slotsUsed := s₂.slotsUsed } : State).setVm s₂.vm), Ls ++ L, c0 + mc, s0 + ms⟩,
      ⟨X.admits, X.cas, X.clock, X.frames, X.room, X.hears, X.method, X.code, (X.here.setHeapUsed s₂.heap s₂.slotsUsed).setVm hW'.alike, X.tail, State.WarmedH.trans X.warmed hW', X.limits, X.bytes, X.same.trans (hsame.setVm s.vm)⟩,
      ⟨g, mk, s₂, L, rfl, rfl, hqc, rfl, hL, rfl, rfl⟩, ?_⟩
    show Steps p.tables e below _ ((({ U with heap := s₂.heap, slotsUsed := s₂.slotsUsed } : State).setVm s₂.vm).setTop { g with pc := g.pc + len₂, stack := v.toList ++ g.stack })
    rw [← hs₂]
    exact hsteps
  · obtain ⟨e2, q2, q3, q4, q5, q6⟩ := id hsm
    have e3 : s₂ = ({ (U.calling g mk a).setFrames s₂.frames with heap := s₂.heap, slotsUsed := s₂.slotsUsed } : State).setVm s₂.vm := by
      have : s₂ = ({ s₂ with vm := (U.calling g mk a).vm } : State).setVm s₂.vm := rfl
      rw [e2] at this
      exact this
    have hf₂ : s₂.frames = .throwing q :: .java g :: U.frames.tail := hend
    have hW' : U.WarmedH s₂.vm := hW₂
    have hs₂ : s₂ = ((({ U with heap := s₂.heap, slotsUsed := s₂.slotsUsed } : State).setVm s₂.vm).setTop g).pushFrame (.throwing q) := by
      refine e3.trans ?_
      rw [hf₂, State.calling_eq h.top, State.setFrames_setFrames, State.pushFrame, State.frames_setTop _ hr', State.setTop_of_frames _ hr', State.setFrames_setFrames, hr]
      rfl
    have hsame : U.sameButNew ({ U with heap := s₂.heap, slotsUsed := s₂.slotsUsed } : State) L mc ms := by
      refine ⟨?_, q2, q3, q4, q5, q6⟩
      obtain ⟨t, ht, -⟩ := State.frames_cons hr
      show ({ U with heap := s₂.heap, slotsUsed := s₂.slotsUsed } : State) = { U.setFrames U.frames with heap := s₂.heap, slotsUsed := s₂.slotsUsed }
      rw [State.setFrames_self ht]
    subst hg
    refine Or.inr ⟨q, ⟨(({ U with heap := s₂.heap, slotsUsed := s₂.slotsUsed } : State).setVm s₂.vm), Ls ++ L, c0 + mc, s0 + ms⟩,
      ⟨X.admits, X.cas, X.clock, X.frames, X.room, X.hears, X.method, X.code, (X.here.setHeapUsed s₂.heap s₂.slotsUsed).setVm hW'.alike, X.tail, State.WarmedH.trans X.warmed hW', X.limits, X.bytes, X.same.trans (hsame.setVm s.vm)⟩,
      ⟨g, mk, s₂, L, E, ce, rfl, rfl, hx, hce, hcv, hcl, rfl, hL, rfl, rfl⟩, ?_⟩
    show Steps p.tables e below _ (((({ U with heap := s₂.heap, slotsUsed := s₂.slotsUsed } : State).setVm s₂.vm).setTop g).pushFrame (.throwing q))
    rw [← hs₂]
    exact hsteps
end
variable {p : Program} {l : Launch} {e : Env} {R : Room} {s : State} {m : MethodId} {args : Array Value} {below : List Frame} {meth : Method} {c : Code} {T : State} {H : Heap} {locs : List Loc} {cells slots : Nat}
theorem vx_callVX (X : Stand p l e R s m args below meth c T locs cells slots) (hexec : p.tables.exec = Jvm.exec) {own C : String} {index : Nat} {y : MethodName} {bytes : ByteArray} {maxL : Nat} {ret : Option FieldType} {hh : List (Nat × Nat × Nat × Nat)}
    (hown : s.vm.findClass own = some m.cls) (hlink : (Cond.methodLink own index y).before args s = true) (hinst : (Cond.instanceMethod y).before args s = true) (hsel : (Cond.selects C y y).before args s = true)
    (hcode : (Cond.codeWith y bytes maxL ret hh).before args s = true) (hy : y.cls ≠ "java/lang/invoke/MethodHandle" ∧ y.cls ≠ "java/lang/invoke/VarHandle")
    {W9 : Nat} {Pre : Pt → Array Value → Prop} {Post : Pt → Array Value → Option Value → Pt → Prop} {PostX : Pt → Array Value → Addr → Pt → Prop} (hK : vx_Back l R p e below s args y 3 W9 Pre Post PostX)
    {b : Addr} {cellB : Cell} (hcell : T.heap[b]? = some cellB) (hobj : cellB.vm.isStatics = false) (hcls : s.vm.findClass C = some cellB.cls)
    {g : JFrame} (hg : g.method = m) (hsize : g.locals.size = c.maxLocals) {argsL rest : List Value} (hlen : ∀ sig, parseMethodDescriptor y.desc = some sig → argsL.length = sig.parameters.length)
    (hstack : g.stack = argsL.reverse ++ .ref b :: rest) (hW : 2 * g.monitorRoom + (rest.map fun v => v.category).sum ≤ W9) (hdg : decode c.code g.pc = .ok (.invokevirtual index, 3))
    (hpre : ∀ vm₁, s.WarmedH vm₁ → Pre ⟨T.setVm vm₁, locs, cells, slots⟩ (Value.ref b :: argsL).toArray) :
    (∃ (v : Option Value) (vm₁ : Vm) (B : Pt), s.WarmedH vm₁ ∧ Stand p l e R s m args below meth c B.U B.locs B.cells B.slots ∧ Post ⟨T.setVm vm₁, locs, cells, slots⟩ (Value.ref b :: argsL).toArray v B ∧
      ∀ target, Steps p.tables e below (B.U.setTop { g with pc := g.pc + 3, stack := v.toList ++ rest }) target → Steps p.tables e below (T.setTop g) target) ∨
    (∃ (q : Addr) (vm₁ : Vm) (B : Pt), s.WarmedH vm₁ ∧ Stand p l e R s m args below meth c B.U B.locs B.cells B.slots ∧ PostX ⟨T.setVm vm₁, locs, cells, slots⟩ (Value.ref b :: argsL).toArray q B ∧
      Steps p.tables e below (T.setTop g) ((B.U.setTop { g with stack := rest }).pushFrame (.throwing q))) := by
  obtain ⟨mk, methM, hnamed, hmethM, hstM, habM⟩ := Cond.instanceMethod_spec hinst
  obtain ⟨m8, methM', cM, hn8, hmethM', -, -, -, -, -, -, hsigM⟩ := Cond.codeWith_spec hcode
  cases Option.some.inj (hn8.symm.trans hnamed)
  cases hmethM.symm.trans hmethM'
  obtain ⟨c2, r2, m2, q1, q2, q3, q4, kP, hkP, hkPi⟩ := Cond.selects_spec hsel
  cases hcls.symm.trans q1
  cases (State.methodFound?_of_named hnamed hy).symm.trans q2
  cases hnamed.symm.trans q3
  have hselP : selectMethod e.platform s.vm cellB.cls mk = .method mk := by rw [Launch.admits_selectMethod X.admits]; exact q4
  obtain ⟨vm₁, X₁, hstep₁⟩ := X.invokevirtual hexec hown hlink hnamed hmethM hstM hkP hkPi hy (a := b) (cell := cellB) hcell
    (fun z h => by rw [h] at hobj; cases hobj) hselP hmethM habM hkP hkPi (g := g) hg (argsL := argsL) (rest := rest) (hlen _ hsigM) hstack hdg
  rcases hK m meth c ⟨T.setVm vm₁, locs, cells, slots⟩ { g with stack := rest } (.invokevirtual index) mk (Value.ref b :: argsL).toArray X₁ hg hsize hdg hW (X₁.named hnamed) (hpre vm₁ X₁.warmed) with ⟨v, B, X', hpost, hsteps⟩ | ⟨q, B, X', hpost, hsteps⟩
  · exact Or.inl ⟨v, vm₁, B, X₁.warmed, X', hpost, fun target h => hstep₁ _ fun acts => by rw [doInvoke_state]; exact hsteps.trans h⟩
  · exact Or.inr ⟨q, vm₁, B, X₁.warmed, X', hpost, hstep₁ _ fun acts => by rw [doInvoke_state]; exact hsteps⟩
theorem vx_callSX (X : Stand p l e R s m args below meth c T locs cells slots) (hexec : p.tables.exec = Jvm.exec) {own : String} {index : Nat} {y : MethodName} {bytes : ByteArray} {maxL : Nat} {ret : Option FieldType} {hh : List (Nat × Nat × Nat × Nat)}
    (hown : s.vm.findClass own = some m.cls) (hlink : (Cond.methodLink own index y).before args s = true) (hstat : (Cond.static y).before args s = true) (hinit : (Cond.initialized y.cls).before args s = true)
    (hcode : (Cond.codeWith y bytes maxL ret hh).before args s = true) (hy : y.cls ≠ "java/lang/invoke/MethodHandle" ∧ y.cls ≠ "java/lang/invoke/VarHandle")
    {W9 : Nat} {Pre : Pt → Array Value → Prop} {Post : Pt → Array Value → Option Value → Pt → Prop} {PostX : Pt → Array Value → Addr → Pt → Prop} (hK : vx_Back l R p e below s args y 3 W9 Pre Post PostX)
    {g : JFrame} (hg : g.method = m) (hsize : g.locals.size = c.maxLocals) {argsL rest : List Value} (hlen : ∀ sig, parseMethodDescriptor y.desc = some sig → argsL.length = sig.parameters.length)
    (hstack : g.stack = argsL.reverse ++ rest) (hW : 2 * g.monitorRoom + (rest.map fun v => v.category).sum ≤ W9) (hdg : decode c.code g.pc = .ok (.invokestatic index, 3))
    (hpre : ∀ vm₁, s.WarmedH vm₁ → Pre ⟨T.setVm vm₁, locs, cells, slots⟩ argsL.toArray) :
    (∃ (v : Option Value) (vm₁ : Vm) (B : Pt), s.WarmedH vm₁ ∧ Stand p l e R s m args below meth c B.U B.locs B.cells B.slots ∧ Post ⟨T.setVm vm₁, locs, cells, slots⟩ argsL.toArray v B ∧
      ∀ target, Steps p.tables e below (B.U.setTop { g with pc := g.pc + 3, stack := v.toList ++ rest }) target → Steps p.tables e below (T.setTop g) target) ∨
    (∃ (q : Addr) (vm₁ : Vm) (B : Pt), s.WarmedH vm₁ ∧ Stand p l e R s m args below meth c B.U B.locs B.cells B.slots ∧ PostX ⟨T.setVm vm₁, locs, cells, slots⟩ argsL.toArray q B ∧
      Steps p.tables e below (T.setTop g) ((B.U.setTop { g with stack := rest }).pushFrame (.throwing q))) := by
  obtain ⟨mk, methM, cM, hnamed, hmethM, -, -, -, -, -, -, hsigM⟩ := Cond.codeWith_spec hcode
  have hstatic : methM.isStatic = true := Cond.static_spec hnamed hmethM hstat
  obtain ⟨kP, hkP, -⟩ := className_of_methodNamed hnamed
  have hinitP : kP.init = .initialized := Cond.initialized_spec (findClass_of_methodNamed hnamed) hkP hinit
  obtain ⟨vm₁, X₁, hstep₁⟩ := X.invokestatic hexec hown hlink hnamed hmethM hstatic hkP hinitP hy (g := g) hg (argsL := argsL) (rest := rest) (hlen _ hsigM) hstack hdg
  rcases hK m meth c ⟨T.setVm vm₁, locs, cells, slots⟩ { g with stack := rest } (.invokestatic index) mk argsL.toArray X₁ hg hsize hdg hW (X₁.named hnamed) (hpre vm₁ X₁.warmed) with ⟨v, B, X', hpost, hsteps⟩ | ⟨q, B, X', hpost, hsteps⟩
  · exact Or.inl ⟨v, vm₁, B, X₁.warmed, X', hpost, fun target h => hstep₁ _ fun acts => by rw [doInvoke_state]; exact hsteps.trans h⟩
  · exact Or.inr ⟨q, vm₁, B, X₁.warmed, X', hpost, hstep₁ _ fun acts => by rw [doInvoke_state]; exact hsteps⟩
theorem vx_callVW (X : Stand p l e R s m args below meth c T locs cells slots) (hexec : p.tables.exec = Jvm.exec) {own C : String} {index : Nat} {y : MethodName} {bytes : ByteArray} {maxL : Nat} {ret : Option FieldType} {hh : List (Nat × Nat × Nat × Nat)}
    (hown : s.vm.findClass own = some m.cls) (hlink : (Cond.methodLink own index y).before args s = true) (hinst : (Cond.instanceMethod y).before args s = true) (hsel : (Cond.selects C y y).before args s = true)
    (hcode : (Cond.codeWith y bytes maxL ret hh).before args s = true) (hy : y.cls ≠ "java/lang/invoke/MethodHandle" ∧ y.cls ≠ "java/lang/invoke/VarHandle")
    {W9 : Nat} {Pre : Pt → Array Value → Prop} {Post : Pt → Array Value → Option Value → Pt → Prop} (hK : Back l R p e below s args y 3 W9 Pre Post)
    {b : Addr} {cellB : Cell} (hcell : T.heap[b]? = some cellB) (hobj : cellB.vm.isStatics = false) (hcls : s.vm.findClass C = some cellB.cls)
    {g : JFrame} (hg : g.method = m) (hsize : g.locals.size = c.maxLocals) {argsL rest : List Value} (hlen : ∀ sig, parseMethodDescriptor y.desc = some sig → argsL.length = sig.parameters.length)
    (hstack : g.stack = argsL.reverse ++ .ref b :: rest) (hW : 2 * g.monitorRoom + (rest.map fun v => v.category).sum ≤ W9) (hdg : decode c.code g.pc = .ok (.invokevirtual index, 3))
    (hpre : ∀ vm₁, s.WarmedH vm₁ → Pre ⟨T.setVm vm₁, locs, cells, slots⟩ (Value.ref b :: argsL).toArray) :
    ∃ (v : Option Value) (vm₁ : Vm) (B : Pt), s.WarmedH vm₁ ∧ Stand p l e R s m args below meth c B.U B.locs B.cells B.slots ∧ Post ⟨T.setVm vm₁, locs, cells, slots⟩ (Value.ref b :: argsL).toArray v B ∧
      ∀ target, Steps p.tables e below (B.U.setTop { g with pc := g.pc + 3, stack := v.toList ++ rest }) target → Steps p.tables e below (T.setTop g) target := by
  obtain ⟨mk, methM, hnamed, hmethM, hstM, habM⟩ := Cond.instanceMethod_spec hinst
  obtain ⟨m8, methM', cM, hn8, hmethM', -, -, -, -, -, -, hsigM⟩ := Cond.codeWith_spec hcode
  cases Option.some.inj (hn8.symm.trans hnamed)
  cases hmethM.symm.trans hmethM'
  obtain ⟨c2, r2, m2, q1, q2, q3, q4, kP, hkP, hkPi⟩ := Cond.selects_spec hsel
  cases hcls.symm.trans q1
  cases (State.methodFound?_of_named hnamed hy).symm.trans q2
  cases hnamed.symm.trans q3
  have hselP : selectMethod e.platform s.vm cellB.cls mk = .method mk := by rw [Launch.admits_selectMethod X.admits]; exact q4
  obtain ⟨vm₁, X₁, hstep₁⟩ := X.invokevirtual hexec hown hlink hnamed hmethM hstM hkP hkPi hy (a := b) (cell := cellB) hcell
    (fun z h => by rw [h] at hobj; cases hobj) hselP hmethM habM hkP hkPi (g := g) hg (argsL := argsL) (rest := rest) (hlen _ hsigM) hstack hdg
  obtain ⟨v, B, X', hpost, hsteps⟩ := hK m meth c ⟨T.setVm vm₁, locs, cells, slots⟩ { g with stack := rest } (.invokevirtual index) mk (Value.ref b :: argsL).toArray X₁ hg hsize hdg hW (X₁.named hnamed) (hpre vm₁ X₁.warmed)
  exact ⟨v, vm₁, B, X₁.warmed, X', hpost, fun target h => hstep₁ _ fun acts => by rw [doInvoke_state]; exact hsteps.trans h⟩
abbrev vx_CVW (R : Room) (s : State) (args : Array Value) (own C : String) (index : Nat) (y : MethodName) (bytes : ByteArray) (maxL : Nat) (ret : Option FieldType) (hh : List (Nat × Nat × Nat × Nat)) (ws : List Cond) (rm : Room) (mc ms n : Nat) : Prop :=
  (rm.cells = mc ∧ rm.slots = ms ∧ rm.frames + 1 ≤ R.frames ∧ 8 + (maxL + 11) + rm.locals ≤ R.locals ∧ (∀ w ∈ ws, ∀ (a' : Array Value) (U : State), s.WarmedH U.vm → w.before a' U = true) ∧ Cond.codeWith y bytes maxL ret hh ∈ ws) ∧
  (Cond.codeWith y bytes maxL ret hh).before args s = true ∧ (Cond.initialized y.cls).before args s = true ∧ (y.cls ≠ "java/lang/invoke/MethodHandle" ∧ y.cls ≠ "java/lang/invoke/VarHandle") ∧
  (∀ sig, parseMethodDescriptor y.desc = some sig → n = sig.parameters.length) ∧ (Cond.methodLink own index y).before args s = true ∧ (Cond.instanceMethod y).before args s = true ∧ (Cond.selects C y y).before args s = true
theorem vx_cwVW {own C : String} {index maxL mc ms : Nat} {y : MethodName} {bytes : ByteArray} {ret : Option FieldType} {hh : List (Nat × Nat × Nat × Nat)} {Ts ws ws' : List Cond} {rm : Room} (n : Nat) (ht : ∀ w ∈ Ts, w.before args s = true) (hT : GoodIn Ts (wsV own index C y ws)) (hw : ws = Cond.codeWith y bytes maxL ret hh :: ws') (hrc : rm.cells = mc) (hrs : rm.slots = ms)
    (hd : y.cls = C ∧ y.cls ≠ "java/lang/invoke/MethodHandle" ∧ y.cls ≠ "java/lang/invoke/VarHandle" ∧ (parseMethodDescriptor y.desc).map (fun d => d.parameters.length) = some n) (hR : rm.frames + 1 ≤ R.frames ∧ 8 + (maxL + 11) + rm.locals ≤ R.locals) :
    vx_CVW R s args own C index y bytes maxL ret hh ws rm mc ms n := by
  obtain ⟨hC, hd⟩ := hd
  subst hC
  have ok : ∀ w ∈ wsV own index y.cls y ws, w.before args s = true := fun w h => ht w (hT w h).1
  have hG : GoodIn Ts ws := fun w h => hT w (by unfold wsV; exact List.mem_append_right _ h)
  have hc : Cond.codeWith y bytes maxL ret hh ∈ ws := by rw [hw]; exact List.mem_cons_self
  refine ⟨⟨hrc, hrs, hR.1, hR.2, pay_in ht hG, hc⟩, ht _ (hG _ hc).1, ok _ (by simp [wsV]), ⟨hd.1, hd.2.1⟩, fun sig h => ?_, ok _ (by simp [wsV]), ok _ (by simp [wsV]), ok _ (by simp [wsV])⟩
  have h2 := hd.2.2
  rw [h] at h2
  exact (Option.some.inj h2).symm
theorem vx_runVW {y : MethodName} {bytes cc : ByteArray} {maxL nL mc ms n index : Nat} {ret : Option FieldType} {hh : List (Nat × Nat × Nat × Nat)} {ws : List Cond} {rm : Room} {Pc : Array Value → State → Prop} {Qc : Array Value → State → Outcome → State → Prop} {free : Addr → Prop} {Ts : List Cond} {own C : String} {b : Addr} {As rest : List Value} {g : JFrame}
    (S : CallFix p m c cc nL s args Ts own) (hM : Met l y ws rm Pc Qc mc ms free) (cw : vx_CVW R s args own C index y bytes maxL ret hh ws rm mc ms n) (hp : PreV s H C b Pc As)
    (hg : g.method = m) (hn : As.length = n) (hsize : g.locals.size = nL) (hstack : g.stack = As.reverse ++ .ref b :: rest) (hW : 2 * g.monitorRoom + (rest.map fun v => v.category).sum ≤ 8) (hdg : decode cc g.pc = .ok (.invokevirtual index, 3)) (hf : cells + mc ≤ R.cells ∧ slots + ms ≤ R.slots) :
    va_Run p l e R s m args below meth c H locs cells slots mc ms g rest (Qc (Value.ref b :: As).toArray) free := by
  obtain ⟨⟨hrc, hrs, hfr, hlo, hws, hcw⟩, hcode, hini, hy, hlen, hl, hin, hse⟩ := cw
  have hK : Back l R p e below s args y 3 8 (PreOf R mc ms Pc) (PostOf Qc mc ms free) := va_backW (hh := hh) (bytes := bytes) (maxL := maxL) (ret := ret) hM hp.1 hrc hrs hfr hlo hws hcw (fun a' U hW => word_at hW (Or.inl (by first | rfl | simp [Cond.onTables, Cond.keeps, Cond.steady])) hini)
  obtain ⟨hx, hb, hml, ho, -⟩ := S
  obtain ⟨-, ⟨cellB, hcB, hoB, hclB⟩, hPc⟩ := hp
  intro T hT X
  obtain ⟨v, vm₁, ⟨U', l2, c2, s2⟩, hW₁, X', ⟨g', mk, t, L, e1, e2, hq, h1, hL, h2, h3⟩, st⟩ := vx_callVW X hx (C := C) (hh := hh) (bytes := bytes) (maxL := maxL) (ret := ret) ho hl hin hse hcode hy hK (by rw [hT]; exact hcB) hoB hclB hg (hsize.trans hml.symm) (argsL := As) (rest := rest) (fun sig h => hn.trans (hlen sig h)) hstack hW (by rw [hb]; exact hdg)
    (fun vm₁ hW₁ => ⟨hf.1, hf.2, hPc (T.setVm vm₁) hT hW₁⟩)
  dsimp only [Pt.U, Pt.locs, Pt.cells, Pt.slots] at X' e1 e2 h1 h2 h3 st
  subst h1; subst h2; subst h3
  exact ⟨v, (T.setVm vm₁).calling g' mk (Value.ref b :: As).toArray, t, U', L, hT, X', hL, e1, e2, hq, st⟩
section
variable {y : MethodName} {bytes cc : ByteArray} {maxL nL mc ms n index : Nat} {ret : Option FieldType} {ws : List Cond} {rm : Room} {Pc : Array Value → State → Prop} {Qc : Array Value → State → Outcome → State → Prop} {XC : String → State → State → Prop} {free : Addr → Prop} {Ts : List Cond} {own C : String} {b : Addr} {As rest : List Value} {g : JFrame}
theorem vx_runVX {hh : List (Nat × Nat × Nat × Nat)} (S : CallFix p m c cc nL s args Ts own) (hM : vx_Met l y ws rm Pc Qc XC mc ms free) (cw : vx_CVW R s args own C index y bytes maxL ret hh ws rm mc ms n) (hp : PreV s H C b Pc As)
    (hg : g.method = m) (hn : As.length = n) (hsize : g.locals.size = nL) (hstack : g.stack = As.reverse ++ .ref b :: rest) (hW : 2 * g.monitorRoom + (rest.map fun v => v.category).sum ≤ 8) (hdg : decode cc g.pc = .ok (.invokevirtual index, 3)) (hf : cells + mc ≤ R.cells ∧ slots + ms ≤ R.slots) :
    vx_Run p l e R s m args below meth c H locs cells slots mc ms g rest (Qc (Value.ref b :: As).toArray) XC free := by
  obtain ⟨⟨hrc, hrs, hfr, hlo, hws, hcw⟩, hcode, hini, hy, hlen, hl, hin, hse⟩ := cw
  have hK : vx_Back l R p e below s args y 3 8 (PreOf R mc ms Pc) (PostOf Qc mc ms free) (vx_Post XC mc ms free) := vx_backW (hh := hh) (bytes := bytes) (maxL := maxL) (ret := ret) hM hp.1 hrc hrs hfr hlo hws hcw (fun a' U hW => word_at hW (Or.inl (by first | rfl | simp [Cond.onTables, Cond.keeps, Cond.steady])) hini)
  obtain ⟨hx, hb, hml, ho, -⟩ := S
  obtain ⟨-, ⟨cellB, hcB, hoB, hclB⟩, hPc⟩ := hp
  intro T hT X
  rcases vx_callVX X hx (C := C) (hh := hh) (bytes := bytes) (maxL := maxL) (ret := ret) ho hl hin hse hcode hy hK (by rw [hT]; exact hcB) hoB hclB hg (hsize.trans hml.symm) (argsL := As) (rest := rest) (fun sig h => hn.trans (hlen sig h)) hstack hW (by rw [hb]; exact hdg)
    (fun vm₁ hW₁ => ⟨hf.1, hf.2, hPc (T.setVm vm₁) hT hW₁⟩) with ⟨v, vm₁, ⟨U', l2, c2, s2⟩, hW₁, X', ⟨g', mk, t, L, e1, e2, hq, h1, hL, h2, h3⟩, st⟩ | ⟨q, vm₁, ⟨U', l2, c2, s2⟩, hW₁, X', ⟨g', mk, t, L, E, ce, e1, e2, hq, hce, hcv, hcl, h1, hL, h2, h3⟩, st⟩
  · dsimp only [Pt.U, Pt.locs, Pt.cells, Pt.slots] at X' e1 e2 h1 h2 h3 st
    subst h1; subst h2; subst h3
    exact Or.inl ⟨v, (T.setVm vm₁).calling g' mk (Value.ref b :: As).toArray, t, U', L, hT, X', hL, e1, e2, hq, st⟩
  · dsimp only [Pt.U, Pt.locs, Pt.cells, Pt.slots] at X' e1 e2 h1 h2 h3 st hcl
    subst h1; subst h2; subst h3
    exact Or.inr ⟨q, (T.setVm vm₁).calling g' mk (Value.ref b :: As).toArray, t, U', L, E, ce, hT, X', hL, e1, e2, hq, hce, hcv, vx_cls hW₁ hcl, st⟩
theorem vx_runSX {hh : List (Nat × Nat × Nat × Nat)} (S : CallFix p m c cc nL s args Ts own) (hM : vx_Met l y ws rm Pc Qc XC mc ms free) (cw : vx_CSW R s args own index y bytes maxL ret hh ws rm mc ms n) (hp : PreS s H Pc As)
    (hg : g.method = m) (hn : As.length = n) (hsize : g.locals.size = nL) (hstack : g.stack = As.reverse ++ rest) (hW : 2 * g.monitorRoom + (rest.map fun v => v.category).sum ≤ 8) (hdg : decode cc g.pc = .ok (.invokestatic index, 3)) (hf : cells + mc ≤ R.cells ∧ slots + ms ≤ R.slots) :
    vx_Run p l e R s m args below meth c H locs cells slots mc ms g rest (Qc As.toArray) XC free := by
  obtain ⟨⟨hrc, hrs, hfr, hlo, hws, hcw⟩, hcode, hini, hy, hlen, hl, hstt⟩ := cw
  have hK : vx_Back l R p e below s args y 3 8 (PreOf R mc ms Pc) (PostOf Qc mc ms free) (vx_Post XC mc ms free) := vx_backW (hh := hh) (bytes := bytes) (maxL := maxL) (ret := ret) hM hp.1 hrc hrs hfr hlo hws hcw (fun a' U hW => word_at hW (Or.inl (by first | rfl | simp [Cond.onTables, Cond.keeps, Cond.steady])) hini)
  obtain ⟨hx, hb, hml, ho, -⟩ := S
  intro T hT X
  rcases vx_callSX X hx (hh := hh) (bytes := bytes) (maxL := maxL) (ret := ret) ho hl hstt hini hcode hy hK hg (hsize.trans hml.symm) (argsL := As) (rest := rest) (fun sig h => hn.trans (hlen sig h)) hstack hW (by rw [hb]; exact hdg)
    (fun vm₁ hW₁ => ⟨hf.1, hf.2, hp.2 (T.setVm vm₁) hT hW₁⟩) with ⟨v, vm₁, ⟨U', l2, c2, s2⟩, hW₁, X', ⟨g', mk, t, L, e1, e2, hq, h1, hL, h2, h3⟩, st⟩ | ⟨q, vm₁, ⟨U', l2, c2, s2⟩, hW₁, X', ⟨g', mk, t, L, E, ce, e1, e2, hq, hce, hcv, hcl, h1, hL, h2, h3⟩, st⟩
  · dsimp only [Pt.U, Pt.locs, Pt.cells, Pt.slots] at X' e1 e2 h1 h2 h3 st
    subst h1; subst h2; subst h3
    exact Or.inl ⟨v, (T.setVm vm₁).calling g' mk As.toArray, t, U', L, hT, X', hL, e1, e2, hq, st⟩
  · dsimp only [Pt.U, Pt.locs, Pt.cells, Pt.slots] at X' e1 e2 h1 h2 h3 st hcl
    subst h1; subst h2; subst h3
    exact Or.inr ⟨q, (T.setVm vm₁).calling g' mk As.toArray, t, U', L, E, ce, hT, X', hL, e1, e2, hq, hce, hcv, vx_cls hW₁ hcl, st⟩
end
end VXH
theorem vx_ofWH {l : Launch} {y : MethodName} {ws ws' : List Cond} {rm : Room} {Pc : Array Value → State → Prop} {Qc : Array Value → State → Outcome → State → Prop} {XC : String → State → State → Prop} {mc ms : Nat} {free : Addr → Prop} {cc : ByteArray} {maxL : Nat} {ret : Option FieldType} {hh : List (Nat × Nat × Nat × Nat)}
    (hy : plainName y.cls = true) (hw : ws = Cond.codeWith y cc maxL ret hh :: ws')
    (body : ∀ p e s m args below meth c s₁, BodyLoose p l y (headSpec ws rm) cc maxL ret e s m args below meth c s₁ → c.maxLocals = maxL → Pc args s →
      W p l e (headSpec ws rm).room s m args below meth c s.heap [] 0 0 (vx_MQ below Qc XC args s mc ms free) (entryFrame m args maxL)) : vx_Met l y ws rm Pc Qc XC mc ms free := by
  refine MetFree.of_bodyS (code := cc) (maxLocals := maxL) (ret := ret) hy ?_ ?_
  · intro args s m h hn
    obtain ⟨m9, meth, c, hn9, h1, h2, h3, h4, -, h5, h6, -⟩ := Cond.codeWith_spec (atoms_spec (ws := ws) h _ (by rw [hw]; exact List.mem_cons_self))
    cases hn.symm.trans hn9
    exact ⟨meth, c, h1, h2, h3, h4, h5, h6⟩
  · intro p e s m args below meth c s₁ B hml hP _
    have hh0 : s₁.heap = s.heap := by rw [B.state]; rfl
    obtain ⟨t, a1, o, b1, b2, b3⟩ := body p e s m args below meth c s₁ B hml hP s₁ hh0 (Stand.of_body B)
    exact ⟨t, o, a1, b1, b2, b3⟩
/-! ===== END ===== -/
end
section
/-! ===== BEGIN a constructor that throws (launches without stack traces) ===== -/
section VXIA
variable {p : Program} {l : Launch} {e : Env} {R : Room} {s : State} {m : MethodId} {args : Array Value} {below : List Frame} {meth : Method} {c : Code} {T : State} {locs : List Loc} {cells slots : Nat}
theorem vx_callI (X : Stand p l e R s m args below meth c T locs cells slots) (hexec : p.tables.exec = Jvm.exec) {own : String} {index : Nat} {y : MethodName} {bytes : ByteArray} {maxL : Nat}
    (hown : s.vm.findClass own = some m.cls) (hy1 : y.name = "<init>") (hlink : (Cond.methodLink own index y).before args s = true) (hinst : (Cond.instanceMethod y).before args s = true)
    (hcode : (Cond.code y bytes maxL none).before args s = true) (hy : y.cls ≠ "java/lang/invoke/MethodHandle" ∧ y.cls ≠ "java/lang/invoke/VarHandle")
    {W9 : Nat} {Pre : Pt → Array Value → Prop} {Post : Pt → Array Value → Option Value → Pt → Prop} {PostX : Pt → Array Value → Addr → Pt → Prop} (hK : vx_Back l R p e below s args y 3 W9 Pre Post PostX)
    {g : JFrame} (hg : g.method = m) (hsize : g.locals.size = c.maxLocals) {a : Addr} {argsL rest : List Value} (hlen : ∀ sig, parseMethodDescriptor y.desc = some sig → argsL.length = sig.parameters.length)
    (hstack : g.stack = argsL.reverse ++ .ref a :: rest) (hW : 2 * g.monitorRoom + (rest.map fun v => v.category).sum ≤ W9) (hdg : decode c.code g.pc = .ok (.invokespecial index, 3))
    (hpre : ∀ vm₁, s.WarmedH vm₁ → Pre ⟨T.setVm vm₁, locs, cells, slots⟩ (Value.ref a :: argsL).toArray) :
    (∃ (v : Option Value) (vm₁ : Vm) (B : Pt), s.WarmedH vm₁ ∧ Stand p l e R s m args below meth c B.U B.locs B.cells B.slots ∧ Post ⟨T.setVm vm₁, locs, cells, slots⟩ (Value.ref a :: argsL).toArray v B ∧
      ∀ target, Steps p.tables e below (B.U.setTop { g with pc := g.pc + 3, stack := v.toList ++ rest }) target → Steps p.tables e below (T.setTop g) target) ∨
    (∃ (q : Addr) (vm₁ : Vm) (B : Pt), s.WarmedH vm₁ ∧ Stand p l e R s m args below meth c B.U B.locs B.cells B.slots ∧ PostX ⟨T.setVm vm₁, locs, cells, slots⟩ (Value.ref a :: argsL).toArray q B ∧
      Steps p.tables e below (T.setTop g) ((B.U.setTop { g with stack := rest }).pushFrame (.throwing q))) := by
  subst hg
  have hpl : e.platform.magicAccessors = ({} : Platform).magicAccessors := by rw [X.admits.platform]
  obtain ⟨mk, methM, cM, kP, vm₁, hnamed, hmethM, hcodeM, -, hlocalsM, -, hkP, -, hW₁, hstep₁⟩ := Steps.initColdArgs (e := e) X.here hexec X.warmed hpl hown hy1 hy hlink hinst hcode (f := g) rfl hlen hstack hdg
  have X₁ := X.noted hW₁
  rcases hK g.method meth c ⟨T.setVm vm₁, locs, cells, slots⟩ { g with stack := rest } (.invokespecial index) mk (Value.ref a :: argsL).toArray X₁ rfl hsize hdg hW (X₁.named hnamed) (hpre vm₁ X₁.warmed) with ⟨v, B, X', hpost, hsteps⟩ | ⟨q, B, X', hpost, hsteps⟩
  · exact Or.inl ⟨v, vm₁, B, X₁.warmed, X', hpost, fun target h => hstep₁ _ fun acts => by rw [doInvoke_state]; exact hsteps.trans h⟩
  · exact Or.inr ⟨q, vm₁, B, X₁.warmed, X', hpost, hstep₁ _ fun acts => by rw [doInvoke_state]; exact hsteps⟩
end VXIA
section VXIB
variable {p : Program} {l : Launch} {e : Env} {R : Room} {s : State} {m : MethodId} {args : Array Value} {below : List Frame} {meth : Method} {c : Code} {H : Heap} {locs : List Loc} {cells slots : Nat}
variable {y : MethodName} {bytes cc : ByteArray} {maxL nL mc ms n index : Nat} {ret : Option FieldType} {ws : List Cond} {rm : Room} {Pc : Array Value → State → Prop} {Qc : Array Value → State → Outcome → State → Prop} {XC : String → State → State → Prop} {free : Addr → Prop} {Ts : List Cond} {own C : String} {b : Addr} {As rest : List Value} {g : JFrame}
theorem vx_runI (S : CallFix p m c cc nL s args Ts own) (hM : vx_Met l y ws rm Pc Qc XC mc ms free) (cw : CallB R s args own index y bytes maxL none ws rm mc ms n ∧ y.name = "<init>" ∧ (Cond.instanceMethod y).before args s = true) (hp : PreS s H Pc (.ref b :: As))
    (hg : g.method = m) (hn : As.length = n) (hsize : g.locals.size = nL) (hstack : g.stack = As.reverse ++ .ref b :: rest) (hW : 2 * g.monitorRoom + (rest.map fun v => v.category).sum ≤ 8) (hdg : decode cc g.pc = .ok (.invokespecial index, 3)) (hf : cells + mc ≤ R.cells ∧ slots + ms ≤ R.slots) :
    vx_Run p l e R s m args below meth c H locs cells slots mc ms g rest (Qc (Value.ref b :: As).toArray) XC free := by
  have hK : vx_Back l R p e below s args y 3 8 (PreOf R mc ms Pc) (PostOf Qc mc ms free) (vx_Post XC mc ms free) := vx_callBack cw.1 hM hp.1
  obtain ⟨⟨-, -, -, -, -, -, hcode, -, hy, hlen, hl⟩, hy1, hin⟩ := cw
  obtain ⟨hx, hb, hml, ho, -⟩ := S
  have hPc := hp.2
  intro T hT X
  rcases vx_callI X hx (bytes := bytes) (maxL := maxL) ho hy1 hl hin hcode hy hK hg (hsize.trans hml.symm) (a := b) (argsL := As) (rest := rest) (fun sig h => hn.trans (hlen sig h)) hstack hW (by rw [hb]; exact hdg)
    (fun vm₁ hW₁ => ⟨hf.1, hf.2, hPc (T.setVm vm₁) hT hW₁⟩) with ⟨v, vm₁, ⟨U', l2, c2, s2⟩, hW₁, X', ⟨g', mk, t, L, e1, e2, hq, h1, hL, h2, h3⟩, st⟩ | ⟨q, vm₁, ⟨U', l2, c2, s2⟩, hW₁, X', ⟨g', mk, t, L, E, ce, e1, e2, hq, hce, hcv, hcl, h1, hL, h2, h3⟩, st⟩
  · dsimp only [Pt.U, Pt.locs, Pt.cells, Pt.slots] at X' e1 e2 h1 h2 h3 st
    subst h1; subst h2; subst h3
    exact Or.inl ⟨v, (T.setVm vm₁).calling g' mk (Value.ref b :: As).toArray, t, U', L, hT, X', hL, e1, e2, hq, st⟩
  · dsimp only [Pt.U, Pt.locs, Pt.cells, Pt.slots] at X' e1 e2 h1 h2 h3 st hcl
    subst h1; subst h2; subst h3
    exact Or.inr ⟨q, (T.setVm vm₁).calling g' mk (Value.ref b :: As).toArray, t, U', L, E, ce, hT, X', hL, e1, e2, hq, hce, hcv, vx_cls hW₁ hcl, st⟩
end VXIB
/-! ===== END ===== -/
/-! ===== BEGIN a private constructor of a nest mate that throws ===== -/
section VXIC
variable {p : Program} {l : Launch} {e : Env} {R : Room} {s : State} {m : MethodId} {args : Array Value} {below : List Frame} {meth : Method} {c : Code} {T : State} {locs : List Loc} {cells slots : Nat}
theorem vx_callIN (X : Stand p l e R s m args below meth c T locs cells slots) (hexec : p.tables.exec = Jvm.exec) {own : String} {index : Nat} {host : String} {y : MethodName} {bytes : ByteArray} {maxL : Nat}
    (hown : s.vm.findClass own = some m.cls) (hy1 : y.name = "<init>") (hlink : (Cond.methodLinkNest own index y host).before args s = true) (hinst : (Cond.instanceMethod y).before args s = true)
    (hcode : (Cond.code y bytes maxL none).before args s = true) (hy : y.cls ≠ "java/lang/invoke/MethodHandle" ∧ y.cls ≠ "java/lang/invoke/VarHandle")
    {W9 : Nat} {Pre : Pt → Array Value → Prop} {Post : Pt → Array Value → Option Value → Pt → Prop} {PostX : Pt → Array Value → Addr → Pt → Prop} (hK : vx_Back l R p e below s args y 3 W9 Pre Post PostX)
    {g : JFrame} (hg : g.method = m) (hsize : g.locals.size = c.maxLocals) {a : Addr} {argsL rest : List Value} (hlen : ∀ sig, parseMethodDescriptor y.desc = some sig → argsL.length = sig.parameters.length)
    (hstack : g.stack = argsL.reverse ++ .ref a :: rest) (hW : 2 * g.monitorRoom + (rest.map fun v => v.category).sum ≤ W9) (hdg : decode c.code g.pc = .ok (.invokespecial index, 3))
    (hpre : ∀ vm₁, s.WarmedH vm₁ → Pre ⟨T.setVm vm₁, locs, cells, slots⟩ (Value.ref a :: argsL).toArray) :
    (∃ (v : Option Value) (vm₁ : Vm) (B : Pt), s.WarmedH vm₁ ∧ Stand p l e R s m args below meth c B.U B.locs B.cells B.slots ∧ Post ⟨T.setVm vm₁, locs, cells, slots⟩ (Value.ref a :: argsL).toArray v B ∧
      ∀ target, Steps p.tables e below (B.U.setTop { g with pc := g.pc + 3, stack := v.toList ++ rest }) target → Steps p.tables e below (T.setTop g) target) ∨
    (∃ (q : Addr) (vm₁ : Vm) (B : Pt), s.WarmedH vm₁ ∧ Stand p l e R s m args below meth c B.U B.locs B.cells B.slots ∧ PostX ⟨T.setVm vm₁, locs, cells, slots⟩ (Value.ref a :: argsL).toArray q B ∧
      Steps p.tables e below (T.setTop g) ((B.U.setTop { g with stack := rest }).pushFrame (.throwing q))) := by
  subst hg
  have hpl : e.platform.magicAccessors = ({} : Platform).magicAccessors := by rw [X.admits.platform]
  obtain ⟨mk, methM, cM, kP, vm₁, hnamed, hmethM, hcodeM, -, hlocalsM, -, hkP, -, hW₁, hstep₁⟩ := Steps.initColdArgsNest (e := e) X.here hexec X.warmed hpl hown hy1 hy hlink hinst hcode (f := g) rfl hlen hstack hdg
  have X₁ := X.noted hW₁
  rcases hK g.method meth c ⟨T.setVm vm₁, locs, cells, slots⟩ { g with stack := rest } (.invokespecial index) mk (Value.ref a :: argsL).toArray X₁ rfl hsize hdg hW (X₁.named hnamed) (hpre vm₁ X₁.warmed) with ⟨v, B, X', hpost, hsteps⟩ | ⟨q, B, X', hpost, hsteps⟩
  · exact Or.inl ⟨v, vm₁, B, X₁.warmed, X', hpost, fun target h => hstep₁ _ fun acts => by rw [doInvoke_state]; exact hsteps.trans h⟩
  · exact Or.inr ⟨q, vm₁, B, X₁.warmed, X', hpost, hstep₁ _ fun acts => by rw [doInvoke_state]; exact hsteps⟩
end VXIC
section VXID
variable {p : Program} {l : Launch} {e : Env} {R : Room} {s : State} {m : MethodId} {args : Array Value} {below : List Frame} {meth : Method} {c : Code} {H : Heap} {locs : List Loc} {cells slots : Nat}
theorem vx_runIN {y : MethodName} {bytes cc : ByteArray} {maxL nL mc ms n index : Nat} {ws : List Cond} {rm : Room} {Pc : Array Value → State → Prop} {Qc : Array Value → State → Outcome → State → Prop} {XC : String → State → State → Prop} {free : Addr → Prop} {Ts : List Cond} {own host : String} {b : Addr} {As rest : List Value} {g : JFrame}
    (S : CallFix p m c cc nL s args Ts own) (hM : vx_Met l y ws rm Pc Qc XC mc ms free) (cw : va_CN R s args own index y host bytes maxL none ws rm mc ms n ∧ y.name = "<init>" ∧ (Cond.instanceMethod y).before args s = true) (hp : PreS s H Pc (.ref b :: As))
    (hg : g.method = m) (hn : As.length = n) (hsize : g.locals.size = nL) (hstack : g.stack = As.reverse ++ .ref b :: rest) (hW : 2 * g.monitorRoom + (rest.map fun v => v.category).sum ≤ 8) (hdg : decode cc g.pc = .ok (.invokespecial index, 3)) (hf : cells + mc ≤ R.cells ∧ slots + ms ≤ R.slots) :
    vx_Run p l e R s m args below meth c H locs cells slots mc ms g rest (Qc (Value.ref b :: As).toArray) XC free := by
  obtain ⟨⟨⟨hrc, hrs, hfr, hlo, hws, hcw⟩, hcode, hini, hy, hlen, hl⟩, hx1, hx2⟩ := cw
  have hK : vx_Back l R p e below s args y 3 8 (PreOf R mc ms Pc) (PostOf Qc mc ms free) (vx_Post XC mc ms free) := vx_back (bytes := bytes) (maxL := maxL) (ret := none) hM hp.1 hrc hrs hfr hlo hws hcw (fun a' U hW => word_at hW (Or.inl (by first | rfl | simp [Cond.onTables, Cond.keeps, Cond.steady])) hini)
  obtain ⟨hx, hb, hml, ho, -⟩ := S
  have hPc := hp.2
  intro T hT X
  rcases vx_callIN X hx (bytes := bytes) (maxL := maxL) ho hx1 hl hx2 hcode hy hK hg (hsize.trans hml.symm) (a := b) (argsL := As) (rest := rest) (fun sig h => hn.trans (hlen sig h)) hstack hW (by rw [hb]; exact hdg)
    (fun vm₁ hW₁ => ⟨hf.1, hf.2, hPc (T.setVm vm₁) hT hW₁⟩) with ⟨v, vm₁, ⟨U', l2, c2, s2⟩, hW₁, X', ⟨g', mk, t, L, e1, e2, hq, h1, hL, h2, h3⟩, st⟩ | ⟨q, vm₁, ⟨U', l2, c2, s2⟩, hW₁, X', ⟨g', mk, t, L, E, ce, e1, e2, hq, hce, hcv, hcl, h1, hL, h2, h3⟩, st⟩
  · dsimp only [Pt.U, Pt.locs, Pt.cells, Pt.slots] at X' e1 e2 h1 h2 h3 st
    subst h1; subst h2; subst h3
    exact Or.inl ⟨v, (T.setVm vm₁).calling g' mk (Value.ref b :: As).toArray, t, U', L, hT, X', hL, e1, e2, hq, st⟩
  · dsimp only [Pt.U, Pt.locs, Pt.cells, Pt.slots] at X' e1 e2 h1 h2 h3 st hcl
    subst h1; subst h2; subst h3
    exact Or.inr ⟨q, (T.setVm vm₁).calling g' mk (Value.ref b :: As).toArray, t, U', L, E, ce, hT, X', hL, e1, e2, hq, hce, hcv, vx_cls hW₁ hcl, st⟩
end VXID
/-! ===== BEGIN a private method of a nest mate that may throw (follows va_callVN, va_callSN, va_runVN, va_runSN) ===== -/
section
variable {p : Program} {l : Launch} {e : Env} {R : Room} {s : State} {m : MethodId} {args : Array Value} {below : List Frame} {meth : Method} {c : Code} {H : Heap} {locs : List Loc} {cells slots : Nat}
variable {T : State}
theorem vx_callVN (X : Stand p l e R s m args below meth c T locs cells slots) (hexec : p.tables.exec = Jvm.exec) {own C : String} {index : Nat} {host : String} {y : MethodName} {bytes : ByteArray} {maxL : Nat} {ret : Option FieldType}
    (hown : s.vm.findClass own = some m.cls) (hlink : (Cond.methodLinkNest own index y host).before args s = true) (hinst : (Cond.instanceMethod y).before args s = true) (hsel : (Cond.selects C y y).before args s = true)
    (hcode : (Cond.code y bytes maxL ret).before args s = true) (hy : y.cls ≠ "java/lang/invoke/MethodHandle" ∧ y.cls ≠ "java/lang/invoke/VarHandle")
    {W : Nat} {Pre : Pt → Array Value → Prop} {Post : Pt → Array Value → Option Value → Pt → Prop} {PostX : Pt → Array Value → Addr → Pt → Prop} (hK : vx_Back l R p e below s args y 3 W Pre Post PostX)
    {b : Addr} {cellB : Cell} (hcell : T.heap[b]? = some cellB) (hobj : cellB.vm.isStatics = false) (hcls : s.vm.findClass C = some cellB.cls)
    {g : JFrame} (hg : g.method = m) (hsize : g.locals.size = c.maxLocals) {argsL rest : List Value} (hlen : ∀ sig, parseMethodDescriptor y.desc = some sig → argsL.length = sig.parameters.length)
    (hstack : g.stack = argsL.reverse ++ .ref b :: rest) (hW : 2 * g.monitorRoom + (rest.map fun v => v.category).sum ≤ W) (hdg : decode c.code g.pc = .ok (.invokevirtual index, 3))
    (hpre : ∀ vm₁, s.WarmedH vm₁ → Pre ⟨T.setVm vm₁, locs, cells, slots⟩ (Value.ref b :: argsL).toArray) :
    (∃ (v : Option Value) (vm₁ : Vm) (B : Pt), s.WarmedH vm₁ ∧ Stand p l e R s m args below meth c B.U B.locs B.cells B.slots ∧ Post ⟨T.setVm vm₁, locs, cells, slots⟩ (Value.ref b :: argsL).toArray v B ∧
      ∀ target, Steps p.tables e below (B.U.setTop { g with pc := g.pc + 3, stack := v.toList ++ rest }) target → Steps p.tables e below (T.setTop g) target) ∨
    (∃ (q : Addr) (vm₁ : Vm) (B : Pt), s.WarmedH vm₁ ∧ Stand p l e R s m args below meth c B.U B.locs B.cells B.slots ∧ PostX ⟨T.setVm vm₁, locs, cells, slots⟩ (Value.ref b :: argsL).toArray q B ∧
      Steps p.tables e below (T.setTop g) ((B.U.setTop { g with stack := rest }).pushFrame (.throwing q))) := by
  obtain ⟨mk, methM, hnamed, hmethM, hstM, habM⟩ := Cond.instanceMethod_spec hinst
  obtain ⟨methM', cM, hmethM', -, -, -, -, -, -, hsigM⟩ := Cond.code_spec hnamed hcode
  cases hmethM.symm.trans hmethM'
  obtain ⟨c2, r2, m2, q1, q2, q3, q4, kP, hkP, hkPi⟩ := Cond.selects_spec hsel
  cases hcls.symm.trans q1
  cases (State.methodFound?_of_named hnamed hy).symm.trans q2
  cases hnamed.symm.trans q3
  have hselP : selectMethod e.platform s.vm cellB.cls mk = .method mk := by rw [Launch.admits_selectMethod X.admits]; exact q4
  obtain ⟨vm₁, X₁, hstep₁⟩ := X.invokevirtualNest hexec hown hlink hnamed hmethM hstM hkP hkPi hy (a := b) (cell := cellB) hcell
    (fun z h => by rw [h] at hobj; cases hobj) hselP hmethM habM hkP hkPi (g := g) hg (argsL := argsL) (rest := rest) (hlen _ hsigM) hstack hdg
  rcases hK m meth c ⟨T.setVm vm₁, locs, cells, slots⟩ { g with stack := rest } (.invokevirtual index) mk (Value.ref b :: argsL).toArray X₁ hg hsize hdg hW (X₁.named hnamed) (hpre vm₁ X₁.warmed) with ⟨v, B, X', hpost, hsteps⟩ | ⟨q, B, X', hpost, hsteps⟩
  · exact Or.inl ⟨v, vm₁, B, X₁.warmed, X', hpost, fun target h => hstep₁ _ fun acts => by rw [doInvoke_state]; exact hsteps.trans h⟩
  · exact Or.inr ⟨q, vm₁, B, X₁.warmed, X', hpost, hstep₁ _ fun acts => by rw [doInvoke_state]; exact hsteps⟩
theorem vx_callSN (X : Stand p l e R s m args below meth c T locs cells slots) (hexec : p.tables.exec = Jvm.exec) {own : String} {index : Nat} {host : String} {y : MethodName} {bytes : ByteArray} {maxL : Nat} {ret : Option FieldType}
    (hown : s.vm.findClass own = some m.cls) (hlink : (Cond.methodLinkNest own index y host).before args s = true) (hstat : (Cond.static y).before args s = true) (hinit : (Cond.initialized y.cls).before args s = true)
    (hcode : (Cond.code y bytes maxL ret).before args s = true) (hy : y.cls ≠ "java/lang/invoke/MethodHandle" ∧ y.cls ≠ "java/lang/invoke/VarHandle")
    {W : Nat} {Pre : Pt → Array Value → Prop} {Post : Pt → Array Value → Option Value → Pt → Prop} {PostX : Pt → Array Value → Addr → Pt → Prop} (hK : vx_Back l R p e below s args y 3 W Pre Post PostX)
    {g : JFrame} (hg : g.method = m) (hsize : g.locals.size = c.maxLocals) {argsL rest : List Value} (hlen : ∀ sig, parseMethodDescriptor y.desc = some sig → argsL.length = sig.parameters.length)
    (hstack : g.stack = argsL.reverse ++ rest) (hW : 2 * g.monitorRoom + (rest.map fun v => v.category).sum ≤ W) (hdg : decode c.code g.pc = .ok (.invokestatic index, 3))
    (hpre : ∀ vm₁, s.WarmedH vm₁ → Pre ⟨T.setVm vm₁, locs, cells, slots⟩ argsL.toArray) :
    (∃ (v : Option Value) (vm₁ : Vm) (B : Pt), s.WarmedH vm₁ ∧ Stand p l e R s m args below meth c B.U B.locs B.cells B.slots ∧ Post ⟨T.setVm vm₁, locs, cells, slots⟩ argsL.toArray v B ∧
      ∀ target, Steps p.tables e below (B.U.setTop { g with pc := g.pc + 3, stack := v.toList ++ rest }) target → Steps p.tables e below (T.setTop g) target) ∨
    (∃ (q : Addr) (vm₁ : Vm) (B : Pt), s.WarmedH vm₁ ∧ Stand p l e R s m args below meth c B.U B.locs B.cells B.slots ∧ PostX ⟨T.setVm vm₁, locs, cells, slots⟩ argsL.toArray q B ∧
      Steps p.tables e below (T.setTop g) ((B.U.setTop { g with stack := rest }).pushFrame (.throwing q))) := by
  obtain ⟨mk, hnamed⟩ := Cond.code_named hcode
  obtain ⟨methM, cM, hmethM, -, -, -, -, -, -, hsigM⟩ := Cond.code_spec hnamed hcode
  have hstatic : methM.isStatic = true := Cond.static_spec hnamed hmethM hstat
  obtain ⟨kP, hkP, -⟩ := className_of_methodNamed hnamed
  have hinitP : kP.init = .initialized := Cond.initialized_spec (findClass_of_methodNamed hnamed) hkP hinit
  obtain ⟨vm₁, X₁, hstep₁⟩ := X.invokestaticNest hexec hown hlink hnamed hmethM hstatic hkP hinitP hy (g := g) hg (argsL := argsL) (rest := rest) (hlen _ hsigM) hstack hdg
  rcases hK m meth c ⟨T.setVm vm₁, locs, cells, slots⟩ { g with stack := rest } (.invokestatic index) mk argsL.toArray X₁ hg hsize hdg hW (X₁.named hnamed) (hpre vm₁ X₁.warmed) with ⟨v, B, X', hpost, hsteps⟩ | ⟨q, B, X', hpost, hsteps⟩
  · exact Or.inl ⟨v, vm₁, B, X₁.warmed, X', hpost, fun target h => hstep₁ _ fun acts => by rw [doInvoke_state]; exact hsteps.trans h⟩
  · exact Or.inr ⟨q, vm₁, B, X₁.warmed, X', hpost, hstep₁ _ fun acts => by rw [doInvoke_state]; exact hsteps⟩
theorem vx_runVN {y : MethodName} {bytes cc : ByteArray} {maxL nL mc ms n index : Nat} {ret : Option FieldType} {ws : List Cond} {rm : Room} {Pc : Array Value → State → Prop} {Qc : Array Value → State → Outcome → State → Prop} {XC : String → State → State → Prop} {free : Addr → Prop} {Ts : List Cond} {own C host : String} {b : Addr} {As rest : List Value} {g : JFrame}
    (S : CallFix p m c cc nL s args Ts own) (hM : vx_Met l y ws rm Pc Qc XC mc ms free) (cw : va_CN R s args own index y host bytes maxL ret ws rm mc ms n ∧ (Cond.instanceMethod y).before args s = true ∧ (Cond.selects C y y).before args s = true) (hp : PreV s H C b Pc As)
    (hg : g.method = m) (hn : As.length = n) (hsize : g.locals.size = nL) (hstack : g.stack = As.reverse ++ .ref b :: rest) (hW : 2 * g.monitorRoom + (rest.map fun v => v.category).sum ≤ 8) (hdg : decode cc g.pc = .ok (.invokevirtual index, 3)) (hf : cells + mc ≤ R.cells ∧ slots + ms ≤ R.slots) :
    vx_Run p l e R s m args below meth c H locs cells slots mc ms g rest (Qc (Value.ref b :: As).toArray) XC free := by
  obtain ⟨⟨⟨hrc, hrs, hfr, hlo, hws, hcw⟩, hcode, hini, hy, hlen, hl⟩, hx1, hx2⟩ := cw
  have hK : vx_Back l R p e below s args y 3 8 (PreOf R mc ms Pc) (PostOf Qc mc ms free) (vx_Post XC mc ms free) := vx_back (bytes := bytes) (maxL := maxL) (ret := ret) hM hp.1 hrc hrs hfr hlo hws hcw (fun a' U hW => word_at hW (Or.inl (by first | rfl | simp [Cond.onTables, Cond.keeps, Cond.steady])) hini)
  obtain ⟨hx, hb, hml, ho, -⟩ := S
  obtain ⟨-, ⟨cellB, hcB, hoB, hclB⟩, hPc⟩ := hp
  intro T hT X
  rcases vx_callVN X hx (C := C) (bytes := bytes) (maxL := maxL) (ret := ret) ho hl hx1 hx2 hcode hy hK (by rw [hT]; exact hcB) hoB hclB hg (hsize.trans hml.symm) (argsL := As) (rest := rest) (fun sig h => hn.trans (hlen sig h)) hstack hW (by rw [hb]; exact hdg)
    (fun vm₁ hW₁ => ⟨hf.1, hf.2, hPc (T.setVm vm₁) hT hW₁⟩) with ⟨v, vm₁, ⟨U', l2, c2, s2⟩, hW₁, X', ⟨g', mk, t, L, e1, e2, hq, h1, hL, h2, h3⟩, st⟩ | ⟨q, vm₁, ⟨U', l2, c2, s2⟩, hW₁, X', ⟨g', mk, t, L, E, ce, e1, e2, hq, hce, hcv, hcl, h1, hL, h2, h3⟩, st⟩
  · dsimp only [Pt.U, Pt.locs, Pt.cells, Pt.slots] at X' e1 e2 h1 h2 h3 st
    subst h1; subst h2; subst h3
    exact Or.inl ⟨v, (T.setVm vm₁).calling g' mk (Value.ref b :: As).toArray, t, U', L, hT, X', hL, e1, e2, hq, st⟩
  · dsimp only [Pt.U, Pt.locs, Pt.cells, Pt.slots] at X' e1 e2 h1 h2 h3 st hcl
    subst h1; subst h2; subst h3
    exact Or.inr ⟨q, (T.setVm vm₁).calling g' mk (Value.ref b :: As).toArray, t, U', L, E, ce, hT, X', hL, e1, e2, hq, hce, hcv, vx_cls hW₁ hcl, st⟩
theorem vx_runSN {y : MethodName} {bytes cc : ByteArray} {maxL nL mc ms n index : Nat} {ret : Option FieldType} {ws : List Cond} {rm : Room} {Pc : Array Value → State → Prop} {Qc : Array Value → State → Outcome → State → Prop} {XC : String → State → State → Prop} {free : Addr → Prop} {Ts : List Cond} {own host : String} {As rest : List Value} {g : JFrame}
    (S : CallFix p m c cc nL s args Ts own) (hM : vx_Met l y ws rm Pc Qc XC mc ms free) (cw : va_CN R s args own index y host bytes maxL ret ws rm mc ms n ∧ (Cond.static y).before args s = true ∧ True) (hp : PreS s H Pc As)
    (hg : g.method = m) (hn : As.length = n) (hsize : g.locals.size = nL) (hstack : g.stack = As.reverse ++ rest) (hW : 2 * g.monitorRoom + (rest.map fun v => v.category).sum ≤ 8) (hdg : decode cc g.pc = .ok (.invokestatic index, 3)) (hf : cells + mc ≤ R.cells ∧ slots + ms ≤ R.slots) :
    vx_Run p l e R s m args below meth c H locs cells slots mc ms g rest (Qc As.toArray) XC free := by
  obtain ⟨⟨⟨hrc, hrs, hfr, hlo, hws, hcw⟩, hcode, hini, hy, hlen, hl⟩, hx1, hx2⟩ := cw
  have hK : vx_Back l R p e below s args y 3 8 (PreOf R mc ms Pc) (PostOf Qc mc ms free) (vx_Post XC mc ms free) := vx_back (bytes := bytes) (maxL := maxL) (ret := ret) hM hp.1 hrc hrs hfr hlo hws hcw (fun a' U hW => word_at hW (Or.inl (by first | rfl | simp [Cond.onTables, Cond.keeps, Cond.steady])) hini)
  obtain ⟨hx, hb, hml, ho, -⟩ := S
  have hPc := hp.2
  intro T hT X
  rcases vx_callSN X hx (bytes := bytes) (maxL := maxL) (ret := ret) ho hl hx1 hini hcode hy hK hg (hsize.trans hml.symm) (argsL := As) (rest := rest) (fun sig h => hn.trans (hlen sig h)) hstack hW (by rw [hb]; exact hdg)
    (fun vm₁ hW₁ => ⟨hf.1, hf.2, hPc (T.setVm vm₁) hT hW₁⟩) with ⟨v, vm₁, ⟨U', l2, c2, s2⟩, hW₁, X', ⟨g', mk, t, L, e1, e2, hq, h1, hL, h2, h3⟩, st⟩ | ⟨q, vm₁, ⟨U', l2, c2, s2⟩, hW₁, X', ⟨g', mk, t, L, E, ce, e1, e2, hq, hce, hcv, hcl, h1, hL, h2, h3⟩, st⟩
  · dsimp only [Pt.U, Pt.locs, Pt.cells, Pt.slots] at X' e1 e2 h1 h2 h3 st
    subst h1; subst h2; subst h3
    exact Or.inl ⟨v, (T.setVm vm₁).calling g' mk As.toArray, t, U', L, hT, X', hL, e1, e2, hq, st⟩
  · dsimp only [Pt.U, Pt.locs, Pt.cells, Pt.slots] at X' e1 e2 h1 h2 h3 st hcl
    subst h1; subst h2; subst h3
    exact Or.inr ⟨q, (T.setVm vm₁).calling g' mk As.toArray, t, U', L, E, ce, hT, X', hL, e1, e2, hq, hce, hcv, vx_cls hW₁ hcl, st⟩
end
end
section
/-! THE SMALL MACHINE: an interpreter over relative addresses (cell k of the run lies at the base + k), and the rows that tie each of its steps to the machine's.
The class table z_cl, the component types z_T, the words z_G and the nest links z_N of the claim come as variables; part 05 names them. -/
/-- base, old references, D, classes of the arrays by their kinds, the script's ints, their number -/
abbrev zE : Type := Nat × (Nat → Nat) × va_G × (Nat → ClassId) × (Nat → Int32) × Nat
abbrev zb (E : zE) : Nat := E.1
abbrev zol (E : zE) : Nat → Nat := E.2.1
abbrev zD (E : zE) : va_G := E.2.2.1
abbrev zcy (E : zE) : Nat → ClassId := E.2.2.2.1
abbrev zxs (E : zE) : Nat → Int32 := E.2.2.2.2.1
abbrev zLs (E : zE) : Nat := E.2.2.2.2.2
def zV (E : zE) (v : Value) : Value := match v with
  | .ref k => .ref (zb E + k)
  | .retAddr i => .ref (zol E i)
  | v => v
def zAr (E : zE) (a : (Nat → Int32) ⊕ (Nat → Int64) ⊕ (Nat → UInt32) ⊕ (Nat → UInt64) ⊕ (Nat → Option Nat)) : (Nat → Int32) ⊕ (Nat → Int64) ⊕ (Nat → UInt32) ⊕ (Nat → UInt64) ⊕ (Nat → Option Nat) := match a with
  | .inr (.inr (.inr (.inr f))) => .inr (.inr (.inr (.inr (fun j => (f j).map (fun k => zb E + k)))))
  | a => a
def zEn (E : zE) (e : va_E) : va_E := match e with
  | .inl (t, n, a) => .inl (zcy E t, n, zAr E a)
  | .inr (ci, fs) => .inr (ci, fs.map (zV E))
/-- cells by index, how many there are, cells made, slots made, whether the next cell's place is known -/
abbrev zH : Type := (Nat → va_E) × Nat × Nat × Nat × Bool
abbrev zLoc : Type := List (Nat × Value)
abbrev zOp : Type := zLoc → List Value → zH → Option (Nat × zLoc × List Value × zH)
def zLo (E : zE) (L : zLoc) : List (Nat × Value) := L.map (fun q => (q.1, zV E q.2))
def zW (cl : List vw_C) (E : zE) (h : zH) (H : Heap) : Prop :=
  (∀ k, k < h.2.1 → va_at (zD E) cl (zb E + k, zEn E (h.1 k)) H) ∧ zb E + h.2.1 ≤ H.size ∧ (h.2.2.2.2 = true → H.size = zb E + h.2.1)
def zA (E : zE) : Nat → Prop := fun q => zb E ≤ q
def zK (cl : List vw_C) (T : List FieldType) (E : zE) (U : State) : Prop :=
  (∀ (c : Nat) (q : vw_C), cl[c]? = some q → u_Kn U q.1 q.2.1 q.2.2 ((zD E).1 c) ((zD E).2 c)) ∧ ∀ (t : Nat) (ty : FieldType), T[t]? = some ty → ArrOfT U (zcy E t) ty ∧ va_RA U (zcy E t) ty
theorem zK.moved {cl : List vw_C} {T : List FieldType} {E : zE} {u U : State} (hvm : u.vm.Alike U.vm) (h : zK cl T E u) : zK cl T E U :=
  ⟨fun c q hq => u_Kn_moved hvm (h.1 c q hq), fun t ty ht => ⟨arrOfT_moved hvm (h.2 t ty ht).1, (h.2 t ty ht).2.moved hvm⟩⟩
theorem zK.one {cl : List vw_C} {T : List FieldType} {E : zE} {U : State} (h : zK cl T E U) {t : Nat} {ty : FieldType} (ht : T[t]? = some ty) : va_K (zD E) cl [(zcy E t, ty)] U := by
  refine ⟨h.1, fun k q hk => ?_⟩
  match k, hk with
  | 0, hk => cases hk; exact h.2 t ty ht
theorem zK.none {cl : List vw_C} {T : List FieldType} {E : zE} {U : State} (h : zK cl T E U) : va_K (zD E) cl [] U := ⟨h.1, fun k q hk => by simp at hk⟩
theorem zV_cat (E : zE) (v : Value) : (zV E v).category = v.category := by cases v <;> rfl
theorem zLo_filter (E : zE) (L : zLoc) (i : Nat) : (zLo E L).filter (fun q => !(q.1 == i) && !(q.1 + 1 == i && q.2.category == 2)) = zLo E (L.filter (fun q => !(q.1 == i) && !(q.1 + 1 == i && q.2.category == 2))) := by
  simp only [zLo, List.filter_map, Function.comp_def, zV_cat]
theorem zLo_filter2 (E : zE) (L : zLoc) (i : Nat) : (zLo E L).filter (fun q => !(q.1 == i) && (!(q.1 == i + 1) && !(q.1 + 1 == i && q.2.category == 2))) = zLo E (L.filter (fun q => !(q.1 == i) && (!(q.1 == i + 1) && !(q.1 + 1 == i && q.2.category == 2)))) := by
  simp only [zLo, List.filter_map, Function.comp_def, zV_cat]
/-- a local by its place -/
def zget (L : zLoc) (i : Nat) : Option Value := match L with
  | [] => none
  | q :: r => if q.1 = i then some q.2 else zget r i
theorem zget_mem {L : zLoc} {i : Nat} {v : Value} (h : zget L i = some v) : (i, v) ∈ L := by
  induction L with
  | nil => cases h
  | cons q r ih =>
    unfold zget at h
    split at h
    · rename_i hq
      cases h
      subst hq
      exact List.mem_cons_self
    · exact List.mem_cons_of_mem _ (ih h)
theorem zlk {E : zE} {ls : Array Slot} {nL : Nat} {L : zLoc} {i : Nat} {v : Value} (hl : lv_has ls nL (zLo E L)) (h : zget L i = some v) : ls[i]? = some (.val (zV E v)) :=
  hl.2.2 (i, zV E v) (List.mem_map.mpr ⟨(i, v), zget_mem h, rfl⟩)
theorem zW.kept {cl : List vw_C} {E : zE} {h : zH} {H H1 : Heap} (hW : zW cl E h H) (hs : H1.size = H.size) (hk : ∀ q : Nat, zb E ≤ q → H1[q]? = H[q]?) : zW cl E h H1 :=
  ⟨fun k hk0 => (hW.1 k hk0).kept (hk _ (Nat.le_add_right _ _)), by rw [hs]; exact hW.2.1, fun hv => by rw [hs]; exact hW.2.2 hv⟩
theorem zP1 {cl : List vw_C} {E : zE} {h : zH} {H : Heap} (hW : zW cl E h H) {k : Nat} (hk : k < h.2.1) : va_P (zD E) cl [(zb E + k, zEn E (h.1 k))] H := by
  intro j q hj
  match j, hj with
  | 0, hj => cases hj; exact hW.1 k hk
def zup (σ : Nat → va_E) (k : Nat) (e : va_E) : Nat → va_E := fun j => if j = k then e else σ j
theorem zW.put {cl : List vw_C} {E : zE} {h : zH} {H H1 : Heap} (hW : zW cl E h H) {k : Nat} {e : va_E} (he : va_at (zD E) cl (zb E + k, zEn E e) H1) (hs : H1.size = H.size) (oq : ∀ q : Nat, q ≠ zb E + k → H1[q]? = H[q]?) :
    zW cl E (zup h.1 k e, h.2) H1 := by
  refine ⟨fun j hj => ?_, by rw [hs]; exact hW.2.1, fun hv => by rw [hs]; exact hW.2.2 hv⟩
  by_cases hjk : j = k
  · subst hjk
    show va_at (zD E) cl (zb E + j, zEn E (zup h.1 j e j)) H1
    unfold zup
    rw [if_pos rfl]
    exact he
  · show va_at (zD E) cl (zb E + j, zEn E (zup h.1 k e j)) H1
    unfold zup
    rw [if_neg hjk]
    exact (hW.1 j hj).kept (oq _ (by intro q; apply hjk; exact Nat.add_left_cancel q))
theorem zW.push {cl : List vw_C} {E : zE} {h : zH} {H H1 : Heap} (hW : zW cl E h H) {e : va_E} {m s : Nat} (hlive : h.2.2.2.2 = true) (he : va_at (zD E) cl (H.size, zEn E e) H1) (hs : H1.size = H.size + 1) (oq : ∀ q : Nat, q < H.size → H1[q]? = H[q]?) :
    zW cl E (zup h.1 h.2.1 e, h.2.1 + 1, m, s, true) H1 := by
  have hz := hW.2.2 hlive
  refine ⟨fun j hj => ?_, by rw [hs, hz]; exact Nat.le_refl _, fun _ => by rw [hs, hz]; rfl⟩
  have hj' : j < h.2.1 + 1 := hj
  by_cases hjk : j = h.2.1
  · subst hjk
    show va_at (zD E) cl (zb E + h.2.1, zEn E (zup h.1 h.2.1 e h.2.1)) H1
    unfold zup
    rw [if_pos rfl, ← hz]
    exact he
  · show va_at (zD E) cl (zb E + j, zEn E (zup h.1 h.2.1 e j)) H1
    unfold zup
    rw [if_neg hjk]
    exact (hW.1 j (by omega)).kept (oq _ (by omega))
theorem zS.put {E : zE} {H0 H H1 : Heap} {locs : List Loc} {k i : Nat} (hS : va_S (zA E) H0 H locs) (hs : H1.size = H.size) (oq : ∀ q : Nat, q ≠ zb E + k → H1[q]? = H[q]?) : va_S (zA E) H0 H1 (locs ++ [⟨zb E + k, i⟩]) := by
  refine ⟨by rw [hs]; exact hS.1, fun q h1 h2 => ?_, fun l hl => ?_⟩
  · rw [oq q (fun e => h2 (by rw [e]; exact Nat.le_add_right _ _))]
    exact hS.2.1 q h1 h2
  · rcases List.mem_append.mp hl with h | h
    · exact hS.2.2 l h
    · rw [List.mem_singleton] at h
      subst h
      exact Nat.le_add_right _ _
theorem zS.push {E : zE} {H0 H H1 : Heap} {locs : List Loc} (hS : va_S (zA E) H0 H locs) (hs : H1.size = H.size + 1) (oq : ∀ q : Nat, q < H.size → H1[q]? = H[q]?) : va_S (zA E) H0 H1 locs :=
  ⟨by rw [hs]; exact Nat.le_succ_of_le hS.1, fun q h1 h2 => by rw [oq q (Nat.lt_of_lt_of_le h1 hS.1)]; exact hS.2.1 q h1 h2, hS.2.2⟩
/-- what a frame of a method stands on: machine, code, own class, words, nest links, classes, old things O, the script -/
def zF (cl : List vw_C) (T : List FieldType) (G N : List Cond) (O : Nat → State → Heap → Prop) (E : zE) (own nm : String) (bytes : ByteArray) (nL : Nat) (p : Program) (s : State) (m : MethodId) (args : Array Value) (meth : Method) (c : Code) : Prop :=
  p.tables.exec = Jvm.exec ∧ c.code = bytes ∧ c.maxLocals = nL ∧ s.vm.findClass own = some m.cls ∧ (∀ w ∈ G, w.before args s = true) ∧ (∀ w ∈ N, va_Nw w s) ∧ zK cl T E s ∧ O (zb E) s s.heap ∧
    va_X (zol E 0) (zLs E) (zxs E) s s.heap ∧ (∀ i, zol E i < zb E) ∧ zb E ≤ s.heap.size ∧ meth.locks = false ∧ meth.name = nm
end
section
/-! SOUND STEPS: what a step of the small machine owes, and the steps that touch no heap -/
def zSnd (cl : List vw_C) (T : List FieldType) (G N : List Cond) (O : Nat → State → Heap → Prop) (E : zE) (own nm : String) (bytes : ByteArray) (nL pc : Nat) (op : zOp) : Prop :=
  ∀ (L : zLoc) (st : List Value) (h : zH) (pc' : Nat) (L' : zLoc) (st' : List Value) (h' : zH), op L st h = some (pc', L', st', h') →
    (h.2.2.1 ≤ h'.2.2.1 ∧ h.2.2.2.1 ≤ h'.2.2.2.1) ∧
    ∀ (p : Program) (l : Launch) (e : Env) (R : Room) (s : State) (m : MethodId) (args : Array Value) (below : List Frame) (meth : Method) (c : Code) (Q : State → Prop),
      zF cl T G N O E own nm bytes nL p s m args meth c → 1 ≤ R.frames → 40 ≤ R.locals →
      ∀ (n0 S0 : Nat) (H : Heap) (locs : List Loc) (ls : Array Slot), lv_has ls nL (zLo E L) → zW cl E h H → va_S (zA E) s.heap H locs → n0 ≤ h.2.2.1 → S0 ≤ h.2.2.2.1 → h'.2.2.1 - n0 ≤ R.cells → h'.2.2.2.1 - S0 ≤ R.slots →
      (∀ (H' : Heap) (locs' : List Loc) (ls' : Array Slot), lv_has ls' nL (zLo E L') → zW cl E h' H' → va_S (zA E) s.heap H' locs' → W p l e R s m args below meth c H' locs' (h'.2.2.1 - n0) (h'.2.2.2.1 - S0) Q (F0 m pc' ls' (st'.map (zV E)))) →
      W p l e R s m args below meth c H locs (h.2.2.1 - n0) (h.2.2.2.1 - S0) Q (F0 m pc ls (st.map (zV E)))
section ZSND
variable {cl : List vw_C} {T : List FieldType} {G N : List Cond} {O : Nat → State → Heap → Prop} {E : zE} {own nm : String} {bytes : ByteArray} {nL pc : Nat}
/-- a step that changes the stack alone -/
abbrev zS1 (f : List Value → Option (Nat × List Value)) : zOp := fun L st h => match f st with
  | some (pc', st') => some (pc', L, st', h)
  | none => none
theorem zsnd1 {f : List Value → Option (Nat × List Value)} (hf : ∀ (st : List Value) (pc' : Nat) (st' : List Value), f st = some (pc', st') → ∀ (p : Program) (l : Launch) (e : Env) (R : Room) (s : State) (m : MethodId) (args : Array Value) (below : List Frame) (meth : Method) (c : Code) (Q : State → Prop) (H : Heap) (locs : List Loc) (cells slots : Nat) (ls : Array Slot), zF cl T G N O E own nm bytes nL p s m args meth c →
      W p l e R s m args below meth c H locs cells slots Q (F0 m pc' ls (st'.map (zV E))) → W p l e R s m args below meth c H locs cells slots Q (F0 m pc ls (st.map (zV E)))) : zSnd cl T G N O E own nm bytes nL pc (zS1 f) := by
  intro L st h pc' L' st' h' hop
  simp only [zS1] at hop
  split at hop
  · rename_i a b heq
    cases hop
    refine ⟨⟨Nat.le_refl _, Nat.le_refl _⟩, ?_⟩
    intro p l e R s m args below meth c Q F _ _ n0 S0 H locs ls hl hW hS _ _ _ _ k
    exact hf _ _ _ heq p l e R s m args below meth c Q H locs _ _ ls F (k H locs ls hl hW hS)
  · cases hop
/-- a local is read -/
abbrev zLd (f : Value → Bool) (pc' i : Nat) : zOp := fun L st h => match zget L i with
  | some v => if f v = true then some (pc', L, v :: st, h) else none
  | none => none
def zIsI (v : Value) : Bool := match v with | .int _ => true | _ => false
def zIsL (v : Value) : Bool := match v with | .long _ => true | _ => false
def zIsD (v : Value) : Bool := match v with | .double _ => true | _ => false
def zIsA (v : Value) : Bool := match v with | .ref _ => true | .null => true | .retAddr _ => true | _ => false
theorem zsndLd {f : Value → Bool} {pc' i : Nat} (hf : ∀ (v : Value), f v = true → ∀ (p : Program) (l : Launch) (e : Env) (R : Room) (s : State) (m : MethodId) (args : Array Value) (below : List Frame) (meth : Method) (c : Code) (Q : State → Prop) (H : Heap) (locs : List Loc) (cells slots : Nat) (ls : Array Slot) (rest : List Value), zF cl T G N O E own nm bytes nL p s m args meth c → ls[i]? = some (.val (zV E v)) →
      W p l e R s m args below meth c H locs cells slots Q (F0 m pc' ls (zV E v :: rest)) → W p l e R s m args below meth c H locs cells slots Q (F0 m pc ls rest)) : zSnd cl T G N O E own nm bytes nL pc (zLd f pc' i) := by
  intro L st h pc1 L' st' h' hop
  simp only [zLd] at hop
  split at hop
  · rename_i v hv
    split at hop
    · rename_i hfv
      cases hop
      refine ⟨⟨Nat.le_refl _, Nat.le_refl _⟩, ?_⟩
      intro p l e R s m args below meth c Q F _ _ n0 S0 H locs ls hl hW hS _ _ _ _ k
      exact hf v hfv p l e R s m args below meth c Q H locs _ _ ls _ F (zlk hl hv) (k H locs ls hl hW hS)
    · cases hop
  · cases hop
theorem zs_iload {i : Nat} (hd : decode bytes pc = .ok (.iload i, 2)) : zSnd cl T G N O E own nm bytes nL pc (zLd zIsI (pc + 2) i) := zsndLd fun v hv p l e R s m args below meth c Q H locs cells slots ls rest F hg k => by
  cases v <;> first | cases hv; done | skip
  exact lv_iload F.1 F.2.1 hd hg k
theorem zs_iload_n {i : Fin 4} {j : Nat} (hd : decode bytes pc = .ok (.iload_n i, 1)) (hj : (i : Nat) = j) : zSnd cl T G N O E own nm bytes nL pc (zLd zIsI (pc + 1) j) := zsndLd fun v hv p l e R s m args below meth c Q H locs cells slots ls rest F hg k => by
  cases v <;> first | cases hv; done | skip
  exact lv_iload_n F.1 F.2.1 hd hj hg k
theorem zs_lload {i : Nat} (hd : decode bytes pc = .ok (.lload i, 2)) : zSnd cl T G N O E own nm bytes nL pc (zLd zIsL (pc + 2) i) := zsndLd fun v hv p l e R s m args below meth c Q H locs cells slots ls rest F hg k => by
  cases v <;> first | cases hv; done | skip
  exact lv_lload F.1 F.2.1 hd hg k
theorem zs_lload_n {i : Fin 4} {j : Nat} (hd : decode bytes pc = .ok (.lload_n i, 1)) (hj : (i : Nat) = j) : zSnd cl T G N O E own nm bytes nL pc (zLd zIsL (pc + 1) j) := zsndLd fun v hv p l e R s m args below meth c Q H locs cells slots ls rest F hg k => by
  cases v <;> first | cases hv; done | skip
  exact lv_lload_n F.1 F.2.1 hd hj hg k
theorem zs_dload {i : Nat} (hd : decode bytes pc = .ok (.dload i, 2)) : zSnd cl T G N O E own nm bytes nL pc (zLd zIsD (pc + 2) i) := zsndLd fun v hv p l e R s m args below meth c Q H locs cells slots ls rest F hg k => by
  cases v <;> first | cases hv; done | skip
  exact lv_dload F.1 F.2.1 hd hg k
theorem zs_dload_n {i : Fin 4} {j : Nat} (hd : decode bytes pc = .ok (.dload_n i, 1)) (hj : (i : Nat) = j) : zSnd cl T G N O E own nm bytes nL pc (zLd zIsD (pc + 1) j) := zsndLd fun v hv p l e R s m args below meth c Q H locs cells slots ls rest F hg k => by
  cases v <;> first | cases hv; done | skip
  exact lv_dload_n F.1 F.2.1 hd hj hg k
theorem zs_aload {i : Nat} (hd : decode bytes pc = .ok (.aload i, 2)) : zSnd cl T G N O E own nm bytes nL pc (zLd zIsA (pc + 2) i) := zsndLd fun v hv p l e R s m args below meth c Q H locs cells slots ls rest F hg k => by
  cases v <;> first | cases hv; done | skip
  · exact lv_aloadN F.1 F.2.1 hd hg k
  · exact lv_aload F.1 F.2.1 hd hg k
  · exact lv_aload F.1 F.2.1 hd hg k
theorem zs_aload_n {i : Fin 4} {j : Nat} (hd : decode bytes pc = .ok (.aload_n i, 1)) (hj : (i : Nat) = j) : zSnd cl T G N O E own nm bytes nL pc (zLd zIsA (pc + 1) j) := zsndLd fun v hv p l e R s m args below meth c Q H locs cells slots ls rest F hg k => by
  cases v <;> first | cases hv; done | skip
  · exact lv_aload_nN F.1 F.2.1 hd hj hg k
  · exact lv_aload_n F.1 F.2.1 hd hj hg k
  · exact lv_aload_n F.1 F.2.1 hd hj hg k
/-- a local is written: one word, two words -/
def zF1 (i : Nat) (L : zLoc) : zLoc := L.filter (fun q => !(q.1 == i) && !(q.1 + 1 == i && q.2.category == 2))
def zF2 (i : Nat) (L : zLoc) : zLoc := L.filter (fun q => !(q.1 == i) && (!(q.1 == i + 1) && !(q.1 + 1 == i && q.2.category == 2)))
abbrev zSt1 (f : Value → Bool) (pc' i : Nat) : zOp := fun L st h => match st with
  | v :: r => if f v = true then some (pc', (i, v) :: zF1 i L, r, h) else none
  | [] => none
abbrev zSt2 (f : Value → Bool) (pc' i : Nat) : zOp := fun L st h => match st with
  | v :: r => if f v = true then some (pc', (i, v) :: zF2 i L, r, h) else none
  | [] => none
theorem zsndSt1 {f : Value → Bool} {pc' i : Nat} (hf : ∀ (v : Value), f v = true → ∀ (p : Program) (l : Launch) (e : Env) (R : Room) (s : State) (m : MethodId) (args : Array Value) (below : List Frame) (meth : Method) (c : Code) (Q : State → Prop) (H : Heap) (locs : List Loc) (cells slots : Nat) (ls : Array Slot) (rest : List Value) (lv : List (Nat × Value)), zF cl T G N O E own nm bytes nL p s m args meth c → lv_has ls nL lv →
      (∀ ls', lv_has ls' nL ((i, zV E v) :: lv.filter (fun q => !(q.1 == i) && !(q.1 + 1 == i && q.2.category == 2))) → W p l e R s m args below meth c H locs cells slots Q (F0 m pc' ls' rest)) → W p l e R s m args below meth c H locs cells slots Q (F0 m pc ls (zV E v :: rest))) : zSnd cl T G N O E own nm bytes nL pc (zSt1 f pc' i) := by
  intro L st h pc1 L' st' h' hop
  match st, hop with
  | v :: r, hop =>
    simp only [zSt1] at hop
    split at hop
    · rename_i hfv
      cases hop
      refine ⟨⟨Nat.le_refl _, Nat.le_refl _⟩, ?_⟩
      intro p l e R s m args below meth c Q F _ _ n0 S0 H locs ls hl hW hS _ _ _ _ k
      refine hf v hfv p l e R s m args below meth c Q H locs _ _ ls _ (zLo E L) F hl (fun ls' hl' => k H locs ls' ?_ hW hS)
      rw [zLo_filter] at hl'
      exact hl'
    · cases hop
theorem zsndSt2 {f : Value → Bool} {pc' i : Nat} (hf : ∀ (v : Value), f v = true → ∀ (p : Program) (l : Launch) (e : Env) (R : Room) (s : State) (m : MethodId) (args : Array Value) (below : List Frame) (meth : Method) (c : Code) (Q : State → Prop) (H : Heap) (locs : List Loc) (cells slots : Nat) (ls : Array Slot) (rest : List Value) (lv : List (Nat × Value)), zF cl T G N O E own nm bytes nL p s m args meth c → lv_has ls nL lv →
      (∀ ls', lv_has ls' nL ((i, zV E v) :: lv.filter (fun q => !(q.1 == i) && (!(q.1 == i + 1) && !(q.1 + 1 == i && q.2.category == 2)))) → W p l e R s m args below meth c H locs cells slots Q (F0 m pc' ls' rest)) → W p l e R s m args below meth c H locs cells slots Q (F0 m pc ls (zV E v :: rest))) : zSnd cl T G N O E own nm bytes nL pc (zSt2 f pc' i) := by
  intro L st h pc1 L' st' h' hop
  match st, hop with
  | v :: r, hop =>
    simp only [zSt2] at hop
    split at hop
    · rename_i hfv
      cases hop
      refine ⟨⟨Nat.le_refl _, Nat.le_refl _⟩, ?_⟩
      intro p l e R s m args below meth c Q F _ _ n0 S0 H locs ls hl hW hS _ _ _ _ k
      refine hf v hfv p l e R s m args below meth c Q H locs _ _ ls _ (zLo E L) F hl (fun ls' hl' => k H locs ls' ?_ hW hS)
      rw [zLo_filter2] at hl'
      exact hl'
    · cases hop
theorem zs_istore {i : Nat} (hn : i < nL) (hd : decode bytes pc = .ok (.istore i, 2)) : zSnd cl T G N O E own nm bytes nL pc (zSt1 zIsI (pc + 2) i) := zsndSt1 fun v hv p l e R s m args below meth c Q H locs cells slots ls rest lv F hl k => by
  cases v <;> first | cases hv; done | skip
  exact lv_istore F.1 F.2.1 hd hl hn rfl k
theorem zs_istore_n {i : Fin 4} {j : Nat} (hn : j < nL) (hd : decode bytes pc = .ok (.istore_n i, 1)) (hj : (i : Nat) = j) : zSnd cl T G N O E own nm bytes nL pc (zSt1 zIsI (pc + 1) j) := zsndSt1 fun v hv p l e R s m args below meth c Q H locs cells slots ls rest lv F hl k => by
  cases v <;> first | cases hv; done | skip
  exact lv_istore_n F.1 F.2.1 hd hj hl hn rfl k
theorem zs_astore {i : Nat} (hn : i < nL) (hd : decode bytes pc = .ok (.astore i, 2)) : zSnd cl T G N O E own nm bytes nL pc (zSt1 zIsA (pc + 2) i) := zsndSt1 fun v hv p l e R s m args below meth c Q H locs cells slots ls rest lv F hl k => by
  cases v <;> first | cases hv; done | skip
  · exact lv_astoreN F.1 F.2.1 hd hl hn rfl k
  · exact lv_astore F.1 F.2.1 hd hl hn rfl k
  · exact lv_astore F.1 F.2.1 hd hl hn rfl k
theorem zs_astore_n {i : Fin 4} {j : Nat} (hn : j < nL) (hd : decode bytes pc = .ok (.astore_n i, 1)) (hj : (i : Nat) = j) : zSnd cl T G N O E own nm bytes nL pc (zSt1 zIsA (pc + 1) j) := zsndSt1 fun v hv p l e R s m args below meth c Q H locs cells slots ls rest lv F hl k => by
  cases v <;> first | cases hv; done | skip
  · exact lv_astore_nN F.1 F.2.1 hd hj hl hn rfl k
  · exact lv_astore_n F.1 F.2.1 hd hj hl hn rfl k
  · exact lv_astore_n F.1 F.2.1 hd hj hl hn rfl k
theorem zs_lstore {i : Nat} (hn : i + 1 < nL) (hd : decode bytes pc = .ok (.lstore i, 2)) : zSnd cl T G N O E own nm bytes nL pc (zSt2 zIsL (pc + 2) i) := zsndSt2 fun v hv p l e R s m args below meth c Q H locs cells slots ls rest lv F hl k => by
  cases v <;> first | cases hv; done | skip
  exact lv_lstore F.1 F.2.1 hd hl hn rfl k
theorem zs_lstore_n {i : Fin 4} {j : Nat} (hn : j + 1 < nL) (hd : decode bytes pc = .ok (.lstore_n i, 1)) (hj : (i : Nat) = j) : zSnd cl T G N O E own nm bytes nL pc (zSt2 zIsL (pc + 1) j) := zsndSt2 fun v hv p l e R s m args below meth c Q H locs cells slots ls rest lv F hl k => by
  cases v <;> first | cases hv; done | skip
  exact lv_lstore_n F.1 F.2.1 hd hj hl hn rfl k
theorem zs_dstore {i : Nat} (hn : i + 1 < nL) (hd : decode bytes pc = .ok (.dstore i, 2)) : zSnd cl T G N O E own nm bytes nL pc (zSt2 zIsD (pc + 2) i) := zsndSt2 fun v hv p l e R s m args below meth c Q H locs cells slots ls rest lv F hl k => by
  cases v <;> first | cases hv; done | skip
  exact lv_dstore F.1 F.2.1 hd hl hn rfl k
theorem zs_dstore_n {i : Fin 4} {j : Nat} (hn : j + 1 < nL) (hd : decode bytes pc = .ok (.dstore_n i, 1)) (hj : (i : Nat) = j) : zSnd cl T G N O E own nm bytes nL pc (zSt2 zIsD (pc + 1) j) := zsndSt2 fun v hv p l e R s m args below meth c Q H locs cells slots ls rest lv F hl k => by
  cases v <;> first | cases hv; done | skip
  exact lv_dstore_n F.1 F.2.1 hd hj hl hn rfl k
/-- iinc -/
abbrev zIinc (pc' i : Nat) (x : Int32) : zOp := fun L st h => match zget L i with
  | some (.int v) => some (pc', (i, .int (v + x)) :: zF1 i L, st, h)
  | _ => none
theorem zs_iinc {i : Nat} {n : Int} {x : Int32} (hn : i < nL) (hx : Int32.ofInt n = x) (hd : decode bytes pc = .ok (.iinc i n, 3)) : zSnd cl T G N O E own nm bytes nL pc (zIinc (pc + 3) i x) := by
  intro L st h pc1 L' st' h' hop
  simp only [zIinc] at hop
  split at hop
  · rename_i v hv
    cases hop
    refine ⟨⟨Nat.le_refl _, Nat.le_refl _⟩, ?_⟩
    intro p l e R s m args below meth c Q F _ _ n0 S0 H locs ls hl hW hS _ _ _ _ k
    have hm := zget_mem hv
    obtain ⟨j, hj⟩ := List.getElem?_of_mem (List.mem_map.mpr ⟨(i, Value.int v), hm, rfl⟩ : ((i, Value.int v) : Nat × Value) ∈ zLo E L)
    refine lv_iinc F.1 F.2.1 hd hl hj (by rw [hx]) hn rfl (fun ls' hl' => k H locs ls' ?_ hW hS)
    rw [zLo_filter] at hl'
    exact hl'
  · cases hop
end ZSND
end
section
/-! SOUND STEPS on the stack: constants, arithmetic, compares, branches -/
section ZSTK
variable {cl : List vw_C} {T : List FieldType} {G N : List Cond} {O : Nat → State → Heap → Prop} {E : zE} {own nm : String} {bytes : ByteArray} {nL pc : Nat}
abbrev zCst (v : Value) (pc' : Nat) : List Value → Option (Nat × List Value) := fun st => some (pc', v :: st)
theorem zsndC {v : Value} {pc' : Nat} (hz : zV E v = v) (hf : ∀ (p : Program) (l : Launch) (e : Env) (R : Room) (s : State) (m : MethodId) (args : Array Value) (below : List Frame) (meth : Method) (c : Code) (Q : State → Prop) (H : Heap) (locs : List Loc) (cells slots : Nat) (ls : Array Slot) (rest : List Value), zF cl T G N O E own nm bytes nL p s m args meth c → W p l e R s m args below meth c H locs cells slots Q (F0 m pc' ls (v :: rest)) → W p l e R s m args below meth c H locs cells slots Q (F0 m pc ls rest)) : zSnd cl T G N O E own nm bytes nL pc (zS1 (zCst v pc')) := zsnd1 fun st pc1 st1 h p l e R s m args below meth c Q H locs cells slots ls F k => by
  cases h
  rw [List.map_cons, hz] at k
  exact hf p l e R s m args below meth c Q H locs cells slots ls _ F k
theorem zs_iconst {n : Int} {v : Int32} (hv : Int32.ofInt n = v) (hd : decode bytes pc = .ok (.iconst n, 1)) : zSnd cl T G N O E own nm bytes nL pc (zS1 (zCst (.int v) (pc + 1))) := zsndC rfl fun p l e R s m args below meth c Q H locs cells slots ls rest F k => lv_iconst F.1 F.2.1 hd hv k
theorem zs_bipush {n : Int} {v : Int32} (hv : (Int8.ofInt n).toInt32 = v) (hd : decode bytes pc = .ok (.bipush n, 2)) : zSnd cl T G N O E own nm bytes nL pc (zS1 (zCst (.int v) (pc + 2))) := zsndC rfl fun p l e R s m args below meth c Q H locs cells slots ls rest F k => lv_bipush F.1 F.2.1 hd hv k
theorem zs_sipush {n : Int} {v : Int32} (hv : (Int16.ofInt n).toInt32 = v) (hd : decode bytes pc = .ok (.sipush n, 3)) : zSnd cl T G N O E own nm bytes nL pc (zS1 (zCst (.int v) (pc + 3))) := zsndC rfl fun p l e R s m args below meth c Q H locs cells slots ls rest F k => lv_sipush F.1 F.2.1 hd hv k
theorem zs_lconst {n : Fin 2} {v : Int64} (hv : Int64.ofNat (n : Nat) = v) (hd : decode bytes pc = .ok (.lconst n, 1)) : zSnd cl T G N O E own nm bytes nL pc (zS1 (zCst (.long v) (pc + 1))) := zsndC rfl fun p l e R s m args below meth c Q H locs cells slots ls rest F k => lv_lconst F.1 F.2.1 hd hv k
theorem zs_dconst0  (hd : decode bytes pc = .ok (.dconst 0, 1)) : zSnd cl T G N O E own nm bytes nL pc (zS1 (zCst (.double FP.dconst0) (pc + 1))) := zsndC rfl fun p l e R s m args below meth c Q H locs cells slots ls rest F k => lv_dconst0 F.1 F.2.1 hd k
theorem zs_ldci {i : Nat} {v : Int32} (hc : Cond.constant own i v ∈ G) (hd : decode bytes pc = .ok (.ldc i, 2)) : zSnd cl T G N O E own nm bytes nL pc (zS1 (zCst (.int v) (pc + 2))) := zsndC rfl fun p l e R s m args below meth c Q H locs cells slots ls rest F k => lv_ldc F.1 F.2.1 F.2.2.2.1 (F.2.2.2.2.1 _ hc) hd k
theorem zs_ldc2l {i : Nat} {v : Int64} (hc : Cond.constantLong own i v ∈ G) (hd : decode bytes pc = .ok (.ldc2_w i, 3)) : zSnd cl T G N O E own nm bytes nL pc (zS1 (zCst (.long v) (pc + 3))) := zsndC rfl fun p l e R s m args below meth c Q H locs cells slots ls rest F k => lv_ldc2 F.1 F.2.1 F.2.2.2.1 (F.2.2.2.2.1 _ hc) hd k
theorem zs_ldc2d {i : Nat} {v : UInt64} (hc : Cond.constantDouble own i v ∈ G) (hd : decode bytes pc = .ok (.ldc2_w i, 3)) : zSnd cl T G N O E own nm bytes nL pc (zS1 (zCst (.double v) (pc + 3))) := zsndC rfl fun p l e R s m args below meth c Q H locs cells slots ls rest F k => lv_ldc2d F.1 F.2.1 F.2.2.2.1 (F.2.2.2.2.1 _ hc) hd k
abbrev zII (g : Int32 → Int32 → Int32) (pc' : Nat) : List Value → Option (Nat × List Value) := fun st => match st with
  | .int y :: .int x :: r => some (pc', .int (g x y) :: r)
  | _ => none
theorem zsndII {g : Int32 → Int32 → Int32} {pc' : Nat} (hf : ∀ (p : Program) (l : Launch) (e : Env) (R : Room) (s : State) (m : MethodId) (args : Array Value) (below : List Frame) (meth : Method) (c : Code) (Q : State → Prop) (H : Heap) (locs : List Loc) (cells slots : Nat) (ls : Array Slot) (rest : List Value) (x y : Int32), zF cl T G N O E own nm bytes nL p s m args meth c → W p l e R s m args below meth c H locs cells slots Q (F0 m pc' ls (.int (g x y) :: rest)) → W p l e R s m args below meth c H locs cells slots Q (F0 m pc ls (.int y :: .int x :: rest))) : zSnd cl T G N O E own nm bytes nL pc (zS1 (zII g pc')) := zsnd1 fun st pc1 st1 h p l e R s m args below meth c Q H locs cells slots ls F k => by
  simp only [zII] at h
  split at h
  · cases h
    exact hf p l e R s m args below meth c Q H locs cells slots ls _ _ _ F k
  · cases h
abbrev zLL (g : Int64 → Int64 → Int64) (pc' : Nat) : List Value → Option (Nat × List Value) := fun st => match st with
  | .long y :: .long x :: r => some (pc', .long (g x y) :: r)
  | _ => none
theorem zsndLL {g : Int64 → Int64 → Int64} {pc' : Nat} (hf : ∀ (p : Program) (l : Launch) (e : Env) (R : Room) (s : State) (m : MethodId) (args : Array Value) (below : List Frame) (meth : Method) (c : Code) (Q : State → Prop) (H : Heap) (locs : List Loc) (cells slots : Nat) (ls : Array Slot) (rest : List Value) (x y : Int64), zF cl T G N O E own nm bytes nL p s m args meth c → W p l e R s m args below meth c H locs cells slots Q (F0 m pc' ls (.long (g x y) :: rest)) → W p l e R s m args below meth c H locs cells slots Q (F0 m pc ls (.long y :: .long x :: rest))) : zSnd cl T G N O E own nm bytes nL pc (zS1 (zLL g pc')) := zsnd1 fun st pc1 st1 h p l e R s m args below meth c Q H locs cells slots ls F k => by
  simp only [zLL] at h
  split at h
  · cases h
    exact hf p l e R s m args below meth c Q H locs cells slots ls _ _ _ F k
  · cases h
abbrev zLLi (g : Int64 → Int64 → Int32) (pc' : Nat) : List Value → Option (Nat × List Value) := fun st => match st with
  | .long y :: .long x :: r => some (pc', .int (g x y) :: r)
  | _ => none
theorem zsndLLi {g : Int64 → Int64 → Int32} {pc' : Nat} (hf : ∀ (p : Program) (l : Launch) (e : Env) (R : Room) (s : State) (m : MethodId) (args : Array Value) (below : List Frame) (meth : Method) (c : Code) (Q : State → Prop) (H : Heap) (locs : List Loc) (cells slots : Nat) (ls : Array Slot) (rest : List Value) (x y : Int64), zF cl T G N O E own nm bytes nL p s m args meth c → W p l e R s m args below meth c H locs cells slots Q (F0 m pc' ls (.int (g x y) :: rest)) → W p l e R s m args below meth c H locs cells slots Q (F0 m pc ls (.long y :: .long x :: rest))) : zSnd cl T G N O E own nm bytes nL pc (zS1 (zLLi g pc')) := zsnd1 fun st pc1 st1 h p l e R s m args below meth c Q H locs cells slots ls F k => by
  simp only [zLLi] at h
  split at h
  · cases h
    exact hf p l e R s m args below meth c Q H locs cells slots ls _ _ _ F k
  · cases h
abbrev zDDi (g : UInt64 → UInt64 → Int32) (pc' : Nat) : List Value → Option (Nat × List Value) := fun st => match st with
  | .double y :: .double x :: r => some (pc', .int (g x y) :: r)
  | _ => none
theorem zsndDDi {g : UInt64 → UInt64 → Int32} {pc' : Nat} (hf : ∀ (p : Program) (l : Launch) (e : Env) (R : Room) (s : State) (m : MethodId) (args : Array Value) (below : List Frame) (meth : Method) (c : Code) (Q : State → Prop) (H : Heap) (locs : List Loc) (cells slots : Nat) (ls : Array Slot) (rest : List Value) (x y : UInt64), zF cl T G N O E own nm bytes nL p s m args meth c → W p l e R s m args below meth c H locs cells slots Q (F0 m pc' ls (.int (g x y) :: rest)) → W p l e R s m args below meth c H locs cells slots Q (F0 m pc ls (.double y :: .double x :: rest))) : zSnd cl T G N O E own nm bytes nL pc (zS1 (zDDi g pc')) := zsnd1 fun st pc1 st1 h p l e R s m args below meth c Q H locs cells slots ls F k => by
  simp only [zDDi] at h
  split at h
  · cases h
    exact hf p l e R s m args below meth c Q H locs cells slots ls _ _ _ F k
  · cases h
theorem zs_iadd (hd : decode bytes pc = .ok (.iadd, 1)) : zSnd cl T G N O E own nm bytes nL pc (zS1 (zII (fun x y => x + y) (pc + 1))) := zsndII fun p l e R s m args below meth c Q H locs cells slots ls rest x y F k => lv_iadd F.1 F.2.1 hd k
theorem zs_isub (hd : decode bytes pc = .ok (.isub, 1)) : zSnd cl T G N O E own nm bytes nL pc (zS1 (zII (fun x y => x - y) (pc + 1))) := zsndII fun p l e R s m args below meth c Q H locs cells slots ls rest x y F k => lv_isub F.1 F.2.1 hd k
theorem zs_imul (hd : decode bytes pc = .ok (.imul, 1)) : zSnd cl T G N O E own nm bytes nL pc (zS1 (zII (fun x y => x * y) (pc + 1))) := zsndII fun p l e R s m args below meth c Q H locs cells slots ls rest x y F k => lv_imul F.1 F.2.1 hd k
theorem zs_iand (hd : decode bytes pc = .ok (.iand, 1)) : zSnd cl T G N O E own nm bytes nL pc (zS1 (zII (fun x y => x &&& y) (pc + 1))) := zsndII fun p l e R s m args below meth c Q H locs cells slots ls rest x y F k => lv_iand F.1 F.2.1 hd k
theorem zs_ior (hd : decode bytes pc = .ok (.ior, 1)) : zSnd cl T G N O E own nm bytes nL pc (zS1 (zII (fun x y => x ||| y) (pc + 1))) := zsndII fun p l e R s m args below meth c Q H locs cells slots ls rest x y F k => lv_ior F.1 F.2.1 hd k
theorem zs_ixor (hd : decode bytes pc = .ok (.ixor, 1)) : zSnd cl T G N O E own nm bytes nL pc (zS1 (zII (fun x y => x ^^^ y) (pc + 1))) := zsndII fun p l e R s m args below meth c Q H locs cells slots ls rest x y F k => lv_ixor F.1 F.2.1 hd k
theorem zs_ishl (hd : decode bytes pc = .ok (.ishl, 1)) : zSnd cl T G N O E own nm bytes nL pc (zS1 (zII (fun x y => x <<< (y &&& 31)) (pc + 1))) := zsndII fun p l e R s m args below meth c Q H locs cells slots ls rest x y F k => lv_ishl F.1 F.2.1 hd k
theorem zs_ishr (hd : decode bytes pc = .ok (.ishr, 1)) : zSnd cl T G N O E own nm bytes nL pc (zS1 (zII (fun x y => x >>> (y &&& 31)) (pc + 1))) := zsndII fun p l e R s m args below meth c Q H locs cells slots ls rest x y F k => lv_ishr F.1 F.2.1 hd k
theorem zs_iushr (hd : decode bytes pc = .ok (.iushr, 1)) : zSnd cl T G N O E own nm bytes nL pc (zS1 (zII (fun x y => (x.toUInt32 >>> (y.toUInt32 &&& Int32.toUInt32 31)).toInt32) (pc + 1))) := zsndII fun p l e R s m args below meth c Q H locs cells slots ls rest x y F k => lv_iushr F.1 F.2.1 hd rfl k
theorem zs_ladd (hd : decode bytes pc = .ok (.ladd, 1)) : zSnd cl T G N O E own nm bytes nL pc (zS1 (zLL (fun x y => x + y) (pc + 1))) := zsndLL fun p l e R s m args below meth c Q H locs cells slots ls rest x y F k => lv_ladd F.1 F.2.1 hd k
theorem zs_lsub (hd : decode bytes pc = .ok (.lsub, 1)) : zSnd cl T G N O E own nm bytes nL pc (zS1 (zLL (fun x y => x - y) (pc + 1))) := zsndLL fun p l e R s m args below meth c Q H locs cells slots ls rest x y F k => lv_lsub F.1 F.2.1 hd k
theorem zs_lmul (hd : decode bytes pc = .ok (.lmul, 1)) : zSnd cl T G N O E own nm bytes nL pc (zS1 (zLL (fun x y => x * y) (pc + 1))) := zsndLL fun p l e R s m args below meth c Q H locs cells slots ls rest x y F k => lv_lmul F.1 F.2.1 hd k
theorem zs_lcmp (hd : decode bytes pc = .ok (.lcmp, 1)) : zSnd cl T G N O E own nm bytes nL pc (zS1 (zLLi (fun x y => lg_cmp x y) (pc + 1))) := zsndLLi fun p l e R s m args below meth c Q H locs cells slots ls rest x y F k => W.lcmp F.1 F.2.1 hd k
theorem zs_dcmp {op : CmpOp} (hd : decode bytes pc = .ok (.dcmp op, 1)) : zSnd cl T G N O E own nm bytes nL pc (zS1 (zDDi (fun x y => Op.cmpValue (FP.dcmp x y) op) (pc + 1))) := zsndDDi fun p l e R s m args below meth c Q H locs cells slots ls rest x y F k => lv_dcmp F.1 F.2.1 hd k
abbrev zIIg (g : Int32 → Int32 → Int32) (pc' : Nat) : List Value → Option (Nat × List Value) := fun st => match st with
  | .int y :: .int x :: r => if ¬ y = 0 then some (pc', .int (g x y) :: r) else none
  | _ => none
theorem zsndIIg {g : Int32 → Int32 → Int32} {pc' : Nat} (hf : ∀ (p : Program) (l : Launch) (e : Env) (R : Room) (s : State) (m : MethodId) (args : Array Value) (below : List Frame) (meth : Method) (c : Code) (Q : State → Prop) (H : Heap) (locs : List Loc) (cells slots : Nat) (ls : Array Slot) (rest : List Value) (x y : Int32), zF cl T G N O E own nm bytes nL p s m args meth c → (¬ y = 0) → W p l e R s m args below meth c H locs cells slots Q (F0 m pc' ls (.int (g x y) :: rest)) → W p l e R s m args below meth c H locs cells slots Q (F0 m pc ls (.int y :: .int x :: rest))) : zSnd cl T G N O E own nm bytes nL pc (zS1 (zIIg g pc')) := zsnd1 fun st pc1 st1 h p l e R s m args below meth c Q H locs cells slots ls F k => by
  simp only [zIIg] at h
  split at h
  · split at h
    · rename_i hg
      cases h
      exact hf p l e R s m args below meth c Q H locs cells slots ls _ _ _ F hg k
    · cases h
  · cases h
abbrev zDDg (g : UInt64 → UInt64 → UInt64) (pc' : Nat) : List Value → Option (Nat × List Value) := fun st => match st with
  | .double y :: .double x :: r => if (g x y) &&& 0x7fffffffffffffff ≤ 0x7ff0000000000000 then some (pc', .double (g x y) :: r) else none
  | _ => none
theorem zsndDDg {g : UInt64 → UInt64 → UInt64} {pc' : Nat} (hf : ∀ (p : Program) (l : Launch) (e : Env) (R : Room) (s : State) (m : MethodId) (args : Array Value) (below : List Frame) (meth : Method) (c : Code) (Q : State → Prop) (H : Heap) (locs : List Loc) (cells slots : Nat) (ls : Array Slot) (rest : List Value) (x y : UInt64), zF cl T G N O E own nm bytes nL p s m args meth c → ((g x y) &&& 0x7fffffffffffffff ≤ 0x7ff0000000000000) → W p l e R s m args below meth c H locs cells slots Q (F0 m pc' ls (.double (g x y) :: rest)) → W p l e R s m args below meth c H locs cells slots Q (F0 m pc ls (.double y :: .double x :: rest))) : zSnd cl T G N O E own nm bytes nL pc (zS1 (zDDg g pc')) := zsnd1 fun st pc1 st1 h p l e R s m args below meth c Q H locs cells slots ls F k => by
  simp only [zDDg] at h
  split at h
  · split at h
    · rename_i hg
      cases h
      exact hf p l e R s m args below meth c Q H locs cells slots ls _ _ _ F hg k
    · cases h
  · cases h
theorem zs_idiv (hd : decode bytes pc = .ok (.idiv, 1)) : zSnd cl T G N O E own nm bytes nL pc (zS1 (zIIg (fun x y => x / y) (pc + 1))) := zsndIIg fun p l e R s m args below meth c Q H locs cells slots ls rest x y F hg k => lv_idiv F.1 F.2.1 hd hg k
theorem zs_irem (hd : decode bytes pc = .ok (.irem, 1)) : zSnd cl T G N O E own nm bytes nL pc (zS1 (zIIg (fun x y => x - x / y * y) (pc + 1))) := zsndIIg fun p l e R s m args below meth c Q H locs cells slots ls rest x y F hg k => lv_irem F.1 F.2.1 hd hg k
theorem zs_dadd (hd : decode bytes pc = .ok (.dadd, 1)) : zSnd cl T G N O E own nm bytes nL pc (zS1 (zDDg (fun x y => FP.dadd x y) (pc + 1))) := zsndDDg fun p l e R s m args below meth c Q H locs cells slots ls rest x y F hg k => lv_dadd F.1 F.2.1 hd hg k
theorem zs_dsub (hd : decode bytes pc = .ok (.dsub, 1)) : zSnd cl T G N O E own nm bytes nL pc (zS1 (zDDg (fun x y => FP.dsub x y) (pc + 1))) := zsndDDg fun p l e R s m args below meth c Q H locs cells slots ls rest x y F hg k => lv_dsub F.1 F.2.1 hd hg k
theorem zs_dmul (hd : decode bytes pc = .ok (.dmul, 1)) : zSnd cl T G N O E own nm bytes nL pc (zS1 (zDDg (fun x y => FP.dmul x y) (pc + 1))) := zsndDDg fun p l e R s m args below meth c Q H locs cells slots ls rest x y F hg k => lv_dmul F.1 F.2.1 hd hg k
theorem zs_ddiv (hd : decode bytes pc = .ok (.ddiv, 1)) : zSnd cl T G N O E own nm bytes nL pc (zS1 (zDDg (fun x y => FP.ddiv x y) (pc + 1))) := zsndDDg fun p l e R s m args below meth c Q H locs cells slots ls rest x y F hg k => lv_ddiv F.1 F.2.1 hd hg k
abbrev zIL (g : Int32 → Int64) (pc' : Nat) : List Value → Option (Nat × List Value) := fun st => match st with
  | .int x :: r => some (pc', .long (g x) :: r)
  | _ => none
theorem zsndIL {g : Int32 → Int64} {pc' : Nat} (hf : ∀ (p : Program) (l : Launch) (e : Env) (R : Room) (s : State) (m : MethodId) (args : Array Value) (below : List Frame) (meth : Method) (c : Code) (Q : State → Prop) (H : Heap) (locs : List Loc) (cells slots : Nat) (ls : Array Slot) (rest : List Value) (x : Int32), zF cl T G N O E own nm bytes nL p s m args meth c → W p l e R s m args below meth c H locs cells slots Q (F0 m pc' ls (.long (g x) :: rest)) → W p l e R s m args below meth c H locs cells slots Q (F0 m pc ls (.int x :: rest))) : zSnd cl T G N O E own nm bytes nL pc (zS1 (zIL g pc')) := zsnd1 fun st pc1 st1 h p l e R s m args below meth c Q H locs cells slots ls F k => by
  simp only [zIL] at h
  split at h
  · cases h
    exact hf p l e R s m args below meth c Q H locs cells slots ls _ _ F k
  · cases h
abbrev zID (g : Int32 → UInt64) (pc' : Nat) : List Value → Option (Nat × List Value) := fun st => match st with
  | .int x :: r => some (pc', .double (g x) :: r)
  | _ => none
theorem zsndID {g : Int32 → UInt64} {pc' : Nat} (hf : ∀ (p : Program) (l : Launch) (e : Env) (R : Room) (s : State) (m : MethodId) (args : Array Value) (below : List Frame) (meth : Method) (c : Code) (Q : State → Prop) (H : Heap) (locs : List Loc) (cells slots : Nat) (ls : Array Slot) (rest : List Value) (x : Int32), zF cl T G N O E own nm bytes nL p s m args meth c → W p l e R s m args below meth c H locs cells slots Q (F0 m pc' ls (.double (g x) :: rest)) → W p l e R s m args below meth c H locs cells slots Q (F0 m pc ls (.int x :: rest))) : zSnd cl T G N O E own nm bytes nL pc (zS1 (zID g pc')) := zsnd1 fun st pc1 st1 h p l e R s m args below meth c Q H locs cells slots ls F k => by
  simp only [zID] at h
  split at h
  · cases h
    exact hf p l e R s m args below meth c Q H locs cells slots ls _ _ F k
  · cases h
theorem zs_i2l (hd : decode bytes pc = .ok (.i2l, 1)) : zSnd cl T G N O E own nm bytes nL pc (zS1 (zIL (fun x => x.toInt64) (pc + 1))) := zsndIL fun p l e R s m args below meth c Q H locs cells slots ls rest x F k => lv_i2l F.1 F.2.1 hd rfl k
theorem zs_i2d (hd : decode bytes pc = .ok (.i2d, 1)) : zSnd cl T G N O E own nm bytes nL pc (zS1 (zID (fun x => FP.i2d x) (pc + 1))) := zsndID fun p l e R s m args below meth c Q H locs cells slots ls rest x F k => lv_i2d F.1 F.2.1 hd k
abbrev zDup (pc' : Nat) : List Value → Option (Nat × List Value) := fun st => match st with
  | v :: r => if v.category = 1 then some (pc', v :: v :: r) else none
  | [] => none
theorem zs_dup (hd : decode bytes pc = .ok (.dup, 1)) : zSnd cl T G N O E own nm bytes nL pc (zS1 (zDup (pc + 1))) := zsnd1 fun st pc1 st1 h p l e R s m args below meth c Q H locs cells slots ls F k => by
  simp only [zDup] at h
  split at h
  · split at h
    · rename_i hc
      cases h
      exact lv_dup F.1 F.2.1 hd (by rw [zV_cat]; exact hc) k
    · cases h
  · cases h
abbrev zPop (pc' : Nat) : List Value → Option (Nat × List Value) := fun st => match st with
  | v :: r => if v.category = 1 then some (pc', r) else none
  | [] => none
theorem zs_pop (hd : decode bytes pc = .ok (.pop, 1)) : zSnd cl T G N O E own nm bytes nL pc (zS1 (zPop (pc + 1))) := zsnd1 fun st pc1 st1 h p l e R s m args below meth c Q H locs cells slots ls F k => by
  simp only [zPop] at h
  split at h
  · split at h
    · rename_i hc
      cases h
      exact lv_pop F.1 F.2.1 hd (by rw [zV_cat]; exact hc) k
    · cases h
  · cases h
abbrev zDup2 (pc' : Nat) : List Value → Option (Nat × List Value) := fun st => match st with
  | a :: b :: r => if a.category = 1 ∧ b.category = 1 then some (pc', a :: b :: a :: b :: r) else none
  | _ => none
theorem zs_dup2 (hd : decode bytes pc = .ok (.dup2, 1)) : zSnd cl T G N O E own nm bytes nL pc (zS1 (zDup2 (pc + 1))) := zsnd1 fun st pc1 st1 h p l e R s m args below meth c Q H locs cells slots ls F k => by
  simp only [zDup2] at h
  split at h
  · split at h
    · rename_i hc
      cases h
      exact lv_dup2_11 F.1 F.2.1 hd (by rw [zV_cat]; exact hc.1) (by rw [zV_cat]; exact hc.2) k
    · cases h
  · cases h
abbrev zIf (g : Int32 → Bool) (t pc' : Nat) : List Value → Option (Nat × List Value) := fun st => match st with
  | .int x :: r => some (if g x = true then t else pc', r)
  | _ => none
abbrev zIcmp (g : Int32 → Int32 → Bool) (t pc' : Nat) : List Value → Option (Nat × List Value) := fun st => match st with
  | .int y :: .int x :: r => some (if g x y = true then t else pc', r)
  | _ => none
theorem zs_if_eq {off : Int} {t : Nat} (ht : (pc : Int) + off = (t : Int)) (hd : decode bytes pc = .ok (.ifCond .eq off, 3)) : zSnd cl T G N O E own nm bytes nL pc (zS1 (zIf (fun x => decide (x = 0)) t (pc + 3))) := zsnd1 fun st pc1 st1 h p l e R s m args below meth c Q H locs cells slots ls F k => by
  simp only [zIf] at h
  split at h
  · cases h
    refine lv_if_eq F.1 F.2.1 hd ht (fun q => ?_) (fun q => ?_)
    · rw [if_pos (by first | exact decide_eq_true q | (simp only [decide_eq_true_eq]; exact q))] at k; exact k
    · rw [if_neg (by simp only [decide_eq_true_eq]; first | exact q | exact not_not_intro q)] at k; exact k
  · cases h
theorem zs_icmp_eq {off : Int} {t : Nat} (ht : (pc : Int) + off = (t : Int)) (hd : decode bytes pc = .ok (.if_icmp .eq off, 3)) : zSnd cl T G N O E own nm bytes nL pc (zS1 (zIcmp (fun x y => decide (x = y)) t (pc + 3))) := zsnd1 fun st pc1 st1 h p l e R s m args below meth c Q H locs cells slots ls F k => by
  simp only [zIcmp] at h
  split at h
  · cases h
    refine lv_icmp_eq F.1 F.2.1 hd ht (fun q => ?_) (fun q => ?_)
    · rw [if_pos (by first | exact decide_eq_true q | (simp only [decide_eq_true_eq]; exact q))] at k; exact k
    · rw [if_neg (by simp only [decide_eq_true_eq]; first | exact q | exact not_not_intro q)] at k; exact k
  · cases h
theorem zs_if_ne {off : Int} {t : Nat} (ht : (pc : Int) + off = (t : Int)) (hd : decode bytes pc = .ok (.ifCond .ne off, 3)) : zSnd cl T G N O E own nm bytes nL pc (zS1 (zIf (fun x => decide (¬ x = 0)) t (pc + 3))) := zsnd1 fun st pc1 st1 h p l e R s m args below meth c Q H locs cells slots ls F k => by
  simp only [zIf] at h
  split at h
  · cases h
    refine lv_if_ne F.1 F.2.1 hd ht (fun q => ?_) (fun q => ?_)
    · rw [if_pos (by first | exact decide_eq_true q | (simp only [decide_eq_true_eq]; exact q))] at k; exact k
    · rw [if_neg (by simp only [decide_eq_true_eq]; first | exact q | exact not_not_intro q)] at k; exact k
  · cases h
theorem zs_icmp_ne {off : Int} {t : Nat} (ht : (pc : Int) + off = (t : Int)) (hd : decode bytes pc = .ok (.if_icmp .ne off, 3)) : zSnd cl T G N O E own nm bytes nL pc (zS1 (zIcmp (fun x y => decide (¬ x = y)) t (pc + 3))) := zsnd1 fun st pc1 st1 h p l e R s m args below meth c Q H locs cells slots ls F k => by
  simp only [zIcmp] at h
  split at h
  · cases h
    refine lv_icmp_ne F.1 F.2.1 hd ht (fun q => ?_) (fun q => ?_)
    · rw [if_pos (by first | exact decide_eq_true q | (simp only [decide_eq_true_eq]; exact q))] at k; exact k
    · rw [if_neg (by simp only [decide_eq_true_eq]; first | exact q | exact not_not_intro q)] at k; exact k
  · cases h
theorem zs_if_lt {off : Int} {t : Nat} (ht : (pc : Int) + off = (t : Int)) (hd : decode bytes pc = .ok (.ifCond .lt off, 3)) : zSnd cl T G N O E own nm bytes nL pc (zS1 (zIf (fun x => decide (x < 0)) t (pc + 3))) := zsnd1 fun st pc1 st1 h p l e R s m args below meth c Q H locs cells slots ls F k => by
  simp only [zIf] at h
  split at h
  · cases h
    refine lv_if_lt F.1 F.2.1 hd ht (fun q => ?_) (fun q => ?_)
    · rw [if_pos (by first | exact decide_eq_true q | (simp only [decide_eq_true_eq]; exact q))] at k; exact k
    · rw [if_neg (by simp only [decide_eq_true_eq]; first | exact q | exact not_not_intro q)] at k; exact k
  · cases h
theorem zs_icmp_lt {off : Int} {t : Nat} (ht : (pc : Int) + off = (t : Int)) (hd : decode bytes pc = .ok (.if_icmp .lt off, 3)) : zSnd cl T G N O E own nm bytes nL pc (zS1 (zIcmp (fun x y => decide (x < y)) t (pc + 3))) := zsnd1 fun st pc1 st1 h p l e R s m args below meth c Q H locs cells slots ls F k => by
  simp only [zIcmp] at h
  split at h
  · cases h
    refine lv_icmp_lt F.1 F.2.1 hd ht (fun q => ?_) (fun q => ?_)
    · rw [if_pos (by first | exact decide_eq_true q | (simp only [decide_eq_true_eq]; exact q))] at k; exact k
    · rw [if_neg (by simp only [decide_eq_true_eq]; first | exact q | exact not_not_intro q)] at k; exact k
  · cases h
theorem zs_if_ge {off : Int} {t : Nat} (ht : (pc : Int) + off = (t : Int)) (hd : decode bytes pc = .ok (.ifCond .ge off, 3)) : zSnd cl T G N O E own nm bytes nL pc (zS1 (zIf (fun x => decide (0 ≤ x)) t (pc + 3))) := zsnd1 fun st pc1 st1 h p l e R s m args below meth c Q H locs cells slots ls F k => by
  simp only [zIf] at h
  split at h
  · cases h
    refine lv_if_ge F.1 F.2.1 hd ht (fun q => ?_) (fun q => ?_)
    · rw [if_pos (by first | exact decide_eq_true q | (simp only [decide_eq_true_eq]; exact q))] at k; exact k
    · rw [if_neg (by simp only [decide_eq_true_eq]; first | exact q | exact not_not_intro q)] at k; exact k
  · cases h
theorem zs_icmp_ge {off : Int} {t : Nat} (ht : (pc : Int) + off = (t : Int)) (hd : decode bytes pc = .ok (.if_icmp .ge off, 3)) : zSnd cl T G N O E own nm bytes nL pc (zS1 (zIcmp (fun x y => decide (y ≤ x)) t (pc + 3))) := zsnd1 fun st pc1 st1 h p l e R s m args below meth c Q H locs cells slots ls F k => by
  simp only [zIcmp] at h
  split at h
  · cases h
    refine lv_icmp_ge F.1 F.2.1 hd ht (fun q => ?_) (fun q => ?_)
    · rw [if_pos (by first | exact decide_eq_true q | (simp only [decide_eq_true_eq]; exact q))] at k; exact k
    · rw [if_neg (by simp only [decide_eq_true_eq]; first | exact q | exact not_not_intro q)] at k; exact k
  · cases h
theorem zs_if_gt {off : Int} {t : Nat} (ht : (pc : Int) + off = (t : Int)) (hd : decode bytes pc = .ok (.ifCond .gt off, 3)) : zSnd cl T G N O E own nm bytes nL pc (zS1 (zIf (fun x => decide (0 < x)) t (pc + 3))) := zsnd1 fun st pc1 st1 h p l e R s m args below meth c Q H locs cells slots ls F k => by
  simp only [zIf] at h
  split at h
  · cases h
    refine lv_if_gt F.1 F.2.1 hd ht (fun q => ?_) (fun q => ?_)
    · rw [if_pos (by first | exact decide_eq_true q | (simp only [decide_eq_true_eq]; exact q))] at k; exact k
    · rw [if_neg (by simp only [decide_eq_true_eq]; first | exact q | exact not_not_intro q)] at k; exact k
  · cases h
theorem zs_icmp_gt {off : Int} {t : Nat} (ht : (pc : Int) + off = (t : Int)) (hd : decode bytes pc = .ok (.if_icmp .gt off, 3)) : zSnd cl T G N O E own nm bytes nL pc (zS1 (zIcmp (fun x y => decide (y < x)) t (pc + 3))) := zsnd1 fun st pc1 st1 h p l e R s m args below meth c Q H locs cells slots ls F k => by
  simp only [zIcmp] at h
  split at h
  · cases h
    refine lv_icmp_gt F.1 F.2.1 hd ht (fun q => ?_) (fun q => ?_)
    · rw [if_pos (by first | exact decide_eq_true q | (simp only [decide_eq_true_eq]; exact q))] at k; exact k
    · rw [if_neg (by simp only [decide_eq_true_eq]; first | exact q | exact not_not_intro q)] at k; exact k
  · cases h
theorem zs_if_le {off : Int} {t : Nat} (ht : (pc : Int) + off = (t : Int)) (hd : decode bytes pc = .ok (.ifCond .le off, 3)) : zSnd cl T G N O E own nm bytes nL pc (zS1 (zIf (fun x => decide (x ≤ 0)) t (pc + 3))) := zsnd1 fun st pc1 st1 h p l e R s m args below meth c Q H locs cells slots ls F k => by
  simp only [zIf] at h
  split at h
  · cases h
    refine lv_if_le F.1 F.2.1 hd ht (fun q => ?_) (fun q => ?_)
    · rw [if_pos (by first | exact decide_eq_true q | (simp only [decide_eq_true_eq]; exact q))] at k; exact k
    · rw [if_neg (by simp only [decide_eq_true_eq]; first | exact q | exact not_not_intro q)] at k; exact k
  · cases h
theorem zs_icmp_le {off : Int} {t : Nat} (ht : (pc : Int) + off = (t : Int)) (hd : decode bytes pc = .ok (.if_icmp .le off, 3)) : zSnd cl T G N O E own nm bytes nL pc (zS1 (zIcmp (fun x y => decide (x ≤ y)) t (pc + 3))) := zsnd1 fun st pc1 st1 h p l e R s m args below meth c Q H locs cells slots ls F k => by
  simp only [zIcmp] at h
  split at h
  · cases h
    refine lv_icmp_le F.1 F.2.1 hd ht (fun q => ?_) (fun q => ?_)
    · rw [if_pos (by first | exact decide_eq_true q | (simp only [decide_eq_true_eq]; exact q))] at k; exact k
    · rw [if_neg (by simp only [decide_eq_true_eq]; first | exact q | exact not_not_intro q)] at k; exact k
  · cases h
abbrev zGo (t : Nat) : List Value → Option (Nat × List Value) := fun st => some (t, st)
theorem zs_goto {off : Int} {t : Nat} (ht : (pc : Int) + off = (t : Int)) (hd : decode bytes pc = .ok (.goto off, 3)) : zSnd cl T G N O E own nm bytes nL pc (zS1 (zGo t)) := zsnd1 fun st pc1 st1 h p l e R s m args below meth c Q H locs cells slots ls F k => by
  cases h
  exact lv_goto F.1 F.2.1 hd ht k
abbrev zTab (lo hi : Int) (tl : List Nat) (t : Nat) : List Value → Option (Nat × List Value) := fun st => match st with
  | .int x :: r => if x.toInt < lo ∨ hi < x.toInt then some (t, r) else match tl[(x.toInt - lo).toNat]? with
    | some t' => some (t', r)
    | none => none
  | _ => none
theorem zs_tab {dflt lo hi : Int} {offs : Array Int} {len t : Nat} {tl : List Nat} (ht : (pc : Int) + dflt = (t : Int)) (ho : tl.map (fun (t : Nat) => Int.ofNat t - (pc : Int)) = offs.toList) (hd : decode bytes pc = .ok (.tableswitch dflt lo hi offs, len)) : zSnd cl T G N O E own nm bytes nL pc (zS1 (zTab lo hi tl t)) := zsnd1 fun st pc1 st1 h p l e R s m args below meth c Q H locs cells slots ls F k => by
  simp only [zTab] at h
  split at h
  · split at h
    · rename_i hq
      cases h
      exact lv_tableOut F.1 F.2.1 hd hq ht k
    · rename_i hq
      split at h
      · rename_i t' hk
        cases h
        refine lv_tableIn (off := (pc1 : Int) - (pc : Int)) F.1 F.2.1 hd (fun z => hq (Or.inl z)) (fun z => hq (Or.inr z)) ?_ (by omega) k
        rw [← Array.getElem?_toList, ← ho, List.getElem?_map, hk]
        rfl
      · cases h
  · cases h
end ZSTK
end
section
/-! SOUND STEPS on the heap: fields, arrays, what is made -/
section ZHEAP
variable {cl : List vw_C} {T : List FieldType} {G N : List Cond} {O : Nat → State → Heap → Prop} {E : zE} {own nm : String} {bytes : ByteArray} {nL pc : Nat}
/-- a step that reads the heap -/
abbrev zS2 (f : List Value → zH → Option (Nat × List Value)) : zOp := fun L st h => match f st h with
  | some (pc', st') => some (pc', L, st', h)
  | none => none
theorem zsnd2 {f : List Value → zH → Option (Nat × List Value)} (hf : ∀ (st : List Value) (h : zH) (pc' : Nat) (st' : List Value), f st h = some (pc', st') → ∀ (p : Program) (l : Launch) (e : Env) (R : Room) (s : State) (m : MethodId) (args : Array Value) (below : List Frame) (meth : Method) (c : Code) (Q : State → Prop) (H : Heap) (locs : List Loc) (cells slots : Nat) (ls : Array Slot), zF cl T G N O E own nm bytes nL p s m args meth c → 1 ≤ R.frames → 40 ≤ R.locals → ls.size = nL →
      zW cl E h H → va_S (zA E) s.heap H locs → W p l e R s m args below meth c H locs cells slots Q (F0 m pc' ls (st'.map (zV E))) → W p l e R s m args below meth c H locs cells slots Q (F0 m pc ls (st.map (zV E)))) : zSnd cl T G N O E own nm bytes nL pc (zS2 f) := by
  intro L st h pc' L' st' h' hop
  simp only [zS2] at hop
  split at hop
  · rename_i a b heq
    cases hop
    refine ⟨⟨Nat.le_refl _, Nat.le_refl _⟩, ?_⟩
    intro p l e R s m args below meth c Q F hr1 hr2 n0 S0 H locs ls hl hW hS _ _ _ _ k
    exact hf _ _ _ _ heq p l e R s m args below meth c Q H locs _ _ ls F hr1 hr2 hl.1 hW hS (k H locs ls hl hW hS)
  · cases hop
/-- a field is read -/
abbrev zGet (ci j pc' : Nat) : List Value → zH → Option (Nat × List Value) := fun st h => match st with
  | .ref k :: r => if k < h.2.1 then match h.1 k with
    | .inr (c, fs) => if c = ci then match fs[j]? with
      | some v => some (pc', v :: r)
      | none => none
      else none
    | .inl _ => none
    else none
  | _ => none
theorem zGet_some {ci j pc' : Nat} {st : List Value} {h : zH} {pc1 : Nat} {st1 : List Value} (hg : zGet ci j pc' st h = some (pc1, st1)) : ∃ (k : Nat) (r : List Value) (fs : List Value) (v : Value), st = .ref k :: r ∧ k < h.2.1 ∧ h.1 k = .inr (ci, fs) ∧ fs[j]? = some v ∧ pc1 = pc' ∧ st1 = v :: r := by
  unfold zGet at hg
  split at hg
  · split at hg
    · rename_i hk
      split at hg
      · rename_i c fs hh
        split at hg
        · rename_i hc
          split at hg
          · rename_i v hv
            cases hg
            subst hc
            exact ⟨_, _, fs, v, rfl, hk, hh, hv, rfl, rfl⟩
          · cases hg
        · cases hg
      · cases hg
    · cases hg
  · cases hg
theorem zs_get {ci j i : Nat} {C : String} {Tc : u_T} {Nc : Nat} (hc : cl[ci]? = some (C, Tc, Nc)) (hin : ∀ w ∈ u_ws C Tc Nc, w ∈ G) (hj : j < Nc) (hlink : Cond.fieldLink own i (Tc j).1 (Tc j).2.1 (Tc j).2.2.1 ∈ G) (hd : decode bytes pc = .ok (.getfield i, 3)) : zSnd cl T G N O E own nm bytes nL pc (zS2 (zGet ci j (pc + 3))) :=
  zsnd2 fun st h pc1 st1 hg p l e R s m args below meth c Q H locs cells slots ls F _ _ _ hW hS k => by
    obtain ⟨a, r, fs, v, rfl, hk, hh, hv, rfl, rfl⟩ := zGet_some hg
    have hP := zP1 hW hk
    rw [hh] at hP
    exact va_get F.1 F.2.1 F.2.2.2.2.1 hin F.2.2.2.1 F.2.2.2.2.2.2.1.none hP 0 rfl hc j hj (F.2.2.2.2.1 _ hlink) (fun _ h => h) (by rw [List.getElem?_map, hv]; rfl) hd k
theorem zs_getN {ci j i : Nat} {C host : String} {Tc : u_T} {Nc : Nat} (hc : cl[ci]? = some (C, Tc, Nc)) (hin : ∀ w ∈ u_ws C Tc Nc, w ∈ G) (hj : j < Nc) (hlink : Cond.fieldLinkNest own i (Tc j).1 (Tc j).2.1 (Tc j).2.2.1 host ∈ N) (hd : decode bytes pc = .ok (.getfield i, 3)) : zSnd cl T G N O E own nm bytes nL pc (zS2 (zGet ci j (pc + 3))) :=
  zsnd2 fun st h pc1 st1 hg p l e R s m args below meth c Q H locs cells slots ls F _ _ _ hW hS k => by
    obtain ⟨a, r, fs, v, rfl, hk, hh, hv, rfl, rfl⟩ := zGet_some hg
    have hP := zP1 hW hk
    rw [hh] at hP
    exact va_getN F.1 F.2.1 F.2.2.2.2.1 hin F.2.2.2.1 F.2.2.2.2.2.2.1.none hP 0 rfl hc j hj (va_Nw.use rfl (F.2.2.2.2.2.1 _ hlink)) (fun _ h => h) (by rw [List.getElem?_map, hv]; rfl) hd k
/-- a field is written -/
abbrev zPut (f : Value → Bool) (ci j pc' : Nat) : zOp := fun L st h => match st with
  | v :: .ref k :: r => if f v = true ∧ k < h.2.1 then match h.1 k with
    | .inr (c, fs) => if c = ci ∧ j < fs.length then some (pc', L, r, (zup h.1 k (.inr (ci, fs.set j v)), h.2)) else none
    | .inl _ => none
    else none
  | _ => none
theorem zPut_some {f : Value → Bool} {ci j pc' : Nat} {L : zLoc} {st : List Value} {h : zH} {x : Nat × zLoc × List Value × zH} (hg : zPut f ci j pc' L st h = some x) : ∃ (v : Value) (k : Nat) (r : List Value) (fs : List Value), st = v :: .ref k :: r ∧ f v = true ∧ k < h.2.1 ∧ h.1 k = .inr (ci, fs) ∧ j < fs.length ∧ x = (pc', L, r, (zup h.1 k (.inr (ci, fs.set j v)), h.2)) := by
  unfold zPut at hg
  split at hg
  · split at hg
    · rename_i hk
      split at hg
      · rename_i c fs hh
        split at hg
        · rename_i hc
          cases hg
          obtain ⟨rfl, hl⟩ := hc
          exact ⟨_, _, _, fs, rfl, hk.1, hk.2, hh, hl, rfl⟩
        · cases hg
      · cases hg
    · cases hg
  · cases hg
/-- what a put owes to its field -/
theorem zput_at {p : Program} {l : Launch} {e : Env} {R : Room} {s : State} {m : MethodId} {args : Array Value} {meth : Method} {c : Code} {H : Heap} {ci j k : Nat} {C : String} {Tc : u_T} {Nc : Nat} {fs : List Value} {h : zH} {ty0 : Nat → FieldType} (F : zF cl T G N O E own nm bytes nL p s m args meth c) (hc : cl[ci]? = some (C, Tc, Nc)) (hin : ∀ w ∈ u_ws C Tc Nc, w ∈ G) (hj : j < Nc)
    (hty : ∀ k, k < Nc → parseFieldDescriptor (Tc k).2.2.1 = some (ty0 k)) (hnm : ∀ a, a < Nc → ∀ b, b < Nc → a ≠ b → (Tc a).2.1 ≠ (Tc b).2.1) (hW : zW cl E h H) (hk : k < h.2.1) (hh : h.1 k = .inr (ci, fs)) (hl : j < fs.length) {ty : FieldType} (hd : parseFieldDescriptor (Tc j).2.2.1 = some ty) {v : Value} (hn : narrow ty (zV E v) = zV E v) (hfit : fits ty (zV E v) = true) :
    ∃ (cf : Nat) (kf : Class) (fi : Nat) (f : Field) (cell : Cell) (kC : Class), s.fieldFound? (Tc j).1 (Tc j).2.1 (Tc j).2.2.1 = some (cf, kf, fi, f) ∧ f.isStatic = false ∧ H[zb E + k]? = some cell ∧ cell.vm = .none ∧ cell.cls = (zD E).1 ci ∧ s.vm.findClass C = some ((zD E).1 ci) ∧ s.vm.classes[(zD E).1 ci]? = some kC ∧ kC.kind = .ordinary ∧ f.slot < cell.slots.size ∧
      ∀ H1 : Heap, H1[zb E + k]? = some (cell.setSlot f.slot (zV E v)) → H1.size = H.size → (∀ q : Nat, q ≠ zb E + k → H1[q]? = H[q]?) → zW cl E (zup h.1 k (.inr (ci, fs.set j v)), h.2) H1 := by
  have hK := F.2.2.2.2.2.2.1.none
  have hap := va_apart (own := own) F.2.2.2.2.1 hin ty0 hty hnm hK hc
  have hP := hW.1 k hk
  rw [hh] at hP
  obtain ⟨r, h1, cell, q1, q2, q3, q4⟩ := hP
  have hr : r = (C, Tc, Nc) := Option.some.inj (h1.symm.trans hc)
  subst hr
  obtain ⟨hS, hfc, kC, hkC, hkind⟩ := hK.1 ci _ hc
  obtain ⟨cf, kf, fi, f, hi, hsl⟩ := hS j hj
  have hst := (u_facts hfc hkC (u_lays F.2.2.2.2.1 hin hj) hi).1
  refine ⟨cf, kf, fi, f, cell, kC, hi, hst, q1, q3, q2, hfc, hkC, hkind, by rw [hsl]; exact k2_hasslot (q4 j hj), fun H1 e1 e2 e3 => ?_⟩
  rw [hsl] at e1
  refine hW.put ?_ e2 e3
  refine ⟨_, hc, ?_⟩
  have hz : zEn E (.inr (ci, fs.set j v)) = .inr (ci, (fs.map (zV E)).set j (zV E v)) := by
    show Sum.inr (ci, (fs.set j v).map (zV E)) = _
    rw [List.map_set]
  show t_OB (zb E + k) ((zD E).1 ci) Nc ((zD E).2 ci) H1 (vp_V ((fs.set j v).map (zV E)))
  rw [List.map_set]
  exact t_OB.to (V := updV (vp_V (fs.map (zV E))) j (zV E v)) ⟨_, e1, q2, q3, t_set q4 hap hj (zV E v)⟩ (fun i _ => vp_updV_set (by rw [List.length_map]; exact hl) (zV E v) i)
theorem zs_put {f : Value → Bool} {ci j i : Nat} {C : String} {Tc : u_T} {Nc : Nat} {ty0 : Nat → FieldType} {ty : FieldType} (hc : cl[ci]? = some (C, Tc, Nc)) (hin : ∀ w ∈ u_ws C Tc Nc, w ∈ G) (hj : j < Nc) (hty : ∀ k, k < Nc → parseFieldDescriptor (Tc k).2.2.1 = some (ty0 k)) (hnm : ∀ a, a < Nc → ∀ b, b < Nc → a ≠ b → (Tc a).2.1 ≠ (Tc b).2.1)
    (hlink : Cond.fieldLink own i (Tc j).1 (Tc j).2.1 (Tc j).2.2.1 ∈ G) (hfin : (Tc j).2.2.2 = false) (hpd : parseFieldDescriptor (Tc j).2.2.1 = some ty) (hf : ∀ v, f v = true → narrow ty (zV E v) = zV E v ∧ fits ty (zV E v) = true) (hd : decode bytes pc = .ok (.putfield i, 3)) : zSnd cl T G N O E own nm bytes nL pc (zPut f ci j (pc + 3)) := by
  intro L st h pc' L' st' h' hop
  obtain ⟨v, k, r, fs, rfl, hfv, hk, hh, hl, hx⟩ := zPut_some hop
  cases hx
  refine ⟨⟨Nat.le_refl _, Nat.le_refl _⟩, ?_⟩
  intro p l e R s m args below meth c Q F _ _ n0 S0 H locs ls hll hW hS _ _ _ _ kk
  obtain ⟨hn, hfit⟩ := hf v hfv
  obtain ⟨cf, kf, fi, fd, cell, kC, hi, hst, q1, q3, q2, hfc, hkC, hkind, hslot, hput⟩ := zput_at (l := l) (e := e) (R := R) F hc hin hj hty hnm hW hk hh hl hpd hn hfit
  have hlay := F.2.2.2.2.1 _ (hin _ (u_in_lay hj))
  unfold u_lay at hlay
  rw [if_neg (by rw [hfin]; decide)] at hlay
  have h6 := u_store hfc hkC hkind hlay hi hpd hn hfit
  refine W.putK F.1 F.2.1 (f := fd) ⟨F.2.2.2.1, F.2.2.2.2.1 _ hlink, ⟨_, _, _, hi⟩, hst⟩ (by rw [q2]; exact h6) q1 q3 hslot rfl rfl hd fun H' e1 e2 e3 => ?_
  exact kk H' _ ls hll (hput H' e1 e2 e3) (zS.put hS e2 e3)
theorem zs_putN {f : Value → Bool} {ci j i : Nat} {C host : String} {Tc : u_T} {Nc : Nat} {ty0 : Nat → FieldType} {ty : FieldType} (hc : cl[ci]? = some (C, Tc, Nc)) (hin : ∀ w ∈ u_ws C Tc Nc, w ∈ G) (hj : j < Nc) (hty : ∀ k, k < Nc → parseFieldDescriptor (Tc k).2.2.1 = some (ty0 k)) (hnm : ∀ a, a < Nc → ∀ b, b < Nc → a ≠ b → (Tc a).2.1 ≠ (Tc b).2.1)
    (hlink : Cond.fieldLinkNest own i (Tc j).1 (Tc j).2.1 (Tc j).2.2.1 host ∈ N) (hfin : (Tc j).2.2.2 = false) (hpd : parseFieldDescriptor (Tc j).2.2.1 = some ty) (hf : ∀ v, f v = true → narrow ty (zV E v) = zV E v ∧ fits ty (zV E v) = true) (hd : decode bytes pc = .ok (.putfield i, 3)) : zSnd cl T G N O E own nm bytes nL pc (zPut f ci j (pc + 3)) := by
  intro L st h pc' L' st' h' hop
  obtain ⟨v, k, r, fs, rfl, hfv, hk, hh, hl, hx⟩ := zPut_some hop
  cases hx
  refine ⟨⟨Nat.le_refl _, Nat.le_refl _⟩, ?_⟩
  intro p l e R s m args below meth c Q F _ _ n0 S0 H locs ls hll hW hS _ _ _ _ kk
  obtain ⟨hn, hfit⟩ := hf v hfv
  obtain ⟨cf, kf, fi, fd, cell, kC, hi, hst, q1, q3, q2, hfc, hkC, hkind, hslot, hput⟩ := zput_at (l := l) (e := e) (R := R) F hc hin hj hty hnm hW hk hh hl hpd hn hfit
  have hlay := F.2.2.2.2.1 _ (hin _ (u_in_lay hj))
  unfold u_lay at hlay
  rw [if_neg (by rw [hfin]; decide)] at hlay
  have h6 := u_store hfc hkC hkind hlay hi hpd hn hfit
  refine va_WputK F.1 F.2.1 (f := fd) F.2.2.2.1 (va_Nw.use rfl (F.2.2.2.2.2.1 _ hlink)) hi hst (by rw [q2]; exact h6) q1 q3 hslot rfl rfl hd fun H' e1 e2 e3 => ?_
  exact kk H' _ ls hll (hput H' e1 e2 e3) (zS.put hS e2 e3)
theorem zs_putF {f : Value → Bool} {ci j i : Nat} {C : String} {Tc : u_T} {Nc : Nat} {ty0 : Nat → FieldType} {ty : FieldType} (hc : cl[ci]? = some (C, Tc, Nc)) (hin : ∀ w ∈ u_ws C Tc Nc, w ∈ G) (hj : j < Nc) (hty : ∀ k, k < Nc → parseFieldDescriptor (Tc k).2.2.1 = some (ty0 k)) (hnm : ∀ a, a < Nc → ∀ b, b < Nc → a ≠ b → (Tc a).2.1 ≠ (Tc b).2.1)
    (hlink : Cond.fieldLink own i (Tc j).1 (Tc j).2.1 (Tc j).2.2.1 ∈ G) (hfin : (Tc j).2.2.2 = true) (hini : nm = "<init>") (hdecl : (Tc j).1 = own) (hpd : parseFieldDescriptor (Tc j).2.2.1 = some ty) (hf : ∀ v, f v = true → narrow ty (zV E v) = zV E v ∧ fits ty (zV E v) = true) (hd : decode bytes pc = .ok (.putfield i, 3)) : zSnd cl T G N O E own nm bytes nL pc (zPut f ci j (pc + 3)) := by
  intro L st h pc' L' st' h' hop
  obtain ⟨v, k, r, fs, rfl, hfv, hk, hh, hl, hx⟩ := zPut_some hop
  cases hx
  refine ⟨⟨Nat.le_refl _, Nat.le_refl _⟩, ?_⟩
  intro p l e R s m args below meth c Q F _ _ n0 S0 H locs ls hll hW hS _ _ _ _ kk
  obtain ⟨hn, hfit⟩ := hf v hfv
  obtain ⟨cf, kf, fi, fd, cell, kC, hi, hst, q1, q3, q2, hfc, hkC, hkind, hslot, hput⟩ := zput_at (l := l) (e := e) (R := R) F hc hin hj hty hnm hW hk hh hl hpd hn hfit
  have hlay := F.2.2.2.2.1 _ (hin _ (u_in_lay hj))
  unfold u_lay at hlay
  rw [if_pos hfin] at hlay
  have hcf : m.cls = cf := by
    obtain ⟨_, _, c', _, _, _, -, -, hf', -, -, -, hown2, -⟩ := Cond.laysFinal_spec hlay
    have e1 : c' = cf := by have := hi.symm.trans hf'; simp at this; exact this.1.symm
    rw [hdecl] at hown2
    rw [← e1]; exact Option.some.inj (F.2.2.2.1.symm.trans hown2)
  have h6 := u_fits hfc hkC hkind (Or.inr hlay) hi hpd hn hfit
  have hmn : meth.name = "<init>" := by rw [F.2.2.2.2.2.2.2.2.2.2.2.2]; exact hini
  refine W.putFinK F.1 F.2.1 F.2.2.2.1 (F.2.2.2.2.1 _ hlink) hi hst hcf hmn (by rw [q2]; exact h6) q1 q3 hslot rfl rfl hd fun H' e1 e2 e3 => ?_
  exact kk H' _ ls hll (hput H' e1 e2 e3) (zS.put hS e2 e3)
theorem zfI (v : Value) (h : zIsI v = true) : narrow .int (zV E v) = zV E v ∧ fits .int (zV E v) = true := by
  cases v <;> first | cases h; done | exact ⟨rfl, rfl⟩
theorem zfL (v : Value) (h : zIsL v = true) : narrow .long (zV E v) = zV E v ∧ fits .long (zV E v) = true := by
  cases v <;> first | cases h; done | exact ⟨rfl, rfl⟩
theorem zfO (n : String) (v : Value) (h : zIsA v = true) : narrow (.object n) (zV E v) = zV E v ∧ fits (.object n) (zV E v) = true := by
  cases v <;> first | cases h; done | exact ⟨rfl, rfl⟩
theorem zfR (t : FieldType) (v : Value) (h : zIsA v = true) : narrow (.array t) (zV E v) = zV E v ∧ fits (.array t) (zV E v) = true := by
  cases v <;> first | cases h; done | exact ⟨rfl, rfl⟩
end ZHEAP
end
section
/-! SOUND STEPS on arrays, and what is made -/
theorem zbytes {n k : Nat} (h : n ≤ 1000000) (hk : k ≤ 8) : n * k ≤ 536870912 := Nat.le_trans (Nat.mul_le_mul h hk) (Nat.le_of_ble_eq_true rfl)
section ZARR
variable {cl : List vw_C} {T : List FieldType} {G N : List Cond} {O : Nat → State → Heap → Prop} {E : zE} {own nm : String} {bytes : ByteArray} {nL pc : Nat}
abbrev zAldI (t pc' : Nat) : List Value → zH → Option (Nat × List Value) := fun st h => match st with
  | .int i :: .ref k :: r => if k < h.2.1 then match h.1 k with
    | .inl (t', n, .inl f) => if t' = t then if i < 0 ∨ n ≤ i.toNatClampNeg then none else some (pc', .int (f i.toNatClampNeg) :: r) else none
    | _ => none
    else none
  | _ => none
theorem zs_aldI {t : Nat} (ht : T[t]? = some .int) (hd : decode bytes pc = .ok (.iaload, 1)) : zSnd cl T G N O E own nm bytes nL pc (zS2 (zAldI t (pc + 1))) :=
  zsnd2 fun st h pc1 st1 hg p l e R s m args below meth c Q H locs cells slots ls F _ _ _ hW hS k => by
    simp only [zAldI] at hg
    split at hg
    · split at hg
      · rename_i hk
        split at hg
        · rename_i hh
          split at hg
          · rename_i htt
            split at hg
            · cases hg
            · rename_i hin
              cases hg
              subst htt
              have hP := zP1 hW hk
              rw [hh] at hP
              exact va_iald F.1 F.2.1 (F.2.2.2.2.2.2.1.one ht) hP 0 0 rfl rfl hin hd k
          · cases hg
        · cases hg
      · cases hg
    · cases hg
abbrev zAldZ (t pc' : Nat) : List Value → zH → Option (Nat × List Value) := fun st h => match st with
  | .int i :: .ref k :: r => if k < h.2.1 then match h.1 k with
    | .inl (t', n, .inl f) => if t' = t then if i < 0 ∨ n ≤ i.toNatClampNeg then none else some (pc', .int (f i.toNatClampNeg) :: r) else none
    | _ => none
    else none
  | _ => none
theorem zs_aldZ {t : Nat} (ht : T[t]? = some .boolean) (hd : decode bytes pc = .ok (.baload, 1)) : zSnd cl T G N O E own nm bytes nL pc (zS2 (zAldZ t (pc + 1))) :=
  zsnd2 fun st h pc1 st1 hg p l e R s m args below meth c Q H locs cells slots ls F _ _ _ hW hS k => by
    simp only [zAldZ] at hg
    split at hg
    · split at hg
      · rename_i hk
        split at hg
        · rename_i hh
          split at hg
          · rename_i htt
            split at hg
            · cases hg
            · rename_i hin
              cases hg
              subst htt
              have hP := zP1 hW hk
              rw [hh] at hP
              exact va_zald F.1 F.2.1 (F.2.2.2.2.2.2.1.one ht) hP 0 0 rfl rfl hin hd k
          · cases hg
        · cases hg
      · cases hg
    · cases hg
abbrev zAldJ (t pc' : Nat) : List Value → zH → Option (Nat × List Value) := fun st h => match st with
  | .int i :: .ref k :: r => if k < h.2.1 then match h.1 k with
    | .inl (t', n, .inr (.inl f)) => if t' = t then if i < 0 ∨ n ≤ i.toNatClampNeg then none else some (pc', .long (f i.toNatClampNeg) :: r) else none
    | _ => none
    else none
  | _ => none
theorem zs_aldJ {t : Nat} (ht : T[t]? = some .long) (hd : decode bytes pc = .ok (.laload, 1)) : zSnd cl T G N O E own nm bytes nL pc (zS2 (zAldJ t (pc + 1))) :=
  zsnd2 fun st h pc1 st1 hg p l e R s m args below meth c Q H locs cells slots ls F _ _ _ hW hS k => by
    simp only [zAldJ] at hg
    split at hg
    · split at hg
      · rename_i hk
        split at hg
        · rename_i hh
          split at hg
          · rename_i htt
            split at hg
            · cases hg
            · rename_i hin
              cases hg
              subst htt
              have hP := zP1 hW hk
              rw [hh] at hP
              exact va_lald F.1 F.2.1 (F.2.2.2.2.2.2.1.one ht) hP 0 0 rfl rfl hin hd k
          · cases hg
        · cases hg
      · cases hg
    · cases hg
abbrev zAldD (t pc' : Nat) : List Value → zH → Option (Nat × List Value) := fun st h => match st with
  | .int i :: .ref k :: r => if k < h.2.1 then match h.1 k with
    | .inl (t', n, .inr (.inr (.inr (.inl f)))) => if t' = t then if i < 0 ∨ n ≤ i.toNatClampNeg then none else some (pc', .double (f i.toNatClampNeg) :: r) else none
    | _ => none
    else none
  | _ => none
theorem zs_aldD {t : Nat} (ht : T[t]? = some .double) (hd : decode bytes pc = .ok (.daload, 1)) : zSnd cl T G N O E own nm bytes nL pc (zS2 (zAldD t (pc + 1))) :=
  zsnd2 fun st h pc1 st1 hg p l e R s m args below meth c Q H locs cells slots ls F _ _ _ hW hS k => by
    simp only [zAldD] at hg
    split at hg
    · split at hg
      · rename_i hk
        split at hg
        · rename_i hh
          split at hg
          · rename_i htt
            split at hg
            · cases hg
            · rename_i hin
              cases hg
              subst htt
              have hP := zP1 hW hk
              rw [hh] at hP
              exact va_dald F.1 F.2.1 (F.2.2.2.2.2.2.1.one ht) hP 0 0 rfl rfl hin hd k
          · cases hg
        · cases hg
      · cases hg
    · cases hg
def zRf (o : Option Nat) : Value := match o with | some k => .ref k | none => .null
theorem zRf_V (o : Option Nat) : zV E (zRf o) = va_rf (o.map (fun k => zb E + k)) := by cases o <;> rfl
abbrev zAldQ (t pc' : Nat) : List Value → zH → Option (Nat × List Value) := fun st h => match st with
  | .int i :: .ref k :: r => if k < h.2.1 then match h.1 k with
    | .inl (t', n, .inr (.inr (.inr (.inr f)))) => if t' = t then if i < 0 ∨ n ≤ i.toNatClampNeg then none else some (pc', zRf (f i.toNatClampNeg) :: r) else none
    | _ => none
    else none
  | _ => none
theorem zs_aldQ {t : Nat} {C : String} (ht : T[t]? = some (.object C)) (hd : decode bytes pc = .ok (.aaload, 1)) : zSnd cl T G N O E own nm bytes nL pc (zS2 (zAldQ t (pc + 1))) :=
  zsnd2 fun st h pc1 st1 hg p l e R s m args below meth c Q H locs cells slots ls F _ _ _ hW hS k => by
    simp only [zAldQ] at hg
    split at hg
    · split at hg
      · rename_i hk
        split at hg
        · rename_i hh
          split at hg
          · rename_i htt
            split at hg
            · cases hg
            · rename_i hin
              cases hg
              subst htt
              have hP := zP1 hW hk
              rw [hh] at hP
              rw [List.map_cons, zRf_V] at k
              exact va_aldq F.1 F.2.1 (F.2.2.2.2.2.2.1.one ht) hP 0 0 rfl rfl hin hd k
          · cases hg
        · cases hg
      · cases hg
    · cases hg
abbrev zLen (t pc' : Nat) : List Value → zH → Option (Nat × List Value) := fun st h => match st with
  | .ref k :: r => if k < h.2.1 then match h.1 k with
    | .inl (t', n, _) => if t' = t then some (pc', .int (Int32.ofNat n) :: r) else none
    | .inr _ => none
    else none
  | _ => none
theorem zs_len {t : Nat} {ty : FieldType} (ht : T[t]? = some ty) (hd : decode bytes pc = .ok (.arraylength, 1)) : zSnd cl T G N O E own nm bytes nL pc (zS2 (zLen t (pc + 1))) :=
  zsnd2 fun st h pc1 st1 hg p l e R s m args below meth c Q H locs cells slots ls F _ _ _ hW hS k => by
    simp only [zLen] at hg
    split at hg
    · split at hg
      · rename_i hk
        split at hg
        · rename_i hh
          split at hg
          · rename_i htt
            cases hg
            subst htt
            have hP := zP1 hW hk
            rw [hh] at hP
            exact va_alen F.1 F.2.1 (F.2.2.2.2.2.2.1.one ht) hP 0 0 rfl rfl rfl hd k
          · cases hg
        · cases hg
      · cases hg
    · cases hg
abbrev zSld (xs : Nat → Int32) (Ls pc' : Nat) : List Value → Option (Nat × List Value) := fun st => match st with
  | .int i :: .retAddr 0 :: r => if i < 0 ∨ Ls ≤ i.toNatClampNeg then none else some (pc', .int (xs i.toNatClampNeg) :: r)
  | _ => none
theorem zs_sld (hd : decode bytes pc = .ok (.iaload, 1)) : zSnd cl T G N O E own nm bytes nL pc (zS2 (fun st _ => zSld (zxs E) (zLs E) (pc + 1) st)) :=
  zsnd2 fun st h pc1 st1 hg p l e R s m args below meth c Q H locs cells slots ls F _ _ _ hW hS k => by
    simp only [zSld] at hg
    split at hg
    · split at hg
      · cases hg
      · rename_i hin
        cases hg
        exact va_sld F.1 F.2.1 F.2.2.2.2.2.2.2.2.1 (Nat.lt_of_lt_of_le (F.2.2.2.2.2.2.2.2.2.1 0) F.2.2.2.2.2.2.2.2.2.2.1) (Nat.not_le.mpr (F.2.2.2.2.2.2.2.2.2.1 0)) hS hin hd k
    · cases hg
abbrev zSlen (Ls pc' : Nat) : List Value → Option (Nat × List Value) := fun st => match st with
  | .retAddr 0 :: r => some (pc', .int (Int32.ofNat Ls) :: r)
  | _ => none
theorem zs_slen (hd : decode bytes pc = .ok (.arraylength, 1)) : zSnd cl T G N O E own nm bytes nL pc (zS2 (fun st _ => zSlen (zLs E) (pc + 1) st)) :=
  zsnd2 fun st h pc1 st1 hg p l e R s m args below meth c Q H locs cells slots ls F _ _ _ hW hS k => by
    simp only [zSlen] at hg
    split at hg
    · cases hg
      exact va_slen F.1 F.2.1 F.2.2.2.2.2.2.2.2.1 (Nat.lt_of_lt_of_le (F.2.2.2.2.2.2.2.2.2.1 0) F.2.2.2.2.2.2.2.2.2.2.1) (Nat.not_le.mpr (F.2.2.2.2.2.2.2.2.2.1 0)) hS hd k
    · cases hg
abbrev zAstI (t pc' : Nat) : zOp := fun L st h => match st with
  | .int x :: .int i :: .ref k :: r => if k < h.2.1 ∧ (True) then match h.1 k with
    | .inl (t', n, .inl f) => if t' = t then if i < 0 ∨ n ≤ i.toNatClampNeg then none else some (pc', L, r, (zup h.1 k (.inl (t, n, .inl (upd f i.toNatClampNeg x))), h.2)) else none
    | _ => none
    else none
  | _ => none
theorem zs_astI {t : Nat} (ht : T[t]? = some .int) (hd : decode bytes pc = .ok (.iastore, 1)) : zSnd cl T G N O E own nm bytes nL pc (zAstI t (pc + 1)) := by
  intro L st h pc' L' st' h' hop
  simp only [zAstI] at hop
  split at hop
  · rename_i x i k r
    split at hop
    · rename_i hk
      obtain ⟨hk, hgd⟩ := hk
      split at hop
      · rename_i t' n f hh
        split at hop
        · rename_i htt
          split at hop
          · cases hop
          · rename_i hin
            cases hop
            subst htt
            refine ⟨⟨Nat.le_refl _, Nat.le_refl _⟩, ?_⟩
            intro p l e R s m args below meth c Q F _ _ n0 S0 H locs ls hll hW hS _ _ _ _ kk
            have hP := hW.1 k hk
            rw [hh] at hP
            refine W.iast F.1 F.2.1 hP ((F.2.2.2.2.2.2.1.2 t' _ ht).1 n (fun j => .int (f j))) (fun q => by cases q) (by show ¬ (i < 0 ∨ (arrV _ _ _).slots.size ≤ _); rw [arrV_size]; exact hin) rfl rfl hd fun H1 e z oq => ?_
            refine kk H1 _ ls hll (hW.put ?_ z oq) (zS.put hS z oq)
            show H1[zb E + k]? = some (vp_cell _ _)
            rw [e]
            show some ((vp_cell (zcy E t') (n, .inl f)).setSlot _ _) = some (vp_cell (zcy E t') (n, .inl (upd f i.toNatClampNeg x)))
            rw [vp_cell_i, vp_cell_i, arrV_store]
            congr 2
            funext q
            by_cases hq : q = i.toNatClampNeg
            · subst hq
              simp [updV, upd]
            · simp [updV, upd, hq]
        · cases hop
      · cases hop
    · cases hop
  · cases hop
abbrev zAstZ (t pc' : Nat) : zOp := fun L st h => match st with
  | .int x :: .int i :: .ref k :: r => if k < h.2.1 ∧ (x = 0 ∨ x = 1) then match h.1 k with
    | .inl (t', n, .inl f) => if t' = t then if i < 0 ∨ n ≤ i.toNatClampNeg then none else some (pc', L, r, (zup h.1 k (.inl (t, n, .inl (upd f i.toNatClampNeg x))), h.2)) else none
    | _ => none
    else none
  | _ => none
theorem zs_astZ {t : Nat} (ht : T[t]? = some .boolean) (hd : decode bytes pc = .ok (.bastore, 1)) : zSnd cl T G N O E own nm bytes nL pc (zAstZ t (pc + 1)) := by
  intro L st h pc' L' st' h' hop
  simp only [zAstZ] at hop
  split at hop
  · rename_i x i k r
    split at hop
    · rename_i hk
      obtain ⟨hk, hgd⟩ := hk
      split at hop
      · rename_i t' n f hh
        split at hop
        · rename_i htt
          split at hop
          · cases hop
          · rename_i hin
            cases hop
            subst htt
            refine ⟨⟨Nat.le_refl _, Nat.le_refl _⟩, ?_⟩
            intro p l e R s m args below meth c Q F _ _ n0 S0 H locs ls hll hW hS _ _ _ _ kk
            have hP := hW.1 k hk
            rw [hh] at hP
            refine W.zast F.1 F.2.1 hP ((F.2.2.2.2.2.2.1.2 t' _ ht).1 n (fun j => .int (f j))) (fun q => by cases q) (by show ¬ (i < 0 ∨ (arrV _ _ _).slots.size ≤ _); rw [arrV_size]; exact hin) rfl rfl hd fun H1 e z oq => ?_
            refine kk H1 _ ls hll (hW.put ?_ z oq) (zS.put hS z oq)
            show H1[zb E + k]? = some (vp_cell _ _)
            rw [e]
            show some ((vp_cell (zcy E t') (n, .inl f)).setSlot _ _) = some (vp_cell (zcy E t') (n, .inl (upd f i.toNatClampNeg x)))
            rw [vp_cell_i, vp_cell_i, arrV_store]
            congr 2
            funext q
            by_cases hq : q = i.toNatClampNeg
            · subst hq
              rcases hgd with rfl | rfl <;> simp [updV, upd] <;> rfl
            · simp [updV, upd, hq]
        · cases hop
      · cases hop
    · cases hop
  · cases hop
abbrev zAstJ (t pc' : Nat) : zOp := fun L st h => match st with
  | .long x :: .int i :: .ref k :: r => if k < h.2.1 ∧ (True) then match h.1 k with
    | .inl (t', n, .inr (.inl f)) => if t' = t then if i < 0 ∨ n ≤ i.toNatClampNeg then none else some (pc', L, r, (zup h.1 k (.inl (t, n, .inr (.inl (vp_updL f i.toNatClampNeg x)))), h.2)) else none
    | _ => none
    else none
  | _ => none
theorem zs_astJ {t : Nat} (ht : T[t]? = some .long) (hd : decode bytes pc = .ok (.lastore, 1)) : zSnd cl T G N O E own nm bytes nL pc (zAstJ t (pc + 1)) := by
  intro L st h pc' L' st' h' hop
  simp only [zAstJ] at hop
  split at hop
  · rename_i x i k r
    split at hop
    · rename_i hk
      obtain ⟨hk, hgd⟩ := hk
      split at hop
      · rename_i t' n f hh
        split at hop
        · rename_i htt
          split at hop
          · cases hop
          · rename_i hin
            cases hop
            subst htt
            refine ⟨⟨Nat.le_refl _, Nat.le_refl _⟩, ?_⟩
            intro p l e R s m args below meth c Q F _ _ n0 S0 H locs ls hll hW hS _ _ _ _ kk
            have hP := hW.1 k hk
            rw [hh] at hP
            refine W.last F.1 F.2.1 hP ((F.2.2.2.2.2.2.1.2 t' _ ht).1 n (fun j => .long (f j))) (fun q => by cases q) (by show ¬ (i < 0 ∨ (arrV _ _ _).slots.size ≤ _); rw [arrV_size]; exact hin) rfl rfl hd fun H1 e z oq => ?_
            refine kk H1 _ ls hll (hW.put ?_ z oq) (zS.put hS z oq)
            show H1[zb E + k]? = some (vp_cell _ _)
            rw [e]
            show some ((vp_cell (zcy E t') (n, .inr (.inl f))).setSlot _ _) = some (vp_cell (zcy E t') (n, .inr (.inl (vp_updL f i.toNatClampNeg x))))
            rw [vp_cell_l, vp_cell_l, arrV_store]
            congr 2
            funext q
            by_cases hq : q = i.toNatClampNeg
            · subst hq
              simp [updV, vp_updL]
            · simp [updV, vp_updL, hq]
        · cases hop
      · cases hop
    · cases hop
  · cases hop
abbrev zAstD (t pc' : Nat) : zOp := fun L st h => match st with
  | .double x :: .int i :: .ref k :: r => if k < h.2.1 ∧ (True) then match h.1 k with
    | .inl (t', n, .inr (.inr (.inr (.inl f)))) => if t' = t then if i < 0 ∨ n ≤ i.toNatClampNeg then none else some (pc', L, r, (zup h.1 k (.inl (t, n, .inr (.inr (.inr (.inl (vf_upd f i.toNatClampNeg x)))))), h.2)) else none
    | _ => none
    else none
  | _ => none
theorem zs_astD {t : Nat} (ht : T[t]? = some .double) (hd : decode bytes pc = .ok (.dastore, 1)) : zSnd cl T G N O E own nm bytes nL pc (zAstD t (pc + 1)) := by
  intro L st h pc' L' st' h' hop
  simp only [zAstD] at hop
  split at hop
  · rename_i x i k r
    split at hop
    · rename_i hk
      obtain ⟨hk, hgd⟩ := hk
      split at hop
      · rename_i t' n f hh
        split at hop
        · rename_i htt
          split at hop
          · cases hop
          · rename_i hin
            cases hop
            subst htt
            refine ⟨⟨Nat.le_refl _, Nat.le_refl _⟩, ?_⟩
            intro p l e R s m args below meth c Q F _ _ n0 S0 H locs ls hll hW hS _ _ _ _ kk
            have hP := hW.1 k hk
            rw [hh] at hP
            refine W.dast F.1 F.2.1 hP ((F.2.2.2.2.2.2.1.2 t' _ ht).1 n (fun j => .double (f j))) (fun q => by cases q) (by show ¬ (i < 0 ∨ (arrV _ _ _).slots.size ≤ _); rw [arrV_size]; exact hin) rfl rfl hd fun H1 e z oq => ?_
            refine kk H1 _ ls hll (hW.put ?_ z oq) (zS.put hS z oq)
            show H1[zb E + k]? = some (vp_cell _ _)
            rw [e]
            show some ((vp_cell (zcy E t') (n, .inr (.inr (.inr (.inl f))))).setSlot _ _) = some (vp_cell (zcy E t') (n, .inr (.inr (.inr (.inl (vf_upd f i.toNatClampNeg x))))))
            rw [vp_cell_d, vp_cell_d, arrV_store]
            congr 2
            funext q
            by_cases hq : q = i.toNatClampNeg
            · subst hq
              simp [updV, vf_upd]
            · simp [updV, vf_upd, hq]
        · cases hop
      · cases hop
    · cases hop
  · cases hop
abbrev zAstQ (t ci pc' : Nat) : zOp := fun L st h => match st with
  | .ref v :: .int i :: .ref k :: r => if k < h.2.1 ∧ v < h.2.1 then match h.1 k, h.1 v with
    | .inl (t', n, .inr (.inr (.inr (.inr f)))), .inr (ci', _) => if t' = t ∧ ci' = ci then if i < 0 ∨ n ≤ i.toNatClampNeg then none else some (pc', L, r, (zup h.1 k (.inl (t, n, .inr (.inr (.inr (.inr (va_up f i.toNatClampNeg (some v))))))), h.2)) else none
    | _, _ => none
    else none
  | _ => none
theorem zs_astQ {t ci : Nat} {C : String} {Tc : u_T} {Nc : Nat} (ht : T[t]? = some (.object C)) (hc : cl[ci]? = some (C, Tc, Nc)) (hd : decode bytes pc = .ok (.aastore, 1)) : zSnd cl T G N O E own nm bytes nL pc (zAstQ t ci (pc + 1)) := by
  intro L st h pc' L' st' h' hop
  simp only [zAstQ] at hop
  split at hop
  · rename_i v i k r
    split at hop
    · rename_i hk
      obtain ⟨hk, hv⟩ := hk
      split at hop
      · rename_i t' n f ci' vs hh hhv
        split at hop
        · rename_i htt
          obtain ⟨rfl, rfl⟩ := htt
          split at hop
          · cases hop
          · rename_i hin
            cases hop
            refine ⟨⟨Nat.le_refl _, Nat.le_refl _⟩, ?_⟩
            intro p l e R s m args below meth c Q F _ _ n0 S0 H locs ls hll hW hS _ _ _ _ kk
            have hP := hW.1 k hk
            rw [hh] at hP
            have hPv := hW.1 v hv
            rw [hhv] at hPv
            have hlt : i.toNatClampNeg < n := Nat.not_le.mp fun q => hin (Or.inr q)
            have h0 : ¬ i < 0 := fun q => hin (Or.inl q)
            obtain ⟨r', hr', cellV, g1, g2, g3, -⟩ := hPv
            have hK := F.2.2.2.2.2.2.1
            have hcls := (hK.1 ci' _ hc).2
            obtain ⟨kA, comp, k1, k2, k3, -⟩ := (hK.2 t' _ ht).2
            have hcomp : comp = (zD E).1 ci' := Option.some.inj (k3.symm.trans hcls.1)
            subst hcomp
            obtain ⟨kC, hkC, -⟩ := hcls.2
            refine W.aast F.1 F.2.1 hP (fun q h => by cases h) (fun h => by cases h) k1 k2 rfl hkC ⟨h0, by show _ < (arrV _ _ _).slots.size; rw [arrV_size]; exact hlt⟩ g1 (fun q h => by rw [g3] at h; cases h) (by rw [g2]; exact hkC) (by rw [g2]; exact va_assign hcls) rfl rfl hd fun H1 e z oq => ?_
            refine kk H1 _ ls hll (hW.put ?_ z oq) (zS.put hS z oq)
            show H1[zb E + k]? = some (vp_cell _ _)
            rw [e]
            show some ((vp_cell (zcy E t') (n, .inr (.inr (.inr (.inr (fun j => (f j).map (fun k => zb E + k))))))).setSlot _ _) = some (vp_cell (zcy E t') (n, .inr (.inr (.inr (.inr (fun j => (va_up f i.toNatClampNeg (some v) j).map (fun k => zb E + k)))))))
            rw [vp_cell_q, vp_cell_q, arrV_store]
            congr 2
            funext q
            by_cases hq : q = i.toNatClampNeg
            · subst hq
              simp [updV, va_up, va_rf]
            · simp [updV, va_up, hq]
        · cases hop
      · cases hop
    · cases hop
  · cases hop
abbrev zNew (ci : Nat) (fs : List Value) (Nc pc' : Nat) : zOp := fun L st h => if h.2.2.2.2 = true then some (pc', L, .ref h.2.1 :: st, (zup h.1 h.2.1 (.inr (ci, fs)), h.2.1 + 1, h.2.2.1 + 1, h.2.2.2.1 + Nc, true)) else none
theorem zs_new {ci i : Nat} {fs : List Value} {C : String} {Tc : u_T} {Nc : Nat} {ty : Nat → FieldType} (hc : cl[ci]? = some (C, Tc, Nc)) (hin : ∀ w ∈ u_ws C Tc Nc, w ∈ G) (hty : ∀ k, k < Nc → parseFieldDescriptor (Tc k).2.2.1 = some (ty k)) (hcl : Cond.classLink own i C ∈ G) (hinst : Cond.instantiable C Nc ∈ G) (hini : Cond.initialized C ∈ G) (hfs : ∀ j, j < Nc → defaultValue (ty j) = vp_V fs j) (hz : fs.map (zV E) = fs) (hd : decode bytes pc = .ok (.new i, 3)) : zSnd cl T G N O E own nm bytes nL pc (zNew ci fs Nc (pc + 3)) := by
  intro L st h pc' L' st' h' hop
  simp only [zNew] at hop
  split at hop
  · rename_i hlive
    cases hop
    refine ⟨⟨Nat.le_succ _, Nat.le_add_right _ _⟩, ?_⟩
    intro p l e R s m args below meth c Q F _ _ n0 S0 H locs ls hll hW hS hn0 hS0 hcR hsR kk
    have hcR' : h.2.2.1 + 1 - n0 ≤ R.cells := hcR
    have hsR' : h.2.2.2.1 + Nc - S0 ≤ R.slots := hsR
    have hK := F.2.2.2.2.2.2.1.none
    have hKn := hK.1 ci _ hc
    refine W.newcK F.1 F.2.1 F.2.2.2.1 (F.2.2.2.2.1 _ hcl) (F.2.2.2.2.1 _ hinst) (F.2.2.2.2.1 _ hini) rfl hd (by omega) (by omega) hKn.2.1 rfl fun H1 kC hkC e1 z1 o1 => ?_
    refine W.cs (cells' := h.2.2.1 + 1 - n0) (slots' := h.2.2.2.1 + Nc - S0) (by omega) (by omega) ?_
    have hsz := hW.2.2 hlive
    have hk := kk H1 locs ls hll (hW.push hlive ?_ z1 o1) (zS.push hS z1 o1)
    · have hst : (Value.ref h.2.1 :: st).map (zV E) = .ref H.size :: st.map (zV E) := by
        rw [List.map_cons, hsz]
        rfl
      rw [hst] at hk
      exact hk
    · refine ⟨_, hc, ?_⟩
      show t_OB H.size _ _ _ H1 (vp_V (fs.map (zV E)))
      rw [hz]
      exact (u_born ty F.2.2.2.2.1 hin hKn hkC e1 hty).to hfs
  · cases hop
abbrev zNwaI (t pc' : Nat) : zOp := fun L st h => match st with
  | .int n :: r => if h.2.2.2.2 = true ∧ ¬ n < 0 ∧ n.toNatClampNeg ≤ 1000000 then some (pc', L, .ref h.2.1 :: r, (zup h.1 h.2.1 (.inl (t, n.toNatClampNeg, .inl (fun _ => 0))), h.2.1 + 1, h.2.2.1 + 1, h.2.2.2.1 + n.toNatClampNeg, true)) else none
  | _ => none
theorem zs_nwaI {t : Nat} (ht : T[t]? = some .int) (hw : Cond.arrayClass .int ∈ G) (hd : decode bytes pc = .ok (.newarray .int, 2)) : zSnd cl T G N O E own nm bytes nL pc (zNwaI t (pc + 2)) := by
  intro L st h pc' L' st' h' hop
  simp only [zNwaI] at hop
  split at hop
  · rename_i n r
    split at hop
    · rename_i hg
      obtain ⟨hlive, hn, hbig⟩ := hg
      cases hop
      refine ⟨⟨Nat.le_succ _, Nat.le_add_right _ _⟩, ?_⟩
      intro p l e R s m args below meth c Q F _ _ n0 S0 H locs ls hll hW hS hn0 hS0 hcR hsR kk
      have hcR' : h.2.2.1 + 1 - n0 ≤ R.cells := hcR
      have hsR' : h.2.2.2.1 + n.toNatClampNeg - S0 ≤ R.slots := hsR
      refine va_newaK (atype := .int) F.1 F.2.1 (F.2.2.2.2.1 _ hw) rfl hd rfl hn rfl (zbytes hbig (by decide)) (by omega) (by omega) rfl fun H1 cA e1 z1 o1 hAr hNm => ?_
      refine W.cs (cells' := h.2.2.1 + 1 - n0) (slots' := h.2.2.2.1 + n.toNatClampNeg - S0) (by omega) (by omega) ?_
      have hsz := hW.2.2 hlive
      have hcy : cA = zcy E t := Option.some.inj (hNm.symm.trans (F.2.2.2.2.2.2.1.2 t _ ht).2)
      subst hcy
      have hk := kk H1 locs ls hll (hW.push hlive ?_ z1 o1) (zS.push hS z1 o1)
      · have hst : (Value.ref h.2.1 :: r).map (zV E) = .ref H.size :: r.map (zV E) := by
          rw [List.map_cons, hsz]
          rfl
        rw [hst] at hk
        exact hk
      · show H1[H.size]? = some (vp_cell _ _)
        rw [e1]
        show _ = some (vp_cell (zcy E t) (n.toNatClampNeg, .inl (fun _ => 0)))
        rw [vp_cell_i]
        rfl
    · cases hop
  · cases hop
abbrev zNwaZ (t pc' : Nat) : zOp := fun L st h => match st with
  | .int n :: r => if h.2.2.2.2 = true ∧ ¬ n < 0 ∧ n.toNatClampNeg ≤ 1000000 then some (pc', L, .ref h.2.1 :: r, (zup h.1 h.2.1 (.inl (t, n.toNatClampNeg, .inl (fun _ => 0))), h.2.1 + 1, h.2.2.1 + 1, h.2.2.2.1 + n.toNatClampNeg, true)) else none
  | _ => none
theorem zs_nwaZ {t : Nat} (ht : T[t]? = some .boolean) (hw : Cond.arrayClass .boolean ∈ G) (hd : decode bytes pc = .ok (.newarray .boolean, 2)) : zSnd cl T G N O E own nm bytes nL pc (zNwaZ t (pc + 2)) := by
  intro L st h pc' L' st' h' hop
  simp only [zNwaZ] at hop
  split at hop
  · rename_i n r
    split at hop
    · rename_i hg
      obtain ⟨hlive, hn, hbig⟩ := hg
      cases hop
      refine ⟨⟨Nat.le_succ _, Nat.le_add_right _ _⟩, ?_⟩
      intro p l e R s m args below meth c Q F _ _ n0 S0 H locs ls hll hW hS hn0 hS0 hcR hsR kk
      have hcR' : h.2.2.1 + 1 - n0 ≤ R.cells := hcR
      have hsR' : h.2.2.2.1 + n.toNatClampNeg - S0 ≤ R.slots := hsR
      refine va_newaK (atype := .boolean) F.1 F.2.1 (F.2.2.2.2.1 _ hw) rfl hd rfl hn rfl (zbytes hbig (by decide)) (by omega) (by omega) rfl fun H1 cA e1 z1 o1 hAr hNm => ?_
      refine W.cs (cells' := h.2.2.1 + 1 - n0) (slots' := h.2.2.2.1 + n.toNatClampNeg - S0) (by omega) (by omega) ?_
      have hsz := hW.2.2 hlive
      have hcy : cA = zcy E t := Option.some.inj (hNm.symm.trans (F.2.2.2.2.2.2.1.2 t _ ht).2)
      subst hcy
      have hk := kk H1 locs ls hll (hW.push hlive ?_ z1 o1) (zS.push hS z1 o1)
      · have hst : (Value.ref h.2.1 :: r).map (zV E) = .ref H.size :: r.map (zV E) := by
          rw [List.map_cons, hsz]
          rfl
        rw [hst] at hk
        exact hk
      · show H1[H.size]? = some (vp_cell _ _)
        rw [e1]
        show _ = some (vp_cell (zcy E t) (n.toNatClampNeg, .inl (fun _ => 0)))
        rw [vp_cell_i]
        rfl
    · cases hop
  · cases hop
abbrev zNwaJ (t pc' : Nat) : zOp := fun L st h => match st with
  | .int n :: r => if h.2.2.2.2 = true ∧ ¬ n < 0 ∧ n.toNatClampNeg ≤ 1000000 then some (pc', L, .ref h.2.1 :: r, (zup h.1 h.2.1 (.inl (t, n.toNatClampNeg, .inr (.inl (fun _ => 0)))), h.2.1 + 1, h.2.2.1 + 1, h.2.2.2.1 + n.toNatClampNeg, true)) else none
  | _ => none
theorem zs_nwaJ {t : Nat} (ht : T[t]? = some .long) (hw : Cond.arrayClass .long ∈ G) (hd : decode bytes pc = .ok (.newarray .long, 2)) : zSnd cl T G N O E own nm bytes nL pc (zNwaJ t (pc + 2)) := by
  intro L st h pc' L' st' h' hop
  simp only [zNwaJ] at hop
  split at hop
  · rename_i n r
    split at hop
    · rename_i hg
      obtain ⟨hlive, hn, hbig⟩ := hg
      cases hop
      refine ⟨⟨Nat.le_succ _, Nat.le_add_right _ _⟩, ?_⟩
      intro p l e R s m args below meth c Q F _ _ n0 S0 H locs ls hll hW hS hn0 hS0 hcR hsR kk
      have hcR' : h.2.2.1 + 1 - n0 ≤ R.cells := hcR
      have hsR' : h.2.2.2.1 + n.toNatClampNeg - S0 ≤ R.slots := hsR
      refine va_newaK (atype := .long) F.1 F.2.1 (F.2.2.2.2.1 _ hw) rfl hd rfl hn rfl (zbytes hbig (by decide)) (by omega) (by omega) rfl fun H1 cA e1 z1 o1 hAr hNm => ?_
      refine W.cs (cells' := h.2.2.1 + 1 - n0) (slots' := h.2.2.2.1 + n.toNatClampNeg - S0) (by omega) (by omega) ?_
      have hsz := hW.2.2 hlive
      have hcy : cA = zcy E t := Option.some.inj (hNm.symm.trans (F.2.2.2.2.2.2.1.2 t _ ht).2)
      subst hcy
      have hk := kk H1 locs ls hll (hW.push hlive ?_ z1 o1) (zS.push hS z1 o1)
      · have hst : (Value.ref h.2.1 :: r).map (zV E) = .ref H.size :: r.map (zV E) := by
          rw [List.map_cons, hsz]
          rfl
        rw [hst] at hk
        exact hk
      · show H1[H.size]? = some (vp_cell _ _)
        rw [e1]
        show _ = some (vp_cell (zcy E t) (n.toNatClampNeg, .inr (.inl (fun _ => 0))))
        rw [vp_cell_l]
        rfl
    · cases hop
  · cases hop
abbrev zNwaD (t pc' : Nat) : zOp := fun L st h => match st with
  | .int n :: r => if h.2.2.2.2 = true ∧ ¬ n < 0 ∧ n.toNatClampNeg ≤ 1000000 then some (pc', L, .ref h.2.1 :: r, (zup h.1 h.2.1 (.inl (t, n.toNatClampNeg, .inr (.inr (.inr (.inl (fun _ => 0)))))), h.2.1 + 1, h.2.2.1 + 1, h.2.2.2.1 + n.toNatClampNeg, true)) else none
  | _ => none
theorem zs_nwaD {t : Nat} (ht : T[t]? = some .double) (hw : Cond.arrayClass .double ∈ G) (hd : decode bytes pc = .ok (.newarray .double, 2)) : zSnd cl T G N O E own nm bytes nL pc (zNwaD t (pc + 2)) := by
  intro L st h pc' L' st' h' hop
  simp only [zNwaD] at hop
  split at hop
  · rename_i n r
    split at hop
    · rename_i hg
      obtain ⟨hlive, hn, hbig⟩ := hg
      cases hop
      refine ⟨⟨Nat.le_succ _, Nat.le_add_right _ _⟩, ?_⟩
      intro p l e R s m args below meth c Q F _ _ n0 S0 H locs ls hll hW hS hn0 hS0 hcR hsR kk
      have hcR' : h.2.2.1 + 1 - n0 ≤ R.cells := hcR
      have hsR' : h.2.2.2.1 + n.toNatClampNeg - S0 ≤ R.slots := hsR
      refine va_newaK (atype := .double) F.1 F.2.1 (F.2.2.2.2.1 _ hw) rfl hd rfl hn rfl (zbytes hbig (by decide)) (by omega) (by omega) rfl fun H1 cA e1 z1 o1 hAr hNm => ?_
      refine W.cs (cells' := h.2.2.1 + 1 - n0) (slots' := h.2.2.2.1 + n.toNatClampNeg - S0) (by omega) (by omega) ?_
      have hsz := hW.2.2 hlive
      have hcy : cA = zcy E t := Option.some.inj (hNm.symm.trans (F.2.2.2.2.2.2.1.2 t _ ht).2)
      subst hcy
      have hk := kk H1 locs ls hll (hW.push hlive ?_ z1 o1) (zS.push hS z1 o1)
      · have hst : (Value.ref h.2.1 :: r).map (zV E) = .ref H.size :: r.map (zV E) := by
          rw [List.map_cons, hsz]
          rfl
        rw [hst] at hk
        exact hk
      · show H1[H.size]? = some (vp_cell _ _)
        rw [e1]
        show _ = some (vp_cell (zcy E t) (n.toNatClampNeg, .inr (.inr (.inr (.inl (fun _ => 0))))))
        rw [vp_cell_d]
        rfl
    · cases hop
  · cases hop
abbrev zNwaQ (t pc' : Nat) : zOp := fun L st h => match st with
  | .int n :: r => if h.2.2.2.2 = true ∧ ¬ n < 0 ∧ n.toNatClampNeg ≤ 1000000 then some (pc', L, .ref h.2.1 :: r, (zup h.1 h.2.1 (.inl (t, n.toNatClampNeg, .inr (.inr (.inr (.inr (fun _ => none)))))), h.2.1 + 1, h.2.2.1 + 1, h.2.2.2.1 + n.toNatClampNeg, true)) else none
  | _ => none
theorem zs_nwaQ {t i : Nat} {C : String} (ht : T[t]? = some (.object C)) (hcl : Cond.classLink own i C ∈ G) (hov : Cond.arrayOver (.object C) ∈ N) (hd : decode bytes pc = .ok (.anewarray i, 3)) : zSnd cl T G N O E own nm bytes nL pc (zNwaQ t (pc + 3)) := by
  intro L st h pc' L' st' h' hop
  simp only [zNwaQ] at hop
  split at hop
  · rename_i n r
    split at hop
    · rename_i hg
      obtain ⟨hlive, hn, hbig⟩ := hg
      cases hop
      refine ⟨⟨Nat.le_succ _, Nat.le_add_right _ _⟩, ?_⟩
      intro p l e R s m args below meth c Q F _ _ n0 S0 H locs ls hll hW hS hn0 hS0 hcR hsR kk
      have hcR' : h.2.2.1 + 1 - n0 ≤ R.cells := hcR
      have hsR' : h.2.2.2.1 + n.toNatClampNeg - S0 ≤ R.slots := hsR
      have hao : va_AO C s := F.2.2.2.2.2.1 _ hov
      refine W.anew F.1 F.2.1 F.2.2.2.1 (F.2.2.2.2.1 _ hcl) (va_AO.use hao) rfl hd rfl hn (zbytes hbig (by decide)) (by omega) (by omega) fun cA kA comp f1 f2 f3 f4 => ?_
      generalize hH1 : H.push ({ cls := cA, slots := Array.replicate n.toNatClampNeg .null, vm := .none } : Cell) = H1
      have z1 : H1.size = H.size + 1 := by rw [← hH1, Array.size_push]
      have e1 : H1[H.size]? = some (arrV cA n.toNatClampNeg (fun _ => .null)) := by rw [← hH1, Array.getElem?_push_size, ← arrV_new]
      have o1 : ∀ q : Nat, q < H.size → H1[q]? = H[q]? := fun q hq => by rw [← hH1, Array.getElem?_push, if_neg (Nat.ne_of_lt hq)]
      refine W.cs (cells' := h.2.2.1 + 1 - n0) (slots' := h.2.2.2.1 + n.toNatClampNeg - S0) (by omega) (by omega) ?_
      have hsz := hW.2.2 hlive
      obtain ⟨kA2, comp2, -, -, -, hnm2⟩ := (F.2.2.2.2.2.2.1.2 t _ ht).2
      have hcy : cA = zcy E t := Option.some.inj (f1.symm.trans hnm2)
      subst hcy
      have hk := kk H1 locs ls hll (hW.push hlive ?_ z1 o1) (zS.push hS z1 o1)
      · have hst : (Value.ref h.2.1 :: r).map (zV E) = .ref H.size :: r.map (zV E) := by
          rw [List.map_cons, hsz]
          rfl
        rw [hst] at hk
        exact hk
      · show H1[H.size]? = some (vp_cell _ _)
        rw [e1]
        show _ = some (vp_cell (zcy E t) (n.toNatClampNeg, .inr (.inr (.inr (.inr (fun j => none))))))
        rw [vp_cell_q]
        rfl
    · cases hop
  · cases hop
abbrev zObj (pc' : Nat) : List Value → zH → Option (Nat × List Value) := fun st _ => match st with
  | .ref _ :: r => if (r.map fun v => v.category).sum ≤ 8 then some (pc', r) else none
  | _ => none
theorem zs_obj {i : Nat} (h1 : Cond.methodLink own i Lib.objectInit ∈ G) (h2 : Cond.instanceMethod Lib.objectInit ∈ G) (h3 : Cond.code Lib.objectInit ⟨#[0xb1]⟩ 1 none ∈ G) (hd : decode bytes pc = .ok (.invokespecial i, 3)) : zSnd cl T G N O E own nm bytes nL pc (zS2 (zObj (pc + 3))) :=
  zsnd2 fun st h pc1 st1 hg p l e R s m args below meth c Q H locs cells slots ls F hf hlo hsz hW hS k => by
    simp only [zObj] at hg
    split at hg
    · rename_i a r
      split at hg
      · rename_i hsum
        cases hg
        have hcat : ((st1.map (zV E)).map fun v => v.category) = st1.map fun v => v.category := by
          rw [List.map_map]
          exact List.map_congr_left fun v _ => zV_cat E v
        refine W.objInit F.1 F.2.1 F.2.2.2.1 (F.2.2.2.2.1 _ h1) (F.2.2.2.2.1 _ h2) (F.2.2.2.2.1 _ h3) rfl (by rw [F.2.2.1]; exact hsz) rfl hd hf (by show 2 * 0 + ((st1.map (zV E)).map fun v => v.category).sum + 12 ≤ _; rw [hcat]; omega) k
      · cases hg
    · cases hg
end ZARR
end
section
/-! THE SMALL MACHINE's RUN, and what each of its entries owes -/
/-- an entry: a step; a return (0 nothing, 1 int, 2 long, 3 double, 4 a reference, 5 boolean); a throw; a call (method, arguments with the receiver, kind) -/
abbrev zI : Type := zOp ⊕ (Nat ⊕ (String ⊕ (Nat × Nat × Nat)))
def zRk (r : Nat) (v : Value) : Bool := match v with
  | .int x => r == 1 || (r == 5 && (x == 0 || x == 1))
  | .long _ => r == 2
  | .double _ => r == 3
  | .ref _ => r == 4
  | .null => r == 4
  | _ => false
/-- whether a call can be made: enough on the stack, room in the callee's locals, little below, the receiver of its class -/
def zCan (nl cc : Nat → Nat) (μ n kd : Nat) (st : List Value) (h : zH) : Bool :=
  Nat.ble n st.length && Nat.ble (lg_sl (st.take n).reverse).length (nl μ) && Nat.ble ((st.drop n).map fun v => v.category).sum 8 &&
  (kd == 2 || kd == 3 || kd == 6 || match (st.take n).reverse with
    | .ref b :: _ => Nat.blt b h.2.1 && (match h.1 b with
      | .inr (c, _) => c == cc μ
      | .inl _ => false)
    | _ => false)
def zdead (h : zH) : zH := (h.1, h.2.1, h.2.2.1 + 1, h.2.2.2.1 + 6, false)
def zrun (nl cc : Nat → Nat) (nh : Nat → Bool) (code : Nat → Nat → Option zI) (hn : Nat → Nat → String → Option (Nat × Nat)) : Nat → Nat → Nat → Nat → zLoc → List Value → zH → Option ((Option Value ⊕ String) × zH)
  | 0, _, _, _, _, _, _ => none
  | k + 1, d, μ, pc, L, st, h => match code μ pc with
    | none => none
    | some (.inl op) => match op L st h with
      | none => none
      | some (pc', L', st', h') => zrun nl cc nh code hn k d μ pc' L' st' h'
    | some (.inr (.inl r)) => match r, st with
      | 0, [] => some (.inl none, h)
      | r + 1, [v] => if zRk (r + 1) v = true then some (.inl (some v), h) else none
      | _, _ => none
    | some (.inr (.inr (.inl Ex))) => if Nat.ble 6 d && nh μ && Nat.ble (st.map fun v => v.category).sum 8 then some (.inr Ex, zdead h) else none
    | some (.inr (.inr (.inr (μ', n, kd)))) => match d with
      | 0 => none
      | d' + 1 => if zCan nl cc μ' n kd st h = true then
          match zrun nl cc nh code hn k d' μ' 0 (lv_args 0 (st.take n).reverse) [] h with
          | none => none
          | some (.inl v, h') => zrun nl cc nh code hn k (d' + 1) μ (pc + 3) L (v.toList ++ st.drop n) h'
          | some (.inr Ex, h') => match hn μ pc Ex with
            | some (pc', x) => zrun nl cc nh code hn k (d' + 1) μ pc' (zF1 x L) [] h'
            | none => if nh μ = true then some (.inr Ex, h') else none
        else none
def zcw (y : MethodName) (b : ByteArray) (n : Nat) (rt : Option FieldType) (hh : List (Nat × Nat × Nat × Nat)) : Cond := match hh with
  | [] => .code y b n rt
  | hh => .codeWith y b n rt hh
def zrm (d mc ms : Nat) : Room := { frames := d + 1, cells := mc, slots := ms, locals := 31 * d + 40 }
def zRetOK (r : Nat) (rt : Option FieldType) (bytes : ByteArray) (pc : Nat) : Prop :=
  (r = 0 ∧ rt = none ∧ decode bytes pc = .ok (.return_, 1)) ∨ (r = 1 ∧ rt = some .int ∧ decode bytes pc = .ok (.ireturn, 1)) ∨ (r = 2 ∧ rt = some .long ∧ decode bytes pc = .ok (.lreturn, 1)) ∨
  (r = 3 ∧ rt = some .double ∧ decode bytes pc = .ok (.dreturn, 1)) ∨ (r = 4 ∧ (∃ t, rt = some t ∧ ((∃ n, t = .object n) ∨ ∃ u, t = .array u)) ∧ decode bytes pc = .ok (.areturn, 1)) ∨ (r = 5 ∧ rt = some .boolean ∧ decode bytes pc = .ok (.ireturn, 1))
/-- a call's road from the callee's contract -/
def zCallSnd (cl : List vw_C) (T : List FieldType) (G N : List Cond) (O : Nat → State → Heap → Prop) (E : zE) (own nm : String) (bytes : ByteArray) (nL pc : Nat) (y : MethodName) (b : ByteArray) (n' : Nat) (rt : Option FieldType) (hh : List (Nat × Nat × Nat × Nat)) (n kd : Nat) : Prop :=
  ∀ (p : Program) (l : Launch) (e : Env) (R : Room) (s : State) (m : MethodId) (args : Array Value) (below : List Frame) (meth : Method) (c : Code) (H : Heap) (locs : List Loc) (cells slots mc ms d : Nat) (ls : Array Slot) (vs rest : List Value) (Pc : Array Value → State → Prop) (Qc : Array Value → State → Outcome → State → Prop) (XC : String → State → State → Prop),
    zF cl T G N O E own nm bytes nL p s m args meth c → vx_Met l y (zcw y b n' rt hh :: G) (zrm d mc ms) Pc Qc XC mc ms (zA E) → FrameBlind Pc → (∀ U : State, U.heap = H → s.WarmedH U.vm → Pc vs.toArray U) →
    vs.length = n → ls.size = nL → (rest.map fun v => v.category).sum ≤ 8 → d + 2 ≤ R.frames → 8 + (n' + 11) + (31 * d + 40) ≤ R.locals → cells + mc ≤ R.cells → slots + ms ≤ R.slots →
    ((kd ≠ 2 ∧ kd ≠ 3 ∧ kd ≠ 6) → ∃ (b0 : Nat) (As : List Value) (cellB : Cell), vs = .ref b0 :: As ∧ H[b0]? = some cellB ∧ cellB.vm.isStatics = false ∧ s.vm.findClass y.cls = some cellB.cls) →
    vx_Run p l e R s m args below meth c H locs cells slots mc ms (F0 m pc ls (vs.reverse ++ rest)) rest (Qc vs.toArray) XC (zA E)
/-- a throw's road -/
def zThrSnd (cl : List vw_C) (T : List FieldType) (G N : List Cond) (O : Nat → State → Heap → Prop) (E : zE) (own nm : String) (bytes : ByteArray) (nL pc : Nat) (Ex : String) (hh : List (Nat × Nat × Nat × Nat)) (l : Launch) : Prop :=
  ∀ (p : Program) (e : Env) (R : Room) (s : State) (m : MethodId) (args : Array Value) (below : List Frame) (meth : Method) (c : Code) (H : Heap) (locs : List Loc) (cells slots mc ms : Nat) (ls : Array Slot) (rest : List Value) (Qc : Array Value → State → Outcome → State → Prop) (XC : String → State → State → Prop),
    zF cl T G N O E own nm bytes nL p s m args meth c → c.exceptionTable.toList = tableOf hh → va_S (zA E) s.heap H locs → ls.size = nL → (rest.map fun v => v.category).sum ≤ 8 → 7 ≤ R.frames → 120 ≤ R.locals → cells + 1 ≤ R.cells → slots + 6 ≤ R.slots → cells + 1 ≤ mc → slots + 6 ≤ ms →
    (∀ t : State, s.vm.Alike t.vm → H.size ≤ t.heap.size → (∀ q : Nat, q < H.size → t.heap[q]? = H[q]?) → XC Ex s t) →
    W p l e R s m args below meth c H locs cells slots (vx_MQ below Qc XC args s mc ms (zA E)) (F0 m pc ls rest)
/-- a handler's road: caught at pc, stored, on at pc' -/
def zHndSnd (cl : List vw_C) (T : List FieldType) (G N : List Cond) (O : Nat → State → Heap → Prop) (E : zE) (own nm : String) (bytes : ByteArray) (nL pc : Nat) (Ex : String) (pc' x : Nat) (hh : List (Nat × Nat × Nat × Nat)) : Prop :=
  ∀ (p : Program) (l : Launch) (e : Env) (R : Room) (s : State) (m : MethodId) (args : Array Value) (below : List Frame) (meth : Method) (c : Code) (Q : State → Prop) (H : Heap) (locs : List Loc) (cells slots : Nat) (ls : Array Slot) (rest : List Value) (q : Nat) (ce : Cell) (lv : List (Nat × Value)),
    zF cl T G N O E own nm bytes nL p s m args meth c → c.exceptionTable.toList = tableOf hh → lv_has ls nL lv → H[q]? = some ce → ce.vm = .none → s.vm.findClass Ex = some ce.cls →
    (∀ ls', lv_has ls' nL (lv.filter (fun q => !(q.1 == x) && !(q.1 + 1 == x && q.2.category == 2))) → W p l e R s m args below meth c H locs cells slots Q (F0 m pc' ls' [])) →
    vx_W p l e R s m args below meth c H locs cells slots Q (F0 m pc ls rest) q
def zNok (w : Cond) : Bool := match w with
  | .fieldLinkNest _ _ _ _ _ _ => true
  | .methodLinkNest _ _ _ _ => true
  | .arrayOver (.object _) => true
  | _ => false
theorem zNw_warm {w : Cond} (hw : zNok w = true) {s U : State} (hW : s.WarmedH U.vm) (h : va_Nw w s) : va_Nw w U := by
  unfold zNok at hw
  split at hw
  · exact va_Nw.warmF hW h
  · exact va_Nw.warmM hW h
  · exact va_AO.moved hW.alike h
  · cases hw
end
section
/-! THE SIMULATION: what the small machine's run comes to, the machine comes to -/
def zOK (cl : List vw_C) (T : List FieldType) (G N : List Cond) (O : Nat → State → Heap → Prop) (E : zE) (yy : Nat → MethodName) (bb : Nat → ByteArray) (nl cc : Nat → Nat) (rt : Nat → Option FieldType) (hh : Nat → List (Nat × Nat × Nat × Nat)) (l : Launch) (μ pc : Nat) (i : zI) : Prop := match i with
  | .inl op => zSnd cl T G N O E (yy μ).cls (yy μ).name (bb μ) (nl μ) pc op
  | .inr (.inl r) => zRetOK r (rt μ) (bb μ) pc
  | .inr (.inr (.inl Ex)) => zThrSnd cl T G N O E (yy μ).cls (yy μ).name (bb μ) (nl μ) pc Ex (hh μ) l
  | .inr (.inr (.inr (μ', n, kd))) => zCallSnd cl T G N O E (yy μ).cls (yy μ).name (bb μ) (nl μ) pc (yy μ') (bb μ') (nl μ') (rt μ') (hh μ') n kd ∧ nl μ' ≤ 12 ∧ plainName (yy μ').cls = true ∧ ((kd ≠ 2 ∧ kd ≠ 3 ∧ kd ≠ 6) → ∃ (Tc : u_T) (Nc : Nat), cl[cc μ']? = some ((yy μ').cls, Tc, Nc))
def zPre (cl : List vw_C) (T : List FieldType) (N : List Cond) (O : Nat → State → Heap → Prop) (E : zE) (h : zH) (vs : List Value) : Array Value → State → Prop :=
  va_Pc (vs.map (zV E)) (fun U => zK cl T E U ∧ (∀ w ∈ N, va_Nw w U) ∧ O (zb E) U U.heap ∧ va_X (zol E 0) (zLs E) (zxs E) U U.heap ∧ (∀ i, zol E i < zb E) ∧ zW cl E h U.heap)
def zQc (cl : List vw_C) (E : zE) (res : Option Value ⊕ String) (h' : zH) : Array Value → State → Outcome → State → Prop := fun _ st oc t => (∃ v, res = .inl v ∧ oc = .returned (v.map (zV E))) ∧ zW cl E h' t.heap ∧ va_F (zA E) st t
def zXc (cl : List vw_C) (E : zE) (res : Option Value ⊕ String) (h' : zH) : String → State → State → Prop := fun Ex st t => res = .inr Ex ∧ zW cl E h' t.heap ∧ va_F (zA E) st t
section ZSIM
variable {cl : List vw_C} {T : List FieldType} {G N : List Cond} {O : Nat → State → Heap → Prop} {E : zE} {yy : Nat → MethodName} {bb : Nat → ByteArray} {nl cc : Nat → Nat} {rt : Nat → Option FieldType} {hh : Nat → List (Nat × Nat × Nat × Nat)} {nh : Nat → Bool} {code : Nat → Nat → Option zI} {hn : Nat → Nat → String → Option (Nat × Nat)} {l : Launch}
/-- what the run from here owes -/
def zGoes (cl : List vw_C) (T : List FieldType) (G N : List Cond) (O : Nat → State → Heap → Prop) (E : zE) (yy : Nat → MethodName) (bb : Nat → ByteArray) (nl cc : Nat → Nat) (hh : Nat → List (Nat × Nat × Nat × Nat)) (nh : Nat → Bool) (code : Nat → Nat → Option zI) (hn : Nat → Nat → String → Option (Nat × Nat)) (l : Launch) (k : Nat) : Prop :=
  ∀ (d μ pc : Nat) (L : zLoc) (st : List Value) (h : zH) (res : Option Value ⊕ String) (h' : zH), zrun nl cc nh code hn k d μ pc L st h = some (res, h') →
    (h.2.2.1 ≤ h'.2.2.1 ∧ h.2.2.2.1 ≤ h'.2.2.2.1) ∧
    ∀ (p : Program) (e : Env) (R : Room) (s : State) (m : MethodId) (args : Array Value) (below : List Frame) (meth : Method) (c : Code) (Q : State → Prop), zF cl T G N O E (yy μ).cls (yy μ).name (bb μ) (nl μ) p s m args meth c → c.exceptionTable.toList = tableOf (hh μ) → d + 1 ≤ R.frames → 31 * d + 40 ≤ R.locals →
    ∀ (n0 S0 : Nat) (H : Heap) (locs : List Loc) (ls : Array Slot), lv_has ls (nl μ) (zLo E L) → zW cl E h H → va_S (zA E) s.heap H locs → n0 ≤ h.2.2.1 → S0 ≤ h.2.2.2.1 → h'.2.2.1 - n0 ≤ R.cells → h'.2.2.2.1 - S0 ≤ R.slots →
    (∀ (v : Option Value), res = .inl v → ∀ (pc' r : Nat) (H' : Heap) (locs' : List Loc) (ls' : Array Slot), code μ pc' = some (.inr (.inl r)) → ((r = 0 ∧ v = none) ∨ (r ≠ 0 ∧ ∃ x, v = some x ∧ zRk r x = true)) → zW cl E h' H' → va_S (zA E) s.heap H' locs' →
      W p l e R s m args below meth c H' locs' (h'.2.2.1 - n0) (h'.2.2.2.1 - S0) Q (F0 m pc' ls' (v.toList.map (zV E)))) →
    (∀ (Ex : String), res = .inr Ex → ∀ (pc' : Nat) (st' : List Value) (h1 : zH) (H' : Heap) (locs' : List Loc) (ls' : Array Slot), code μ pc' = some (.inr (.inr (.inl Ex))) → h' = zdead h1 → 6 ≤ d → n0 ≤ h1.2.2.1 → S0 ≤ h1.2.2.2.1 → zW cl E h1 H' → va_S (zA E) s.heap H' locs' → ls'.size = nl μ → (st'.map fun v => v.category).sum ≤ 8 →
      W p l e R s m args below meth c H' locs' (h1.2.2.1 - n0) (h1.2.2.2.1 - S0) Q (F0 m pc' ls' (st'.map (zV E)))) →
    (∀ (Ex : String), res = .inr Ex → nh μ = true → ∀ (pc' : Nat) (H' : Heap) (locs' : List Loc) (ls' : Array Slot) (rest : List Value) (q : Nat) (ce : Cell), zW cl E h' H' → va_S (zA E) s.heap H' locs' → H'[q]? = some ce → ce.vm = .none → s.vm.findClass Ex = some ce.cls →
      vx_W p l e R s m args below meth c H' locs' (h'.2.2.1 - n0) (h'.2.2.2.1 - S0) Q (F0 m pc' ls' rest) q) →
    W p l e R s m args below meth c H locs (h.2.2.1 - n0) (h.2.2.2.1 - S0) Q (F0 m pc ls (st.map (zV E)))
theorem zlv_args (E : zE) : ∀ (i : Nat) (vs : List Value), lv_args i (vs.map (zV E)) = zLo E (lv_args i vs)
  | _, [] => rfl
  | i, v :: vs => by
    show (i, zV E v) :: lv_args (if (zV E v).category = 2 then i + 2 else i + 1) (vs.map (zV E)) = (i, zV E v) :: zLo E (lv_args (if v.category = 2 then i + 2 else i + 1) vs)
    rw [zV_cat, zlv_args E _ vs]
theorem zlg_len (E : zE) (vs : List Value) : (lg_sl (vs.map (zV E))).length = (lg_sl vs).length := by
  induction vs with
  | nil => rfl
  | cons v vs ih =>
    simp only [lg_sl, List.map_cons, List.flatMap_cons, List.length_append, zV_cat] at ih ⊢
    rw [ih]
    split <;> rfl
theorem zNw_same {w : Cond} (hw : zNok w = true) {u U : State} (hvm : u.vm = U.vm) (h : va_Nw w u) : va_Nw w U := by
  unfold zNok at hw
  split at hw
  · exact va_Nw.same rfl hvm h
  · exact va_Nw.same rfl hvm h
  · exact va_AO.moved (by rw [hvm]; exact Vm.Alike.refl _) h
  · cases hw
theorem zPre_blind (hNk : ∀ w ∈ N, zNok w = true) (hOa : ∀ (b : Nat) (u U : State) (H : Heap), u.vm.Alike U.vm → O b u H → O b U H) (h : zH) (vs : List Value) : FrameBlind (zPre cl T N O E h vs) := by
  intro a U g mk ⟨e, h1, h2, h3, h4, h5, h6⟩
  have ha : U.vm.Alike (U.calling g mk a).vm := Vm.Alike.refl U.vm
  refine ⟨e, h1.moved ha, fun w hw => ?_, ?_, ?_, h5, h6⟩
  · exact zNw_same (u := U) (U := U.calling g mk a) (hNk w hw) rfl (h2 w hw)
  · exact hOa _ U (U.calling g mk a) _ ha h3
  · exact va_X.moved (u := U) (U := U.calling g mk a) ha h4
/-- the frame of a body that has just begun -/
theorem zF_of {μ : Nat} {e : Env} {p : Program} {s : State} {m : MethodId} {args : Array Value} {below : List Frame} {meth : Method} {c : Code} {s₁ : State} {vs : List Value} {h : zH} {rm : Room} (B : BodyLoose p l (yy μ) (headSpec (zcw (yy μ) (bb μ) (nl μ) (rt μ) (hh μ) :: G) rm) (bb μ) (nl μ) (rt μ) e s m args below meth c s₁) (hml : c.maxLocals = nl μ) (hp : zPre cl T N O E h vs args s) :
    zF cl T G N O E (yy μ).cls (yy μ).name (bb μ) (nl μ) p s m args meth c := by
  obtain ⟨e0, h1, h2, h3, h4, h5, h6⟩ := hp
  have hts := atoms_spec (ws := zcw (yy μ) (bb μ) (nl μ) (rt μ) (hh μ) :: G) B.pre
  exact ⟨B.exec, B.bytes, hml, findClass_of_methodNamed B.named, fun w hw => hts w (List.mem_cons_of_mem _ hw), h2, h1, h3, h4, h5, Nat.le_trans (Nat.le_add_right _ _) h6.2.1, B.notSynchronized, (name_of_methodNamed B.named B.method).1⟩
theorem zbody {k d μ : Nat} {vs : List Value} {h : zH} {res : Option Value ⊕ String} {h' : zH} (hnh : ∀ μ, nh μ = true → hh μ = []) (hOK : ∀ μ pc i, code μ pc = some i → zOK cl T G N O E yy bb nl cc rt hh l μ pc i) (ih : zGoes cl T G N O E yy bb nl cc hh nh code hn l k)
    (hr : zrun nl cc nh code hn k d μ 0 (lv_args 0 vs) [] h = some (res, h')) (hlen : (lg_sl vs).length ≤ nl μ)
    {p : Program} {e : Env} {s : State} {m : MethodId} {args : Array Value} {below : List Frame} {meth : Method} {c : Code} {s₁ : State} (B : BodyLoose p l (yy μ) (headSpec (zcw (yy μ) (bb μ) (nl μ) (rt μ) (hh μ) :: G) (zrm d (h'.2.2.1 - h.2.2.1) (h'.2.2.2.1 - h.2.2.2.1))) (bb μ) (nl μ) (rt μ) e s m args below meth c s₁) (hml : c.maxLocals = nl μ) (htab : c.exceptionTable.toList = tableOf (hh μ)) (hp : zPre cl T N O E h vs args s) :
    W p l e (zrm d (h'.2.2.1 - h.2.2.1) (h'.2.2.2.1 - h.2.2.2.1)) s m args below meth c s.heap [] 0 0 (vx_MQ below (zQc cl E res h') (zXc cl E res h') args s (h'.2.2.1 - h.2.2.1) (h'.2.2.2.1 - h.2.2.2.1) (zA E)) (entryFrame m args (nl μ)) := by
  have F := zF_of B hml hp
  have hret := B.returns
  obtain ⟨hargs, -, -, -, -, -, hW⟩ := hp
  obtain ⟨⟨hc1, hc2⟩, hgo⟩ := ih d μ 0 _ _ h res h' hr
  rw [hargs, lg_entry_eq]
  have hl := lv_entry (vs.map (zV E)) (n := nl μ) (by rw [zlg_len]; exact hlen)
  generalize (lg_sl (vs.map (zV E)) ++ List.replicate (nl μ - (lg_sl (vs.map (zV E))).length) Slot.unset).toArray = ls at hl ⊢
  rw [zlv_args] at hl
  rw [← hargs]
  have hS : va_S (zA E) s.heap s.heap [] := va_S.rf
  refine W.cs (cells' := h.2.2.1 - h.2.2.1) (slots' := h.2.2.2.1 - h.2.2.2.1) (Nat.sub_self _).symm (Nat.sub_self _).symm ?_
  refine hgo p e (zrm d (h'.2.2.1 - h.2.2.1) (h'.2.2.2.1 - h.2.2.2.1)) s m args below meth c _ F htab (Nat.le_refl _) (Nat.le_refl _) _ _ s.heap [] ls hl hW hS (Nat.le_refl _) (Nat.le_refl _) (Nat.le_refl _) (Nat.le_refl _) ?_ ?_ ?_
  · intro v hv pc' r H' locs' ls' hcode hk hW' hS'
    have hq : ∀ t : State, t.heap = H' → s.WarmedH t.vm → zQc cl E res h' args s (.returned (v.map (zV E))) t := fun t ht _ => ⟨⟨v, hv, rfl⟩, by rw [ht]; exact hW', hS'.F ht⟩
    have hok : zRetOK r (rt μ) (bb μ) pc' := hOK μ pc' _ hcode
    have hlocks := F.2.2.2.2.2.2.2.2.2.2.2.1
    refine vx_ret ?_
    rcases hk with ⟨rfl, rfl⟩ | ⟨hr0, x, rfl, hx⟩
    · rcases hok with ⟨-, h2, h3⟩ | ⟨h1, -⟩ | ⟨h1, -⟩ | ⟨h1, -⟩ | ⟨h1, -⟩ | ⟨h1, -⟩
      · rw [h2] at hret
        exact W.vret F.1 F.2.1 hret hq hS'.2.2 h3 hlocks
      all_goals exact absurd h1 (by decide)
    · rcases hok with ⟨h1, -⟩ | ⟨rfl, h2, h3⟩ | ⟨rfl, h2, h3⟩ | ⟨rfl, h2, h3⟩ | ⟨rfl, ⟨t, h2, h4⟩, h3⟩ | ⟨rfl, h2, h3⟩
      · exact absurd h1 hr0
      · rw [h2] at hret
        cases x <;> first | cases hx; done | exact W.iret F.1 F.2.1 hret hq hS'.2.2 h3 hlocks
      · rw [h2] at hret
        cases x <;> first | cases hx; done | exact W.lret F.1 F.2.1 hret hq hS'.2.2 h3 hlocks
      · rw [h2] at hret
        cases x <;> first | cases hx; done | exact W.dret F.1 F.2.1 hret hq hS'.2.2 h3 hlocks
      · rw [h2] at hret
        cases x with
        | null => exact W.aret F.1 F.2.1 hret h4 (Or.inl rfl) hq hS'.2.2 h3 hlocks
        | ref a => exact W.aret F.1 F.2.1 hret h4 (Or.inr ⟨_, rfl⟩) hq hS'.2.2 h3 hlocks
        | int => cases hx
        | long => cases hx
        | float => cases hx
        | double => cases hx
        | retAddr => cases hx
      · rw [h2] at hret
        cases x with
        | int x =>
          have h01 : x = 0 ∨ x = 1 := by simpa [zRk] using hx
          refine W.zret F.1 F.2.1 hret ?_ hq hS'.2.2 h3 hlocks
          rcases h01 with rfl | rfl <;> rfl
        | null => cases hx
        | ref => cases hx
        | long => cases hx
        | float => cases hx
        | double => cases hx
        | retAddr => cases hx
  · intro Ex hres pc' st' h1 H' locs' ls' hcode hdead hd6 hn1 hs1 hW1 hS' hsz hsum
    subst hdead
    have hthr : zThrSnd cl T G N O E (yy μ).cls (yy μ).name (bb μ) (nl μ) pc' Ex (hh μ) l := hOK μ pc' _ hcode
    have e1 : (zdead h1).2.2.1 = h1.2.2.1 + 1 := rfl
    have e2 : (zdead h1).2.2.2.1 = h1.2.2.2.1 + 6 := rfl
    refine hthr p e _ s m args below meth c H' locs' _ _ _ _ ls' (st'.map (zV E)) _ _ F htab hS' hsz ?_ ?_ ?_ ?_ ?_ ?_ ?_ ?_
    · rw [List.map_map]
      rw [show ((fun v => Value.category v) ∘ zV E) = fun v => Value.category v from funext fun v => zV_cat E v]
      exact hsum
    · show 7 ≤ d + 1
      omega
    · show 120 ≤ 31 * d + 40
      omega
    · show h1.2.2.1 - h.2.2.1 + 1 ≤ (zdead h1).2.2.1 - h.2.2.1
      rw [e1]; omega
    · show h1.2.2.2.1 - h.2.2.2.1 + 6 ≤ (zdead h1).2.2.2.1 - h.2.2.2.1
      rw [e2]; omega
    · rw [e1]; omega
    · rw [e2]; omega
    · intro t hvm hsz' hk
      refine ⟨hres, ⟨fun j hj => (hW1.1 j hj).kept (hk _ ?_), Nat.le_trans hW1.2.1 hsz', fun hv => by cases hv⟩, ⟨Nat.le_trans hS'.1 hsz', fun q hq1 hq2 => by rw [hk q (Nat.lt_of_lt_of_le hq1 hS'.1)]; exact hS'.2.1 q hq1 hq2⟩⟩
      have := hW1.2.1
      have hj' : j < h1.2.1 := hj
      omega
  · intro Ex hres hnm pc' H' locs' ls' rest q ce hW' hS' hce hcv hcl
    have ht0 : c.exceptionTable.toList = [] := by rw [htab, hnh μ hnm]; rfl
    refine vx_out (fun x hx => by rw [ht0] at hx; cases hx) F.2.2.2.2.2.2.2.2.2.2.2.1 hce hcv hcl (fun t ht _ => ⟨hres, by rw [ht]; exact hW', hS'.F ht⟩) hS'.2.2 (Nat.le_refl _) (Nat.le_refl _)
/-- the contract of a method whose run is known -/
theorem zmet {k d μ : Nat} {vs : List Value} {h : zH} {res : Option Value ⊕ String} {h' : zH} (hnh : ∀ μ, nh μ = true → hh μ = []) (hOK : ∀ μ pc i, code μ pc = some i → zOK cl T G N O E yy bb nl cc rt hh l μ pc i) (ih : zGoes cl T G N O E yy bb nl cc hh nh code hn l k) (hplain : plainName (yy μ).cls = true)
    (hr : zrun nl cc nh code hn k d μ 0 (lv_args 0 vs) [] h = some (res, h')) (hlen : (lg_sl vs).length ≤ nl μ) :
    vx_Met l (yy μ) (zcw (yy μ) (bb μ) (nl μ) (rt μ) (hh μ) :: G) (zrm d (h'.2.2.1 - h.2.2.1) (h'.2.2.2.1 - h.2.2.2.1)) (zPre cl T N O E h vs) (zQc cl E res h') (zXc cl E res h') (h'.2.2.1 - h.2.2.1) (h'.2.2.2.1 - h.2.2.2.1) (zA E) := by
  generalize hx : hh μ = x
  cases x with
  | nil =>
    refine vx_ofW (cc := bb μ) (maxL := nl μ) (ret := rt μ) hplain rfl ?_
    intro p e s m args below meth c s₁ B hml ht hp
    have B' : BodyLoose p l (yy μ) (headSpec (zcw (yy μ) (bb μ) (nl μ) (rt μ) (hh μ) :: G) (zrm d (h'.2.2.1 - h.2.2.1) (h'.2.2.2.1 - h.2.2.2.1))) (bb μ) (nl μ) (rt μ) e s m args below meth c s₁ := by rw [hx]; exact B
    refine zbody hnh hOK ih hr hlen B' hml ?_ hp
    rw [hx]
    exact List.eq_nil_iff_forall_not_mem.mpr fun a ha => ht a ha
  | cons a r =>
    refine vx_ofWH (cc := bb μ) (maxL := nl μ) (ret := rt μ) (hh := a :: r) hplain rfl ?_
    intro p e s m args below meth c s₁ B hml hp
    have B' : BodyLoose p l (yy μ) (headSpec (zcw (yy μ) (bb μ) (nl μ) (rt μ) (hh μ) :: G) (zrm d (h'.2.2.1 - h.2.2.1) (h'.2.2.2.1 - h.2.2.2.1))) (bb μ) (nl μ) (rt μ) e s m args below meth c s₁ := by rw [hx]; exact B
    refine zbody hnh hOK ih hr hlen B' hml ?_ hp
    rw [hx]
    exact vx_table (x := yy μ) B (atoms_spec (ws := Cond.codeWith (yy μ) (bb μ) (nl μ) (rt μ) (a :: r) :: G) B.pre _ List.mem_cons_self)
end ZSIM
end
section
/-! THE SIMULATION, closed by induction on the run's fuel -/
section ZSIM2
variable {cl : List vw_C} {T : List FieldType} {G N : List Cond} {O : Nat → State → Heap → Prop} {E : zE} {yy : Nat → MethodName} {bb : Nat → ByteArray} {nl cc : Nat → Nat} {rt : Nat → Option FieldType} {hh : Nat → List (Nat × Nat × Nat × Nat)} {nh : Nat → Bool} {code : Nat → Nat → Option zI} {hn : Nat → Nat → String → Option (Nat × Nat)} {l : Launch}
theorem zCan_spec {μ n kd : Nat} {st : List Value} {h : zH} (hc : zCan nl cc μ n kd st h = true) : n ≤ st.length ∧ (lg_sl (st.take n).reverse).length ≤ nl μ ∧ ((st.drop n).map fun v => v.category).sum ≤ 8 ∧
    ((kd ≠ 2 ∧ kd ≠ 3 ∧ kd ≠ 6) → ∃ (b : Nat) (As fs : List Value), (st.take n).reverse = .ref b :: As ∧ b < h.2.1 ∧ h.1 b = .inr (cc μ, fs)) := by
  unfold zCan at hc
  simp only [Bool.and_eq_true] at hc
  obtain ⟨⟨⟨h1, h2⟩, h3⟩, h4⟩ := hc
  refine ⟨Nat.le_of_ble_eq_true h1, Nat.le_of_ble_eq_true h2, Nat.le_of_ble_eq_true h3, fun ⟨k1, k2, k3⟩ => ?_⟩
  simp only [Bool.or_eq_true, beq_iff_eq, k1, k2, k3, false_or] at h4
  split at h4
  · rename_i b As hst
    simp only [Bool.and_eq_true] at h4
    obtain ⟨g1, g2⟩ := h4
    split at g2
    · rename_i c fs hh
      have hcc : c = cc μ := by simpa using g2
      subst hcc
      have g1' : b < h.2.1 := Nat.le_of_ble_eq_true g1
      exact ⟨b, As, fs, hst, g1', hh⟩
    · cases g2
  · cases h4
theorem zrev (E : zE) (st : List Value) (n : Nat) : ((st.take n).reverse.map (zV E)).reverse ++ (st.drop n).map (zV E) = st.map (zV E) := by
  rw [List.map_reverse, List.reverse_reverse, ← List.map_append, List.take_append_drop]
theorem zsim (hNk : ∀ w ∈ N, zNok w = true) (hOa : ∀ (b : Nat) (u U : State) (H : Heap), u.vm.Alike U.vm → O b u H → O b U H) (hOk : ∀ (b : Nat) (U : State) (H H1 : Heap), (∀ q : Nat, q < b → q < H.size → H1[q]? = H[q]?) → O b U H → O b U H1)
    (hnh : ∀ μ, nh μ = true → hh μ = []) (hOK : ∀ μ pc i, code μ pc = some i → zOK cl T G N O E yy bb nl cc rt hh l μ pc i) (hhn : ∀ μ pc Ex pc' x, hn μ pc Ex = some (pc', x) → zHndSnd cl T G N O E (yy μ).cls (yy μ).name (bb μ) (nl μ) pc Ex pc' x (hh μ)) :
    ∀ k, zGoes cl T G N O E yy bb nl cc hh nh code hn l k := by
  intro k
  induction k with
  | zero =>
    intro d μ pc L st h res h' hr
    cases hr
  | succ k ih =>
    intro d μ pc L st h res h' hr
    rw [zrun] at hr
    split at hr
    · cases hr
    · -- a step
      rename_i op hcode
      split at hr
      · cases hr
      · rename_i pc1 L1 st1 h1 hop
        obtain ⟨⟨m1, m2⟩, hgo⟩ := ih d μ pc1 L1 st1 h1 res h' hr
        have hsnd : zSnd cl T G N O E (yy μ).cls (yy μ).name (bb μ) (nl μ) pc op := hOK μ pc _ hcode
        obtain ⟨⟨n1, n2⟩, hstep⟩ := hsnd L st h pc1 L1 st1 h1 hop
        refine ⟨⟨Nat.le_trans n1 m1, Nat.le_trans n2 m2⟩, ?_⟩
        intro p e R s m args below meth c Q F htab hR1 hR2 n0 S0 H locs ls hl hW hS hn0 hS0 hcR hsR k1 k2 k3
        refine hstep p l e R s m args below meth c Q F (by omega) (by omega) n0 S0 H locs ls hl hW hS hn0 hS0 (by omega) (by omega) (fun H' locs' ls' hl' hW' hS' => ?_)
        exact hgo p e R s m args below meth c Q F htab hR1 hR2 n0 S0 H' locs' ls' hl' hW' hS' (Nat.le_trans hn0 n1) (Nat.le_trans hS0 n2) hcR hsR k1 k2 k3
    · -- a return
      rename_i r hcode
      have hrr : ∃ v, res = .inl v ∧ h' = h ∧ ((r = 0 ∧ v = none ∧ st = []) ∨ (r ≠ 0 ∧ ∃ x, v = some x ∧ zRk r x = true ∧ st = [x])) := by
        split at hr
        · cases hr
          exact ⟨none, rfl, rfl, Or.inl ⟨rfl, rfl, rfl⟩⟩
        · rename_i r' v
          split at hr
          · rename_i hk
            cases hr
            exact ⟨some v, rfl, rfl, Or.inr ⟨by omega, v, rfl, hk, rfl⟩⟩
          · cases hr
        · cases hr
      obtain ⟨v, rfl, rfl, hv⟩ := hrr
      refine ⟨⟨Nat.le_refl _, Nat.le_refl _⟩, ?_⟩
      intro p e R s m args below meth c Q F htab hR1 hR2 n0 S0 H locs ls hl hW hS hn0 hS0 hcR hsR k1 k2 k3
      rcases hv with ⟨h0, rfl, rfl⟩ | ⟨h0, x, rfl, hx, rfl⟩
      · exact k1 none rfl pc r H locs ls hcode (Or.inl ⟨h0, rfl⟩) hW hS
      · exact k1 (some x) rfl pc r H locs ls hcode (Or.inr ⟨h0, x, rfl, hx⟩) hW hS
    · -- a throw
      rename_i Ex hcode
      split at hr
      · rename_i hg
        cases hr
        simp only [Bool.and_eq_true] at hg
        refine ⟨⟨Nat.le_succ _, Nat.le_add_right _ _⟩, ?_⟩
        intro p e R s m args below meth c Q F htab hR1 hR2 n0 S0 H locs ls hl hW hS hn0 hS0 hcR hsR k1 k2 k3
        exact k2 Ex rfl pc st h H locs ls hcode rfl (Nat.le_of_ble_eq_true hg.1.1) hn0 hS0 hW hS hl.1 (Nat.le_of_ble_eq_true hg.2)
      · cases hr
    · -- a call
      rename_i μ' n kd hcode
      split at hr
      · cases hr
      · rename_i d'
        split at hr
        · rename_i hcan
          obtain ⟨hn1, hlg, hsum, hrecv⟩ := zCan_spec hcan
          have hcall := hOK μ pc _ hcode
          obtain ⟨hcs, hnl12, hplain, hclc⟩ := hcall
          -- the callee's run
          generalize hz : zrun nl cc nh code hn k d' μ' 0 (lv_args 0 (st.take n).reverse) [] h = z at hr
          match z, hz, hr with
          | none, _, hr => cases hr
          | some (res1, h1), hz, hr =>
            have hM := zmet hnh hOK ih hplain hz hlg
            obtain ⟨⟨m1, m2⟩, -⟩ := ih d' μ' 0 _ _ h res1 h1 hz
            have key : ∀ (p : Program) (e : Env) (R : Room) (s : State) (m : MethodId) (args : Array Value) (below : List Frame) (meth : Method) (c : Code), zF cl T G N O E (yy μ).cls (yy μ).name (bb μ) (nl μ) p s m args meth c → d' + 1 + 1 ≤ R.frames → 31 * (d' + 1) + 40 ≤ R.locals →
                ∀ (n0 S0 : Nat) (H : Heap) (locs : List Loc) (ls : Array Slot), ls.size = nl μ → zW cl E h H → va_S (zA E) s.heap H locs → n0 ≤ h.2.2.1 → S0 ≤ h.2.2.2.1 → h1.2.2.1 - n0 ≤ R.cells → h1.2.2.2.1 - S0 ≤ R.slots →
                vx_Run p l e R s m args below meth c H locs (h.2.2.1 - n0) (h.2.2.2.1 - S0) (h1.2.2.1 - h.2.2.1) (h1.2.2.2.1 - h.2.2.2.1) (F0 m pc ls (st.map (zV E))) ((st.drop n).map (zV E)) (zQc cl E res1 h1 ((st.take n).reverse.map (zV E)).toArray) (zXc cl E res1 h1) (zA E) := by
              intro p e R s m args below meth c F hR1 hR2 n0 S0 H locs ls hsz hW hS hn0 hS0 hcR hsR
              have hPc : ∀ U : State, U.heap = H → s.WarmedH U.vm → zPre cl T N O E h (st.take n).reverse ((st.take n).reverse.map (zV E)).toArray U := by
                intro U hU hWm
                refine ⟨rfl, F.2.2.2.2.2.2.1.moved hWm.alike, fun w hw => zNw_warm (hNk w hw) hWm (F.2.2.2.2.2.1 w hw), ?_, ?_, F.2.2.2.2.2.2.2.2.2.1, by rw [hU]; exact hW⟩
                · rw [hU]
                  exact hOa _ s U _ hWm.alike (hOk _ s s.heap H (fun q hq hq2 => hS.2.1 q hq2 (Nat.not_le.mpr hq)) F.2.2.2.2.2.2.2.1)
                · rw [hU]
                  have hb := F.2.2.2.2.2.2.2.2.2.1 0
                  exact va_X.moved hWm.alike (F.2.2.2.2.2.2.2.2.1.kept (hS.2.1 _ (Nat.lt_of_lt_of_le hb F.2.2.2.2.2.2.2.2.2.2.1) (Nat.not_le.mpr hb)))
              have hcat : (((st.drop n).map (zV E)).map fun v => v.category) = (st.drop n).map fun v => v.category := by
                rw [List.map_map]
                exact List.map_congr_left fun v _ => zV_cat E v
              have hrun := hcs p l e R s m args below meth c H locs (h.2.2.1 - n0) (h.2.2.2.1 - S0) (h1.2.2.1 - h.2.2.1) (h1.2.2.2.1 - h.2.2.2.1) d' ls ((st.take n).reverse.map (zV E)) ((st.drop n).map (zV E)) _ _ _ F hM (zPre_blind hNk hOa h _) hPc
                (by rw [List.length_map, List.length_reverse, List.length_take]; omega) hsz (by rw [hcat]; exact hsum) (by omega) (by omega) (by omega) (by omega) (fun hk => by
                  obtain ⟨b, As, fs, q1, q2, q3⟩ := hrecv hk
                  obtain ⟨Tc, Nc, hcl⟩ := hclc hk
                  have hP := hW.1 b q2
                  rw [q3] at hP
                  obtain ⟨r0, g1, cell, g2, g3, g4, -⟩ := hP
                  have hr0 := Option.some.inj (g1.symm.trans hcl)
                  refine ⟨zb E + b, As.map (zV E), cell, by rw [q1]; rfl, g2, by rw [g4]; rfl, ?_⟩
                  rw [g3]
                  exact (F.2.2.2.2.2.2.1.1 _ _ hcl).2.1)
              rw [zrev] at hrun
              exact hrun
            have keepS : ∀ {s st₀ t T' : State} {H : Heap} {locs L0 : List Loc}, st₀.heap = H → T'.heap = t.heap → va_S (zA E) s.heap H locs → (∀ q ∈ L0, zA E q.base) → va_F (zA E) st₀ t → va_S (zA E) s.heap T'.heap (locs ++ L0) := by
              intro s st₀ t T' H locs L0 h0 e1 hS hL hF
              exact (vx_keep h0 e1 hS (fun _ _ hq => hq) (fun _ hq => hq) hL hF).2.2
            match res1, hz, hM, hr with
            | .inl v, hz, hM, hr =>
              have hr : zrun nl cc nh code hn k (d' + 1) μ (pc + 3) L (v.toList ++ st.drop n) h1 = some (res, h') := hr
              obtain ⟨⟨k1', k2'⟩, hgo⟩ := ih (d' + 1) μ (pc + 3) L _ h1 res h' hr
              refine ⟨⟨Nat.le_trans m1 k1', Nat.le_trans m2 k2'⟩, ?_⟩
              intro p e R s m args below meth c Q F htab hR1 hR2 n0 S0 H locs ls hl hW hS hn0 hS0 hcR hsR k1 k2 k3
              intro T0 hT X
              rcases key p e R s m args below meth c F hR1 hR2 n0 S0 H locs ls hl.1 hW hS hn0 hS0 (by omega) (by omega) T0 hT X with ⟨w, st₀, t, T', L0, h0, X', hL, e1, e2, ⟨⟨v2, hv2, hoc⟩, hW1, hF⟩, st1⟩ | ⟨q, st₀, t, T', L0, Ex, ce, h0, X', hL, e1, e2, ⟨hbad, -, -⟩, -⟩
              · cases hv2
                have hw : w = v.map (zV E) := by cases hoc; rfl
                subst hw
                have q1 : h.2.2.1 - n0 + (h1.2.2.1 - h.2.2.1) = h1.2.2.1 - n0 := by omega
                have q2 : h.2.2.2.1 - S0 + (h1.2.2.2.1 - h.2.2.2.1) = h1.2.2.2.1 - S0 := by omega
                rw [q1, q2] at X'
                have hst : (v.map (zV E)).toList ++ (st.drop n).map (zV E) = (v.toList ++ st.drop n).map (zV E) := by
                  rw [List.map_append]
                  cases v <;> rfl
                rw [hst] at st1
                obtain ⟨t2, a1, b1⟩ := hgo p e R s m args below meth c Q F htab hR1 hR2 n0 S0 T'.heap (locs ++ L0) ls hl (by rw [e1]; exact hW1) (keepS h0 e1 hS hL hF) (by omega) (by omega) hcR hsR k1 k2 k3 T' rfl X'
                exact ⟨t2, st1 t2 a1, b1⟩
              · cases hbad
            | .inr Ex, hz, hM, hr =>
              have hr : (match hn μ pc Ex with
                | some (pc', x) => zrun nl cc nh code hn k (d' + 1) μ pc' (zF1 x L) [] h1
                | none => if nh μ = true then some (.inr Ex, h1) else none) = some (res, h') := hr
              split at hr
              · rename_i pc' x hhx
                obtain ⟨⟨k1', k2'⟩, hgo⟩ := ih (d' + 1) μ pc' _ _ h1 res h' hr
                refine ⟨⟨Nat.le_trans m1 k1', Nat.le_trans m2 k2'⟩, ?_⟩
                intro p e R s m args below meth c Q F htab hR1 hR2 n0 S0 H locs ls hl hW hS hn0 hS0 hcR hsR k1 k2 k3
                intro T0 hT X
                rcases key p e R s m args below meth c F hR1 hR2 n0 S0 H locs ls hl.1 hW hS hn0 hS0 (by omega) (by omega) T0 hT X with ⟨w, st₀, t, T', L0, h0, X', hL, e1, e2, ⟨⟨v2, hbad, -⟩, -, -⟩, st1⟩ | ⟨q, st₀, t, T', L0, Ex2, ce, h0, X', hL, e1, e2, ⟨hx2, hW1, hF⟩, hce, hcv, hcl, st1⟩
                · cases hbad
                · cases hx2
                  have q1 : h.2.2.1 - n0 + (h1.2.2.1 - h.2.2.1) = h1.2.2.1 - n0 := by omega
                  have q2 : h.2.2.2.1 - S0 + (h1.2.2.2.1 - h.2.2.2.1) = h1.2.2.2.1 - S0 := by omega
                  rw [q1, q2] at X'
                  have hHn := hhn μ pc Ex pc' x hhx p l e R s m args below meth c Q T'.heap (locs ++ L0) (h1.2.2.1 - n0) (h1.2.2.2.1 - S0) ls ((st.drop n).map (zV E)) q ce (zLo E L) F htab hl (by rw [e1]; exact hce) hcv hcl (fun ls' hl' => by
                    rw [zLo_filter] at hl'
                    exact hgo p e R s m args below meth c Q F htab hR1 hR2 n0 S0 T'.heap (locs ++ L0) ls' hl' (by rw [e1]; exact hW1) (keepS h0 e1 hS hL hF) (by omega) (by omega) hcR hsR k1 k2 k3)
                  obtain ⟨t2, a1, b1⟩ := hHn T' rfl X'
                  exact ⟨t2, st1.trans a1, b1⟩
              · split at hr
                · rename_i hnm
                  cases hr
                  refine ⟨⟨m1, m2⟩, ?_⟩
                  intro p e R s m args below meth c Q F htab hR1 hR2 n0 S0 H locs ls hl hW hS hn0 hS0 hcR hsR k1 k2 k3
                  intro T0 hT X
                  rcases key p e R s m args below meth c F hR1 hR2 n0 S0 H locs ls hl.1 hW hS hn0 hS0 (by omega) (by omega) T0 hT X with ⟨w, st₀, t, T', L0, h0, X', hL, e1, e2, ⟨⟨v2, hbad, -⟩, -, -⟩, st1⟩ | ⟨q, st₀, t, T', L0, Ex2, ce, h0, X', hL, e1, e2, ⟨hx2, hW1, hF⟩, hce, hcv, hcl, st1⟩
                  · cases hbad
                  · cases hx2
                    have q1 : h.2.2.1 - n0 + (h'.2.2.1 - h.2.2.1) = h'.2.2.1 - n0 := by omega
                    have q2 : h.2.2.2.1 - S0 + (h'.2.2.2.1 - h.2.2.2.1) = h'.2.2.2.1 - S0 := by omega
                    rw [q1, q2] at X'
                    obtain ⟨t2, a1, b1⟩ := k3 Ex rfl hnm pc T'.heap (locs ++ L0) ls ((st.drop n).map (zV E)) q ce (by rw [e1]; exact hW1) (keepS h0 e1 hS hL hF) (by rw [e1]; exact hce) hcv hcl T' rfl X'
                    exact ⟨t2, st1.trans a1, b1⟩
                · cases hr
        · cases hr
end ZSIM2
end
section
/-! CALLS, by their kinds: 0 virtual, 1 virtual of a nest mate, 2 static, 3 static of a nest mate, 4 a constructor, 5 a nest mate's, 6 static with handlers -/
section ZCALLS
variable {cl : List vw_C} {T : List FieldType} {G N : List Cond} {O : Nat → State → Heap → Prop} {E : zE} {own nm : String} {bytes : ByteArray} {nL pc : Nat} {y : MethodName} {b : ByteArray} {n' : Nat} {rt : Option FieldType}
theorem zgood (hG : ∀ w ∈ G, goodWord w = true) {w0 : Cond} (h0 : w0 ∈ G) : GoodIn G (w0 :: G) := by
  intro w hw
  rcases List.mem_cons.mp hw with rfl | h
  · exact ⟨h0, good_of_word (hG _ h0)⟩
  · exact ⟨h, good_of_word (hG _ h)⟩
theorem zapp_ref (As : List Value) (b0 : Nat) (rest : List Value) : (Value.ref b0 :: As).reverse ++ rest = As.reverse ++ .ref b0 :: rest := by simp
theorem zcs0 {i n : Nat} (hG : ∀ w ∈ G, goodWord w = true) (hcode : Cond.code y b n' rt ∈ G) (hini : Cond.initialized y.cls ∈ G) (hlink : Cond.methodLink own i y ∈ G) (hinst : Cond.instanceMethod y ∈ G) (hsel : Cond.selects y.cls y y ∈ G) (hd1 : y.cls ≠ "java/lang/invoke/MethodHandle" ∧ y.cls ≠ "java/lang/invoke/VarHandle" ∧ (parseMethodDescriptor y.desc).map (fun d => d.parameters.length) = some n)
    (hd : decode bytes pc = .ok (.invokevirtual i, 3)) : zCallSnd cl T G N O E own nm bytes nL pc y b n' rt [] (n + 1) 0 := by
  intro p l e R s m args below meth c H locs cells slots mc ms d ls vs rest Pc Qc XC F hM hbl hPc hlen hsz hsum hRf hRl hRc hRs hrecv
  obtain ⟨b0, As, cellB, rfl, hc1, hc2, hc3⟩ := hrecv ⟨by decide, by decide, by decide⟩
  rw [zapp_ref]
  exact vx_runV (Ts := G) ⟨F.1, F.2.1, F.2.2.1, F.2.2.2.1, F.2.2.2.2.1⟩ hM ⟨callB_of n F.2.2.2.2.1 (zgood hG hcode) rfl rfl rfl (F.2.2.2.2.1 _ hini) (F.2.2.2.2.1 _ hlink) hd1 ⟨hRf, hRl⟩, F.2.2.2.2.1 _ hinst, F.2.2.2.2.1 _ hsel⟩ ⟨hbl, ⟨cellB, hc1, hc2, hc3⟩, hPc⟩ rfl (Nat.succ.inj hlen) hsz rfl (lv_room hsum) hd ⟨hRc, hRs⟩
theorem zcs1 {i n : Nat} {host : String} (hG : ∀ w ∈ G, goodWord w = true) (hcode : Cond.code y b n' rt ∈ G) (hini : Cond.initialized y.cls ∈ G) (hlink : Cond.methodLinkNest own i y host ∈ N) (hinst : Cond.instanceMethod y ∈ G) (hsel : Cond.selects y.cls y y ∈ G) (hd1 : y.cls ≠ "java/lang/invoke/MethodHandle" ∧ y.cls ≠ "java/lang/invoke/VarHandle" ∧ (parseMethodDescriptor y.desc).map (fun d => d.parameters.length) = some n)
    (hd : decode bytes pc = .ok (.invokevirtual i, 3)) : zCallSnd cl T G N O E own nm bytes nL pc y b n' rt [] (n + 1) 1 := by
  intro p l e R s m args below meth c H locs cells slots mc ms d ls vs rest Pc Qc XC F hM hbl hPc hlen hsz hsum hRf hRl hRc hRs hrecv
  obtain ⟨b0, As, cellB, rfl, hc1, hc2, hc3⟩ := hrecv ⟨by decide, by decide, by decide⟩
  rw [zapp_ref]
  exact vx_runVN (Ts := G) ⟨F.1, F.2.1, F.2.2.1, F.2.2.2.1, F.2.2.2.2.1⟩ hM ⟨va_cnB n F.2.2.2.2.1 (zgood hG hcode) rfl rfl rfl (F.2.2.2.2.2.1 _ hlink) (F.2.2.2.2.1 _ hini) hd1 ⟨hRf, hRl⟩, F.2.2.2.2.1 _ hinst, F.2.2.2.2.1 _ hsel⟩ ⟨hbl, ⟨cellB, hc1, hc2, hc3⟩, hPc⟩ rfl (Nat.succ.inj hlen) hsz rfl (lv_room hsum) hd ⟨hRc, hRs⟩
theorem zcs2 {i n : Nat} (hG : ∀ w ∈ G, goodWord w = true) (hcode : Cond.code y b n' rt ∈ G) (hini : Cond.initialized y.cls ∈ G) (hlink : Cond.methodLink own i y ∈ G) (hst : Cond.static y ∈ G) (hd1 : y.cls ≠ "java/lang/invoke/MethodHandle" ∧ y.cls ≠ "java/lang/invoke/VarHandle" ∧ (parseMethodDescriptor y.desc).map (fun d => d.parameters.length) = some n)
    (hd : decode bytes pc = .ok (.invokestatic i, 3)) : zCallSnd cl T G N O E own nm bytes nL pc y b n' rt [] n 2 := by
  intro p l e R s m args below meth c H locs cells slots mc ms d ls vs rest Pc Qc XC F hM hbl hPc hlen hsz hsum hRf hRl hRc hRs hrecv
  exact vx_runS (Ts := G) ⟨F.1, F.2.1, F.2.2.1, F.2.2.2.1, F.2.2.2.2.1⟩ hM ⟨callB_of n F.2.2.2.2.1 (zgood hG hcode) rfl rfl rfl (F.2.2.2.2.1 _ hini) (F.2.2.2.2.1 _ hlink) hd1 ⟨hRf, hRl⟩, F.2.2.2.2.1 _ hst⟩ ⟨hbl, hPc⟩ rfl hlen hsz rfl (lv_room hsum) hd ⟨hRc, hRs⟩
theorem zcs3 {i n : Nat} {host : String} (hG : ∀ w ∈ G, goodWord w = true) (hcode : Cond.code y b n' rt ∈ G) (hini : Cond.initialized y.cls ∈ G) (hlink : Cond.methodLinkNest own i y host ∈ N) (hst : Cond.static y ∈ G) (hd1 : y.cls ≠ "java/lang/invoke/MethodHandle" ∧ y.cls ≠ "java/lang/invoke/VarHandle" ∧ (parseMethodDescriptor y.desc).map (fun d => d.parameters.length) = some n)
    (hd : decode bytes pc = .ok (.invokestatic i, 3)) : zCallSnd cl T G N O E own nm bytes nL pc y b n' rt [] n 3 := by
  intro p l e R s m args below meth c H locs cells slots mc ms d ls vs rest Pc Qc XC F hM hbl hPc hlen hsz hsum hRf hRl hRc hRs hrecv
  exact vx_runSN (Ts := G) ⟨F.1, F.2.1, F.2.2.1, F.2.2.2.1, F.2.2.2.2.1⟩ hM ⟨va_cnB n F.2.2.2.2.1 (zgood hG hcode) rfl rfl rfl (F.2.2.2.2.2.1 _ hlink) (F.2.2.2.2.1 _ hini) hd1 ⟨hRf, hRl⟩, F.2.2.2.2.1 _ hst, trivial⟩ ⟨hbl, hPc⟩ rfl hlen hsz rfl (lv_room hsum) hd ⟨hRc, hRs⟩
theorem zcs4 {i n : Nat} (hG : ∀ w ∈ G, goodWord w = true) (hcode : Cond.code y b n' none ∈ G) (hini : Cond.initialized y.cls ∈ G) (hlink : Cond.methodLink own i y ∈ G) (hinst : Cond.instanceMethod y ∈ G) (hname : y.name = "<init>") (hd1 : y.cls ≠ "java/lang/invoke/MethodHandle" ∧ y.cls ≠ "java/lang/invoke/VarHandle" ∧ (parseMethodDescriptor y.desc).map (fun d => d.parameters.length) = some n)
    (hd : decode bytes pc = .ok (.invokespecial i, 3)) : zCallSnd cl T G N O E own nm bytes nL pc y b n' none [] (n + 1) 4 := by
  intro p l e R s m args below meth c H locs cells slots mc ms d ls vs rest Pc Qc XC F hM hbl hPc hlen hsz hsum hRf hRl hRc hRs hrecv
  obtain ⟨b0, As, cellB, rfl, hc1, hc2, hc3⟩ := hrecv ⟨by decide, by decide, by decide⟩
  rw [zapp_ref]
  exact vx_runI (Ts := G) ⟨F.1, F.2.1, F.2.2.1, F.2.2.2.1, F.2.2.2.2.1⟩ hM ⟨callB_of n F.2.2.2.2.1 (zgood hG hcode) rfl rfl rfl (F.2.2.2.2.1 _ hini) (F.2.2.2.2.1 _ hlink) hd1 ⟨hRf, hRl⟩, hname, F.2.2.2.2.1 _ hinst⟩ ⟨hbl, hPc⟩ rfl (Nat.succ.inj hlen) hsz rfl (lv_room hsum) hd ⟨hRc, hRs⟩
theorem zcs5 {i n : Nat} {host : String} (hG : ∀ w ∈ G, goodWord w = true) (hcode : Cond.code y b n' none ∈ G) (hini : Cond.initialized y.cls ∈ G) (hlink : Cond.methodLinkNest own i y host ∈ N) (hinst : Cond.instanceMethod y ∈ G) (hname : y.name = "<init>") (hd1 : y.cls ≠ "java/lang/invoke/MethodHandle" ∧ y.cls ≠ "java/lang/invoke/VarHandle" ∧ (parseMethodDescriptor y.desc).map (fun d => d.parameters.length) = some n)
    (hd : decode bytes pc = .ok (.invokespecial i, 3)) : zCallSnd cl T G N O E own nm bytes nL pc y b n' none [] (n + 1) 5 := by
  intro p l e R s m args below meth c H locs cells slots mc ms d ls vs rest Pc Qc XC F hM hbl hPc hlen hsz hsum hRf hRl hRc hRs hrecv
  obtain ⟨b0, As, cellB, rfl, hc1, hc2, hc3⟩ := hrecv ⟨by decide, by decide, by decide⟩
  rw [zapp_ref]
  exact vx_runIN (Ts := G) ⟨F.1, F.2.1, F.2.2.1, F.2.2.2.1, F.2.2.2.2.1⟩ hM ⟨va_cnB n F.2.2.2.2.1 (zgood hG hcode) rfl rfl rfl (F.2.2.2.2.2.1 _ hlink) (F.2.2.2.2.1 _ hini) hd1 ⟨hRf, hRl⟩, hname, F.2.2.2.2.1 _ hinst⟩ ⟨hbl, hPc⟩ rfl (Nat.succ.inj hlen) hsz rfl (lv_room hsum) hd ⟨hRc, hRs⟩
theorem zcs6 {i n : Nat} {h0 : Nat × Nat × Nat × Nat} {hr : List (Nat × Nat × Nat × Nat)} (hG : ∀ w ∈ G, goodWord w = true) (hcode : Cond.codeWith y b n' rt (h0 :: hr) ∈ G) (hini : Cond.initialized y.cls ∈ G) (hlink : Cond.methodLink own i y ∈ G) (hst : Cond.static y ∈ G) (hd1 : y.cls ≠ "java/lang/invoke/MethodHandle" ∧ y.cls ≠ "java/lang/invoke/VarHandle" ∧ (parseMethodDescriptor y.desc).map (fun d => d.parameters.length) = some n)
    (hd : decode bytes pc = .ok (.invokestatic i, 3)) : zCallSnd cl T G N O E own nm bytes nL pc y b n' rt (h0 :: hr) n 6 := by
  intro p l e R s m args below meth c H locs cells slots mc ms d ls vs rest Pc Qc XC F hM hbl hPc hlen hsz hsum hRf hRl hRc hRs hrecv
  have hcw : vx_CSW R s args own i y b n' rt (h0 :: hr) (zcw y b n' rt (h0 :: hr) :: G) (zrm d mc ms) mc ms n := by
    have hg := zgood hG hcode
    refine ⟨⟨rfl, rfl, hRf, hRl, pay_in F.2.2.2.2.1 hg, List.mem_cons_self⟩, F.2.2.2.2.1 _ hcode, F.2.2.2.2.1 _ hini, ⟨hd1.1, hd1.2.1⟩, fun sig h => ?_, F.2.2.2.2.1 _ hlink, F.2.2.2.2.1 _ hst⟩
    have h2 := hd1.2.2
    rw [h] at h2
    exact (Option.some.inj h2).symm
  exact vx_runSX (Ts := G) ⟨F.1, F.2.1, F.2.2.1, F.2.2.2.1, F.2.2.2.2.1⟩ hM hcw ⟨hbl, hPc⟩ rfl hlen hsz rfl (lv_room hsum) hd ⟨hRc, hRs⟩
end ZCALLS
end
section
/-! Math.min, max, abs of ints, as steps -/
section ZMATH
variable {cl : List vw_C} {T : List FieldType} {G N : List Cond} {O : Nat → State → Heap → Prop} {E : zE} {own nm : String} {bytes : ByteArray} {nL pc : Nat}
theorem zsnd3 {f : List Value → zH → Option (Nat × List Value)} (hf : ∀ (st : List Value) (h : zH) (pc' : Nat) (st' : List Value), f st h = some (pc', st') → ∀ (p : Program) (l : Launch) (e : Env) (R : Room) (s : State) (m : MethodId) (args : Array Value) (below : List Frame) (meth : Method) (c : Code) (Q : State → Prop) (H : Heap) (locs : List Loc) (cells slots : Nat) (ls : Array Slot), zF cl T G N O E own nm bytes nL p s m args meth c → 1 ≤ R.frames → 40 ≤ R.locals → ls.size = nL → cells ≤ R.cells → slots ≤ R.slots →
      W p l e R s m args below meth c H locs cells slots Q (F0 m pc' ls (st'.map (zV E))) → W p l e R s m args below meth c H locs cells slots Q (F0 m pc ls (st.map (zV E)))) : zSnd cl T G N O E own nm bytes nL pc (zS2 f) := by
  intro L st h pc' L' st' h' hop
  simp only [zS2] at hop
  split at hop
  · rename_i a b heq
    cases hop
    refine ⟨⟨Nat.le_refl _, Nat.le_refl _⟩, ?_⟩
    intro p l e R s m args below meth c Q F hr1 hr2 n0 S0 H locs ls hl hW hS _ _ hc hs k
    exact hf _ _ _ _ heq p l e R s m args below meth c Q H locs _ _ ls F hr1 hr2 hl.1 hc hs (k H locs ls hl hW hS)
  · cases hop
abbrev zMax (pc' : Nat) : List Value → zH → Option (Nat × List Value) := fun st _ => match st with
  | .int y :: .int x :: r => if (r.map fun v => v.category).sum ≤ 8 then some (pc', .int (if x < y then y else x) :: r) else none
  | _ => none
abbrev zMin (pc' : Nat) : List Value → zH → Option (Nat × List Value) := fun st _ => match st with
  | .int y :: .int x :: r => if (r.map fun v => v.category).sum ≤ 8 then some (pc', .int (if y < x then y else x) :: r) else none
  | _ => none
abbrev zAbs (pc' : Nat) : List Value → zH → Option (Nat × List Value) := fun st _ => match st with
  | .int x :: r => if (r.map fun v => v.category).sum ≤ 8 then some (pc', .int (if 0 ≤ x then x else 0 - x) :: r) else none
  | _ => none
theorem zcats (E : zE) (r : List Value) : ((r.map (zV E)).map fun v => v.category) = r.map fun v => v.category := by
  rw [List.map_map]
  exact List.map_congr_left fun v _ => zV_cat E v
theorem zs_max {i : Nat} (h1 : Cond.methodLink own i Lib.Math.max.name ∈ G) (h2 : Cond.static Lib.Math.max.name ∈ G) (h3 : Cond.initialized "java/lang/Math" ∈ G) (h4 : Cond.code Lib.Math.max.name Lib.Math.max.code 2 (some .int) ∈ G) (hd : decode bytes pc = .ok (.invokestatic i, 3)) : zSnd cl T G N O E own nm bytes nL pc (zS2 (zMax (pc + 3))) :=
  zsnd3 fun st h pc1 st1 hg p l e R s m args below meth c Q H locs cells slots ls F hr1 hr2 hsz hc hs k => by
    simp only [zMax] at hg
    split at hg
    · split at hg
      · rename_i hsum
        cases hg
        exact va_mmax F.1 F.2.1 (F.2.2.1.trans hsz.symm) F.2.2.2.1 (F.2.2.2.2.1 _ h1) (F.2.2.2.2.1 _ h2) (F.2.2.2.2.1 _ h3) (F.2.2.2.2.1 _ h4) hr1 (by rw [zcats]; omega) hc hs hd k
      · cases hg
    · cases hg
theorem zs_min {i : Nat} (h1 : Cond.methodLink own i Lib.Math.min.name ∈ G) (h2 : Cond.static Lib.Math.min.name ∈ G) (h3 : Cond.initialized "java/lang/Math" ∈ G) (h4 : Cond.code Lib.Math.min.name Lib.Math.min.code 2 (some .int) ∈ G) (hd : decode bytes pc = .ok (.invokestatic i, 3)) : zSnd cl T G N O E own nm bytes nL pc (zS2 (zMin (pc + 3))) :=
  zsnd3 fun st h pc1 st1 hg p l e R s m args below meth c Q H locs cells slots ls F hr1 hr2 hsz hc hs k => by
    simp only [zMin] at hg
    split at hg
    · split at hg
      · rename_i hsum
        cases hg
        exact va_mmin F.1 F.2.1 (F.2.2.1.trans hsz.symm) F.2.2.2.1 (F.2.2.2.2.1 _ h1) (F.2.2.2.2.1 _ h2) (F.2.2.2.2.1 _ h3) (F.2.2.2.2.1 _ h4) hr1 (by rw [zcats]; omega) hc hs hd k
      · cases hg
    · cases hg
theorem zs_abs {i : Nat} (h1 : Cond.methodLink own i Lib.Math.abs.name ∈ G) (h2 : Cond.static Lib.Math.abs.name ∈ G) (h3 : Cond.initialized "java/lang/Math" ∈ G) (h4 : Cond.code Lib.Math.abs.name Lib.Math.abs.code 1 (some .int) ∈ G) (hd : decode bytes pc = .ok (.invokestatic i, 3)) : zSnd cl T G N O E own nm bytes nL pc (zS2 (zAbs (pc + 3))) :=
  zsnd3 fun st h pc1 st1 hg p l e R s m args below meth c Q H locs cells slots ls F hr1 hr2 hsz hc hs k => by
    simp only [zAbs] at hg
    split at hg
    · split at hg
      · rename_i hsum
        cases hg
        exact va_mabs F.1 F.2.1 (F.2.2.1.trans hsz.symm) F.2.2.2.1 (F.2.2.2.2.1 _ h1) (F.2.2.2.2.1 _ h2) (F.2.2.2.2.1 _ h3) (F.2.2.2.2.1 _ h4) hr1 (by rw [zcats]; omega) hc hs hd k
      · cases hg
    · cases hg
end ZMATH
end
section
/-! ===== BEGIN printed: names, fields, word lists, decode rows ===== -/
def RX0 : String := "Creasebook$Form"
def TX0 : u_T := fun k => match k with
  | 0 => ("Creasebook$Form", "cells", "I", false)
  | 1 => ("Creasebook$Form", "columns", "I", false)
  | 2 => ("Creasebook$Form", "rows", "I", false)
  | 3 => ("Creasebook$Form", "column", "[I", true)
  | 4 => ("Creasebook$Form", "row", "[I", true)
  | 5 => ("Creasebook$Form", "layer", "[I", true)
  | 6 => ("Creasebook$Form", "isUp", "[Z", true)
  | _ => ("Creasebook$Form", "height", "[I", true)
def tyX0 : Nat → FieldType := fun k => match k with
  | 0 => .int
  | 1 => .int
  | 2 => .int
  | 3 => .array .int
  | 4 => .array .int
  | 5 => .array .int
  | 6 => .array .boolean
  | _ => .array .int
abbrev wsX00 : List Cond := u_ws RX0 TX0 8
theorem nmX0 : ∀ a, a < 8 → ∀ b, b < 8 → a ≠ b → (TX0 a).2.1 ≠ (TX0 b).2.1 := by decide +kernel
theorem tyX0_ok : ∀ k, k < 8 → parseFieldDescriptor (TX0 k).2.2.1 = some (tyX0 k) := by decide +kernel
abbrev cX0_init : ByteArray := prog_2_method_1_code
def yX0_init : MethodName := ⟨RX0, "<init>", "()V"⟩
abbrev cX0_spread : ByteArray := prog_2_method_2_code
def yX0_spread : MethodName := ⟨RX0, "spread", "(II)V"⟩
abbrev cX0_copyFrom : ByteArray := prog_2_method_3_code
def yX0_copyFrom : MethodName := ⟨RX0, "copyFrom", "(LCreasebook$Form;)V"⟩
abbrev cX0_becomeFolded : ByteArray := prog_2_method_4_code
def yX0_becomeFolded : MethodName := ⟨RX0, "becomeFolded", "(LCreasebook$Form;I)V"⟩
abbrev cX0_layerBehind : ByteArray := prog_2_method_5_code
def yX0_layerBehind : MethodName := ⟨RX0, "layerBehind", "(II)I"⟩
abbrev cX0_turnOver : ByteArray := prog_2_method_6_code
def yX0_turnOver : MethodName := ⟨RX0, "turnOver", "()V"⟩
abbrev cX0_turnRound : ByteArray := prog_2_method_7_code
def yX0_turnRound : MethodName := ⟨RX0, "turnRound", "()V"⟩
abbrev cX0_measurePiles : ByteArray := prog_2_method_8_code
def yX0_measurePiles : MethodName := ⟨RX0, "measurePiles", "()V"⟩
abbrev cX0_places : ByteArray := prog_2_method_9_code
def yX0_places : MethodName := ⟨RX0, "places", "()I"⟩
abbrev cX0_hasPlace : ByteArray := prog_2_method_10_code
def yX0_hasPlace : MethodName := ⟨RX0, "hasPlace", "(II)Z"⟩
abbrev cX0_hasLine : ByteArray := prog_2_method_11_code
def yX0_hasLine : MethodName := ⟨RX0, "hasLine", "(II)Z"⟩
abbrev cX0_heightAt : ByteArray := prog_2_method_12_code
def yX0_heightAt : MethodName := ⟨RX0, "heightAt", "(II)I"⟩
abbrev cX0_liesAt : ByteArray := prog_2_method_13_code
def yX0_liesAt : MethodName := ⟨RX0, "liesAt", "(III)Z"⟩
abbrev cX0_cellAt : ByteArray := prog_2_method_14_code
def yX0_cellAt : MethodName := ⟨RX0, "cellAt", "(III)I"⟩
abbrev cX0_highestAt : ByteArray := prog_2_method_15_code
def yX0_highestAt : MethodName := ⟨RX0, "highestAt", "(II)I"⟩
abbrev cX0_layerFromAbove : ByteArray := prog_2_method_16_code
def yX0_layerFromAbove : MethodName := ⟨RX0, "layerFromAbove", "(I)I"⟩
abbrev cX0_isOutermost : ByteArray := prog_2_method_17_code
def yX0_isOutermost : MethodName := ⟨RX0, "isOutermost", "(IZ)Z"⟩
abbrev cX0_isFrontUp : ByteArray := prog_2_method_18_code
def yX0_isFrontUp : MethodName := ⟨RX0, "isFrontUp", "(I)Z"⟩
abbrev cX0_isJustUpon : ByteArray := prog_2_method_19_code
def yX0_isJustUpon : MethodName := ⟨RX0, "isJustUpon", "(II)Z"⟩
abbrev cX0_goes : ByteArray := prog_2_method_20_code
def yX0_goes : MethodName := ⟨RX0, "goes", "(II)Z"⟩
abbrev cX0_mirroredColumn : ByteArray := prog_2_method_21_code
def yX0_mirroredColumn : MethodName := ⟨RX0, "mirroredColumn", "(II)I"⟩
abbrev cX0_mirroredRow : ByteArray := prog_2_method_22_code
def yX0_mirroredRow : MethodName := ⟨RX0, "mirroredRow", "(II)I"⟩
abbrev cX0_isLineBetween : ByteArray := prog_2_method_23_code
def yX0_isLineBetween : MethodName := ⟨RX0, "isLineBetween", "(III)Z"⟩
abbrev cX0_highestPile : ByteArray := prog_2_method_24_code
def yX0_highestPile : MethodName := ⟨RX0, "highestPile", "()I"⟩
abbrev cX0_frontsSeenFromAbove : ByteArray := prog_2_method_25_code
def yX0_frontsSeenFromAbove : MethodName := ⟨RX0, "frontsSeenFromAbove", "()I"⟩
abbrev cX0_frontsSeenFromBelow : ByteArray := prog_2_method_26_code
def yX0_frontsSeenFromBelow : MethodName := ⟨RX0, "frontsSeenFromBelow", "()I"⟩
def RX1 : String := "Creasebook$Paper"
def TX1 : u_T := fun k => match k with
  | 0 => ("Creasebook$Paper", "wide", "I", false)
  | 1 => ("Creasebook$Paper", "high", "I", false)
  | 2 => ("Creasebook$Paper", "cells", "I", false)
  | 3 => ("Creasebook$Paper", "crease", "[I", true)
  | 4 => ("Creasebook$Paper", "creasedBy", "[I", true)
  | 5 => ("Creasebook$Paper", "marks", "[I", true)
  | 6 => ("Creasebook$Paper", "ink", "[I", true)
  | 7 => ("Creasebook$Paper", "holes", "[I", true)
  | _ => ("Creasebook$Paper", "glued", "[I", true)
def tyX1 : Nat → FieldType := fun k => match k with
  | 0 => .int
  | 1 => .int
  | 2 => .int
  | 3 => .array .int
  | 4 => .array .int
  | 5 => .array .int
  | 6 => .array .int
  | 7 => .array .int
  | _ => .array .int
abbrev wsX10 : List Cond := u_ws RX1 TX1 9
theorem nmX1 : ∀ a, a < 9 → ∀ b, b < 9 → a ≠ b → (TX1 a).2.1 ≠ (TX1 b).2.1 := by decide +kernel
theorem tyX1_ok : ∀ k, k < 9 → parseFieldDescriptor (TX1 k).2.2.1 = some (tyX1 k) := by decide +kernel
abbrev cX1_init : ByteArray := prog_3_method_1_code
def yX1_init : MethodName := ⟨RX1, "<init>", "()V"⟩
abbrev cX1_renew : ByteArray := prog_3_method_2_code
def yX1_renew : MethodName := ⟨RX1, "renew", "(II)V"⟩
abbrev cX1_hasCell : ByteArray := prog_3_method_3_code
def yX1_hasCell : MethodName := ⟨RX1, "hasCell", "(I)Z"⟩
abbrev cX1_cellBeside : ByteArray := prog_3_method_4_code
def yX1_cellBeside : MethodName := ⟨RX1, "cellBeside", "(IZ)I"⟩
abbrev cX1_press : ByteArray := prog_3_method_5_code
def yX1_press : MethodName := ⟨RX1, "press", "(III)V"⟩
abbrev cX1_smoothCreasesOf : ByteArray := prog_3_method_6_code
def yX1_smoothCreasesOf : MethodName := ⟨RX1, "smoothCreasesOf", "(I)V"⟩
abbrev cX1_creasesOf : ByteArray := prog_3_method_7_code
def yX1_creasesOf : MethodName := ⟨RX1, "creasesOf", "(I)I"⟩
abbrev cX1_tellPair : ByteArray := prog_3_method_8_code
def yX1_tellPair : MethodName := ⟨RX1, "tellPair", "(II)I"⟩
abbrev cX1_countCreases : ByteArray := prog_3_method_9_code
def yX1_countCreases : MethodName := ⟨RX1, "countCreases", "(I)I"⟩
abbrev cX1_sumOfMarks : ByteArray := prog_3_method_10_code
def yX1_sumOfMarks : MethodName := ⟨RX1, "sumOfMarks", "()I"⟩
abbrev cX1_isWet : ByteArray := prog_3_method_11_code
def yX1_isWet : MethodName := ⟨RX1, "isWet", "(I)Z"⟩
abbrev cX1_wet : ByteArray := prog_3_method_12_code
def yX1_wet : MethodName := ⟨RX1, "wet", "(I)Z"⟩
abbrev cX1_dryAll : ByteArray := prog_3_method_13_code
def yX1_dryAll : MethodName := ⟨RX1, "dryAll", "()I"⟩
abbrev cX1_countSides : ByteArray := prog_3_method_14_code
def yX1_countSides : MethodName := ⟨RX1, "countSides", "(I)I"⟩
abbrev cX1_sumOfHoles : ByteArray := prog_3_method_15_code
def yX1_sumOfHoles : MethodName := ⟨RX1, "sumOfHoles", "()I"⟩
abbrev cX1_areGlued : ByteArray := prog_3_method_16_code
def yX1_areGlued : MethodName := ⟨RX1, "areGlued", "(II)Z"⟩
abbrev cX1_stick : ByteArray := prog_3_method_17_code
def yX1_stick : MethodName := ⟨RX1, "stick", "(II)V"⟩
def RX2 : String := "Creasebook"
def TX2 : u_T := fun k => match k with
  | 0 => ("Creasebook", "paper", "LCreasebook$Paper;", true)
  | 1 => ("Creasebook", "form", "LCreasebook$Form;", true)
  | 2 => ("Creasebook", "trial", "LCreasebook$Form;", true)
  | 3 => ("Creasebook", "past", "[LCreasebook$Form;", true)
  | 4 => ("Creasebook", "pastCode", "[I", true)
  | 5 => ("Creasebook", "folds", "I", false)
  | 6 => ("Creasebook", "blots", "I", false)
  | _ => ("Creasebook", "refusals", "I", false)
def tyX2 : Nat → FieldType := fun k => match k with
  | 0 => .object "Creasebook$Paper"
  | 1 => .object "Creasebook$Form"
  | 2 => .object "Creasebook$Form"
  | 3 => .array (.object "Creasebook$Form")
  | 4 => .array .int
  | 5 => .int
  | 6 => .int
  | _ => .int
abbrev wsX20 : List Cond := u_ws RX2 TX2 8
theorem nmX2 : ∀ a, a < 8 → ∀ b, b < 8 → a ≠ b → (TX2 a).2.1 ≠ (TX2 b).2.1 := by decide +kernel
theorem tyX2_ok : ∀ k, k < 8 → parseFieldDescriptor (TX2 k).2.2.1 = some (tyX2 k) := by decide +kernel
abbrev cX2_init : ByteArray := prog_1_method_1_code
def yX2_init : MethodName := ⟨RX2, "<init>", "()V"⟩
abbrev cX2_sheet : ByteArray := prog_1_method_2_code
def yX2_sheet : MethodName := ⟨RX2, "sheet", "(II)I"⟩
abbrev cX2_fold : ByteArray := prog_1_method_3_code
def yX2_fold : MethodName := ⟨RX2, "fold", "(IIZZ)I"⟩
abbrev cX2_unfold : ByteArray := prog_1_method_4_code
def yX2_unfold : MethodName := ⟨RX2, "unfold", "()I"⟩
abbrev cX2_turn : ByteArray := prog_1_method_5_code
def yX2_turn : MethodName := ⟨RX2, "turn", "()I"⟩
abbrev cX2_round : ByteArray := prog_1_method_6_code
def yX2_round : MethodName := ⟨RX2, "round", "()I"⟩
abbrev cX2_ink : ByteArray := prog_1_method_7_code
def yX2_ink : MethodName := ⟨RX2, "ink", "(II)Z"⟩
abbrev cX2_dry : ByteArray := prog_1_method_8_code
def yX2_dry : MethodName := ⟨RX2, "dry", "()I"⟩
abbrev cX2_punch : ByteArray := prog_1_method_9_code
def yX2_punch : MethodName := ⟨RX2, "punch", "(II)I"⟩
abbrev cX2_glue : ByteArray := prog_1_method_10_code
def yX2_glue : MethodName := ⟨RX2, "glue", "(II)I"⟩
abbrev cX2_ofPlace : ByteArray := prog_1_method_11_code
def yX2_ofPlace : MethodName := ⟨RX2, "ofPlace", "(III)I"⟩
abbrev cX2_at : ByteArray := prog_1_method_12_code
def yX2_at : MethodName := ⟨RX2, "at", "(III)I"⟩
abbrev cX2_ofCell : ByteArray := prog_1_method_13_code
def yX2_ofCell : MethodName := ⟨RX2, "ofCell", "(II)I"⟩
abbrev cX2_ofPair : ByteArray := prog_1_method_14_code
def yX2_ofPair : MethodName := ⟨RX2, "ofPair", "(IZI)I"⟩
abbrev cX2_ofCorner : ByteArray := prog_1_method_15_code
def yX2_ofCorner : MethodName := ⟨RX2, "ofCorner", "(III)I"⟩
abbrev cX2_many : ByteArray := prog_1_method_16_code
def yX2_many : MethodName := ⟨RX2, "many", "(I)I"⟩
abbrev cX2_weight : ByteArray := prog_1_method_17_code
def yX2_weight : MethodName := ⟨RX2, "weight", "(I)D"⟩
abbrev cX2_would : ByteArray := prog_1_method_18_code
def yX2_would : MethodName := ⟨RX2, "would", "(IIZZI)I"⟩
abbrev cX2_bestFold : ByteArray := prog_1_method_19_code
def yX2_bestFold : MethodName := ⟨RX2, "bestFold", "()I"⟩
abbrev cX2_bring : ByteArray := prog_1_method_20_code
def yX2_bring : MethodName := ⟨RX2, "bring", "(II)I"⟩
abbrev cX2_fewest : ByteArray := prog_1_method_21_code
def yX2_fewest : MethodName := ⟨RX2, "fewest", "()I"⟩
abbrev cX2_digest : ByteArray := prog_1_method_22_code
def yX2_digest : MethodName := ⟨RX2, "digest", "()J"⟩
abbrev cX2_begin : ByteArray := prog_1_method_23_code
def yX2_begin : MethodName := ⟨RX2, "begin", "(II)V"⟩
abbrev cX2_requireLine : ByteArray := prog_1_method_24_code
def yX2_requireLine : MethodName := ⟨RX2, "requireLine", "(II)V"⟩
abbrev cX2_requirePlace : ByteArray := prog_1_method_25_code
def yX2_requirePlace : MethodName := ⟨RX2, "requirePlace", "(II)V"⟩
abbrev cX2_requireCell : ByteArray := prog_1_method_26_code
def yX2_requireCell : MethodName := ⟨RX2, "requireCell", "(I)V"⟩
abbrev cX2_requireWhat : ByteArray := prog_1_method_27_code
def yX2_requireWhat : MethodName := ⟨RX2, "requireWhat", "(II)V"⟩
abbrev cX2_creaseAlong : ByteArray := prog_1_method_28_code
def yX2_creaseAlong : MethodName := ⟨RX2, "creaseAlong", "(I)I"⟩
abbrev cX2_creasePair : ByteArray := prog_1_method_29_code
def yX2_creasePair : MethodName := ⟨RX2, "creasePair", "(IZI)Z"⟩
abbrev cX2_spreadInk : ByteArray := prog_1_method_30_code
def yX2_spreadInk : MethodName := ⟨RX2, "spreadInk", "(I)I"⟩
abbrev cX2_countBlots : ByteArray := prog_1_method_31_code
def yX2_countBlots : MethodName := ⟨RX2, "countBlots", "(I)I"⟩
abbrev cX2_cellThatMeets : ByteArray := prog_1_method_32_code
def yX2_cellThatMeets : MethodName := ⟨RX2, "cellThatMeets", "(II)I"⟩
abbrev cX2_isBlot : ByteArray := prog_1_method_33_code
def yX2_isBlot : MethodName := ⟨RX2, "isBlot", "(III)Z"⟩
abbrev cX2_outerSide : ByteArray := prog_1_method_34_code
def yX2_outerSide : MethodName := ⟨RX2, "outerSide", "(IZ)I"⟩
abbrev cX2_isHeldByGlue : ByteArray := prog_1_method_35_code
def yX2_isHeldByGlue : MethodName := ⟨RX2, "isHeldByGlue", "()Z"⟩
abbrev cX2_holesAt : ByteArray := prog_1_method_36_code
def yX2_holesAt : MethodName := ⟨RX2, "holesAt", "(II)I"⟩
abbrev cX2_gluedAt : ByteArray := prog_1_method_37_code
def yX2_gluedAt : MethodName := ⟨RX2, "gluedAt", "(II)I"⟩
abbrev cX2_digestOfCell : ByteArray := prog_1_method_38_code
def yX2_digestOfCell : MethodName := ⟨RX2, "digestOfCell", "(JI)J"⟩
abbrev cX2_digestOfPlace : ByteArray := prog_1_method_39_code
def yX2_digestOfPlace : MethodName := ⟨RX2, "digestOfPlace", "(JII)J"⟩
abbrev cX2_nearestOfTwoTheEven : ByteArray := prog_1_method_40_code
def yX2_nearestOfTwoTheEven : MethodName := ⟨RX2, "nearestOfTwoTheEven", "(II)I"⟩
abbrev cX2_halvings : ByteArray := prog_1_method_41_code
def yX2_halvings : MethodName := ⟨RX2, "halvings", "(I)I"⟩
abbrev cX2_numberOf : ByteArray := prog_1_method_42_code
def yX2_numberOf : MethodName := ⟨RX2, "numberOf", "(Z)I"⟩
abbrev cX2_codeOf : ByteArray := prog_1_method_43_code
def yX2_codeOf : MethodName := ⟨RX2, "codeOf", "(IIZZ)I"⟩
abbrev cX2_lineOf : ByteArray := prog_1_method_44_code
def yX2_lineOf : MethodName := ⟨RX2, "lineOf", "(I)I"⟩
abbrev cX2_axisOf : ByteArray := prog_1_method_45_code
def yX2_axisOf : MethodName := ⟨RX2, "axisOf", "(I)I"⟩
abbrev cX2_isFar : ByteArray := prog_1_method_46_code
def yX2_isFar : MethodName := ⟨RX2, "isFar", "(I)Z"⟩
abbrev cX2_isOver : ByteArray := prog_1_method_47_code
def yX2_isOver : MethodName := ⟨RX2, "isOver", "(I)Z"⟩
abbrev cX2_pairOf : ByteArray := prog_1_method_48_code
def yX2_pairOf : MethodName := ⟨RX2, "pairOf", "(IZ)I"⟩
abbrev cX2_sideOf : ByteArray := prog_1_method_49_code
def yX2_sideOf : MethodName := ⟨RX2, "sideOf", "(IZ)I"⟩
def RX3 : String := "CreasebookModel$Form"
def TX3 : u_T := fun k => match k with
  | 0 => ("CreasebookModel$Form", "columns", "I", false)
  | 1 => ("CreasebookModel$Form", "rows", "I", false)
  | 2 => ("CreasebookModel$Form", "x", "[I", true)
  | 3 => ("CreasebookModel$Form", "y", "[I", true)
  | 4 => ("CreasebookModel$Form", "layer", "[I", true)
  | 5 => ("CreasebookModel$Form", "isUp", "[Z", true)
  | _ => ("CreasebookModel$Form", "creases", "[I", true)
def tyX3 : Nat → FieldType := fun k => match k with
  | 0 => .int
  | 1 => .int
  | 2 => .array .int
  | 3 => .array .int
  | 4 => .array .int
  | 5 => .array .boolean
  | _ => .array .int
abbrev wsX30 : List Cond := u_ws RX3 TX3 7
theorem nmX3 : ∀ a, a < 7 → ∀ b, b < 7 → a ≠ b → (TX3 a).2.1 ≠ (TX3 b).2.1 := by decide +kernel
theorem tyX3_ok : ∀ k, k < 7 → parseFieldDescriptor (TX3 k).2.2.1 = some (tyX3 k) := by decide +kernel
abbrev cX3_init : ByteArray := prog_6_method_1_code
def yX3_init : MethodName := ⟨RX3, "<init>", "(I)V"⟩
abbrev cX3_init_ : ByteArray := prog_6_method_2_code
def yX3_init_ : MethodName := ⟨RX3, "<init>", "(II)V"⟩
abbrev cX3_copy : ByteArray := prog_6_method_3_code
def yX3_copy : MethodName := ⟨RX3, "copy", "()LCreasebookModel$Form;"⟩
abbrev cX3_height : ByteArray := prog_6_method_4_code
def yX3_height : MethodName := ⟨RX3, "height", "(II)I"⟩
abbrev cX3_at : ByteArray := prog_6_method_5_code
def yX3_at : MethodName := ⟨RX3, "at", "(III)I"⟩
abbrev cX3_top : ByteArray := prog_6_method_6_code
def yX3_top : MethodName := ⟨RX3, "top", "(II)I"⟩
abbrev cX3_sideAt : ByteArray := prog_6_method_7_code
def yX3_sideAt : MethodName := ⟨RX3, "sideAt", "(IZ)I"⟩
abbrev cX3_goes : ByteArray := prog_6_method_8_code
def yX3_goes : MethodName := ⟨RX3, "goes", "(IIIZ)Z"⟩
abbrev cX3_folded : ByteArray := prog_6_method_9_code
def yX3_folded : MethodName := ⟨RX3, "folded", "(IIZZ)LCreasebookModel$Form;"⟩
abbrev cX3_turn : ByteArray := prog_6_method_10_code
def yX3_turn : MethodName := ⟨RX3, "turn", "(Z)V"⟩
abbrev cX3_seen : ByteArray := prog_6_method_11_code
def yX3_seen : MethodName := ⟨RX3, "seen", "(Z)I"⟩
abbrev cX3_highest : ByteArray := prog_6_method_12_code
def yX3_highest : MethodName := ⟨RX3, "highest", "()I"⟩
abbrev cX3_area : ByteArray := prog_6_method_13_code
def yX3_area : MethodName := ⟨RX3, "area", "()I"⟩
abbrev cX3_lines : ByteArray := prog_6_method_14_code
def yX3_lines : MethodName := ⟨RX3, "lines", "(I)I"⟩
def RX4 : String := "CreasebookModel"
def TX4 : u_T := fun k => match k with
  | 0 => ("CreasebookModel", "thrown", "I", false)
  | 1 => ("CreasebookModel", "wide", "I", false)
  | 2 => ("CreasebookModel", "high", "I", false)
  | 3 => ("CreasebookModel", "form", "LCreasebookModel$Form;", false)
  | 4 => ("CreasebookModel", "past", "Ljava/util/ArrayList;", true)
  | 5 => ("CreasebookModel", "went", "Ljava/util/ArrayList;", true)
  | 6 => ("CreasebookModel", "marks", "[I", false)
  | 7 => ("CreasebookModel", "ink", "[I", false)
  | 8 => ("CreasebookModel", "holes", "[I", false)
  | 9 => ("CreasebookModel", "glued", "[I", false)
  | 10 => ("CreasebookModel", "blots", "I", false)
  | 11 => ("CreasebookModel", "nones", "I", false)
  | _ => ("CreasebookModel", "sum", "J", false)
def tyX4 : Nat → FieldType := fun k => match k with
  | 0 => .int
  | 1 => .int
  | 2 => .int
  | 3 => .object "CreasebookModel$Form"
  | 4 => .object "java/util/ArrayList"
  | 5 => .object "java/util/ArrayList"
  | 6 => .array .int
  | 7 => .array .int
  | 8 => .array .int
  | 9 => .array .int
  | 10 => .int
  | 11 => .int
  | _ => .long
abbrev wsX40 : List Cond := u_ws RX4 TX4 13
theorem nmX4 : ∀ a, a < 13 → ∀ b, b < 13 → a ≠ b → (TX4 a).2.1 ≠ (TX4 b).2.1 := by decide +kernel
theorem tyX4_ok : ∀ k, k < 13 → parseFieldDescriptor (TX4 k).2.2.1 = some (tyX4 k) := by decide +kernel
abbrev cX4_init : ByteArray := prog_5_method_1_code
def yX4_init : MethodName := ⟨RX4, "<init>", "()V"⟩
abbrev cX4_thrown : ByteArray := prog_5_method_2_code
def yX4_thrown : MethodName := ⟨RX4, "thrown", "()I"⟩
abbrev cX4_refuse : ByteArray := prog_5_method_3_code
def yX4_refuse : MethodName := ⟨RX4, "refuse", "(I)I"⟩
abbrev cX4_is : ByteArray := prog_5_method_4_code
def yX4_is : MethodName := ⟨RX4, "is", "(III)Z"⟩
abbrev cX4_cells : ByteArray := prog_5_method_5_code
def yX4_cells : MethodName := ⟨RX4, "cells", "()I"⟩
abbrev cX4_isPlace : ByteArray := prog_5_method_6_code
def yX4_isPlace : MethodName := ⟨RX4, "isPlace", "(II)Z"⟩
abbrev cX4_isCell : ByteArray := prog_5_method_7_code
def yX4_isCell : MethodName := ⟨RX4, "isCell", "(I)Z"⟩
abbrev cX4_isLine : ByteArray := prog_5_method_8_code
def yX4_isLine : MethodName := ⟨RX4, "isLine", "(II)Z"⟩
abbrev cX4_beside : ByteArray := prog_5_method_9_code
def yX4_beside : MethodName := ⟨RX4, "beside", "(IZ)I"⟩
abbrev cX4_sheet : ByteArray := prog_5_method_10_code
def yX4_sheet : MethodName := ⟨RX4, "sheet", "(II)I"⟩
abbrev cX4_blot : ByteArray := prog_5_method_11_code
def yX4_blot : MethodName := ⟨RX4, "blot", "(IIZZZ)I"⟩
abbrev cX4_fold : ByteArray := prog_5_method_12_code
def yX4_fold : MethodName := ⟨RX4, "fold", "(IIZZ)I"⟩
abbrev cX4_isAcross : ByteArray := prog_5_method_13_code
def yX4_isAcross : MethodName := ⟨RX4, "isAcross", "(IIII)Z"⟩
abbrev cX4_unfold : ByteArray := prog_5_method_14_code
def yX4_unfold : MethodName := ⟨RX4, "unfold", "()I"⟩
abbrev cX4_turn : ByteArray := prog_5_method_15_code
def yX4_turn : MethodName := ⟨RX4, "turn", "()I"⟩
abbrev cX4_round : ByteArray := prog_5_method_16_code
def yX4_round : MethodName := ⟨RX4, "round", "()I"⟩
abbrev cX4_ink : ByteArray := prog_5_method_17_code
def yX4_ink : MethodName := ⟨RX4, "ink", "(II)Z"⟩
abbrev cX4_inked : ByteArray := prog_5_method_18_code
def yX4_inked : MethodName := ⟨RX4, "inked", "(I)I"⟩
abbrev cX4_dry : ByteArray := prog_5_method_19_code
def yX4_dry : MethodName := ⟨RX4, "dry", "()I"⟩
abbrev cX4_punch : ByteArray := prog_5_method_20_code
def yX4_punch : MethodName := ⟨RX4, "punch", "(II)I"⟩
abbrev cX4_gluedAt : ByteArray := prog_5_method_21_code
def yX4_gluedAt : MethodName := ⟨RX4, "gluedAt", "(II)I"⟩
abbrev cX4_glue : ByteArray := prog_5_method_22_code
def yX4_glue : MethodName := ⟨RX4, "glue", "(II)I"⟩
abbrev cX4_holesAt : ByteArray := prog_5_method_23_code
def yX4_holesAt : MethodName := ⟨RX4, "holesAt", "(II)I"⟩
abbrev cX4_ofPlaceNow : ByteArray := prog_5_method_24_code
def yX4_ofPlaceNow : MethodName := ⟨RX4, "ofPlaceNow", "(III)I"⟩
abbrev cX4_ofPlace : ByteArray := prog_5_method_25_code
def yX4_ofPlace : MethodName := ⟨RX4, "ofPlace", "(III)I"⟩
abbrev cX4_at : ByteArray := prog_5_method_26_code
def yX4_at : MethodName := ⟨RX4, "at", "(III)I"⟩
abbrev cX4_creased : ByteArray := prog_5_method_27_code
def yX4_creased : MethodName := ⟨RX4, "creased", "(I)I"⟩
abbrev cX4_ofCellNow : ByteArray := prog_5_method_28_code
def yX4_ofCellNow : MethodName := ⟨RX4, "ofCellNow", "(II)I"⟩
abbrev cX4_ofCell : ByteArray := prog_5_method_29_code
def yX4_ofCell : MethodName := ⟨RX4, "ofCell", "(II)I"⟩
abbrev cX4_ofPairNow : ByteArray := prog_5_method_30_code
def yX4_ofPairNow : MethodName := ⟨RX4, "ofPairNow", "(IZI)I"⟩
abbrev cX4_ofPair : ByteArray := prog_5_method_31_code
def yX4_ofPair : MethodName := ⟨RX4, "ofPair", "(IZI)I"⟩
abbrev cX4_ofCorner : ByteArray := prog_5_method_32_code
def yX4_ofCorner : MethodName := ⟨RX4, "ofCorner", "(III)I"⟩
abbrev cX4_creases : ByteArray := prog_5_method_33_code
def yX4_creases : MethodName := ⟨RX4, "creases", "(I)I"⟩
abbrev cX4_sum : ByteArray := prog_5_method_34_code
def yX4_sum : MethodName := ⟨RX4, "sum", "([I)I"⟩
abbrev cX4_manyNow : ByteArray := prog_5_method_35_code
def yX4_manyNow : MethodName := ⟨RX4, "manyNow", "(I)I"⟩
abbrev cX4_many : ByteArray := prog_5_method_36_code
def yX4_many : MethodName := ⟨RX4, "many", "(I)I"⟩
abbrev cX4_weight : ByteArray := prog_5_method_37_code
def yX4_weight : MethodName := ⟨RX4, "weight", "(I)D"⟩
abbrev cX4_would : ByteArray := prog_5_method_38_code
def yX4_would : MethodName := ⟨RX4, "would", "(IIZZI)I"⟩
abbrev cX4_byCode : ByteArray := prog_5_method_39_code
def yX4_byCode : MethodName := ⟨RX4, "byCode", "(I)LCreasebookModel$Form;"⟩
abbrev cX4_isCode : ByteArray := prog_5_method_40_code
def yX4_isCode : MethodName := ⟨RX4, "isCode", "(I)Z"⟩
abbrev cX4_bestNow : ByteArray := prog_5_method_41_code
def yX4_bestNow : MethodName := ⟨RX4, "bestNow", "()I"⟩
abbrev cX4_bestFold : ByteArray := prog_5_method_42_code
def yX4_bestFold : MethodName := ⟨RX4, "bestFold", "()I"⟩
abbrev cX4_isUpon : ByteArray := prog_5_method_43_code
def yX4_isUpon : MethodName := ⟨RX4, "isUpon", "(LCreasebookModel$Form;II)Z"⟩
abbrev cX4_bringNow : ByteArray := prog_5_method_44_code
def yX4_bringNow : MethodName := ⟨RX4, "bringNow", "(II)I"⟩
abbrev cX4_bring : ByteArray := prog_5_method_45_code
def yX4_bring : MethodName := ⟨RX4, "bring", "(II)I"⟩
abbrev cX4_fewestNow : ByteArray := prog_5_method_46_code
def yX4_fewestNow : MethodName := ⟨RX4, "fewestNow", "()I"⟩
abbrev cX4_fewest : ByteArray := prog_5_method_47_code
def yX4_fewest : MethodName := ⟨RX4, "fewest", "()I"⟩
abbrev cX4_add : ByteArray := prog_5_method_48_code
def yX4_add : MethodName := ⟨RX4, "add", "(I)V"⟩
abbrev cX4_digest : ByteArray := prog_5_method_49_code
def yX4_digest : MethodName := ⟨RX4, "digest", "()J"⟩
def RJx145de : String := "java/io/Serializable"
def TJx145de : u_T := fun k => match k with
  | _ => ("", "", "", false)
def tyJx145de : Nat → FieldType := fun k => match k with
  | _ => .int
abbrev wsJx145de0 : List Cond := u_ws RJx145de TJx145de 0
theorem nmJx145de : ∀ a, a < 0 → ∀ b, b < 0 → a ≠ b → (TJx145de a).2.1 ≠ (TJx145de b).2.1 := by decide +kernel
theorem tyJx145de_ok : ∀ k, k < 0 → parseFieldDescriptor (TJx145de k).2.2.1 = some (tyJx145de k) := by decide +kernel
def RJx8e188 : String := "java/lang/Cloneable"
def TJx8e188 : u_T := fun k => match k with
  | _ => ("", "", "", false)
def tyJx8e188 : Nat → FieldType := fun k => match k with
  | _ => .int
abbrev wsJx8e1880 : List Cond := u_ws RJx8e188 TJx8e188 0
theorem nmJx8e188 : ∀ a, a < 0 → ∀ b, b < 0 → a ≠ b → (TJx8e188 a).2.1 ≠ (TJx8e188 b).2.1 := by decide +kernel
theorem tyJx8e188_ok : ∀ k, k < 0 → parseFieldDescriptor (TJx8e188 k).2.2.1 = some (tyJx8e188 k) := by decide +kernel
def RJxab1ab : String := "java/lang/Iterable"
def TJxab1ab : u_T := fun k => match k with
  | _ => ("", "", "", false)
def tyJxab1ab : Nat → FieldType := fun k => match k with
  | _ => .int
abbrev wsJxab1ab0 : List Cond := u_ws RJxab1ab TJxab1ab 0
theorem nmJxab1ab : ∀ a, a < 0 → ∀ b, b < 0 → a ≠ b → (TJxab1ab a).2.1 ≠ (TJxab1ab b).2.1 := by decide +kernel
theorem tyJxab1ab_ok : ∀ k, k < 0 → parseFieldDescriptor (TJxab1ab k).2.2.1 = some (tyJxab1ab k) := by decide +kernel
def RJ9 : String := "java/lang/Math"
def TJ9 : u_T := fun k => match k with
  | _ => ("", "", "", false)
def tyJ9 : Nat → FieldType := fun k => match k with
  | _ => .int
abbrev wsJ90 : List Cond := u_ws RJ9 TJ9 0
theorem nmJ9 : ∀ a, a < 0 → ∀ b, b < 0 → a ≠ b → (TJ9 a).2.1 ≠ (TJ9 b).2.1 := by decide +kernel
theorem tyJ9_ok : ∀ k, k < 0 → parseFieldDescriptor (TJ9 k).2.2.1 = some (tyJ9 k) := by decide +kernel
abbrev cJ9_max_7cf53 : ByteArray := prog_14_method_65_code
def yJ9_max_7cf53 : MethodName := ⟨RJ9, "max", "(II)I"⟩
abbrev cJ9_min_7cf53 : ByteArray := prog_14_method_69_code
def yJ9_min_7cf53 : MethodName := ⟨RJ9, "min", "(II)I"⟩
def RJ0 : String := "java/lang/String"
def TJ0 : u_T := fun k => match k with
  | _ => ("", "", "", false)
def tyJ0 : Nat → FieldType := fun k => match k with
  | _ => .int
abbrev wsJ00 : List Cond := u_ws RJ0 TJ0 0
theorem nmJ0 : ∀ a, a < 0 → ∀ b, b < 0 → a ≠ b → (TJ0 a).2.1 ≠ (TJ0 b).2.1 := by decide +kernel
theorem tyJ0_ok : ∀ k, k < 0 → parseFieldDescriptor (TJ0 k).2.2.1 = some (tyJ0 k) := by decide +kernel
def RJ10 : String := "java/lang/System"
def TJ10 : u_T := fun k => match k with
  | _ => ("", "", "", false)
def tyJ10 : Nat → FieldType := fun k => match k with
  | _ => .int
abbrev wsJ100 : List Cond := u_ws RJ10 TJ10 0
theorem nmJ10 : ∀ a, a < 0 → ∀ b, b < 0 → a ≠ b → (TJ10 a).2.1 ≠ (TJ10 b).2.1 := by decide +kernel
theorem tyJ10_ok : ∀ k, k < 0 → parseFieldDescriptor (TJ10 k).2.2.1 = some (tyJ10 k) := by decide +kernel
def RJxa1e45 : String := "java/util/AbstractCollection"
def TJxa1e45 : u_T := fun k => match k with
  | _ => ("", "", "", false)
def tyJxa1e45 : Nat → FieldType := fun k => match k with
  | _ => .int
abbrev wsJxa1e450 : List Cond := u_ws RJxa1e45 TJxa1e45 0
theorem nmJxa1e45 : ∀ a, a < 0 → ∀ b, b < 0 → a ≠ b → (TJxa1e45 a).2.1 ≠ (TJxa1e45 b).2.1 := by decide +kernel
theorem tyJxa1e45_ok : ∀ k, k < 0 → parseFieldDescriptor (TJxa1e45 k).2.2.1 = some (tyJxa1e45 k) := by decide +kernel
abbrev cJxa1e45_init_da8c8 : ByteArray := prog_19_method_1_code
def yJxa1e45_init_da8c8 : MethodName := ⟨RJxa1e45, "<init>", "()V"⟩
def RJxc12de : String := "java/util/AbstractList"
def TJxc12de : u_T := fun k => match k with
  | _ => ("", "", "", false)
def tyJxc12de : Nat → FieldType := fun k => match k with
  | _ => .int
abbrev wsJxc12de0 : List Cond := u_ws RJxc12de TJxc12de 0
theorem nmJxc12de : ∀ a, a < 0 → ∀ b, b < 0 → a ≠ b → (TJxc12de a).2.1 ≠ (TJxc12de b).2.1 := by decide +kernel
theorem tyJxc12de_ok : ∀ k, k < 0 → parseFieldDescriptor (TJxc12de k).2.2.1 = some (tyJxc12de k) := by decide +kernel
abbrev cJxc12de_init_da8c8 : ByteArray := prog_20_method_1_code
def yJxc12de_init_da8c8 : MethodName := ⟨RJxc12de, "<init>", "()V"⟩
def RJx4a65c : String := "java/util/ArrayList"
def TJx4a65c : u_T := fun k => match k with
  | 0 => ("java/util/AbstractList", "modCount", "I", false)
  | 1 => ("java/util/ArrayList", "elementData", "[Ljava/lang/Object;", false)
  | _ => ("java/util/ArrayList", "size", "I", false)
def tyJx4a65c : Nat → FieldType := fun k => match k with
  | 0 => .int
  | 1 => .array (.object "java/lang/Object")
  | _ => .int
abbrev wsJx4a65c0 : List Cond := u_ws RJx4a65c TJx4a65c 3
theorem nmJx4a65c : ∀ a, a < 3 → ∀ b, b < 3 → a ≠ b → (TJx4a65c a).2.1 ≠ (TJx4a65c b).2.1 := by decide +kernel
theorem tyJx4a65c_ok : ∀ k, k < 3 → parseFieldDescriptor (TJx4a65c k).2.2.1 = some (tyJx4a65c k) := by decide +kernel
abbrev cJx4a65c_init_da8c8 : ByteArray := prog_21_method_2_code
def yJx4a65c_init_da8c8 : MethodName := ⟨RJx4a65c, "<init>", "()V"⟩
abbrev cJx4a65c_grow_92f84 : ByteArray := prog_21_method_6_code
def yJx4a65c_grow_92f84 : MethodName := ⟨RJx4a65c, "grow", "(I)[Ljava/lang/Object;"⟩
abbrev cJx4a65c_grow_d5877 : ByteArray := prog_21_method_7_code
def yJx4a65c_grow_d5877 : MethodName := ⟨RJx4a65c, "grow", "()[Ljava/lang/Object;"⟩
abbrev cJx4a65c_size_8abf5 : ByteArray := prog_21_method_8_code
def yJx4a65c_size_8abf5 : MethodName := ⟨RJx4a65c, "size", "()I"⟩
abbrev cJx4a65c_elementData_915e3 : ByteArray := prog_21_method_18_code
def yJx4a65c_elementData_915e3 : MethodName := ⟨RJx4a65c, "elementData", "(I)Ljava/lang/Object;"⟩
abbrev cJx4a65c_get_915e3 : ByteArray := prog_21_method_20_code
def yJx4a65c_get_915e3 : MethodName := ⟨RJx4a65c, "get", "(I)Ljava/lang/Object;"⟩
abbrev cJx4a65c_add_72be8 : ByteArray := prog_21_method_24_code
def yJx4a65c_add_72be8 : MethodName := ⟨RJx4a65c, "add", "(Ljava/lang/Object;[Ljava/lang/Object;I)V"⟩
abbrev cJx4a65c_add_9ea2d : ByteArray := prog_21_method_25_code
def yJx4a65c_add_9ea2d : MethodName := ⟨RJx4a65c, "add", "(Ljava/lang/Object;)Z"⟩
abbrev cJx4a65c_remove_915e3 : ByteArray := prog_21_method_29_code
def yJx4a65c_remove_915e3 : MethodName := ⟨RJx4a65c, "remove", "(I)Ljava/lang/Object;"⟩
abbrev cJx4a65c_fastRemove_b59b0 : ByteArray := prog_21_method_39_code
def yJx4a65c_fastRemove_b59b0 : MethodName := ⟨RJx4a65c, "fastRemove", "([Ljava/lang/Object;I)V"⟩
abbrev cJx4a65c_clear_da8c8 : ByteArray := prog_21_method_40_code
def yJx4a65c_clear_da8c8 : MethodName := ⟨RJx4a65c, "clear", "()V"⟩
def RJ7 : String := "java/util/Arrays"
def TJ7 : u_T := fun k => match k with
  | _ => ("", "", "", false)
def tyJ7 : Nat → FieldType := fun k => match k with
  | _ => .int
abbrev wsJ70 : List Cond := u_ws RJ7 TJ7 0
theorem nmJ7 : ∀ a, a < 0 → ∀ b, b < 0 → a ≠ b → (TJ7 a).2.1 ≠ (TJ7 b).2.1 := by decide +kernel
theorem tyJ7_ok : ∀ k, k < 0 → parseFieldDescriptor (TJ7 k).2.2.1 = some (tyJ7 k) := by decide +kernel
abbrev cJ7_copyOf_1904c : ByteArray := prog_22_method_119_code
def yJ7_copyOf_1904c : MethodName := ⟨RJ7, "copyOf", "([Ljava/lang/Object;I)[Ljava/lang/Object;"⟩
abbrev cJ7_copyOf_6403c : ByteArray := prog_22_method_120_code
def yJ7_copyOf_6403c : MethodName := ⟨RJ7, "copyOf", "([Ljava/lang/Object;ILjava/lang/Class;)[Ljava/lang/Object;"⟩
def RJx5ef63 : String := "java/util/Collection"
def TJx5ef63 : u_T := fun k => match k with
  | _ => ("", "", "", false)
def tyJx5ef63 : Nat → FieldType := fun k => match k with
  | _ => .int
abbrev wsJx5ef630 : List Cond := u_ws RJx5ef63 TJx5ef63 0
theorem nmJx5ef63 : ∀ a, a < 0 → ∀ b, b < 0 → a ≠ b → (TJx5ef63 a).2.1 ≠ (TJx5ef63 b).2.1 := by decide +kernel
theorem tyJx5ef63_ok : ∀ k, k < 0 → parseFieldDescriptor (TJx5ef63 k).2.2.1 = some (tyJx5ef63 k) := by decide +kernel
def RJxbd725 : String := "java/util/List"
def TJxbd725 : u_T := fun k => match k with
  | _ => ("", "", "", false)
def tyJxbd725 : Nat → FieldType := fun k => match k with
  | _ => .int
abbrev wsJxbd7250 : List Cond := u_ws RJxbd725 TJxbd725 0
theorem nmJxbd725 : ∀ a, a < 0 → ∀ b, b < 0 → a ≠ b → (TJxbd725 a).2.1 ≠ (TJxbd725 b).2.1 := by decide +kernel
theorem tyJxbd725_ok : ∀ k, k < 0 → parseFieldDescriptor (TJxbd725 k).2.2.1 = some (tyJxbd725 k) := by decide +kernel
def RJ15 : String := "java/util/Objects"
def TJ15 : u_T := fun k => match k with
  | _ => ("", "", "", false)
def tyJ15 : Nat → FieldType := fun k => match k with
  | _ => .int
abbrev wsJ150 : List Cond := u_ws RJ15 TJ15 0
theorem nmJ15 : ∀ a, a < 0 → ∀ b, b < 0 → a ≠ b → (TJ15 a).2.1 ≠ (TJ15 b).2.1 := by decide +kernel
theorem tyJ15_ok : ∀ k, k < 0 → parseFieldDescriptor (TJ15 k).2.2.1 = some (tyJ15 k) := by decide +kernel
abbrev cJ15_checkIndex_7cf53 : ByteArray := prog_25_method_17_code
def yJ15_checkIndex_7cf53 : MethodName := ⟨RJ15, "checkIndex", "(II)I"⟩
def RJxf0a74 : String := "java/util/RandomAccess"
def TJxf0a74 : u_T := fun k => match k with
  | _ => ("", "", "", false)
def tyJxf0a74 : Nat → FieldType := fun k => match k with
  | _ => .int
abbrev wsJxf0a740 : List Cond := u_ws RJxf0a74 TJxf0a74 0
theorem nmJxf0a74 : ∀ a, a < 0 → ∀ b, b < 0 → a ≠ b → (TJxf0a74 a).2.1 ≠ (TJxf0a74 b).2.1 := by decide +kernel
theorem tyJxf0a74_ok : ∀ k, k < 0 → parseFieldDescriptor (TJxf0a74 k).2.2.1 = some (tyJxf0a74 k) := by decide +kernel
def RJxa66e6 : String := "java/util/SequencedCollection"
def TJxa66e6 : u_T := fun k => match k with
  | _ => ("", "", "", false)
def tyJxa66e6 : Nat → FieldType := fun k => match k with
  | _ => .int
abbrev wsJxa66e60 : List Cond := u_ws RJxa66e6 TJxa66e6 0
theorem nmJxa66e6 : ∀ a, a < 0 → ∀ b, b < 0 → a ≠ b → (TJxa66e6 a).2.1 ≠ (TJxa66e6 b).2.1 := by decide +kernel
theorem tyJxa66e6_ok : ∀ k, k < 0 → parseFieldDescriptor (TJxa66e6 k).2.2.1 = some (tyJxa66e6 k) := by decide +kernel
def RJ8 : String := "jdk/internal/util/ArraysSupport"
def TJ8 : u_T := fun k => match k with
  | _ => ("", "", "", false)
def tyJ8 : Nat → FieldType := fun k => match k with
  | _ => .int
abbrev wsJ80 : List Cond := u_ws RJ8 TJ8 0
theorem nmJ8 : ∀ a, a < 0 → ∀ b, b < 0 → a ≠ b → (TJ8 a).2.1 ≠ (TJ8 b).2.1 := by decide +kernel
theorem tyJ8_ok : ∀ k, k < 0 → parseFieldDescriptor (TJ8 k).2.2.1 = some (tyJ8 k) := by decide +kernel
abbrev cJ8_newLength_cabcc : ByteArray := prog_28_method_27_code
def yJ8_newLength_cabcc : MethodName := ⟨RJ8, "newLength", "(III)I"⟩
abbrev cJ8_hugeLength_7cf53 : ByteArray := prog_28_method_28_code
def yJ8_hugeLength_7cf53 : MethodName := ⟨RJ8, "hugeLength", "(II)I"⟩
def RJ3 : String := "jdk/internal/util/Preconditions"
def TJ3 : u_T := fun k => match k with
  | _ => ("", "", "", false)
def tyJ3 : Nat → FieldType := fun k => match k with
  | _ => .int
abbrev wsJ30 : List Cond := u_ws RJ3 TJ3 0
theorem nmJ3 : ∀ a, a < 0 → ∀ b, b < 0 → a ≠ b → (TJ3 a).2.1 ≠ (TJ3 b).2.1 := by decide +kernel
theorem tyJ3_ok : ∀ k, k < 0 → parseFieldDescriptor (TJ3 k).2.2.1 = some (tyJ3 k) := by decide +kernel
abbrev cJ3_checkIndex_8e157 : ByteArray := prog_29_method_11_code
def yJ3_checkIndex_8e157 : MethodName := ⟨RJ3, "checkIndex", "(IILjava/util/function/BiFunction;)I"⟩
def RL : String := "CreasebookLaw"
abbrev cL_sheet : ByteArray := method_3_code
def yL_sheet : MethodName := ⟨RL, "sheet", "(LCreasebook;II[J)I"⟩
abbrev cL_fold : ByteArray := method_4_code
def yL_fold : MethodName := ⟨RL, "fold", "(LCreasebook;IIZZ[J)I"⟩
abbrev cL_ink : ByteArray := method_5_code
def yL_ink : MethodName := ⟨RL, "ink", "(LCreasebook;II[J)I"⟩
abbrev cL_punch : ByteArray := method_6_code
def yL_punch : MethodName := ⟨RL, "punch", "(LCreasebook;II[J)I"⟩
abbrev cL_glue : ByteArray := method_7_code
def yL_glue : MethodName := ⟨RL, "glue", "(LCreasebook;II[J)I"⟩
abbrev cL_ofPlace : ByteArray := method_8_code
def yL_ofPlace : MethodName := ⟨RL, "ofPlace", "(LCreasebook;III[J)I"⟩
abbrev cL_at : ByteArray := method_9_code
def yL_at : MethodName := ⟨RL, "at", "(LCreasebook;III[J)I"⟩
abbrev cL_ofCell : ByteArray := method_10_code
def yL_ofCell : MethodName := ⟨RL, "ofCell", "(LCreasebook;II[J)I"⟩
abbrev cL_ofPair : ByteArray := method_11_code
def yL_ofPair : MethodName := ⟨RL, "ofPair", "(LCreasebook;IZI[J)I"⟩
abbrev cL_ofCorner : ByteArray := method_12_code
def yL_ofCorner : MethodName := ⟨RL, "ofCorner", "(LCreasebook;III[J)I"⟩
abbrev cL_many : ByteArray := method_13_code
def yL_many : MethodName := ⟨RL, "many", "(LCreasebook;I[J)I"⟩
abbrev cL_weight : ByteArray := method_14_code
def yL_weight : MethodName := ⟨RL, "weight", "(LCreasebook;I[D)I"⟩
abbrev cL_would : ByteArray := method_15_code
def yL_would : MethodName := ⟨RL, "would", "(LCreasebook;IIZZI[J)I"⟩
abbrev cL_bring : ByteArray := method_16_code
def yL_bring : MethodName := ⟨RL, "bring", "(LCreasebook;II[J)I"⟩
abbrev cL_law : ByteArray := code
def yL_law : MethodName := ⟨RL, "law", "([I)Z"⟩
end
section
/-! The claim's own tables: classes, component types, words, nest links (laid by a program out of the claim's texts) -/
abbrev z_cl : List vw_C := [(RX0, TX0, 8), (RX1, TX1, 9), (RX2, TX2, 8)]
abbrev z_T : List FieldType := [.int, .boolean, .long, .double, .object "Creasebook$Form"]
def z_G : List Cond := lw_tbl.filter goodWord
def z_N : List Cond := lw_tbl.filter zNok
theorem z_good : ∀ w ∈ z_G, goodWord w = true := fun w h => (List.mem_filter.mp h).2
theorem z_nok : ∀ w ∈ z_N, zNok w = true := fun w h => (List.mem_filter.mp h).2
theorem zinG {w : Cond} (i : Nat) (h : lw_tbl[i]? = some w) (hg : goodWord w = true) : w ∈ z_G := List.mem_filter.mpr ⟨List.mem_of_getElem? h, hg⟩
theorem zinN {w : Cond} (i : Nat) (h : lw_tbl[i]? = some w) (hg : zNok w = true) : w ∈ z_N := List.mem_filter.mpr ⟨List.mem_of_getElem? h, hg⟩
theorem zinX0 : ∀ w ∈ u_ws RX0 TX0 8, w ∈ z_G := by
  intro w hw
  have h1 : w ∈ ([Cond.lays "Creasebook$Form" "Creasebook$Form" "cells" "I", Cond.lays "Creasebook$Form" "Creasebook$Form" "columns" "I", Cond.lays "Creasebook$Form" "Creasebook$Form" "rows" "I", Cond.laysFinal "Creasebook$Form" "Creasebook$Form" "column" "[I", Cond.laysFinal "Creasebook$Form" "Creasebook$Form" "row" "[I", Cond.laysFinal "Creasebook$Form" "Creasebook$Form" "layer" "[I", Cond.laysFinal "Creasebook$Form" "Creasebook$Form" "isUp" "[Z", Cond.laysFinal "Creasebook$Form" "Creasebook$Form" "height" "[I"] : List Cond) := hw
  simp only [List.mem_cons, List.not_mem_nil, or_false] at h1
  rcases h1 with rfl | rfl | rfl | rfl | rfl | rfl | rfl | rfl
  · exact zinG 175 (by decide +kernel) (by decide +kernel)
  · exact zinG 177 (by decide +kernel) (by decide +kernel)
  · exact zinG 179 (by decide +kernel) (by decide +kernel)
  · exact zinG 181 (by decide +kernel) (by decide +kernel)
  · exact zinG 183 (by decide +kernel) (by decide +kernel)
  · exact zinG 185 (by decide +kernel) (by decide +kernel)
  · exact zinG 187 (by decide +kernel) (by decide +kernel)
  · exact zinG 189 (by decide +kernel) (by decide +kernel)
theorem zinX1 : ∀ w ∈ u_ws RX1 TX1 9, w ∈ z_G := by
  intro w hw
  have h1 : w ∈ ([Cond.lays "Creasebook$Paper" "Creasebook$Paper" "wide" "I", Cond.lays "Creasebook$Paper" "Creasebook$Paper" "high" "I", Cond.lays "Creasebook$Paper" "Creasebook$Paper" "cells" "I", Cond.laysFinal "Creasebook$Paper" "Creasebook$Paper" "crease" "[I", Cond.laysFinal "Creasebook$Paper" "Creasebook$Paper" "creasedBy" "[I", Cond.laysFinal "Creasebook$Paper" "Creasebook$Paper" "marks" "[I", Cond.laysFinal "Creasebook$Paper" "Creasebook$Paper" "ink" "[I", Cond.laysFinal "Creasebook$Paper" "Creasebook$Paper" "holes" "[I", Cond.laysFinal "Creasebook$Paper" "Creasebook$Paper" "glued" "[I"] : List Cond) := hw
  simp only [List.mem_cons, List.not_mem_nil, or_false] at h1
  rcases h1 with rfl | rfl | rfl | rfl | rfl | rfl | rfl | rfl | rfl
  · exact zinG 136 (by decide +kernel) (by decide +kernel)
  · exact zinG 138 (by decide +kernel) (by decide +kernel)
  · exact zinG 140 (by decide +kernel) (by decide +kernel)
  · exact zinG 142 (by decide +kernel) (by decide +kernel)
  · exact zinG 144 (by decide +kernel) (by decide +kernel)
  · exact zinG 146 (by decide +kernel) (by decide +kernel)
  · exact zinG 148 (by decide +kernel) (by decide +kernel)
  · exact zinG 150 (by decide +kernel) (by decide +kernel)
  · exact zinG 152 (by decide +kernel) (by decide +kernel)
theorem zinX2 : ∀ w ∈ u_ws RX2 TX2 8, w ∈ z_G := by
  intro w hw
  have h1 : w ∈ ([Cond.laysFinal "Creasebook" "Creasebook" "paper" "LCreasebook$Paper;", Cond.laysFinal "Creasebook" "Creasebook" "form" "LCreasebook$Form;", Cond.laysFinal "Creasebook" "Creasebook" "trial" "LCreasebook$Form;", Cond.laysFinal "Creasebook" "Creasebook" "past" "[LCreasebook$Form;", Cond.laysFinal "Creasebook" "Creasebook" "pastCode" "[I", Cond.lays "Creasebook" "Creasebook" "folds" "I", Cond.lays "Creasebook" "Creasebook" "blots" "I", Cond.lays "Creasebook" "Creasebook" "refusals" "I"] : List Cond) := hw
  simp only [List.mem_cons, List.not_mem_nil, or_false] at h1
  rcases h1 with rfl | rfl | rfl | rfl | rfl | rfl | rfl | rfl
  · exact zinG 222 (by decide +kernel) (by decide +kernel)
  · exact zinG 224 (by decide +kernel) (by decide +kernel)
  · exact zinG 226 (by decide +kernel) (by decide +kernel)
  · exact zinG 228 (by decide +kernel) (by decide +kernel)
  · exact zinG 230 (by decide +kernel) (by decide +kernel)
  · exact zinG 232 (by decide +kernel) (by decide +kernel)
  · exact zinG 234 (by decide +kernel) (by decide +kernel)
  · exact zinG 236 (by decide +kernel) (by decide +kernel)
theorem zw_0 : (Jvm.Cond.methodLink "Creasebook$Form" (3 : Nat) ({ cls := "java/lang/Object", name := "<init>", desc := "()V" } : Jvm.MethodName)) ∈ z_G := zinG 161 (by decide +kernel) (by decide +kernel)
theorem zw_1 : (Jvm.Cond.instanceMethod ({ cls := "java/lang/Object", name := "<init>", desc := "()V" } : Jvm.MethodName)) ∈ z_G := zinG 112 (by decide +kernel) (by decide +kernel)
theorem zw_2 : (Jvm.Cond.code ({ cls := "java/lang/Object", name := "<init>", desc := "()V" } : Jvm.MethodName) object_method_1_code (1 : Nat) (Option.none : Option Jvm.ClassFile.FieldType)) ∈ z_G := zinG 113 (by decide +kernel) (by decide +kernel)
theorem zw_3 : (Jvm.Cond.arrayClass Jvm.ClassFile.FieldType.int) ∈ z_G := zinG 155 (by decide +kernel) (by decide +kernel)
theorem zw_4 : (Jvm.Cond.fieldLink "Creasebook$Form" (9 : Nat) "Creasebook$Form" "column" "[I") ∈ z_G := zinG 167 (by decide +kernel) (by decide +kernel)
theorem zw_5 : (Jvm.Cond.fieldLink "Creasebook$Form" (15 : Nat) "Creasebook$Form" "row" "[I") ∈ z_G := zinG 169 (by decide +kernel) (by decide +kernel)
theorem zw_6 : (Jvm.Cond.fieldLink "Creasebook$Form" (18 : Nat) "Creasebook$Form" "layer" "[I") ∈ z_G := zinG 171 (by decide +kernel) (by decide +kernel)
theorem zw_7 : (Jvm.Cond.arrayClass Jvm.ClassFile.FieldType.boolean) ∈ z_G := zinG 192 (by decide +kernel) (by decide +kernel)
theorem zw_8 : (Jvm.Cond.fieldLink "Creasebook$Form" (21 : Nat) "Creasebook$Form" "isUp" "[Z") ∈ z_G := zinG 173 (by decide +kernel) (by decide +kernel)
theorem zw_9 : (Jvm.Cond.fieldLink "Creasebook$Form" (25 : Nat) "Creasebook$Form" "height" "[I") ∈ z_G := zinG 174 (by decide +kernel) (by decide +kernel)
theorem zw_10 : (Jvm.Cond.fieldLink "Creasebook$Form" (28 : Nat) "Creasebook$Form" "cells" "I") ∈ z_G := zinG 162 (by decide +kernel) (by decide +kernel)
theorem zw_11 : (Jvm.Cond.fieldLink "Creasebook$Form" (32 : Nat) "Creasebook$Form" "columns" "I") ∈ z_G := zinG 163 (by decide +kernel) (by decide +kernel)
theorem zw_12 : (Jvm.Cond.fieldLink "Creasebook$Form" (35 : Nat) "Creasebook$Form" "rows" "I") ∈ z_G := zinG 165 (by decide +kernel) (by decide +kernel)
theorem zw_13 : (Jvm.Cond.code ({ cls := "Creasebook$Form", name := "measurePiles", desc := "()V" } : Jvm.MethodName) prog_2_method_8_code (2 : Nat) (Option.none : Option Jvm.ClassFile.FieldType)) ∈ z_G := zinG 209 (by decide +kernel) (by decide +kernel)
theorem zw_14 : (Jvm.Cond.initialized "Creasebook$Form") ∈ z_G := zinG 88 (by decide +kernel) (by decide +kernel)
theorem zw_15 : (Jvm.Cond.methodLink "Creasebook$Form" (38 : Nat) ({ cls := "Creasebook$Form", name := "measurePiles", desc := "()V" } : Jvm.MethodName)) ∈ z_G := zinG 206 (by decide +kernel) (by decide +kernel)
theorem zw_16 : (Jvm.Cond.instanceMethod ({ cls := "Creasebook$Form", name := "measurePiles", desc := "()V" } : Jvm.MethodName)) ∈ z_G := zinG 208 (by decide +kernel) (by decide +kernel)
theorem zw_17 : (Jvm.Cond.selects "Creasebook$Form" (⟨"Creasebook$Form", "measurePiles", "()V"⟩ : MethodName) (⟨"Creasebook$Form", "measurePiles", "()V"⟩ : MethodName)) ∈ z_G := zinG 3 (by decide +kernel) (by decide +kernel)
theorem zw_18 : (Jvm.Cond.code ({ cls := "Creasebook", name := "axisOf", desc := "(I)I" } : Jvm.MethodName) prog_1_method_45_code (1 : Nat) (Option.some Jvm.ClassFile.FieldType.int)) ∈ z_G := zinG 261 (by decide +kernel) (by decide +kernel)
theorem zw_19 : (Jvm.Cond.initialized "Creasebook") ∈ z_G := zinG 86 (by decide +kernel) (by decide +kernel)
theorem zw_20 : (Jvm.Cond.methodLinkNest "Creasebook$Form" (41 : Nat) ({ cls := "Creasebook", name := "axisOf", desc := "(I)I" } : Jvm.MethodName) "Creasebook") ∈ z_N := zinN 259 (by decide +kernel) rfl
theorem zw_21 : (Jvm.Cond.static ({ cls := "Creasebook", name := "axisOf", desc := "(I)I" } : Jvm.MethodName)) ∈ z_G := zinG 260 (by decide +kernel) (by decide +kernel)
theorem zw_22 : (Jvm.Cond.code ({ cls := "Creasebook", name := "lineOf", desc := "(I)I" } : Jvm.MethodName) prog_1_method_44_code (1 : Nat) (Option.some Jvm.ClassFile.FieldType.int)) ∈ z_G := zinG 267 (by decide +kernel) (by decide +kernel)
theorem zw_23 : (Jvm.Cond.methodLinkNest "Creasebook$Form" (45 : Nat) ({ cls := "Creasebook", name := "lineOf", desc := "(I)I" } : Jvm.MethodName) "Creasebook") ∈ z_N := zinN 265 (by decide +kernel) rfl
theorem zw_24 : (Jvm.Cond.static ({ cls := "Creasebook", name := "lineOf", desc := "(I)I" } : Jvm.MethodName)) ∈ z_G := zinG 266 (by decide +kernel) (by decide +kernel)
theorem zw_25 : (Jvm.Cond.code ({ cls := "Creasebook", name := "isFar", desc := "(I)Z" } : Jvm.MethodName) prog_1_method_46_code (1 : Nat) (Option.some Jvm.ClassFile.FieldType.boolean)) ∈ z_G := zinG 264 (by decide +kernel) (by decide +kernel)
theorem zw_26 : (Jvm.Cond.methodLinkNest "Creasebook$Form" (48 : Nat) ({ cls := "Creasebook", name := "isFar", desc := "(I)Z" } : Jvm.MethodName) "Creasebook") ∈ z_N := zinN 262 (by decide +kernel) rfl
theorem zw_27 : (Jvm.Cond.static ({ cls := "Creasebook", name := "isFar", desc := "(I)Z" } : Jvm.MethodName)) ∈ z_G := zinG 263 (by decide +kernel) (by decide +kernel)
theorem zw_28 : (Jvm.Cond.methodLink "Creasebook$Form" (52 : Nat) ({ cls := "java/lang/Math", name := "min", desc := "(II)I" } : Jvm.MethodName)) ∈ z_G := zinG 346 (by decide +kernel) (by decide +kernel)
theorem zw_29 : (Jvm.Cond.static ({ cls := "java/lang/Math", name := "min", desc := "(II)I" } : Jvm.MethodName)) ∈ z_G := zinG 347 (by decide +kernel) (by decide +kernel)
theorem zw_30 : (Jvm.Cond.initialized "java/lang/Math") ∈ z_G := zinG 99 (by decide +kernel) (by decide +kernel)
theorem zw_31 : (Jvm.Cond.code ({ cls := "java/lang/Math", name := "min", desc := "(II)I" } : Jvm.MethodName) prog_14_method_69_code (2 : Nat) (Option.some Jvm.ClassFile.FieldType.int)) ∈ z_G := zinG 348 (by decide +kernel) (by decide +kernel)
theorem zw_32 : (Jvm.Cond.methodLink "Creasebook$Form" (58 : Nat) ({ cls := "java/lang/Math", name := "max", desc := "(II)I" } : Jvm.MethodName)) ∈ z_G := zinG 349 (by decide +kernel) (by decide +kernel)
theorem zw_33 : (Jvm.Cond.static ({ cls := "java/lang/Math", name := "max", desc := "(II)I" } : Jvm.MethodName)) ∈ z_G := zinG 350 (by decide +kernel) (by decide +kernel)
theorem zw_34 : (Jvm.Cond.code ({ cls := "java/lang/Math", name := "max", desc := "(II)I" } : Jvm.MethodName) prog_14_method_65_code (2 : Nat) (Option.some Jvm.ClassFile.FieldType.int)) ∈ z_G := zinG 351 (by decide +kernel) (by decide +kernel)
theorem zw_35 : (Jvm.Cond.code ({ cls := "Creasebook$Form", name := "goes", desc := "(II)Z" } : Jvm.MethodName) prog_2_method_20_code (4 : Nat) (Option.some Jvm.ClassFile.FieldType.boolean)) ∈ z_G := zinG 258 (by decide +kernel) (by decide +kernel)
theorem zw_36 : (Jvm.Cond.methodLink "Creasebook$Form" (61 : Nat) ({ cls := "Creasebook$Form", name := "goes", desc := "(II)Z" } : Jvm.MethodName)) ∈ z_G := zinG 352 (by decide +kernel) (by decide +kernel)
theorem zw_37 : (Jvm.Cond.instanceMethod ({ cls := "Creasebook$Form", name := "goes", desc := "(II)Z" } : Jvm.MethodName)) ∈ z_G := zinG 257 (by decide +kernel) (by decide +kernel)
theorem zw_38 : (Jvm.Cond.selects "Creasebook$Form" (⟨"Creasebook$Form", "goes", "(II)Z"⟩ : MethodName) (⟨"Creasebook$Form", "goes", "(II)Z"⟩ : MethodName)) ∈ z_G := zinG 8 (by decide +kernel) (by decide +kernel)
theorem zw_39 : (Jvm.Cond.code ({ cls := "Creasebook$Form", name := "mirroredColumn", desc := "(II)I" } : Jvm.MethodName) prog_2_method_21_code (3 : Nat) (Option.some Jvm.ClassFile.FieldType.int)) ∈ z_G := zinG 356 (by decide +kernel) (by decide +kernel)
theorem zw_40 : (Jvm.Cond.methodLink "Creasebook$Form" (65 : Nat) ({ cls := "Creasebook$Form", name := "mirroredColumn", desc := "(II)I" } : Jvm.MethodName)) ∈ z_G := zinG 353 (by decide +kernel) (by decide +kernel)
theorem zw_41 : (Jvm.Cond.instanceMethod ({ cls := "Creasebook$Form", name := "mirroredColumn", desc := "(II)I" } : Jvm.MethodName)) ∈ z_G := zinG 355 (by decide +kernel) (by decide +kernel)
theorem zw_42 : (Jvm.Cond.selects "Creasebook$Form" (⟨"Creasebook$Form", "mirroredColumn", "(II)I"⟩ : MethodName) (⟨"Creasebook$Form", "mirroredColumn", "(II)I"⟩ : MethodName)) ∈ z_G := zinG 24 (by decide +kernel) (by decide +kernel)
theorem zw_43 : (Jvm.Cond.code ({ cls := "Creasebook$Form", name := "mirroredRow", desc := "(II)I" } : Jvm.MethodName) prog_2_method_22_code (3 : Nat) (Option.some Jvm.ClassFile.FieldType.int)) ∈ z_G := zinG 360 (by decide +kernel) (by decide +kernel)
theorem zw_44 : (Jvm.Cond.methodLink "Creasebook$Form" (68 : Nat) ({ cls := "Creasebook$Form", name := "mirroredRow", desc := "(II)I" } : Jvm.MethodName)) ∈ z_G := zinG 357 (by decide +kernel) (by decide +kernel)
theorem zw_45 : (Jvm.Cond.instanceMethod ({ cls := "Creasebook$Form", name := "mirroredRow", desc := "(II)I" } : Jvm.MethodName)) ∈ z_G := zinG 359 (by decide +kernel) (by decide +kernel)
theorem zw_46 : (Jvm.Cond.selects "Creasebook$Form" (⟨"Creasebook$Form", "mirroredRow", "(II)I"⟩ : MethodName) (⟨"Creasebook$Form", "mirroredRow", "(II)I"⟩ : MethodName)) ∈ z_G := zinG 25 (by decide +kernel) (by decide +kernel)
theorem zw_47 : (Jvm.Cond.code ({ cls := "Creasebook$Form", name := "layerBehind", desc := "(II)I" } : Jvm.MethodName) prog_2_method_5_code (7 : Nat) (Option.some Jvm.ClassFile.FieldType.int)) ∈ z_G := zinG 364 (by decide +kernel) (by decide +kernel)
theorem zw_48 : (Jvm.Cond.methodLink "Creasebook$Form" (71 : Nat) ({ cls := "Creasebook$Form", name := "layerBehind", desc := "(II)I" } : Jvm.MethodName)) ∈ z_G := zinG 361 (by decide +kernel) (by decide +kernel)
theorem zw_49 : (Jvm.Cond.instanceMethod ({ cls := "Creasebook$Form", name := "layerBehind", desc := "(II)I" } : Jvm.MethodName)) ∈ z_G := zinG 363 (by decide +kernel) (by decide +kernel)
theorem zw_50 : (Jvm.Cond.selects "Creasebook$Form" (⟨"Creasebook$Form", "layerBehind", "(II)I"⟩ : MethodName) (⟨"Creasebook$Form", "layerBehind", "(II)I"⟩ : MethodName)) ∈ z_G := zinG 26 (by decide +kernel) (by decide +kernel)
theorem zw_51 : (Jvm.Cond.code ({ cls := "Creasebook$Form", name := "layerFromAbove", desc := "(I)I" } : Jvm.MethodName) prog_2_method_16_code (2 : Nat) (Option.some Jvm.ClassFile.FieldType.int)) ∈ z_G := zinG 287 (by decide +kernel) (by decide +kernel)
theorem zw_52 : (Jvm.Cond.methodLink "Creasebook$Form" (74 : Nat) ({ cls := "Creasebook$Form", name := "layerFromAbove", desc := "(I)I" } : Jvm.MethodName)) ∈ z_G := zinG 284 (by decide +kernel) (by decide +kernel)
theorem zw_53 : (Jvm.Cond.instanceMethod ({ cls := "Creasebook$Form", name := "layerFromAbove", desc := "(I)I" } : Jvm.MethodName)) ∈ z_G := zinG 286 (by decide +kernel) (by decide +kernel)
theorem zw_54 : (Jvm.Cond.selects "Creasebook$Form" (⟨"Creasebook$Form", "layerFromAbove", "(I)I"⟩ : MethodName) (⟨"Creasebook$Form", "layerFromAbove", "(I)I"⟩ : MethodName)) ∈ z_G := zinG 12 (by decide +kernel) (by decide +kernel)
theorem zw_55 : (Jvm.Cond.code ({ cls := "Creasebook", name := "isOver", desc := "(I)Z" } : Jvm.MethodName) prog_1_method_47_code (1 : Nat) (Option.some Jvm.ClassFile.FieldType.boolean)) ∈ z_G := zinG 367 (by decide +kernel) (by decide +kernel)
theorem zw_56 : (Jvm.Cond.methodLinkNest "Creasebook$Form" (77 : Nat) ({ cls := "Creasebook", name := "isOver", desc := "(I)Z" } : Jvm.MethodName) "Creasebook") ∈ z_N := zinN 365 (by decide +kernel) rfl
theorem zw_57 : (Jvm.Cond.static ({ cls := "Creasebook", name := "isOver", desc := "(I)Z" } : Jvm.MethodName)) ∈ z_G := zinG 366 (by decide +kernel) (by decide +kernel)
theorem zw_58 : (Jvm.Cond.code ({ cls := "Creasebook$Form", name := "heightAt", desc := "(II)I" } : Jvm.MethodName) prog_2_method_12_code (3 : Nat) (Option.some Jvm.ClassFile.FieldType.int)) ∈ z_G := zinG 291 (by decide +kernel) (by decide +kernel)
theorem zw_59 : (Jvm.Cond.methodLink "Creasebook$Form" (80 : Nat) ({ cls := "Creasebook$Form", name := "heightAt", desc := "(II)I" } : Jvm.MethodName)) ∈ z_G := zinG 288 (by decide +kernel) (by decide +kernel)
theorem zw_60 : (Jvm.Cond.instanceMethod ({ cls := "Creasebook$Form", name := "heightAt", desc := "(II)I" } : Jvm.MethodName)) ∈ z_G := zinG 290 (by decide +kernel) (by decide +kernel)
theorem zw_61 : (Jvm.Cond.selects "Creasebook$Form" (⟨"Creasebook$Form", "heightAt", "(II)I"⟩ : MethodName) (⟨"Creasebook$Form", "heightAt", "(II)I"⟩ : MethodName)) ∈ z_G := zinG 13 (by decide +kernel) (by decide +kernel)
theorem zw_62 : (Jvm.Cond.code ({ cls := "Creasebook$Form", name := "hasPlace", desc := "(II)Z" } : Jvm.MethodName) prog_2_method_10_code (3 : Nat) (Option.some Jvm.ClassFile.FieldType.boolean)) ∈ z_G := zinG 213 (by decide +kernel) (by decide +kernel)
theorem zw_63 : (Jvm.Cond.methodLink "Creasebook$Form" (83 : Nat) ({ cls := "Creasebook$Form", name := "hasPlace", desc := "(II)Z" } : Jvm.MethodName)) ∈ z_G := zinG 210 (by decide +kernel) (by decide +kernel)
theorem zw_64 : (Jvm.Cond.instanceMethod ({ cls := "Creasebook$Form", name := "hasPlace", desc := "(II)Z" } : Jvm.MethodName)) ∈ z_G := zinG 212 (by decide +kernel) (by decide +kernel)
theorem zw_65 : (Jvm.Cond.selects "Creasebook$Form" (⟨"Creasebook$Form", "hasPlace", "(II)Z"⟩ : MethodName) (⟨"Creasebook$Form", "hasPlace", "(II)Z"⟩ : MethodName)) ∈ z_G := zinG 4 (by decide +kernel) (by decide +kernel)
theorem zw_66 : (Jvm.Cond.code ({ cls := "Creasebook$Form", name := "liesAt", desc := "(III)Z" } : Jvm.MethodName) prog_2_method_13_code (4 : Nat) (Option.some Jvm.ClassFile.FieldType.boolean)) ∈ z_G := zinG 319 (by decide +kernel) (by decide +kernel)
theorem zw_67 : (Jvm.Cond.methodLink "Creasebook$Form" (86 : Nat) ({ cls := "Creasebook$Form", name := "liesAt", desc := "(III)Z" } : Jvm.MethodName)) ∈ z_G := zinG 316 (by decide +kernel) (by decide +kernel)
theorem zw_68 : (Jvm.Cond.instanceMethod ({ cls := "Creasebook$Form", name := "liesAt", desc := "(III)Z" } : Jvm.MethodName)) ∈ z_G := zinG 318 (by decide +kernel) (by decide +kernel)
theorem zw_69 : (Jvm.Cond.selects "Creasebook$Form" (⟨"Creasebook$Form", "liesAt", "(III)Z"⟩ : MethodName) (⟨"Creasebook$Form", "liesAt", "(III)Z"⟩ : MethodName)) ∈ z_G := zinG 19 (by decide +kernel) (by decide +kernel)
theorem zw_70 : (Jvm.Cond.code ({ cls := "Creasebook$Form", name := "cellAt", desc := "(III)I" } : Jvm.MethodName) prog_2_method_14_code (5 : Nat) (Option.some Jvm.ClassFile.FieldType.int)) ∈ z_G := zinG 315 (by decide +kernel) (by decide +kernel)
theorem zw_71 : (Jvm.Cond.methodLink "Creasebook$Form" (90 : Nat) ({ cls := "Creasebook$Form", name := "cellAt", desc := "(III)I" } : Jvm.MethodName)) ∈ z_G := zinG 312 (by decide +kernel) (by decide +kernel)
theorem zw_72 : (Jvm.Cond.instanceMethod ({ cls := "Creasebook$Form", name := "cellAt", desc := "(III)I" } : Jvm.MethodName)) ∈ z_G := zinG 314 (by decide +kernel) (by decide +kernel)
theorem zw_73 : (Jvm.Cond.selects "Creasebook$Form" (⟨"Creasebook$Form", "cellAt", "(III)I"⟩ : MethodName) (⟨"Creasebook$Form", "cellAt", "(III)I"⟩ : MethodName)) ∈ z_G := zinG 18 (by decide +kernel) (by decide +kernel)
theorem zw_74 : (Jvm.Cond.code ({ cls := "Creasebook$Form", name := "isOutermost", desc := "(IZ)Z" } : Jvm.MethodName) prog_2_method_17_code (3 : Nat) (Option.some Jvm.ClassFile.FieldType.boolean)) ∈ z_G := zinG 299 (by decide +kernel) (by decide +kernel)
theorem zw_75 : (Jvm.Cond.methodLink "Creasebook$Form" (94 : Nat) ({ cls := "Creasebook$Form", name := "isOutermost", desc := "(IZ)Z" } : Jvm.MethodName)) ∈ z_G := zinG 296 (by decide +kernel) (by decide +kernel)
theorem zw_76 : (Jvm.Cond.instanceMethod ({ cls := "Creasebook$Form", name := "isOutermost", desc := "(IZ)Z" } : Jvm.MethodName)) ∈ z_G := zinG 298 (by decide +kernel) (by decide +kernel)
theorem zw_77 : (Jvm.Cond.selects "Creasebook$Form" (⟨"Creasebook$Form", "isOutermost", "(IZ)Z"⟩ : MethodName) (⟨"Creasebook$Form", "isOutermost", "(IZ)Z"⟩ : MethodName)) ∈ z_G := zinG 15 (by decide +kernel) (by decide +kernel)
theorem zw_78 : (Jvm.Cond.methodLink "Creasebook$Paper" (3 : Nat) ({ cls := "java/lang/Object", name := "<init>", desc := "()V" } : Jvm.MethodName)) ∈ z_G := zinG 119 (by decide +kernel) (by decide +kernel)
theorem zw_79 : (Jvm.Cond.fieldLink "Creasebook$Paper" (9 : Nat) "Creasebook$Paper" "crease" "[I") ∈ z_G := zinG 126 (by decide +kernel) (by decide +kernel)
theorem zw_80 : (Jvm.Cond.fieldLink "Creasebook$Paper" (15 : Nat) "Creasebook$Paper" "creasedBy" "[I") ∈ z_G := zinG 128 (by decide +kernel) (by decide +kernel)
theorem zw_81 : (Jvm.Cond.fieldLink "Creasebook$Paper" (18 : Nat) "Creasebook$Paper" "marks" "[I") ∈ z_G := zinG 129 (by decide +kernel) (by decide +kernel)
theorem zw_82 : (Jvm.Cond.fieldLink "Creasebook$Paper" (21 : Nat) "Creasebook$Paper" "ink" "[I") ∈ z_G := zinG 131 (by decide +kernel) (by decide +kernel)
theorem zw_83 : (Jvm.Cond.fieldLink "Creasebook$Paper" (24 : Nat) "Creasebook$Paper" "holes" "[I") ∈ z_G := zinG 133 (by decide +kernel) (by decide +kernel)
theorem zw_84 : (Jvm.Cond.fieldLink "Creasebook$Paper" (27 : Nat) "Creasebook$Paper" "glued" "[I") ∈ z_G := zinG 135 (by decide +kernel) (by decide +kernel)
theorem zw_85 : (Jvm.Cond.fieldLink "Creasebook$Paper" (30 : Nat) "Creasebook$Paper" "wide" "I") ∈ z_G := zinG 120 (by decide +kernel) (by decide +kernel)
theorem zw_86 : (Jvm.Cond.fieldLink "Creasebook$Paper" (34 : Nat) "Creasebook$Paper" "high" "I") ∈ z_G := zinG 122 (by decide +kernel) (by decide +kernel)
theorem zw_87 : (Jvm.Cond.fieldLink "Creasebook$Paper" (37 : Nat) "Creasebook$Paper" "cells" "I") ∈ z_G := zinG 124 (by decide +kernel) (by decide +kernel)
theorem zw_88 : (Jvm.Cond.code ({ cls := "Creasebook$Paper", name := "hasCell", desc := "(I)Z" } : Jvm.MethodName) prog_3_method_3_code (2 : Nat) (Option.some Jvm.ClassFile.FieldType.boolean)) ∈ z_G := zinG 254 (by decide +kernel) (by decide +kernel)
theorem zw_89 : (Jvm.Cond.initialized "Creasebook$Paper") ∈ z_G := zinG 87 (by decide +kernel) (by decide +kernel)
theorem zw_90 : (Jvm.Cond.methodLink "Creasebook$Paper" (40 : Nat) ({ cls := "Creasebook$Paper", name := "hasCell", desc := "(I)Z" } : Jvm.MethodName)) ∈ z_G := zinG 251 (by decide +kernel) (by decide +kernel)
theorem zw_91 : (Jvm.Cond.instanceMethod ({ cls := "Creasebook$Paper", name := "hasCell", desc := "(I)Z" } : Jvm.MethodName)) ∈ z_G := zinG 253 (by decide +kernel) (by decide +kernel)
theorem zw_92 : (Jvm.Cond.selects "Creasebook$Paper" (⟨"Creasebook$Paper", "hasCell", "(I)Z"⟩ : MethodName) (⟨"Creasebook$Paper", "hasCell", "(I)Z"⟩ : MethodName)) ∈ z_G := zinG 7 (by decide +kernel) (by decide +kernel)
theorem zw_93 : (Jvm.Cond.code ({ cls := "Creasebook", name := "pairOf", desc := "(IZ)I" } : Jvm.MethodName) prog_1_method_48_code (2 : Nat) (Option.some Jvm.ClassFile.FieldType.int)) ∈ z_G := zinG 529 (by decide +kernel) (by decide +kernel)
theorem zw_94 : (Jvm.Cond.methodLinkNest "Creasebook$Paper" (44 : Nat) ({ cls := "Creasebook", name := "pairOf", desc := "(IZ)I" } : Jvm.MethodName) "Creasebook") ∈ z_N := zinN 527 (by decide +kernel) rfl
theorem zw_95 : (Jvm.Cond.static ({ cls := "Creasebook", name := "pairOf", desc := "(IZ)I" } : Jvm.MethodName)) ∈ z_G := zinG 528 (by decide +kernel) (by decide +kernel)
theorem zw_96 : (Jvm.Cond.code ({ cls := "Creasebook$Paper", name := "cellBeside", desc := "(IZ)I" } : Jvm.MethodName) prog_3_method_4_code (4 : Nat) (Option.some Jvm.ClassFile.FieldType.int)) ∈ z_G := zinG 533 (by decide +kernel) (by decide +kernel)
theorem zw_97 : (Jvm.Cond.methodLink "Creasebook$Paper" (48 : Nat) ({ cls := "Creasebook$Paper", name := "cellBeside", desc := "(IZ)I" } : Jvm.MethodName)) ∈ z_G := zinG 530 (by decide +kernel) (by decide +kernel)
theorem zw_98 : (Jvm.Cond.instanceMethod ({ cls := "Creasebook$Paper", name := "cellBeside", desc := "(IZ)I" } : Jvm.MethodName)) ∈ z_G := zinG 532 (by decide +kernel) (by decide +kernel)
theorem zw_99 : (Jvm.Cond.selects "Creasebook$Paper" (⟨"Creasebook$Paper", "cellBeside", "(IZ)I"⟩ : MethodName) (⟨"Creasebook$Paper", "cellBeside", "(IZ)I"⟩ : MethodName)) ∈ z_G := zinG 39 (by decide +kernel) (by decide +kernel)
theorem zw_100 : (Jvm.Cond.code ({ cls := "Creasebook", name := "numberOf", desc := "(Z)I" } : Jvm.MethodName) prog_1_method_42_code (1 : Nat) (Option.some Jvm.ClassFile.FieldType.int)) ∈ z_G := zinG 519 (by decide +kernel) (by decide +kernel)
theorem zw_101 : (Jvm.Cond.methodLinkNest "Creasebook$Paper" (51 : Nat) ({ cls := "Creasebook", name := "numberOf", desc := "(Z)I" } : Jvm.MethodName) "Creasebook") ∈ z_N := zinN 717 (by decide +kernel) rfl
theorem zw_102 : (Jvm.Cond.static ({ cls := "Creasebook", name := "numberOf", desc := "(Z)I" } : Jvm.MethodName)) ∈ z_G := zinG 518 (by decide +kernel) (by decide +kernel)
theorem zw_103 : (Jvm.Cond.code ({ cls := "Creasebook$Paper", name := "isWet", desc := "(I)Z" } : Jvm.MethodName) prog_3_method_11_code (2 : Nat) (Option.some Jvm.ClassFile.FieldType.boolean)) ∈ z_G := zinG 331 (by decide +kernel) (by decide +kernel)
theorem zw_104 : (Jvm.Cond.methodLink "Creasebook$Paper" (55 : Nat) ({ cls := "Creasebook$Paper", name := "isWet", desc := "(I)Z" } : Jvm.MethodName)) ∈ z_G := zinG 328 (by decide +kernel) (by decide +kernel)
theorem zw_105 : (Jvm.Cond.instanceMethod ({ cls := "Creasebook$Paper", name := "isWet", desc := "(I)Z" } : Jvm.MethodName)) ∈ z_G := zinG 330 (by decide +kernel) (by decide +kernel)
theorem zw_106 : (Jvm.Cond.selects "Creasebook$Paper" (⟨"Creasebook$Paper", "isWet", "(I)Z"⟩ : MethodName) (⟨"Creasebook$Paper", "isWet", "(I)Z"⟩ : MethodName)) ∈ z_G := zinG 21 (by decide +kernel) (by decide +kernel)
theorem zw_107 : (Jvm.Cond.methodLink "Creasebook" (1 : Nat) ({ cls := "java/lang/Object", name := "<init>", desc := "()V" } : Jvm.MethodName)) ∈ z_G := zinG 111 (by decide +kernel) (by decide +kernel)
theorem zw_108 : (Jvm.Cond.classLink "Creasebook" (7 : Nat) "Creasebook$Paper") ∈ z_G := zinG 114 (by decide +kernel) (by decide +kernel)
theorem zw_109 : (Jvm.Cond.instantiable "Creasebook$Paper" (9 : Nat)) ∈ z_G := zinG 115 (by decide +kernel) (by decide +kernel)
theorem zw_110 : (Jvm.Cond.code ({ cls := "Creasebook$Paper", name := "<init>", desc := "()V" } : Jvm.MethodName) prog_3_method_1_code (1 : Nat) (Option.none : Option Jvm.ClassFile.FieldType)) ∈ z_G := zinG 118 (by decide +kernel) (by decide +kernel)
theorem zw_111 : (Jvm.Cond.methodLinkNest "Creasebook" (9 : Nat) ({ cls := "Creasebook$Paper", name := "<init>", desc := "()V" } : Jvm.MethodName) "Creasebook") ∈ z_N := zinN 116 (by decide +kernel) rfl
theorem zw_112 : (Jvm.Cond.instanceMethod ({ cls := "Creasebook$Paper", name := "<init>", desc := "()V" } : Jvm.MethodName)) ∈ z_G := zinG 117 (by decide +kernel) (by decide +kernel)
theorem zw_113 : (Jvm.Cond.fieldLink "Creasebook" (10 : Nat) "Creasebook" "paper" "LCreasebook$Paper;") ∈ z_G := zinG 214 (by decide +kernel) (by decide +kernel)
theorem zw_114 : (Jvm.Cond.classLink "Creasebook" (16 : Nat) "Creasebook$Form") ∈ z_G := zinG 156 (by decide +kernel) (by decide +kernel)
theorem zw_115 : (Jvm.Cond.instantiable "Creasebook$Form" (8 : Nat)) ∈ z_G := zinG 157 (by decide +kernel) (by decide +kernel)
theorem zw_116 : (Jvm.Cond.code ({ cls := "Creasebook$Form", name := "<init>", desc := "()V" } : Jvm.MethodName) prog_2_method_1_code (1 : Nat) (Option.none : Option Jvm.ClassFile.FieldType)) ∈ z_G := zinG 160 (by decide +kernel) (by decide +kernel)
theorem zw_117 : (Jvm.Cond.methodLinkNest "Creasebook" (18 : Nat) ({ cls := "Creasebook$Form", name := "<init>", desc := "()V" } : Jvm.MethodName) "Creasebook") ∈ z_N := zinN 158 (by decide +kernel) rfl
theorem zw_118 : (Jvm.Cond.instanceMethod ({ cls := "Creasebook$Form", name := "<init>", desc := "()V" } : Jvm.MethodName)) ∈ z_G := zinG 159 (by decide +kernel) (by decide +kernel)
theorem zw_119 : (Jvm.Cond.fieldLink "Creasebook" (19 : Nat) "Creasebook" "form" "LCreasebook$Form;") ∈ z_G := zinG 215 (by decide +kernel) (by decide +kernel)
theorem zw_120 : (Jvm.Cond.fieldLink "Creasebook" (23 : Nat) "Creasebook" "trial" "LCreasebook$Form;") ∈ z_G := zinG 216 (by decide +kernel) (by decide +kernel)
theorem zw_121 : (Jvm.Cond.arrayOver (Jvm.ClassFile.FieldType.object "Creasebook$Form")) ∈ z_N := zinN 193 (by decide +kernel) rfl
theorem zw_122 : (Jvm.Cond.fieldLink "Creasebook" (26 : Nat) "Creasebook" "past" "[LCreasebook$Form;") ∈ z_G := zinG 217 (by decide +kernel) (by decide +kernel)
theorem zw_123 : (Jvm.Cond.fieldLink "Creasebook" (30 : Nat) "Creasebook" "pastCode" "[I") ∈ z_G := zinG 218 (by decide +kernel) (by decide +kernel)
theorem zw_124 : (Jvm.Cond.code ({ cls := "Creasebook", name := "begin", desc := "(II)V" } : Jvm.MethodName) prog_1_method_23_code (3 : Nat) (Option.none : Option Jvm.ClassFile.FieldType)) ∈ z_G := zinG 197 (by decide +kernel) (by decide +kernel)
theorem zw_125 : (Jvm.Cond.methodLink "Creasebook" (34 : Nat) ({ cls := "Creasebook", name := "begin", desc := "(II)V" } : Jvm.MethodName)) ∈ z_G := zinG 194 (by decide +kernel) (by decide +kernel)
theorem zw_126 : (Jvm.Cond.instanceMethod ({ cls := "Creasebook", name := "begin", desc := "(II)V" } : Jvm.MethodName)) ∈ z_G := zinG 196 (by decide +kernel) (by decide +kernel)
theorem zw_127 : (Jvm.Cond.selects "Creasebook" (⟨"Creasebook", "begin", "(II)V"⟩ : MethodName) (⟨"Creasebook", "begin", "(II)V"⟩ : MethodName)) ∈ z_G := zinG 0 (by decide +kernel) (by decide +kernel)
theorem zw_128 : (Jvm.Cond.fieldLinkNest "Creasebook" (47 : Nat) "Creasebook$Paper" "cells" "I" "Creasebook") ∈ z_N := zinN 125 (by decide +kernel) rfl
theorem zw_129 : (Jvm.Cond.code ({ cls := "Creasebook", name := "requireLine", desc := "(II)V" } : Jvm.MethodName) prog_1_method_24_code (3 : Nat) (Option.none : Option Jvm.ClassFile.FieldType)) ∈ z_G := zinG 597 (by decide +kernel) (by decide +kernel)
theorem zw_130 : (Jvm.Cond.methodLink "Creasebook" (51 : Nat) ({ cls := "Creasebook", name := "requireLine", desc := "(II)V" } : Jvm.MethodName)) ∈ z_G := zinG 594 (by decide +kernel) (by decide +kernel)
theorem zw_131 : (Jvm.Cond.instanceMethod ({ cls := "Creasebook", name := "requireLine", desc := "(II)V" } : Jvm.MethodName)) ∈ z_G := zinG 596 (by decide +kernel) (by decide +kernel)
theorem zw_132 : (Jvm.Cond.selects "Creasebook" (⟨"Creasebook", "requireLine", "(II)V"⟩ : MethodName) (⟨"Creasebook", "requireLine", "(II)V"⟩ : MethodName)) ∈ z_G := zinG 45 (by decide +kernel) (by decide +kernel)
theorem zw_133 : (Jvm.Cond.fieldLink "Creasebook" (54 : Nat) "Creasebook" "folds" "I") ∈ z_G := zinG 219 (by decide +kernel) (by decide +kernel)
theorem zw_134 : (Jvm.Cond.code ({ cls := "Creasebook", name := "codeOf", desc := "(IIZZ)I" } : Jvm.MethodName) prog_1_method_43_code (4 : Nat) (Option.some Jvm.ClassFile.FieldType.int)) ∈ z_G := zinG 617 (by decide +kernel) (by decide +kernel)
theorem zw_135 : (Jvm.Cond.methodLink "Creasebook" (62 : Nat) ({ cls := "Creasebook", name := "codeOf", desc := "(IIZZ)I" } : Jvm.MethodName)) ∈ z_G := zinG 615 (by decide +kernel) (by decide +kernel)
theorem zw_136 : (Jvm.Cond.static ({ cls := "Creasebook", name := "codeOf", desc := "(IIZZ)I" } : Jvm.MethodName)) ∈ z_G := zinG 616 (by decide +kernel) (by decide +kernel)
theorem zw_137 : (Jvm.Cond.code ({ cls := "Creasebook$Form", name := "copyFrom", desc := "(LCreasebook$Form;)V" } : Jvm.MethodName) prog_2_method_3_code (3 : Nat) (Option.none : Option Jvm.ClassFile.FieldType)) ∈ z_G := zinG 275 (by decide +kernel) (by decide +kernel)
theorem zw_138 : (Jvm.Cond.methodLinkNest "Creasebook" (66 : Nat) ({ cls := "Creasebook$Form", name := "copyFrom", desc := "(LCreasebook$Form;)V" } : Jvm.MethodName) "Creasebook") ∈ z_N := zinN 272 (by decide +kernel) rfl
theorem zw_139 : (Jvm.Cond.instanceMethod ({ cls := "Creasebook$Form", name := "copyFrom", desc := "(LCreasebook$Form;)V" } : Jvm.MethodName)) ∈ z_G := zinG 274 (by decide +kernel) (by decide +kernel)
theorem zw_140 : (Jvm.Cond.selects "Creasebook$Form" (⟨"Creasebook$Form", "copyFrom", "(LCreasebook$Form;)V"⟩ : MethodName) (⟨"Creasebook$Form", "copyFrom", "(LCreasebook$Form;)V"⟩ : MethodName)) ∈ z_G := zinG 10 (by decide +kernel) (by decide +kernel)
theorem zw_141 : (Jvm.Cond.fieldLink "Creasebook" (70 : Nat) "Creasebook" "blots" "I") ∈ z_G := zinG 220 (by decide +kernel) (by decide +kernel)
theorem zw_142 : (Jvm.Cond.code ({ cls := "Creasebook", name := "spreadInk", desc := "(I)I" } : Jvm.MethodName) prog_1_method_30_code (5 : Nat) (Option.some Jvm.ClassFile.FieldType.int)) ∈ z_G := zinG 621 (by decide +kernel) (by decide +kernel)
theorem zw_143 : (Jvm.Cond.methodLink "Creasebook" (73 : Nat) ({ cls := "Creasebook", name := "spreadInk", desc := "(I)I" } : Jvm.MethodName)) ∈ z_G := zinG 618 (by decide +kernel) (by decide +kernel)
theorem zw_144 : (Jvm.Cond.instanceMethod ({ cls := "Creasebook", name := "spreadInk", desc := "(I)I" } : Jvm.MethodName)) ∈ z_G := zinG 620 (by decide +kernel) (by decide +kernel)
theorem zw_145 : (Jvm.Cond.selects "Creasebook" (⟨"Creasebook", "spreadInk", "(I)I"⟩ : MethodName) (⟨"Creasebook", "spreadInk", "(I)I"⟩ : MethodName)) ∈ z_G := zinG 46 (by decide +kernel) (by decide +kernel)
theorem zw_146 : (Jvm.Cond.code ({ cls := "Creasebook", name := "creaseAlong", desc := "(I)I" } : Jvm.MethodName) prog_1_method_28_code (4 : Nat) (Option.some Jvm.ClassFile.FieldType.int)) ∈ z_G := zinG 646 (by decide +kernel) (by decide +kernel)
theorem zw_147 : (Jvm.Cond.methodLink "Creasebook" (77 : Nat) ({ cls := "Creasebook", name := "creaseAlong", desc := "(I)I" } : Jvm.MethodName)) ∈ z_G := zinG 643 (by decide +kernel) (by decide +kernel)
theorem zw_148 : (Jvm.Cond.instanceMethod ({ cls := "Creasebook", name := "creaseAlong", desc := "(I)I" } : Jvm.MethodName)) ∈ z_G := zinG 645 (by decide +kernel) (by decide +kernel)
theorem zw_149 : (Jvm.Cond.selects "Creasebook" (⟨"Creasebook", "creaseAlong", "(I)I"⟩ : MethodName) (⟨"Creasebook", "creaseAlong", "(I)I"⟩ : MethodName)) ∈ z_G := zinG 51 (by decide +kernel) (by decide +kernel)
theorem zw_150 : (Jvm.Cond.code ({ cls := "Creasebook$Form", name := "becomeFolded", desc := "(LCreasebook$Form;I)V" } : Jvm.MethodName) prog_2_method_4_code (12 : Nat) (Option.none : Option Jvm.ClassFile.FieldType)) ∈ z_G := zinG 345 (by decide +kernel) (by decide +kernel)
theorem zw_151 : (Jvm.Cond.methodLinkNest "Creasebook" (80 : Nat) ({ cls := "Creasebook$Form", name := "becomeFolded", desc := "(LCreasebook$Form;I)V" } : Jvm.MethodName) "Creasebook") ∈ z_N := zinN 342 (by decide +kernel) rfl
theorem zw_152 : (Jvm.Cond.instanceMethod ({ cls := "Creasebook$Form", name := "becomeFolded", desc := "(LCreasebook$Form;I)V" } : Jvm.MethodName)) ∈ z_G := zinG 344 (by decide +kernel) (by decide +kernel)
theorem zw_153 : (Jvm.Cond.selects "Creasebook$Form" (⟨"Creasebook$Form", "becomeFolded", "(LCreasebook$Form;I)V"⟩ : MethodName) (⟨"Creasebook$Form", "becomeFolded", "(LCreasebook$Form;I)V"⟩ : MethodName)) ∈ z_G := zinG 23 (by decide +kernel) (by decide +kernel)
theorem zw_154 : (Jvm.Cond.code ({ cls := "Creasebook", name := "isHeldByGlue", desc := "()Z" } : Jvm.MethodName) prog_1_method_35_code (5 : Nat) (Option.some Jvm.ClassFile.FieldType.boolean)) ∈ z_G := zinG 246 (by decide +kernel) (by decide +kernel)
theorem zw_155 : (Jvm.Cond.methodLink "Creasebook" (84 : Nat) ({ cls := "Creasebook", name := "isHeldByGlue", desc := "()Z" } : Jvm.MethodName)) ∈ z_G := zinG 243 (by decide +kernel) (by decide +kernel)
theorem zw_156 : (Jvm.Cond.instanceMethod ({ cls := "Creasebook", name := "isHeldByGlue", desc := "()Z" } : Jvm.MethodName)) ∈ z_G := zinG 245 (by decide +kernel) (by decide +kernel)
theorem zw_157 : (Jvm.Cond.selects "Creasebook" (⟨"Creasebook", "isHeldByGlue", "()Z"⟩ : MethodName) (⟨"Creasebook", "isHeldByGlue", "()Z"⟩ : MethodName)) ∈ z_G := zinG 5 (by decide +kernel) (by decide +kernel)
theorem zw_158 : (Jvm.Cond.fieldLink "Creasebook" (88 : Nat) "Creasebook" "refusals" "I") ∈ z_G := zinG 221 (by decide +kernel) (by decide +kernel)
theorem zw_159 : (Jvm.Cond.code ({ cls := "Creasebook$Paper", name := "smoothCreasesOf", desc := "(I)V" } : Jvm.MethodName) prog_3_method_6_code (3 : Nat) (Option.none : Option Jvm.ClassFile.FieldType)) ∈ z_G := zinG 271 (by decide +kernel) (by decide +kernel)
theorem zw_160 : (Jvm.Cond.methodLinkNest "Creasebook" (91 : Nat) ({ cls := "Creasebook$Paper", name := "smoothCreasesOf", desc := "(I)V" } : Jvm.MethodName) "Creasebook") ∈ z_N := zinN 268 (by decide +kernel) rfl
theorem zw_161 : (Jvm.Cond.instanceMethod ({ cls := "Creasebook$Paper", name := "smoothCreasesOf", desc := "(I)V" } : Jvm.MethodName)) ∈ z_G := zinG 270 (by decide +kernel) (by decide +kernel)
theorem zw_162 : (Jvm.Cond.selects "Creasebook$Paper" (⟨"Creasebook$Paper", "smoothCreasesOf", "(I)V"⟩ : MethodName) (⟨"Creasebook$Paper", "smoothCreasesOf", "(I)V"⟩ : MethodName)) ∈ z_G := zinG 9 (by decide +kernel) (by decide +kernel)
theorem zw_163 : (Jvm.Cond.code ({ cls := "Creasebook$Form", name := "turnOver", desc := "()V" } : Jvm.MethodName) prog_2_method_6_code (2 : Nat) (Option.none : Option Jvm.ClassFile.FieldType)) ∈ z_G := zinG 283 (by decide +kernel) (by decide +kernel)
theorem zw_164 : (Jvm.Cond.methodLinkNest "Creasebook" (95 : Nat) ({ cls := "Creasebook$Form", name := "turnOver", desc := "()V" } : Jvm.MethodName) "Creasebook") ∈ z_N := zinN 280 (by decide +kernel) rfl
theorem zw_165 : (Jvm.Cond.instanceMethod ({ cls := "Creasebook$Form", name := "turnOver", desc := "()V" } : Jvm.MethodName)) ∈ z_G := zinG 282 (by decide +kernel) (by decide +kernel)
theorem zw_166 : (Jvm.Cond.selects "Creasebook$Form" (⟨"Creasebook$Form", "turnOver", "()V"⟩ : MethodName) (⟨"Creasebook$Form", "turnOver", "()V"⟩ : MethodName)) ∈ z_G := zinG 11 (by decide +kernel) (by decide +kernel)
theorem zw_167 : (Jvm.Cond.code ({ cls := "Creasebook$Form", name := "frontsSeenFromAbove", desc := "()I" } : Jvm.MethodName) prog_2_method_25_code (3 : Nat) (Option.some Jvm.ClassFile.FieldType.int)) ∈ z_G := zinG 295 (by decide +kernel) (by decide +kernel)
theorem zw_168 : (Jvm.Cond.methodLinkNest "Creasebook" (98 : Nat) ({ cls := "Creasebook$Form", name := "frontsSeenFromAbove", desc := "()I" } : Jvm.MethodName) "Creasebook") ∈ z_N := zinN 292 (by decide +kernel) rfl
theorem zw_169 : (Jvm.Cond.instanceMethod ({ cls := "Creasebook$Form", name := "frontsSeenFromAbove", desc := "()I" } : Jvm.MethodName)) ∈ z_G := zinG 294 (by decide +kernel) (by decide +kernel)
theorem zw_170 : (Jvm.Cond.selects "Creasebook$Form" (⟨"Creasebook$Form", "frontsSeenFromAbove", "()I"⟩ : MethodName) (⟨"Creasebook$Form", "frontsSeenFromAbove", "()I"⟩ : MethodName)) ∈ z_G := zinG 14 (by decide +kernel) (by decide +kernel)
theorem zw_171 : (Jvm.Cond.code ({ cls := "Creasebook$Form", name := "turnRound", desc := "()V" } : Jvm.MethodName) prog_2_method_7_code (2 : Nat) (Option.none : Option Jvm.ClassFile.FieldType)) ∈ z_G := zinG 307 (by decide +kernel) (by decide +kernel)
theorem zw_172 : (Jvm.Cond.methodLinkNest "Creasebook" (102 : Nat) ({ cls := "Creasebook$Form", name := "turnRound", desc := "()V" } : Jvm.MethodName) "Creasebook") ∈ z_N := zinN 304 (by decide +kernel) rfl
theorem zw_173 : (Jvm.Cond.instanceMethod ({ cls := "Creasebook$Form", name := "turnRound", desc := "()V" } : Jvm.MethodName)) ∈ z_G := zinG 306 (by decide +kernel) (by decide +kernel)
theorem zw_174 : (Jvm.Cond.selects "Creasebook$Form" (⟨"Creasebook$Form", "turnRound", "()V"⟩ : MethodName) (⟨"Creasebook$Form", "turnRound", "()V"⟩ : MethodName)) ∈ z_G := zinG 16 (by decide +kernel) (by decide +kernel)
theorem zw_175 : (Jvm.Cond.code ({ cls := "Creasebook$Form", name := "highestAt", desc := "(II)I" } : Jvm.MethodName) prog_2_method_15_code (3 : Nat) (Option.some Jvm.ClassFile.FieldType.int)) ∈ z_G := zinG 311 (by decide +kernel) (by decide +kernel)
theorem zw_176 : (Jvm.Cond.methodLinkNest "Creasebook" (105 : Nat) ({ cls := "Creasebook$Form", name := "highestAt", desc := "(II)I" } : Jvm.MethodName) "Creasebook") ∈ z_N := zinN 308 (by decide +kernel) rfl
theorem zw_177 : (Jvm.Cond.instanceMethod ({ cls := "Creasebook$Form", name := "highestAt", desc := "(II)I" } : Jvm.MethodName)) ∈ z_G := zinG 310 (by decide +kernel) (by decide +kernel)
theorem zw_178 : (Jvm.Cond.selects "Creasebook$Form" (⟨"Creasebook$Form", "highestAt", "(II)I"⟩ : MethodName) (⟨"Creasebook$Form", "highestAt", "(II)I"⟩ : MethodName)) ∈ z_G := zinG 17 (by decide +kernel) (by decide +kernel)
theorem zw_179 : (Jvm.Cond.code ({ cls := "Creasebook", name := "requirePlace", desc := "(II)V" } : Jvm.MethodName) prog_1_method_25_code (3 : Nat) (Option.none : Option Jvm.ClassFile.FieldType)) ∈ z_G := zinG 551 (by decide +kernel) (by decide +kernel)
theorem zw_180 : (Jvm.Cond.methodLink "Creasebook" (109 : Nat) ({ cls := "Creasebook", name := "requirePlace", desc := "(II)V" } : Jvm.MethodName)) ∈ z_G := zinG 548 (by decide +kernel) (by decide +kernel)
theorem zw_181 : (Jvm.Cond.instanceMethod ({ cls := "Creasebook", name := "requirePlace", desc := "(II)V" } : Jvm.MethodName)) ∈ z_G := zinG 550 (by decide +kernel) (by decide +kernel)
theorem zw_182 : (Jvm.Cond.selects "Creasebook" (⟨"Creasebook", "requirePlace", "(II)V"⟩ : MethodName) (⟨"Creasebook", "requirePlace", "(II)V"⟩ : MethodName)) ∈ z_G := zinG 41 (by decide +kernel) (by decide +kernel)
theorem zw_183 : (Jvm.Cond.code ({ cls := "Creasebook", name := "outerSide", desc := "(IZ)I" } : Jvm.MethodName) prog_1_method_34_code (3 : Nat) (Option.some Jvm.ClassFile.FieldType.int)) ∈ z_G := zinG 637 (by decide +kernel) (by decide +kernel)
theorem zw_184 : (Jvm.Cond.methodLink "Creasebook" (112 : Nat) ({ cls := "Creasebook", name := "outerSide", desc := "(IZ)I" } : Jvm.MethodName)) ∈ z_G := zinG 634 (by decide +kernel) (by decide +kernel)
theorem zw_185 : (Jvm.Cond.instanceMethod ({ cls := "Creasebook", name := "outerSide", desc := "(IZ)I" } : Jvm.MethodName)) ∈ z_G := zinG 636 (by decide +kernel) (by decide +kernel)
theorem zw_186 : (Jvm.Cond.selects "Creasebook" (⟨"Creasebook", "outerSide", "(IZ)I"⟩ : MethodName) (⟨"Creasebook", "outerSide", "(IZ)I"⟩ : MethodName)) ∈ z_G := zinG 49 (by decide +kernel) (by decide +kernel)
theorem zw_187 : (Jvm.Cond.code ({ cls := "Creasebook$Paper", name := "wet", desc := "(I)Z" } : Jvm.MethodName) prog_3_method_12_code (3 : Nat) (Option.some Jvm.ClassFile.FieldType.boolean)) ∈ z_G := zinG 642 (by decide +kernel) (by decide +kernel)
theorem zw_188 : (Jvm.Cond.methodLinkNest "Creasebook" (116 : Nat) ({ cls := "Creasebook$Paper", name := "wet", desc := "(I)Z" } : Jvm.MethodName) "Creasebook") ∈ z_N := zinN 639 (by decide +kernel) rfl
theorem zw_189 : (Jvm.Cond.instanceMethod ({ cls := "Creasebook$Paper", name := "wet", desc := "(I)Z" } : Jvm.MethodName)) ∈ z_G := zinG 641 (by decide +kernel) (by decide +kernel)
theorem zw_190 : (Jvm.Cond.selects "Creasebook$Paper" (⟨"Creasebook$Paper", "wet", "(I)Z"⟩ : MethodName) (⟨"Creasebook$Paper", "wet", "(I)Z"⟩ : MethodName)) ∈ z_G := zinG 50 (by decide +kernel) (by decide +kernel)
theorem zw_191 : (Jvm.Cond.code ({ cls := "Creasebook$Paper", name := "dryAll", desc := "()I" } : Jvm.MethodName) prog_3_method_13_code (3 : Nat) (Option.some Jvm.ClassFile.FieldType.int)) ∈ z_G := zinG 327 (by decide +kernel) (by decide +kernel)
theorem zw_192 : (Jvm.Cond.methodLinkNest "Creasebook" (120 : Nat) ({ cls := "Creasebook$Paper", name := "dryAll", desc := "()I" } : Jvm.MethodName) "Creasebook") ∈ z_N := zinN 324 (by decide +kernel) rfl
theorem zw_193 : (Jvm.Cond.instanceMethod ({ cls := "Creasebook$Paper", name := "dryAll", desc := "()I" } : Jvm.MethodName)) ∈ z_G := zinG 326 (by decide +kernel) (by decide +kernel)
theorem zw_194 : (Jvm.Cond.selects "Creasebook$Paper" (⟨"Creasebook$Paper", "dryAll", "()I"⟩ : MethodName) (⟨"Creasebook$Paper", "dryAll", "()I"⟩ : MethodName)) ∈ z_G := zinG 20 (by decide +kernel) (by decide +kernel)
theorem zw_195 : (Jvm.Cond.methodLinkNest "Creasebook" (123 : Nat) ({ cls := "Creasebook$Form", name := "liesAt", desc := "(III)Z" } : Jvm.MethodName) "Creasebook") ∈ z_N := zinN 560 (by decide +kernel) rfl
theorem zw_196 : (Jvm.Cond.fieldLinkNest "Creasebook" (127 : Nat) "Creasebook$Paper" "holes" "[I" "Creasebook") ∈ z_N := zinN 134 (by decide +kernel) rfl
theorem zw_197 : (Jvm.Cond.methodLinkNest "Creasebook" (130 : Nat) ({ cls := "Creasebook$Form", name := "heightAt", desc := "(II)I" } : Jvm.MethodName) "Creasebook") ∈ z_N := zinN 554 (by decide +kernel) rfl
theorem zw_198 : (Jvm.Cond.methodLinkNest "Creasebook" (133 : Nat) ({ cls := "Creasebook$Form", name := "cellAt", desc := "(III)I" } : Jvm.MethodName) "Creasebook") ∈ z_N := zinN 555 (by decide +kernel) rfl
theorem zw_199 : (Jvm.Cond.code ({ cls := "Creasebook$Paper", name := "areGlued", desc := "(II)Z" } : Jvm.MethodName) prog_3_method_16_code (3 : Nat) (Option.some Jvm.ClassFile.FieldType.boolean)) ∈ z_G := zinG 250 (by decide +kernel) (by decide +kernel)
theorem zw_200 : (Jvm.Cond.methodLinkNest "Creasebook" (137 : Nat) ({ cls := "Creasebook$Paper", name := "areGlued", desc := "(II)Z" } : Jvm.MethodName) "Creasebook") ∈ z_N := zinN 247 (by decide +kernel) rfl
theorem zw_201 : (Jvm.Cond.instanceMethod ({ cls := "Creasebook$Paper", name := "areGlued", desc := "(II)Z" } : Jvm.MethodName)) ∈ z_G := zinG 249 (by decide +kernel) (by decide +kernel)
theorem zw_202 : (Jvm.Cond.selects "Creasebook$Paper" (⟨"Creasebook$Paper", "areGlued", "(II)Z"⟩ : MethodName) (⟨"Creasebook$Paper", "areGlued", "(II)Z"⟩ : MethodName)) ∈ z_G := zinG 6 (by decide +kernel) (by decide +kernel)
theorem zw_203 : (Jvm.Cond.code ({ cls := "Creasebook$Paper", name := "stick", desc := "(II)V" } : Jvm.MethodName) prog_3_method_17_code (3 : Nat) (Option.none : Option Jvm.ClassFile.FieldType)) ∈ z_G := zinG 684 (by decide +kernel) (by decide +kernel)
theorem zw_204 : (Jvm.Cond.methodLinkNest "Creasebook" (141 : Nat) ({ cls := "Creasebook$Paper", name := "stick", desc := "(II)V" } : Jvm.MethodName) "Creasebook") ∈ z_N := zinN 681 (by decide +kernel) rfl
theorem zw_205 : (Jvm.Cond.instanceMethod ({ cls := "Creasebook$Paper", name := "stick", desc := "(II)V" } : Jvm.MethodName)) ∈ z_G := zinG 683 (by decide +kernel) (by decide +kernel)
theorem zw_206 : (Jvm.Cond.selects "Creasebook$Paper" (⟨"Creasebook$Paper", "stick", "(II)V"⟩ : MethodName) (⟨"Creasebook$Paper", "stick", "(II)V"⟩ : MethodName)) ∈ z_G := zinG 55 (by decide +kernel) (by decide +kernel)
theorem zw_207 : (Jvm.Cond.code ({ cls := "Creasebook", name := "requireWhat", desc := "(II)V" } : Jvm.MethodName) prog_1_method_27_code (2 : Nat) (Option.none : Option Jvm.ClassFile.FieldType)) ∈ z_G := zinG 391 (by decide +kernel) (by decide +kernel)
theorem zw_208 : (Jvm.Cond.methodLink "Creasebook" (144 : Nat) ({ cls := "Creasebook", name := "requireWhat", desc := "(II)V" } : Jvm.MethodName)) ∈ z_G := zinG 389 (by decide +kernel) (by decide +kernel)
theorem zw_209 : (Jvm.Cond.static ({ cls := "Creasebook", name := "requireWhat", desc := "(II)V" } : Jvm.MethodName)) ∈ z_G := zinG 390 (by decide +kernel) (by decide +kernel)
theorem zw_210 : (Jvm.Cond.code ({ cls := "Creasebook$Form", name := "isFrontUp", desc := "(I)Z" } : Jvm.MethodName) prog_2_method_18_code (2 : Nat) (Option.some Jvm.ClassFile.FieldType.boolean)) ∈ z_G := zinG 516 (by decide +kernel) (by decide +kernel)
theorem zw_211 : (Jvm.Cond.methodLinkNest "Creasebook" (147 : Nat) ({ cls := "Creasebook$Form", name := "isFrontUp", desc := "(I)Z" } : Jvm.MethodName) "Creasebook") ∈ z_N := zinN 513 (by decide +kernel) rfl
theorem zw_212 : (Jvm.Cond.instanceMethod ({ cls := "Creasebook$Form", name := "isFrontUp", desc := "(I)Z" } : Jvm.MethodName)) ∈ z_G := zinG 515 (by decide +kernel) (by decide +kernel)
theorem zw_213 : (Jvm.Cond.selects "Creasebook$Form" (⟨"Creasebook$Form", "isFrontUp", "(I)Z"⟩ : MethodName) (⟨"Creasebook$Form", "isFrontUp", "(I)Z"⟩ : MethodName)) ∈ z_G := zinG 37 (by decide +kernel) (by decide +kernel)
theorem zw_214 : (Jvm.Cond.methodLink "Creasebook" (150 : Nat) ({ cls := "Creasebook", name := "numberOf", desc := "(Z)I" } : Jvm.MethodName)) ∈ z_G := zinG 517 (by decide +kernel) (by decide +kernel)
theorem zw_215 : (Jvm.Cond.code ({ cls := "Creasebook", name := "holesAt", desc := "(II)I" } : Jvm.MethodName) prog_1_method_36_code (5 : Nat) (Option.some Jvm.ClassFile.FieldType.int)) ∈ z_G := zinG 559 (by decide +kernel) (by decide +kernel)
theorem zw_216 : (Jvm.Cond.methodLink "Creasebook" (154 : Nat) ({ cls := "Creasebook", name := "holesAt", desc := "(II)I" } : Jvm.MethodName)) ∈ z_G := zinG 556 (by decide +kernel) (by decide +kernel)
theorem zw_217 : (Jvm.Cond.instanceMethod ({ cls := "Creasebook", name := "holesAt", desc := "(II)I" } : Jvm.MethodName)) ∈ z_G := zinG 558 (by decide +kernel) (by decide +kernel)
theorem zw_218 : (Jvm.Cond.selects "Creasebook" (⟨"Creasebook", "holesAt", "(II)I"⟩ : MethodName) (⟨"Creasebook", "holesAt", "(II)I"⟩ : MethodName)) ∈ z_G := zinG 42 (by decide +kernel) (by decide +kernel)
theorem zw_219 : (Jvm.Cond.code ({ cls := "Creasebook", name := "gluedAt", desc := "(II)I" } : Jvm.MethodName) prog_1_method_37_code (5 : Nat) (Option.some Jvm.ClassFile.FieldType.int)) ∈ z_G := zinG 564 (by decide +kernel) (by decide +kernel)
theorem zw_220 : (Jvm.Cond.methodLink "Creasebook" (157 : Nat) ({ cls := "Creasebook", name := "gluedAt", desc := "(II)I" } : Jvm.MethodName)) ∈ z_G := zinG 561 (by decide +kernel) (by decide +kernel)
theorem zw_221 : (Jvm.Cond.instanceMethod ({ cls := "Creasebook", name := "gluedAt", desc := "(II)I" } : Jvm.MethodName)) ∈ z_G := zinG 563 (by decide +kernel) (by decide +kernel)
theorem zw_222 : (Jvm.Cond.selects "Creasebook" (⟨"Creasebook", "gluedAt", "(II)I"⟩ : MethodName) (⟨"Creasebook", "gluedAt", "(II)I"⟩ : MethodName)) ∈ z_G := zinG 43 (by decide +kernel) (by decide +kernel)
theorem zw_223 : (Jvm.Cond.code ({ cls := "Creasebook", name := "requireCell", desc := "(I)V" } : Jvm.MethodName) prog_1_method_26_code (2 : Nat) (Option.none : Option Jvm.ClassFile.FieldType)) ∈ z_G := zinG 495 (by decide +kernel) (by decide +kernel)
theorem zw_224 : (Jvm.Cond.methodLink "Creasebook" (165 : Nat) ({ cls := "Creasebook", name := "requireCell", desc := "(I)V" } : Jvm.MethodName)) ∈ z_G := zinG 492 (by decide +kernel) (by decide +kernel)
theorem zw_225 : (Jvm.Cond.instanceMethod ({ cls := "Creasebook", name := "requireCell", desc := "(I)V" } : Jvm.MethodName)) ∈ z_G := zinG 494 (by decide +kernel) (by decide +kernel)
theorem zw_226 : (Jvm.Cond.selects "Creasebook" (⟨"Creasebook", "requireCell", "(I)V"⟩ : MethodName) (⟨"Creasebook", "requireCell", "(I)V"⟩ : MethodName)) ∈ z_G := zinG 36 (by decide +kernel) (by decide +kernel)
theorem zw_227 : (Jvm.Cond.fieldLinkNest "Creasebook" (168 : Nat) "Creasebook$Form" "column" "[I" "Creasebook") ∈ z_N := zinN 168 (by decide +kernel) rfl
theorem zw_228 : (Jvm.Cond.fieldLinkNest "Creasebook" (171 : Nat) "Creasebook$Form" "row" "[I" "Creasebook") ∈ z_N := zinN 170 (by decide +kernel) rfl
theorem zw_229 : (Jvm.Cond.fieldLinkNest "Creasebook" (174 : Nat) "Creasebook$Form" "layer" "[I" "Creasebook") ∈ z_N := zinN 172 (by decide +kernel) rfl
theorem zw_230 : (Jvm.Cond.fieldLinkNest "Creasebook" (177 : Nat) "Creasebook$Paper" "ink" "[I" "Creasebook") ∈ z_N := zinN 132 (by decide +kernel) rfl
theorem zw_231 : (Jvm.Cond.code ({ cls := "Creasebook", name := "sideOf", desc := "(IZ)I" } : Jvm.MethodName) prog_1_method_49_code (2 : Nat) (Option.some Jvm.ClassFile.FieldType.int)) ∈ z_G := zinG 522 (by decide +kernel) (by decide +kernel)
theorem zw_232 : (Jvm.Cond.methodLink "Creasebook" (180 : Nat) ({ cls := "Creasebook", name := "sideOf", desc := "(IZ)I" } : Jvm.MethodName)) ∈ z_G := zinG 520 (by decide +kernel) (by decide +kernel)
theorem zw_233 : (Jvm.Cond.static ({ cls := "Creasebook", name := "sideOf", desc := "(IZ)I" } : Jvm.MethodName)) ∈ z_G := zinG 521 (by decide +kernel) (by decide +kernel)
theorem zw_234 : (Jvm.Cond.code ({ cls := "Creasebook$Paper", name := "creasesOf", desc := "(I)I" } : Jvm.MethodName) prog_3_method_7_code (4 : Nat) (Option.some Jvm.ClassFile.FieldType.int)) ∈ z_G := zinG 526 (by decide +kernel) (by decide +kernel)
theorem zw_235 : (Jvm.Cond.methodLinkNest "Creasebook" (183 : Nat) ({ cls := "Creasebook$Paper", name := "creasesOf", desc := "(I)I" } : Jvm.MethodName) "Creasebook") ∈ z_N := zinN 523 (by decide +kernel) rfl
theorem zw_236 : (Jvm.Cond.instanceMethod ({ cls := "Creasebook$Paper", name := "creasesOf", desc := "(I)I" } : Jvm.MethodName)) ∈ z_G := zinG 525 (by decide +kernel) (by decide +kernel)
theorem zw_237 : (Jvm.Cond.selects "Creasebook$Paper" (⟨"Creasebook$Paper", "creasesOf", "(I)I"⟩ : MethodName) (⟨"Creasebook$Paper", "creasesOf", "(I)I"⟩ : MethodName)) ∈ z_G := zinG 38 (by decide +kernel) (by decide +kernel)
theorem zw_238 : (Jvm.Cond.methodLinkNest "Creasebook" (186 : Nat) ({ cls := "Creasebook$Paper", name := "cellBeside", desc := "(IZ)I" } : Jvm.MethodName) "Creasebook") ∈ z_N := zinN 538 (by decide +kernel) rfl
theorem zw_239 : (Jvm.Cond.methodLink "Creasebook" (189 : Nat) ({ cls := "Creasebook", name := "pairOf", desc := "(IZ)I" } : Jvm.MethodName)) ∈ z_G := zinG 539 (by decide +kernel) (by decide +kernel)
theorem zw_240 : (Jvm.Cond.fieldLinkNest "Creasebook" (192 : Nat) "Creasebook$Paper" "crease" "[I" "Creasebook") ∈ z_N := zinN 127 (by decide +kernel) rfl
theorem zw_241 : (Jvm.Cond.fieldLinkNest "Creasebook" (195 : Nat) "Creasebook$Paper" "marks" "[I" "Creasebook") ∈ z_N := zinN 130 (by decide +kernel) rfl
theorem zw_242 : (Jvm.Cond.fieldLinkNest "Creasebook" (198 : Nat) "Creasebook$Paper" "wide" "I" "Creasebook") ∈ z_N := zinN 121 (by decide +kernel) rfl
theorem zw_243 : (Jvm.Cond.fieldLinkNest "Creasebook" (201 : Nat) "Creasebook$Paper" "high" "I" "Creasebook") ∈ z_N := zinN 123 (by decide +kernel) rfl
theorem zw_244 : (Jvm.Cond.code ({ cls := "Creasebook$Paper", name := "tellPair", desc := "(II)I" } : Jvm.MethodName) prog_3_method_8_code (3 : Nat) (Option.some Jvm.ClassFile.FieldType.int)) ∈ z_G := zinG 716 (by decide +kernel) (by decide +kernel)
theorem zw_245 : (Jvm.Cond.methodLinkNest "Creasebook" (206 : Nat) ({ cls := "Creasebook$Paper", name := "tellPair", desc := "(II)I" } : Jvm.MethodName) "Creasebook") ∈ z_N := zinN 713 (by decide +kernel) rfl
theorem zw_246 : (Jvm.Cond.instanceMethod ({ cls := "Creasebook$Paper", name := "tellPair", desc := "(II)I" } : Jvm.MethodName)) ∈ z_G := zinG 715 (by decide +kernel) (by decide +kernel)
theorem zw_247 : (Jvm.Cond.selects "Creasebook$Paper" (⟨"Creasebook$Paper", "tellPair", "(II)I"⟩ : MethodName) (⟨"Creasebook$Paper", "tellPair", "(II)I"⟩ : MethodName)) ∈ z_G := zinG 56 (by decide +kernel) (by decide +kernel)
theorem zw_248 : (Jvm.Cond.fieldLinkNest "Creasebook" (209 : Nat) "Creasebook$Form" "columns" "I" "Creasebook") ∈ z_N := zinN 164 (by decide +kernel) rfl
theorem zw_249 : (Jvm.Cond.fieldLinkNest "Creasebook" (212 : Nat) "Creasebook$Form" "rows" "I" "Creasebook") ∈ z_N := zinN 166 (by decide +kernel) rfl
theorem zw_250 : (Jvm.Cond.code ({ cls := "Creasebook$Paper", name := "countCreases", desc := "(I)I" } : Jvm.MethodName) prog_3_method_9_code (4 : Nat) (Option.some Jvm.ClassFile.FieldType.int)) ∈ z_G := zinG 463 (by decide +kernel) (by decide +kernel)
theorem zw_251 : (Jvm.Cond.methodLinkNest "Creasebook" (215 : Nat) ({ cls := "Creasebook$Paper", name := "countCreases", desc := "(I)I" } : Jvm.MethodName) "Creasebook") ∈ z_N := zinN 460 (by decide +kernel) rfl
theorem zw_252 : (Jvm.Cond.instanceMethod ({ cls := "Creasebook$Paper", name := "countCreases", desc := "(I)I" } : Jvm.MethodName)) ∈ z_G := zinG 462 (by decide +kernel) (by decide +kernel)
theorem zw_253 : (Jvm.Cond.selects "Creasebook$Paper" (⟨"Creasebook$Paper", "countCreases", "(I)I"⟩ : MethodName) (⟨"Creasebook$Paper", "countCreases", "(I)I"⟩ : MethodName)) ∈ z_G := zinG 29 (by decide +kernel) (by decide +kernel)
theorem zw_254 : (Jvm.Cond.code ({ cls := "Creasebook$Paper", name := "sumOfMarks", desc := "()I" } : Jvm.MethodName) prog_3_method_10_code (3 : Nat) (Option.some Jvm.ClassFile.FieldType.int)) ∈ z_G := zinG 467 (by decide +kernel) (by decide +kernel)
theorem zw_255 : (Jvm.Cond.methodLinkNest "Creasebook" (218 : Nat) ({ cls := "Creasebook$Paper", name := "sumOfMarks", desc := "()I" } : Jvm.MethodName) "Creasebook") ∈ z_N := zinN 464 (by decide +kernel) rfl
theorem zw_256 : (Jvm.Cond.instanceMethod ({ cls := "Creasebook$Paper", name := "sumOfMarks", desc := "()I" } : Jvm.MethodName)) ∈ z_G := zinG 466 (by decide +kernel) (by decide +kernel)
theorem zw_257 : (Jvm.Cond.selects "Creasebook$Paper" (⟨"Creasebook$Paper", "sumOfMarks", "()I"⟩ : MethodName) (⟨"Creasebook$Paper", "sumOfMarks", "()I"⟩ : MethodName)) ∈ z_G := zinG 30 (by decide +kernel) (by decide +kernel)
theorem zw_258 : (Jvm.Cond.code ({ cls := "Creasebook$Paper", name := "countSides", desc := "(I)I" } : Jvm.MethodName) prog_3_method_14_code (4 : Nat) (Option.some Jvm.ClassFile.FieldType.int)) ∈ z_G := zinG 471 (by decide +kernel) (by decide +kernel)
theorem zw_259 : (Jvm.Cond.methodLinkNest "Creasebook" (221 : Nat) ({ cls := "Creasebook$Paper", name := "countSides", desc := "(I)I" } : Jvm.MethodName) "Creasebook") ∈ z_N := zinN 468 (by decide +kernel) rfl
theorem zw_260 : (Jvm.Cond.instanceMethod ({ cls := "Creasebook$Paper", name := "countSides", desc := "(I)I" } : Jvm.MethodName)) ∈ z_G := zinG 470 (by decide +kernel) (by decide +kernel)
theorem zw_261 : (Jvm.Cond.selects "Creasebook$Paper" (⟨"Creasebook$Paper", "countSides", "(I)I"⟩ : MethodName) (⟨"Creasebook$Paper", "countSides", "(I)I"⟩ : MethodName)) ∈ z_G := zinG 31 (by decide +kernel) (by decide +kernel)
theorem zw_262 : (Jvm.Cond.code ({ cls := "Creasebook$Paper", name := "sumOfHoles", desc := "()I" } : Jvm.MethodName) prog_3_method_15_code (3 : Nat) (Option.some Jvm.ClassFile.FieldType.int)) ∈ z_G := zinG 475 (by decide +kernel) (by decide +kernel)
theorem zw_263 : (Jvm.Cond.methodLinkNest "Creasebook" (224 : Nat) ({ cls := "Creasebook$Paper", name := "sumOfHoles", desc := "()I" } : Jvm.MethodName) "Creasebook") ∈ z_N := zinN 472 (by decide +kernel) rfl
theorem zw_264 : (Jvm.Cond.instanceMethod ({ cls := "Creasebook$Paper", name := "sumOfHoles", desc := "()I" } : Jvm.MethodName)) ∈ z_G := zinG 474 (by decide +kernel) (by decide +kernel)
theorem zw_265 : (Jvm.Cond.selects "Creasebook$Paper" (⟨"Creasebook$Paper", "sumOfHoles", "()I"⟩ : MethodName) (⟨"Creasebook$Paper", "sumOfHoles", "()I"⟩ : MethodName)) ∈ z_G := zinG 32 (by decide +kernel) (by decide +kernel)
theorem zw_266 : (Jvm.Cond.code ({ cls := "Creasebook$Form", name := "highestPile", desc := "()I" } : Jvm.MethodName) prog_2_method_24_code (3 : Nat) (Option.some Jvm.ClassFile.FieldType.int)) ∈ z_G := zinG 479 (by decide +kernel) (by decide +kernel)
theorem zw_267 : (Jvm.Cond.methodLinkNest "Creasebook" (227 : Nat) ({ cls := "Creasebook$Form", name := "highestPile", desc := "()I" } : Jvm.MethodName) "Creasebook") ∈ z_N := zinN 476 (by decide +kernel) rfl
theorem zw_268 : (Jvm.Cond.instanceMethod ({ cls := "Creasebook$Form", name := "highestPile", desc := "()I" } : Jvm.MethodName)) ∈ z_G := zinG 478 (by decide +kernel) (by decide +kernel)
theorem zw_269 : (Jvm.Cond.selects "Creasebook$Form" (⟨"Creasebook$Form", "highestPile", "()I"⟩ : MethodName) (⟨"Creasebook$Form", "highestPile", "()I"⟩ : MethodName)) ∈ z_G := zinG 33 (by decide +kernel) (by decide +kernel)
theorem zw_270 : (Jvm.Cond.code ({ cls := "Creasebook$Form", name := "frontsSeenFromBelow", desc := "()I" } : Jvm.MethodName) prog_2_method_26_code (3 : Nat) (Option.some Jvm.ClassFile.FieldType.int)) ∈ z_G := zinG 483 (by decide +kernel) (by decide +kernel)
theorem zw_271 : (Jvm.Cond.methodLinkNest "Creasebook" (230 : Nat) ({ cls := "Creasebook$Form", name := "frontsSeenFromBelow", desc := "()I" } : Jvm.MethodName) "Creasebook") ∈ z_N := zinN 480 (by decide +kernel) rfl
theorem zw_272 : (Jvm.Cond.instanceMethod ({ cls := "Creasebook$Form", name := "frontsSeenFromBelow", desc := "()I" } : Jvm.MethodName)) ∈ z_G := zinG 482 (by decide +kernel) (by decide +kernel)
theorem zw_273 : (Jvm.Cond.selects "Creasebook$Form" (⟨"Creasebook$Form", "frontsSeenFromBelow", "()I"⟩ : MethodName) (⟨"Creasebook$Form", "frontsSeenFromBelow", "()I"⟩ : MethodName)) ∈ z_G := zinG 34 (by decide +kernel) (by decide +kernel)
theorem zw_274 : (Jvm.Cond.code ({ cls := "Creasebook", name := "nearestOfTwoTheEven", desc := "(II)I" } : Jvm.MethodName) prog_1_method_40_code (5 : Nat) (Option.some Jvm.ClassFile.FieldType.int)) ∈ z_G := zinG 732 (by decide +kernel) (by decide +kernel)
theorem zw_275 : (Jvm.Cond.methodLink "Creasebook" (235 : Nat) ({ cls := "Creasebook", name := "nearestOfTwoTheEven", desc := "(II)I" } : Jvm.MethodName)) ∈ z_G := zinG 730 (by decide +kernel) (by decide +kernel)
theorem zw_276 : (Jvm.Cond.static ({ cls := "Creasebook", name := "nearestOfTwoTheEven", desc := "(II)I" } : Jvm.MethodName)) ∈ z_G := zinG 731 (by decide +kernel) (by decide +kernel)
theorem zw_277 : (Jvm.Cond.constantDouble "Creasebook" (238 : Nat) (4616189618054758400 : UInt64)) ∈ z_G := zinG 733 (by decide +kernel) (by decide +kernel)
theorem zw_278 : (Jvm.Cond.code ({ cls := "Creasebook", name := "countBlots", desc := "(I)I" } : Jvm.MethodName) prog_1_method_31_code (4 : Nat) (Option.some Jvm.ClassFile.FieldType.int)) ∈ z_G := zinG 744 (by decide +kernel) (by decide +kernel)
theorem zw_279 : (Jvm.Cond.methodLink "Creasebook" (240 : Nat) ({ cls := "Creasebook", name := "countBlots", desc := "(I)I" } : Jvm.MethodName)) ∈ z_G := zinG 741 (by decide +kernel) (by decide +kernel)
theorem zw_280 : (Jvm.Cond.instanceMethod ({ cls := "Creasebook", name := "countBlots", desc := "(I)I" } : Jvm.MethodName)) ∈ z_G := zinG 743 (by decide +kernel) (by decide +kernel)
theorem zw_281 : (Jvm.Cond.selects "Creasebook" (⟨"Creasebook", "countBlots", "(I)I"⟩ : MethodName) (⟨"Creasebook", "countBlots", "(I)I"⟩ : MethodName)) ∈ z_G := zinG 57 (by decide +kernel) (by decide +kernel)
theorem zw_282 : (Jvm.Cond.code ({ cls := "Creasebook$Form", name := "places", desc := "()I" } : Jvm.MethodName) prog_2_method_9_code (1 : Nat) (Option.some Jvm.ClassFile.FieldType.int)) ∈ z_G := zinG 371 (by decide +kernel) (by decide +kernel)
theorem zw_283 : (Jvm.Cond.methodLinkNest "Creasebook" (243 : Nat) ({ cls := "Creasebook$Form", name := "places", desc := "()I" } : Jvm.MethodName) "Creasebook") ∈ z_N := zinN 368 (by decide +kernel) rfl
theorem zw_284 : (Jvm.Cond.instanceMethod ({ cls := "Creasebook$Form", name := "places", desc := "()I" } : Jvm.MethodName)) ∈ z_G := zinG 370 (by decide +kernel) (by decide +kernel)
theorem zw_285 : (Jvm.Cond.selects "Creasebook$Form" (⟨"Creasebook$Form", "places", "()I"⟩ : MethodName) (⟨"Creasebook$Form", "places", "()I"⟩ : MethodName)) ∈ z_G := zinG 27 (by decide +kernel) (by decide +kernel)
theorem zw_286 : (Jvm.Cond.methodLink "Creasebook" (246 : Nat) ({ cls := "Creasebook", name := "axisOf", desc := "(I)I" } : Jvm.MethodName)) ∈ z_G := zinG 336 (by decide +kernel) (by decide +kernel)
theorem zw_287 : (Jvm.Cond.methodLink "Creasebook" (249 : Nat) ({ cls := "Creasebook", name := "lineOf", desc := "(I)I" } : Jvm.MethodName)) ∈ z_G := zinG 337 (by decide +kernel) (by decide +kernel)
theorem zw_288 : (Jvm.Cond.code ({ cls := "Creasebook$Form", name := "hasLine", desc := "(II)Z" } : Jvm.MethodName) prog_2_method_11_code (3 : Nat) (Option.some Jvm.ClassFile.FieldType.boolean)) ∈ z_G := zinG 341 (by decide +kernel) (by decide +kernel)
theorem zw_289 : (Jvm.Cond.methodLinkNest "Creasebook" (252 : Nat) ({ cls := "Creasebook$Form", name := "hasLine", desc := "(II)Z" } : Jvm.MethodName) "Creasebook") ∈ z_N := zinN 338 (by decide +kernel) rfl
theorem zw_290 : (Jvm.Cond.instanceMethod ({ cls := "Creasebook$Form", name := "hasLine", desc := "(II)Z" } : Jvm.MethodName)) ∈ z_G := zinG 340 (by decide +kernel) (by decide +kernel)
theorem zw_291 : (Jvm.Cond.selects "Creasebook$Form" (⟨"Creasebook$Form", "hasLine", "(II)Z"⟩ : MethodName) (⟨"Creasebook$Form", "hasLine", "(II)Z"⟩ : MethodName)) ∈ z_G := zinG 22 (by decide +kernel) (by decide +kernel)
theorem zw_292 : (Jvm.Cond.code ({ cls := "Creasebook$Form", name := "isJustUpon", desc := "(II)Z" } : Jvm.MethodName) prog_2_method_19_code (3 : Nat) (Option.some Jvm.ClassFile.FieldType.boolean)) ∈ z_G := zinG 575 (by decide +kernel) (by decide +kernel)
theorem zw_293 : (Jvm.Cond.methodLinkNest "Creasebook" (257 : Nat) ({ cls := "Creasebook$Form", name := "isJustUpon", desc := "(II)Z" } : Jvm.MethodName) "Creasebook") ∈ z_N := zinN 572 (by decide +kernel) rfl
theorem zw_294 : (Jvm.Cond.instanceMethod ({ cls := "Creasebook$Form", name := "isJustUpon", desc := "(II)Z" } : Jvm.MethodName)) ∈ z_G := zinG 574 (by decide +kernel) (by decide +kernel)
theorem zw_295 : (Jvm.Cond.selects "Creasebook$Form" (⟨"Creasebook$Form", "isJustUpon", "(II)Z"⟩ : MethodName) (⟨"Creasebook$Form", "isJustUpon", "(II)Z"⟩ : MethodName)) ∈ z_G := zinG 44 (by decide +kernel) (by decide +kernel)
theorem zw_296 : (Jvm.Cond.code ({ cls := "Creasebook", name := "halvings", desc := "(I)I" } : Jvm.MethodName) prog_1_method_41_code (3 : Nat) (Option.some Jvm.ClassFile.FieldType.int)) ∈ z_G := zinG 378 (by decide +kernel) (by decide +kernel)
theorem zw_297 : (Jvm.Cond.methodLink "Creasebook" (260 : Nat) ({ cls := "Creasebook", name := "halvings", desc := "(I)I" } : Jvm.MethodName)) ∈ z_G := zinG 376 (by decide +kernel) (by decide +kernel)
theorem zw_298 : (Jvm.Cond.static ({ cls := "Creasebook", name := "halvings", desc := "(I)I" } : Jvm.MethodName)) ∈ z_G := zinG 377 (by decide +kernel) (by decide +kernel)
theorem zw_299 : (Jvm.Cond.constantLong "Creasebook" (263 : Nat) (58302 : Int64)) ∈ z_G := zinG 383 (by decide +kernel) (by decide +kernel)
theorem zw_300 : (Jvm.Cond.constantLong "Creasebook" (265 : Nat) (31 : Int64)) ∈ z_G := zinG 384 (by decide +kernel) (by decide +kernel)
theorem zw_301 : (Jvm.Cond.code ({ cls := "Creasebook", name := "many", desc := "(I)I" } : Jvm.MethodName) prog_1_method_16_code (2 : Nat) (Option.some Jvm.ClassFile.FieldType.int)) ∈ z_G := zinG 388 (by decide +kernel) (by decide +kernel)
theorem zw_302 : (Jvm.Cond.methodLink "Creasebook" (267 : Nat) ({ cls := "Creasebook", name := "many", desc := "(I)I" } : Jvm.MethodName)) ∈ z_G := zinG 385 (by decide +kernel) (by decide +kernel)
theorem zw_303 : (Jvm.Cond.instanceMethod ({ cls := "Creasebook", name := "many", desc := "(I)I" } : Jvm.MethodName)) ∈ z_G := zinG 386 (by decide +kernel) (by decide +kernel)
theorem zw_304 : (Jvm.Cond.selects "Creasebook" ({ cls := "Creasebook", name := "many", desc := "(I)I" } : Jvm.MethodName) ({ cls := "Creasebook", name := "many", desc := "(I)I" } : Jvm.MethodName)) ∈ z_G := zinG 387 (by decide +kernel) (by decide +kernel)
theorem zw_305 : (Jvm.Cond.code ({ cls := "Creasebook", name := "digestOfCell", desc := "(JI)J" } : Jvm.MethodName) prog_1_method_38_code (7 : Nat) (Option.some Jvm.ClassFile.FieldType.long)) ∈ z_G := zinG 487 (by decide +kernel) (by decide +kernel)
theorem zw_306 : (Jvm.Cond.methodLink "Creasebook" (270 : Nat) ({ cls := "Creasebook", name := "digestOfCell", desc := "(JI)J" } : Jvm.MethodName)) ∈ z_G := zinG 484 (by decide +kernel) (by decide +kernel)
theorem zw_307 : (Jvm.Cond.instanceMethod ({ cls := "Creasebook", name := "digestOfCell", desc := "(JI)J" } : Jvm.MethodName)) ∈ z_G := zinG 486 (by decide +kernel) (by decide +kernel)
theorem zw_308 : (Jvm.Cond.selects "Creasebook" (⟨"Creasebook", "digestOfCell", "(JI)J"⟩ : MethodName) (⟨"Creasebook", "digestOfCell", "(JI)J"⟩ : MethodName)) ∈ z_G := zinG 35 (by decide +kernel) (by decide +kernel)
theorem zw_309 : (Jvm.Cond.code ({ cls := "Creasebook", name := "digestOfPlace", desc := "(JII)J" } : Jvm.MethodName) prog_1_method_39_code (8 : Nat) (Option.some Jvm.ClassFile.FieldType.long)) ∈ z_G := zinG 543 (by decide +kernel) (by decide +kernel)
theorem zw_310 : (Jvm.Cond.methodLink "Creasebook" (274 : Nat) ({ cls := "Creasebook", name := "digestOfPlace", desc := "(JII)J" } : Jvm.MethodName)) ∈ z_G := zinG 540 (by decide +kernel) (by decide +kernel)
theorem zw_311 : (Jvm.Cond.instanceMethod ({ cls := "Creasebook", name := "digestOfPlace", desc := "(JII)J" } : Jvm.MethodName)) ∈ z_G := zinG 542 (by decide +kernel) (by decide +kernel)
theorem zw_312 : (Jvm.Cond.selects "Creasebook" (⟨"Creasebook", "digestOfPlace", "(JII)J"⟩ : MethodName) (⟨"Creasebook", "digestOfPlace", "(JII)J"⟩ : MethodName)) ∈ z_G := zinG 40 (by decide +kernel) (by decide +kernel)
theorem zw_313 : (Jvm.Cond.code ({ cls := "Creasebook", name := "bestFold", desc := "()I" } : Jvm.MethodName) prog_1_method_19_code (7 : Nat) (Option.some Jvm.ClassFile.FieldType.int)) ∈ z_G := zinG 335 (by decide +kernel) (by decide +kernel)
theorem zw_314 : (Jvm.Cond.methodLink "Creasebook" (278 : Nat) ({ cls := "Creasebook", name := "bestFold", desc := "()I" } : Jvm.MethodName)) ∈ z_G := zinG 565 (by decide +kernel) (by decide +kernel)
theorem zw_315 : (Jvm.Cond.instanceMethod ({ cls := "Creasebook", name := "bestFold", desc := "()I" } : Jvm.MethodName)) ∈ z_G := zinG 333 (by decide +kernel) (by decide +kernel)
theorem zw_316 : (Jvm.Cond.selects "Creasebook" ({ cls := "Creasebook", name := "bestFold", desc := "()I" } : Jvm.MethodName) ({ cls := "Creasebook", name := "bestFold", desc := "()I" } : Jvm.MethodName)) ∈ z_G := zinG 334 (by decide +kernel) (by decide +kernel)
theorem zw_317 : (Jvm.Cond.code ({ cls := "Creasebook", name := "fewest", desc := "()I" } : Jvm.MethodName) prog_1_method_21_code (1 : Nat) (Option.some Jvm.ClassFile.FieldType.int)) ∈ z_G := zinG 375 (by decide +kernel) (by decide +kernel)
theorem zw_318 : (Jvm.Cond.methodLink "Creasebook" (281 : Nat) ({ cls := "Creasebook", name := "fewest", desc := "()I" } : Jvm.MethodName)) ∈ z_G := zinG 566 (by decide +kernel) (by decide +kernel)
theorem zw_319 : (Jvm.Cond.instanceMethod ({ cls := "Creasebook", name := "fewest", desc := "()I" } : Jvm.MethodName)) ∈ z_G := zinG 373 (by decide +kernel) (by decide +kernel)
theorem zw_320 : (Jvm.Cond.selects "Creasebook" ({ cls := "Creasebook", name := "fewest", desc := "()I" } : Jvm.MethodName) ({ cls := "Creasebook", name := "fewest", desc := "()I" } : Jvm.MethodName)) ∈ z_G := zinG 374 (by decide +kernel) (by decide +kernel)
theorem zw_321 : (Jvm.Cond.code ({ cls := "Creasebook", name := "bring", desc := "(II)I" } : Jvm.MethodName) prog_1_method_20_code (4 : Nat) (Option.some Jvm.ClassFile.FieldType.int)) ∈ z_G := zinG 570 (by decide +kernel) (by decide +kernel)
theorem zw_322 : (Jvm.Cond.methodLink "Creasebook" (284 : Nat) ({ cls := "Creasebook", name := "bring", desc := "(II)I" } : Jvm.MethodName)) ∈ z_G := zinG 567 (by decide +kernel) (by decide +kernel)
theorem zw_323 : (Jvm.Cond.instanceMethod ({ cls := "Creasebook", name := "bring", desc := "(II)I" } : Jvm.MethodName)) ∈ z_G := zinG 568 (by decide +kernel) (by decide +kernel)
theorem zw_324 : (Jvm.Cond.selects "Creasebook" ({ cls := "Creasebook", name := "bring", desc := "(II)I" } : Jvm.MethodName) ({ cls := "Creasebook", name := "bring", desc := "(II)I" } : Jvm.MethodName)) ∈ z_G := zinG 569 (by decide +kernel) (by decide +kernel)
theorem zw_325 : (Jvm.Cond.code ({ cls := "Creasebook$Paper", name := "renew", desc := "(II)V" } : Jvm.MethodName) prog_3_method_2_code (4 : Nat) (Option.none : Option Jvm.ClassFile.FieldType)) ∈ z_G := zinG 201 (by decide +kernel) (by decide +kernel)
theorem zw_326 : (Jvm.Cond.methodLinkNest "Creasebook" (287 : Nat) ({ cls := "Creasebook$Paper", name := "renew", desc := "(II)V" } : Jvm.MethodName) "Creasebook") ∈ z_N := zinN 198 (by decide +kernel) rfl
theorem zw_327 : (Jvm.Cond.instanceMethod ({ cls := "Creasebook$Paper", name := "renew", desc := "(II)V" } : Jvm.MethodName)) ∈ z_G := zinG 200 (by decide +kernel) (by decide +kernel)
theorem zw_328 : (Jvm.Cond.selects "Creasebook$Paper" (⟨"Creasebook$Paper", "renew", "(II)V"⟩ : MethodName) (⟨"Creasebook$Paper", "renew", "(II)V"⟩ : MethodName)) ∈ z_G := zinG 1 (by decide +kernel) (by decide +kernel)
theorem zw_329 : (Jvm.Cond.code ({ cls := "Creasebook$Form", name := "spread", desc := "(II)V" } : Jvm.MethodName) prog_2_method_2_code (6 : Nat) (Option.none : Option Jvm.ClassFile.FieldType)) ∈ z_G := zinG 205 (by decide +kernel) (by decide +kernel)
theorem zw_330 : (Jvm.Cond.methodLinkNest "Creasebook" (290 : Nat) ({ cls := "Creasebook$Form", name := "spread", desc := "(II)V" } : Jvm.MethodName) "Creasebook") ∈ z_N := zinN 202 (by decide +kernel) rfl
theorem zw_331 : (Jvm.Cond.instanceMethod ({ cls := "Creasebook$Form", name := "spread", desc := "(II)V" } : Jvm.MethodName)) ∈ z_G := zinG 204 (by decide +kernel) (by decide +kernel)
theorem zw_332 : (Jvm.Cond.selects "Creasebook$Form" (⟨"Creasebook$Form", "spread", "(II)V"⟩ : MethodName) (⟨"Creasebook$Form", "spread", "(II)V"⟩ : MethodName)) ∈ z_G := zinG 2 (by decide +kernel) (by decide +kernel)
theorem zw_333 : (Jvm.Cond.methodLinkNest "Creasebook" (295 : Nat) ({ cls := "Creasebook$Form", name := "hasPlace", desc := "(II)Z" } : Jvm.MethodName) "Creasebook") ∈ z_N := zinN 552 (by decide +kernel) rfl
theorem zw_334 : (Jvm.Cond.methodLinkNest "Creasebook" (300 : Nat) ({ cls := "Creasebook$Paper", name := "hasCell", desc := "(I)Z" } : Jvm.MethodName) "Creasebook") ∈ z_N := zinN 496 (by decide +kernel) rfl
theorem zw_335 : (Jvm.Cond.code ({ cls := "Creasebook", name := "creasePair", desc := "(IZI)Z" } : Jvm.MethodName) prog_1_method_29_code (8 : Nat) (Option.some Jvm.ClassFile.FieldType.boolean)) ∈ z_G := zinG 650 (by decide +kernel) (by decide +kernel)
theorem zw_336 : (Jvm.Cond.methodLink "Creasebook" (307 : Nat) ({ cls := "Creasebook", name := "creasePair", desc := "(IZI)Z" } : Jvm.MethodName)) ∈ z_G := zinG 647 (by decide +kernel) (by decide +kernel)
theorem zw_337 : (Jvm.Cond.instanceMethod ({ cls := "Creasebook", name := "creasePair", desc := "(IZI)Z" } : Jvm.MethodName)) ∈ z_G := zinG 649 (by decide +kernel) (by decide +kernel)
theorem zw_338 : (Jvm.Cond.selects "Creasebook" (⟨"Creasebook", "creasePair", "(IZI)Z"⟩ : MethodName) (⟨"Creasebook", "creasePair", "(IZI)Z"⟩ : MethodName)) ∈ z_G := zinG 52 (by decide +kernel) (by decide +kernel)
theorem zw_339 : (Jvm.Cond.code ({ cls := "Creasebook$Form", name := "isLineBetween", desc := "(III)Z" } : Jvm.MethodName) prog_2_method_23_code (6 : Nat) (Option.some Jvm.ClassFile.FieldType.boolean)) ∈ z_G := zinG 654 (by decide +kernel) (by decide +kernel)
theorem zw_340 : (Jvm.Cond.methodLinkNest "Creasebook" (311 : Nat) ({ cls := "Creasebook$Form", name := "isLineBetween", desc := "(III)Z" } : Jvm.MethodName) "Creasebook") ∈ z_N := zinN 651 (by decide +kernel) rfl
theorem zw_341 : (Jvm.Cond.instanceMethod ({ cls := "Creasebook$Form", name := "isLineBetween", desc := "(III)Z" } : Jvm.MethodName)) ∈ z_G := zinG 653 (by decide +kernel) (by decide +kernel)
theorem zw_342 : (Jvm.Cond.selects "Creasebook$Form" (⟨"Creasebook$Form", "isLineBetween", "(III)Z"⟩ : MethodName) (⟨"Creasebook$Form", "isLineBetween", "(III)Z"⟩ : MethodName)) ∈ z_G := zinG 53 (by decide +kernel) (by decide +kernel)
theorem zw_343 : (Jvm.Cond.methodLinkNest "Creasebook" (314 : Nat) ({ cls := "Creasebook$Form", name := "goes", desc := "(II)Z" } : Jvm.MethodName) "Creasebook") ∈ z_N := zinN 255 (by decide +kernel) rfl
theorem zw_344 : (Jvm.Cond.methodLink "Creasebook" (317 : Nat) ({ cls := "Creasebook", name := "isOver", desc := "(I)Z" } : Jvm.MethodName)) ∈ z_G := zinG 626 (by decide +kernel) (by decide +kernel)
theorem zw_345 : (Jvm.Cond.code ({ cls := "Creasebook$Paper", name := "press", desc := "(III)V" } : Jvm.MethodName) prog_3_method_5_code (4 : Nat) (Option.none : Option Jvm.ClassFile.FieldType)) ∈ z_G := zinG 658 (by decide +kernel) (by decide +kernel)
theorem zw_346 : (Jvm.Cond.methodLinkNest "Creasebook" (320 : Nat) ({ cls := "Creasebook$Paper", name := "press", desc := "(III)V" } : Jvm.MethodName) "Creasebook") ∈ z_N := zinN 655 (by decide +kernel) rfl
theorem zw_347 : (Jvm.Cond.instanceMethod ({ cls := "Creasebook$Paper", name := "press", desc := "(III)V" } : Jvm.MethodName)) ∈ z_G := zinG 657 (by decide +kernel) (by decide +kernel)
theorem zw_348 : (Jvm.Cond.selects "Creasebook$Paper" (⟨"Creasebook$Paper", "press", "(III)V"⟩ : MethodName) (⟨"Creasebook$Paper", "press", "(III)V"⟩ : MethodName)) ∈ z_G := zinG 54 (by decide +kernel) (by decide +kernel)
theorem zw_349 : (Jvm.Cond.code ({ cls := "Creasebook", name := "cellThatMeets", desc := "(II)I" } : Jvm.MethodName) prog_1_method_32_code (6 : Nat) (Option.some Jvm.ClassFile.FieldType.int)) ∈ z_G := zinG 625 (by decide +kernel) (by decide +kernel)
theorem zw_350 : (Jvm.Cond.methodLink "Creasebook" (324 : Nat) ({ cls := "Creasebook", name := "cellThatMeets", desc := "(II)I" } : Jvm.MethodName)) ∈ z_G := zinG 622 (by decide +kernel) (by decide +kernel)
theorem zw_351 : (Jvm.Cond.instanceMethod ({ cls := "Creasebook", name := "cellThatMeets", desc := "(II)I" } : Jvm.MethodName)) ∈ z_G := zinG 624 (by decide +kernel) (by decide +kernel)
theorem zw_352 : (Jvm.Cond.selects "Creasebook" (⟨"Creasebook", "cellThatMeets", "(II)I"⟩ : MethodName) (⟨"Creasebook", "cellThatMeets", "(II)I"⟩ : MethodName)) ∈ z_G := zinG 47 (by decide +kernel) (by decide +kernel)
theorem zw_353 : (Jvm.Cond.code ({ cls := "Creasebook", name := "isBlot", desc := "(III)Z" } : Jvm.MethodName) prog_1_method_33_code (5 : Nat) (Option.some Jvm.ClassFile.FieldType.boolean)) ∈ z_G := zinG 633 (by decide +kernel) (by decide +kernel)
theorem zw_354 : (Jvm.Cond.methodLink "Creasebook" (327 : Nat) ({ cls := "Creasebook", name := "isBlot", desc := "(III)Z" } : Jvm.MethodName)) ∈ z_G := zinG 630 (by decide +kernel) (by decide +kernel)
theorem zw_355 : (Jvm.Cond.instanceMethod ({ cls := "Creasebook", name := "isBlot", desc := "(III)Z" } : Jvm.MethodName)) ∈ z_G := zinG 632 (by decide +kernel) (by decide +kernel)
theorem zw_356 : (Jvm.Cond.selects "Creasebook" (⟨"Creasebook", "isBlot", "(III)Z"⟩ : MethodName) (⟨"Creasebook", "isBlot", "(III)Z"⟩ : MethodName)) ∈ z_G := zinG 48 (by decide +kernel) (by decide +kernel)
theorem zw_357 : (Jvm.Cond.methodLinkNest "Creasebook" (330 : Nat) ({ cls := "Creasebook$Form", name := "isOutermost", desc := "(IZ)Z" } : Jvm.MethodName) "Creasebook") ∈ z_N := zinN 627 (by decide +kernel) rfl
theorem zw_358 : (Jvm.Cond.methodLinkNest "Creasebook" (334 : Nat) ({ cls := "Creasebook$Form", name := "mirroredColumn", desc := "(II)I" } : Jvm.MethodName) "Creasebook") ∈ z_N := zinN 628 (by decide +kernel) rfl
theorem zw_359 : (Jvm.Cond.methodLinkNest "Creasebook" (337 : Nat) ({ cls := "Creasebook$Form", name := "mirroredRow", desc := "(II)I" } : Jvm.MethodName) "Creasebook") ∈ z_N := zinN 629 (by decide +kernel) rfl
theorem zw_360 : (Jvm.Cond.methodLinkNest "Creasebook" (340 : Nat) ({ cls := "Creasebook$Paper", name := "isWet", desc := "(I)Z" } : Jvm.MethodName) "Creasebook") ∈ z_N := zinN 638 (by decide +kernel) rfl
theorem zw_361 : (Jvm.Cond.code ({ cls := "Creasebook", name := "ofCell", desc := "(II)I" } : Jvm.MethodName) prog_1_method_13_code (3 : Nat) (Option.some Jvm.ClassFile.FieldType.int)) ∈ z_G := zinG 491 (by decide +kernel) (by decide +kernel)
theorem zw_362 : (Jvm.Cond.methodLink "Creasebook" (343 : Nat) ({ cls := "Creasebook", name := "ofCell", desc := "(II)I" } : Jvm.MethodName)) ∈ z_G := zinG 488 (by decide +kernel) (by decide +kernel)
theorem zw_363 : (Jvm.Cond.instanceMethod ({ cls := "Creasebook", name := "ofCell", desc := "(II)I" } : Jvm.MethodName)) ∈ z_G := zinG 489 (by decide +kernel) (by decide +kernel)
theorem zw_364 : (Jvm.Cond.selects "Creasebook" ({ cls := "Creasebook", name := "ofCell", desc := "(II)I" } : Jvm.MethodName) ({ cls := "Creasebook", name := "ofCell", desc := "(II)I" } : Jvm.MethodName)) ∈ z_G := zinG 490 (by decide +kernel) (by decide +kernel)
theorem zw_365 : (Jvm.Cond.code ({ cls := "Creasebook", name := "ofPair", desc := "(IZI)I" } : Jvm.MethodName) prog_1_method_14_code (5 : Nat) (Option.some Jvm.ClassFile.FieldType.int)) ∈ z_G := zinG 537 (by decide +kernel) (by decide +kernel)
theorem zw_366 : (Jvm.Cond.methodLink "Creasebook" (346 : Nat) ({ cls := "Creasebook", name := "ofPair", desc := "(IZI)I" } : Jvm.MethodName)) ∈ z_G := zinG 534 (by decide +kernel) (by decide +kernel)
theorem zw_367 : (Jvm.Cond.instanceMethod ({ cls := "Creasebook", name := "ofPair", desc := "(IZI)I" } : Jvm.MethodName)) ∈ z_G := zinG 535 (by decide +kernel) (by decide +kernel)
theorem zw_368 : (Jvm.Cond.selects "Creasebook" ({ cls := "Creasebook", name := "ofPair", desc := "(IZI)I" } : Jvm.MethodName) ({ cls := "Creasebook", name := "ofPair", desc := "(IZI)I" } : Jvm.MethodName)) ∈ z_G := zinG 536 (by decide +kernel) (by decide +kernel)
theorem zw_369 : (Jvm.Cond.code ({ cls := "Creasebook", name := "ofPlace", desc := "(III)I" } : Jvm.MethodName) prog_1_method_11_code (4 : Nat) (Option.some Jvm.ClassFile.FieldType.int)) ∈ z_G := zinG 547 (by decide +kernel) (by decide +kernel)
theorem zw_370 : (Jvm.Cond.methodLink "Creasebook" (350 : Nat) ({ cls := "Creasebook", name := "ofPlace", desc := "(III)I" } : Jvm.MethodName)) ∈ z_G := zinG 544 (by decide +kernel) (by decide +kernel)
theorem zw_371 : (Jvm.Cond.instanceMethod ({ cls := "Creasebook", name := "ofPlace", desc := "(III)I" } : Jvm.MethodName)) ∈ z_G := zinG 545 (by decide +kernel) (by decide +kernel)
theorem zw_372 : (Jvm.Cond.selects "Creasebook" ({ cls := "Creasebook", name := "ofPlace", desc := "(III)I" } : Jvm.MethodName) ({ cls := "Creasebook", name := "ofPlace", desc := "(III)I" } : Jvm.MethodName)) ∈ z_G := zinG 546 (by decide +kernel) (by decide +kernel)
end
section
/-! The methods: names, code, locals, answers, handlers, classes -/
def z_yy : Nat → MethodName := fun μ => match μ with
  | 0 => yX0_init
  | 1 => yX0_spread
  | 2 => yX0_copyFrom
  | 3 => yX0_becomeFolded
  | 4 => yX0_layerBehind
  | 5 => yX0_turnOver
  | 6 => yX0_turnRound
  | 7 => yX0_measurePiles
  | 8 => yX0_places
  | 9 => yX0_hasPlace
  | 10 => yX0_hasLine
  | 11 => yX0_heightAt
  | 12 => yX0_liesAt
  | 13 => yX0_cellAt
  | 14 => yX0_highestAt
  | 15 => yX0_layerFromAbove
  | 16 => yX0_isOutermost
  | 17 => yX0_isFrontUp
  | 18 => yX0_isJustUpon
  | 19 => yX0_goes
  | 20 => yX0_mirroredColumn
  | 21 => yX0_mirroredRow
  | 22 => yX0_isLineBetween
  | 23 => yX0_highestPile
  | 24 => yX0_frontsSeenFromAbove
  | 25 => yX0_frontsSeenFromBelow
  | 26 => yX1_init
  | 27 => yX1_renew
  | 28 => yX1_hasCell
  | 29 => yX1_cellBeside
  | 30 => yX1_press
  | 31 => yX1_smoothCreasesOf
  | 32 => yX1_creasesOf
  | 33 => yX1_tellPair
  | 34 => yX1_countCreases
  | 35 => yX1_sumOfMarks
  | 36 => yX1_isWet
  | 37 => yX1_wet
  | 38 => yX1_dryAll
  | 39 => yX1_countSides
  | 40 => yX1_sumOfHoles
  | 41 => yX1_areGlued
  | 42 => yX1_stick
  | 43 => yX2_init
  | 44 => yX2_sheet
  | 45 => yX2_fold
  | 46 => yX2_unfold
  | 47 => yX2_turn
  | 48 => yX2_round
  | 49 => yX2_ink
  | 50 => yX2_dry
  | 51 => yX2_punch
  | 52 => yX2_glue
  | 53 => yX2_ofPlace
  | 54 => yX2_at
  | 55 => yX2_ofCell
  | 56 => yX2_ofPair
  | 57 => yX2_ofCorner
  | 58 => yX2_many
  | 59 => yX2_weight
  | 60 => yX2_would
  | 61 => yX2_bestFold
  | 62 => yX2_bring
  | 63 => yX2_fewest
  | 64 => yX2_digest
  | 65 => yX2_begin
  | 66 => yX2_requireLine
  | 67 => yX2_requirePlace
  | 68 => yX2_requireCell
  | 69 => yX2_requireWhat
  | 70 => yX2_creaseAlong
  | 71 => yX2_creasePair
  | 72 => yX2_spreadInk
  | 73 => yX2_countBlots
  | 74 => yX2_cellThatMeets
  | 75 => yX2_isBlot
  | 76 => yX2_outerSide
  | 77 => yX2_isHeldByGlue
  | 78 => yX2_holesAt
  | 79 => yX2_gluedAt
  | 80 => yX2_digestOfCell
  | 81 => yX2_digestOfPlace
  | 82 => yX2_nearestOfTwoTheEven
  | 83 => yX2_halvings
  | 84 => yX2_numberOf
  | 85 => yX2_codeOf
  | 86 => yX2_lineOf
  | 87 => yX2_axisOf
  | 88 => yX2_isFar
  | 89 => yX2_isOver
  | 90 => yX2_pairOf
  | 91 => yX2_sideOf
  | _ => yX0_init
def z_bb : Nat → ByteArray := fun μ => match μ with
  | 0 => cX0_init
  | 1 => cX0_spread
  | 2 => cX0_copyFrom
  | 3 => cX0_becomeFolded
  | 4 => cX0_layerBehind
  | 5 => cX0_turnOver
  | 6 => cX0_turnRound
  | 7 => cX0_measurePiles
  | 8 => cX0_places
  | 9 => cX0_hasPlace
  | 10 => cX0_hasLine
  | 11 => cX0_heightAt
  | 12 => cX0_liesAt
  | 13 => cX0_cellAt
  | 14 => cX0_highestAt
  | 15 => cX0_layerFromAbove
  | 16 => cX0_isOutermost
  | 17 => cX0_isFrontUp
  | 18 => cX0_isJustUpon
  | 19 => cX0_goes
  | 20 => cX0_mirroredColumn
  | 21 => cX0_mirroredRow
  | 22 => cX0_isLineBetween
  | 23 => cX0_highestPile
  | 24 => cX0_frontsSeenFromAbove
  | 25 => cX0_frontsSeenFromBelow
  | 26 => cX1_init
  | 27 => cX1_renew
  | 28 => cX1_hasCell
  | 29 => cX1_cellBeside
  | 30 => cX1_press
  | 31 => cX1_smoothCreasesOf
  | 32 => cX1_creasesOf
  | 33 => cX1_tellPair
  | 34 => cX1_countCreases
  | 35 => cX1_sumOfMarks
  | 36 => cX1_isWet
  | 37 => cX1_wet
  | 38 => cX1_dryAll
  | 39 => cX1_countSides
  | 40 => cX1_sumOfHoles
  | 41 => cX1_areGlued
  | 42 => cX1_stick
  | 43 => cX2_init
  | 44 => cX2_sheet
  | 45 => cX2_fold
  | 46 => cX2_unfold
  | 47 => cX2_turn
  | 48 => cX2_round
  | 49 => cX2_ink
  | 50 => cX2_dry
  | 51 => cX2_punch
  | 52 => cX2_glue
  | 53 => cX2_ofPlace
  | 54 => cX2_at
  | 55 => cX2_ofCell
  | 56 => cX2_ofPair
  | 57 => cX2_ofCorner
  | 58 => cX2_many
  | 59 => cX2_weight
  | 60 => cX2_would
  | 61 => cX2_bestFold
  | 62 => cX2_bring
  | 63 => cX2_fewest
  | 64 => cX2_digest
  | 65 => cX2_begin
  | 66 => cX2_requireLine
  | 67 => cX2_requirePlace
  | 68 => cX2_requireCell
  | 69 => cX2_requireWhat
  | 70 => cX2_creaseAlong
  | 71 => cX2_creasePair
  | 72 => cX2_spreadInk
  | 73 => cX2_countBlots
  | 74 => cX2_cellThatMeets
  | 75 => cX2_isBlot
  | 76 => cX2_outerSide
  | 77 => cX2_isHeldByGlue
  | 78 => cX2_holesAt
  | 79 => cX2_gluedAt
  | 80 => cX2_digestOfCell
  | 81 => cX2_digestOfPlace
  | 82 => cX2_nearestOfTwoTheEven
  | 83 => cX2_halvings
  | 84 => cX2_numberOf
  | 85 => cX2_codeOf
  | 86 => cX2_lineOf
  | 87 => cX2_axisOf
  | 88 => cX2_isFar
  | 89 => cX2_isOver
  | 90 => cX2_pairOf
  | 91 => cX2_sideOf
  | _ => cX0_init
def z_nl : Nat → Nat := fun μ => match μ with
  | 0 => 1
  | 1 => 6
  | 2 => 3
  | 3 => 12
  | 4 => 7
  | 5 => 2
  | 6 => 2
  | 7 => 2
  | 8 => 1
  | 9 => 3
  | 10 => 3
  | 11 => 3
  | 12 => 4
  | 13 => 5
  | 14 => 3
  | 15 => 2
  | 16 => 3
  | 17 => 2
  | 18 => 3
  | 19 => 4
  | 20 => 3
  | 21 => 3
  | 22 => 6
  | 23 => 3
  | 24 => 3
  | 25 => 3
  | 26 => 1
  | 27 => 4
  | 28 => 2
  | 29 => 4
  | 30 => 4
  | 31 => 3
  | 32 => 4
  | 33 => 3
  | 34 => 4
  | 35 => 3
  | 36 => 2
  | 37 => 3
  | 38 => 3
  | 39 => 4
  | 40 => 3
  | 41 => 3
  | 42 => 3
  | 43 => 2
  | 44 => 3
  | 45 => 8
  | 46 => 1
  | 47 => 1
  | 48 => 1
  | 49 => 3
  | 50 => 1
  | 51 => 4
  | 52 => 7
  | 53 => 4
  | 54 => 4
  | 55 => 3
  | 56 => 5
  | 57 => 5
  | 58 => 2
  | 59 => 4
  | 60 => 7
  | 61 => 7
  | 62 => 4
  | 63 => 1
  | 64 => 5
  | 65 => 3
  | 66 => 3
  | 67 => 3
  | 68 => 2
  | 69 => 2
  | 70 => 4
  | 71 => 8
  | 72 => 5
  | 73 => 4
  | 74 => 6
  | 75 => 5
  | 76 => 3
  | 77 => 5
  | 78 => 5
  | 79 => 5
  | 80 => 7
  | 81 => 8
  | 82 => 5
  | 83 => 3
  | 84 => 1
  | 85 => 4
  | 86 => 1
  | 87 => 1
  | 88 => 1
  | 89 => 1
  | 90 => 2
  | 91 => 2
  | _ => 0
def z_rt : Nat → Option FieldType := fun μ => match μ with
  | 0 => none
  | 1 => none
  | 2 => none
  | 3 => none
  | 4 => some .int
  | 5 => none
  | 6 => none
  | 7 => none
  | 8 => some .int
  | 9 => some .boolean
  | 10 => some .boolean
  | 11 => some .int
  | 12 => some .boolean
  | 13 => some .int
  | 14 => some .int
  | 15 => some .int
  | 16 => some .boolean
  | 17 => some .boolean
  | 18 => some .boolean
  | 19 => some .boolean
  | 20 => some .int
  | 21 => some .int
  | 22 => some .boolean
  | 23 => some .int
  | 24 => some .int
  | 25 => some .int
  | 26 => none
  | 27 => none
  | 28 => some .boolean
  | 29 => some .int
  | 30 => none
  | 31 => none
  | 32 => some .int
  | 33 => some .int
  | 34 => some .int
  | 35 => some .int
  | 36 => some .boolean
  | 37 => some .boolean
  | 38 => some .int
  | 39 => some .int
  | 40 => some .int
  | 41 => some .boolean
  | 42 => none
  | 43 => none
  | 44 => some .int
  | 45 => some .int
  | 46 => some .int
  | 47 => some .int
  | 48 => some .int
  | 49 => some .boolean
  | 50 => some .int
  | 51 => some .int
  | 52 => some .int
  | 53 => some .int
  | 54 => some .int
  | 55 => some .int
  | 56 => some .int
  | 57 => some .int
  | 58 => some .int
  | 59 => some .double
  | 60 => some .int
  | 61 => some .int
  | 62 => some .int
  | 63 => some .int
  | 64 => some .long
  | 65 => none
  | 66 => none
  | 67 => none
  | 68 => none
  | 69 => none
  | 70 => some .int
  | 71 => some .boolean
  | 72 => some .int
  | 73 => some .int
  | 74 => some .int
  | 75 => some .boolean
  | 76 => some .int
  | 77 => some .boolean
  | 78 => some .int
  | 79 => some .int
  | 80 => some .long
  | 81 => some .long
  | 82 => some .int
  | 83 => some .int
  | 84 => some .int
  | 85 => some .int
  | 86 => some .int
  | 87 => some .int
  | 88 => some .boolean
  | 89 => some .boolean
  | 90 => some .int
  | 91 => some .int
  | _ => none
def z_hh : Nat → List (Nat × Nat × Nat × Nat) := fun μ => match μ with
  | 0 => []
  | 1 => []
  | 2 => []
  | 3 => []
  | 4 => []
  | 5 => []
  | 6 => []
  | 7 => []
  | 8 => []
  | 9 => []
  | 10 => []
  | 11 => []
  | 12 => []
  | 13 => []
  | 14 => []
  | 15 => []
  | 16 => []
  | 17 => []
  | 18 => []
  | 19 => []
  | 20 => []
  | 21 => []
  | 22 => []
  | 23 => []
  | 24 => []
  | 25 => []
  | 26 => []
  | 27 => []
  | 28 => []
  | 29 => []
  | 30 => []
  | 31 => []
  | 32 => []
  | 33 => []
  | 34 => []
  | 35 => []
  | 36 => []
  | 37 => []
  | 38 => []
  | 39 => []
  | 40 => []
  | 41 => []
  | 42 => []
  | 43 => []
  | 44 => []
  | 45 => []
  | 46 => []
  | 47 => []
  | 48 => []
  | 49 => []
  | 50 => []
  | 51 => []
  | 52 => []
  | 53 => []
  | 54 => []
  | 55 => []
  | 56 => []
  | 57 => []
  | 58 => []
  | 59 => []
  | 60 => []
  | 61 => []
  | 62 => []
  | 63 => []
  | 64 => []
  | 65 => []
  | 66 => []
  | 67 => []
  | 68 => []
  | 69 => []
  | 70 => []
  | 71 => []
  | 72 => []
  | 73 => []
  | 74 => []
  | 75 => []
  | 76 => []
  | 77 => []
  | 78 => []
  | 79 => []
  | 80 => []
  | 81 => []
  | 82 => []
  | 83 => []
  | 84 => []
  | 85 => []
  | 86 => []
  | 87 => []
  | 88 => []
  | 89 => []
  | 90 => []
  | 91 => []
  | _ => []
def z_cc : Nat → Nat := fun μ => match μ with
  | 0 => 0
  | 1 => 0
  | 2 => 0
  | 3 => 0
  | 4 => 0
  | 5 => 0
  | 6 => 0
  | 7 => 0
  | 8 => 0
  | 9 => 0
  | 10 => 0
  | 11 => 0
  | 12 => 0
  | 13 => 0
  | 14 => 0
  | 15 => 0
  | 16 => 0
  | 17 => 0
  | 18 => 0
  | 19 => 0
  | 20 => 0
  | 21 => 0
  | 22 => 0
  | 23 => 0
  | 24 => 0
  | 25 => 0
  | 26 => 1
  | 27 => 1
  | 28 => 1
  | 29 => 1
  | 30 => 1
  | 31 => 1
  | 32 => 1
  | 33 => 1
  | 34 => 1
  | 35 => 1
  | 36 => 1
  | 37 => 1
  | 38 => 1
  | 39 => 1
  | 40 => 1
  | 41 => 1
  | 42 => 1
  | 43 => 2
  | 44 => 2
  | 45 => 2
  | 46 => 2
  | 47 => 2
  | 48 => 2
  | 49 => 2
  | 50 => 2
  | 51 => 2
  | 52 => 2
  | 53 => 2
  | 54 => 2
  | 55 => 2
  | 56 => 2
  | 57 => 2
  | 58 => 2
  | 59 => 2
  | 60 => 2
  | 61 => 2
  | 62 => 2
  | 63 => 2
  | 64 => 2
  | 65 => 2
  | 66 => 2
  | 67 => 2
  | 68 => 2
  | 69 => 2
  | 70 => 2
  | 71 => 2
  | 72 => 2
  | 73 => 2
  | 74 => 2
  | 75 => 2
  | 76 => 2
  | 77 => 2
  | 78 => 2
  | 79 => 2
  | 80 => 2
  | 81 => 2
  | 82 => 2
  | 83 => 2
  | 84 => 2
  | 85 => 2
  | 86 => 2
  | 87 => 2
  | 88 => 2
  | 89 => 2
  | 90 => 2
  | 91 => 2
  | _ => 99
def z_nh : Nat → Bool := fun μ => match μ with
  | 0 => true
  | 1 => true
  | 2 => true
  | 3 => true
  | 4 => true
  | 5 => true
  | 6 => true
  | 7 => true
  | 8 => true
  | 9 => true
  | 10 => true
  | 11 => true
  | 12 => true
  | 13 => true
  | 14 => true
  | 15 => true
  | 16 => true
  | 17 => true
  | 18 => true
  | 19 => true
  | 20 => true
  | 21 => true
  | 22 => true
  | 23 => true
  | 24 => true
  | 25 => true
  | 26 => true
  | 27 => true
  | 28 => true
  | 29 => true
  | 30 => true
  | 31 => true
  | 32 => true
  | 33 => true
  | 34 => true
  | 35 => true
  | 36 => true
  | 37 => true
  | 38 => true
  | 39 => true
  | 40 => true
  | 41 => true
  | 42 => true
  | 43 => true
  | 44 => true
  | 45 => true
  | 46 => true
  | 47 => true
  | 48 => true
  | 49 => true
  | 50 => true
  | 51 => true
  | 52 => true
  | 53 => true
  | 54 => true
  | 55 => true
  | 56 => true
  | 57 => true
  | 58 => true
  | 59 => true
  | 60 => true
  | 61 => true
  | 62 => true
  | 63 => true
  | 64 => true
  | 65 => true
  | 66 => true
  | 67 => true
  | 68 => true
  | 69 => true
  | 70 => true
  | 71 => true
  | 72 => true
  | 73 => true
  | 74 => true
  | 75 => true
  | 76 => true
  | 77 => true
  | 78 => true
  | 79 => true
  | 80 => true
  | 81 => true
  | 82 => true
  | 83 => true
  | 84 => true
  | 85 => true
  | 86 => true
  | 87 => true
  | 88 => true
  | 89 => true
  | 90 => true
  | 91 => true
  | _ => true
def zleaf (k pc : Nat) (i : zI) : Option zI := bif Nat.beq pc k then some i else none
def znode (k pc : Nat) (a b : Option zI) : Option zI := bif Nat.blt pc k then a else b
theorem zleaf_ok {P : Nat → zI → Prop} {k pc : Nat} {i : zI} (h : P k i) : ∀ j, zleaf k pc i = some j → P pc j := by
  intro j hj
  unfold zleaf at hj
  cases hb : Nat.beq pc k with
  | false => rw [hb] at hj; cases hj
  | true =>
    rw [hb] at hj
    cases hj
    rw [Nat.eq_of_beq_eq_true hb]
    exact h
theorem znode_ok {P : Nat → zI → Prop} {k pc : Nat} {a b : Option zI} (ha : ∀ j, a = some j → P pc j) (hb : ∀ j, b = some j → P pc j) : ∀ j, znode k pc a b = some j → P pc j := by
  intro j hj
  unfold znode at hj
  cases hc : Nat.blt pc k with
  | false => rw [hc] at hj; exact hb j hj
  | true => rw [hc] at hj; exact ha j hj
end
section
/-- Creasebook$Form.<init>()V -/
def zc_X0_init (pc : Nat) : Option zI := znode 21 pc (znode 9 pc (znode 4 pc (znode 1 pc (zleaf 0 pc (.inl (zLd zIsA 1 0))) (zleaf 1 pc (.inl (zS2 (zObj 4))))) (znode 5 pc (zleaf 4 pc (.inl (zLd zIsA 5 0))) (znode 7 pc (zleaf 5 pc (.inl (zS1 (zCst (.int 32) 7)))) (zleaf 7 pc (.inl (zNwaI 0 9)))))) (znode 15 pc (znode 12 pc (zleaf 9 pc (.inl (zPut zIsA 0 3 12))) (znode 13 pc (zleaf 12 pc (.inl (zLd zIsA 13 0))) (zleaf 13 pc (.inl (zS1 (zCst (.int 32) 15)))))) (znode 17 pc (zleaf 15 pc (.inl (zNwaI 0 17))) (znode 20 pc (zleaf 17 pc (.inl (zPut zIsA 0 4 20))) (zleaf 20 pc (.inl (zLd zIsA 21 0))))))) (znode 33 pc (znode 28 pc (znode 23 pc (zleaf 21 pc (.inl (zS1 (zCst (.int 32) 23)))) (znode 25 pc (zleaf 23 pc (.inl (zNwaI 0 25))) (zleaf 25 pc (.inl (zPut zIsA 0 5 28))))) (znode 29 pc (zleaf 28 pc (.inl (zLd zIsA 29 0))) (znode 31 pc (zleaf 29 pc (.inl (zS1 (zCst (.int 32) 31)))) (zleaf 31 pc (.inl (zNwaZ 1 33)))))) (znode 39 pc (znode 36 pc (zleaf 33 pc (.inl (zPut zIsA 0 6 36))) (znode 37 pc (zleaf 36 pc (.inl (zLd zIsA 37 0))) (zleaf 37 pc (.inl (zS1 (zCst (.int 32) 39)))))) (znode 41 pc (zleaf 39 pc (.inl (zNwaI 0 41))) (znode 44 pc (zleaf 41 pc (.inl (zPut zIsA 0 7 44))) (zleaf 44 pc (.inr (.inl 0)))))))
theorem zk_X0_init (O : Nat → State → Heap → Prop) (E : zE) (l : Launch) : ∀ pc i, zc_X0_init pc = some i → zOK z_cl z_T z_G z_N O E z_yy z_bb z_nl z_cc z_rt z_hh l 0 pc i := fun pc => znode_ok (znode_ok (znode_ok (znode_ok (zleaf_ok (zs_aload_n (by decide +kernel : decode cX0_init 0 = .ok (.aload_n 0, 1)) rfl)) (zleaf_ok (zs_obj zw_0 zw_1 zw_2 (by decide +kernel : decode cX0_init 1 = .ok (.invokespecial 3, 3))))) (znode_ok (zleaf_ok (zs_aload_n (by decide +kernel : decode cX0_init 4 = .ok (.aload_n 0, 1)) rfl)) (znode_ok (zleaf_ok (zs_bipush (by decide) (by decide +kernel : decode cX0_init 5 = .ok (.bipush 32, 2)))) (zleaf_ok (zs_nwaI rfl zw_3 (by decide +kernel : decode cX0_init 7 = .ok (.newarray .int, 2))))))) (znode_ok (znode_ok (zleaf_ok (zs_putF (C := RX0) (Tc := TX0) (Nc := 8) (ty0 := tyX0) (ty := (.array .int)) rfl zinX0 (Nat.le_of_ble_eq_true rfl) tyX0_ok nmX0 zw_4 rfl rfl rfl (by decide +kernel) (zfR _) (by decide +kernel : decode cX0_init 9 = .ok (.putfield 9, 3)))) (znode_ok (zleaf_ok (zs_aload_n (by decide +kernel : decode cX0_init 12 = .ok (.aload_n 0, 1)) rfl)) (zleaf_ok (zs_bipush (by decide) (by decide +kernel : decode cX0_init 13 = .ok (.bipush 32, 2)))))) (znode_ok (zleaf_ok (zs_nwaI rfl zw_3 (by decide +kernel : decode cX0_init 15 = .ok (.newarray .int, 2)))) (znode_ok (zleaf_ok (zs_putF (C := RX0) (Tc := TX0) (Nc := 8) (ty0 := tyX0) (ty := (.array .int)) rfl zinX0 (Nat.le_of_ble_eq_true rfl) tyX0_ok nmX0 zw_5 rfl rfl rfl (by decide +kernel) (zfR _) (by decide +kernel : decode cX0_init 17 = .ok (.putfield 15, 3)))) (zleaf_ok (zs_aload_n (by decide +kernel : decode cX0_init 20 = .ok (.aload_n 0, 1)) rfl)))))) (znode_ok (znode_ok (znode_ok (zleaf_ok (zs_bipush (by decide) (by decide +kernel : decode cX0_init 21 = .ok (.bipush 32, 2)))) (znode_ok (zleaf_ok (zs_nwaI rfl zw_3 (by decide +kernel : decode cX0_init 23 = .ok (.newarray .int, 2)))) (zleaf_ok (zs_putF (C := RX0) (Tc := TX0) (Nc := 8) (ty0 := tyX0) (ty := (.array .int)) rfl zinX0 (Nat.le_of_ble_eq_true rfl) tyX0_ok nmX0 zw_6 rfl rfl rfl (by decide +kernel) (zfR _) (by decide +kernel : decode cX0_init 25 = .ok (.putfield 18, 3)))))) (znode_ok (zleaf_ok (zs_aload_n (by decide +kernel : decode cX0_init 28 = .ok (.aload_n 0, 1)) rfl)) (znode_ok (zleaf_ok (zs_bipush (by decide) (by decide +kernel : decode cX0_init 29 = .ok (.bipush 32, 2)))) (zleaf_ok (zs_nwaZ rfl zw_7 (by decide +kernel : decode cX0_init 31 = .ok (.newarray .boolean, 2))))))) (znode_ok (znode_ok (zleaf_ok (zs_putF (C := RX0) (Tc := TX0) (Nc := 8) (ty0 := tyX0) (ty := (.array .boolean)) rfl zinX0 (Nat.le_of_ble_eq_true rfl) tyX0_ok nmX0 zw_8 rfl rfl rfl (by decide +kernel) (zfR _) (by decide +kernel : decode cX0_init 33 = .ok (.putfield 21, 3)))) (znode_ok (zleaf_ok (zs_aload_n (by decide +kernel : decode cX0_init 36 = .ok (.aload_n 0, 1)) rfl)) (zleaf_ok (zs_bipush (by decide) (by decide +kernel : decode cX0_init 37 = .ok (.bipush 32, 2)))))) (znode_ok (zleaf_ok (zs_nwaI rfl zw_3 (by decide +kernel : decode cX0_init 39 = .ok (.newarray .int, 2)))) (znode_ok (zleaf_ok (zs_putF (C := RX0) (Tc := TX0) (Nc := 8) (ty0 := tyX0) (ty := (.array .int)) rfl zinX0 (Nat.le_of_ble_eq_true rfl) tyX0_ok nmX0 zw_9 rfl rfl rfl (by decide +kernel) (zfR _) (by decide +kernel : decode cX0_init 41 = .ok (.putfield 25, 3)))) (zleaf_ok (Or.inl ⟨rfl, rfl, (by decide +kernel : decode cX0_init 44 = .ok (.return_, 1))⟩))))))
/-- Creasebook$Form.spread(II)V -/
def zc_X0_spread (pc : Nat) : Option zI := znode 41 pc (znode 19 pc (znode 8 pc (znode 3 pc (znode 1 pc (zleaf 0 pc (.inl (zLd zIsA 1 0))) (znode 2 pc (zleaf 1 pc (.inl (zLd zIsI 2 1))) (zleaf 2 pc (.inl (zLd zIsI 3 2))))) (znode 4 pc (zleaf 3 pc (.inl (zS1 (zII (fun x y => x * y) 4)))) (znode 7 pc (zleaf 4 pc (.inl (zPut zIsI 0 0 7))) (zleaf 7 pc (.inl (zLd zIsA 8 0)))))) (znode 13 pc (znode 9 pc (zleaf 8 pc (.inl (zLd zIsI 9 1))) (znode 12 pc (zleaf 9 pc (.inl (zPut zIsI 0 1 12))) (zleaf 12 pc (.inl (zLd zIsA 13 0))))) (znode 17 pc (znode 14 pc (zleaf 13 pc (.inl (zLd zIsI 14 2))) (zleaf 14 pc (.inl (zPut zIsI 0 2 17)))) (znode 18 pc (zleaf 17 pc (.inl (zS1 (zCst (.int 0) 18)))) (zleaf 18 pc (.inl (zSt1 zIsI 19 3))))))) (znode 30 pc (znode 24 pc (znode 20 pc (zleaf 19 pc (.inl (zLd zIsI 20 3))) (znode 21 pc (zleaf 20 pc (.inl (zLd zIsI 21 2))) (zleaf 21 pc (.inl (zS1 (zIcmp (fun x y => decide (y ≤ x)) 86 24)))))) (znode 27 pc (znode 25 pc (zleaf 24 pc (.inl (zS1 (zCst (.int 0) 25)))) (zleaf 25 pc (.inl (zSt1 zIsI 27 4)))) (znode 29 pc (zleaf 27 pc (.inl (zLd zIsI 29 4))) (zleaf 29 pc (.inl (zLd zIsI 30 1)))))) (znode 35 pc (znode 33 pc (zleaf 30 pc (.inl (zS1 (zIcmp (fun x y => decide (y ≤ x)) 80 33)))) (znode 34 pc (zleaf 33 pc (.inl (zLd zIsI 34 1))) (zleaf 34 pc (.inl (zLd zIsI 35 3))))) (znode 38 pc (znode 36 pc (zleaf 35 pc (.inl (zS1 (zII (fun x y => x * y) 36)))) (zleaf 36 pc (.inl (zLd zIsI 38 4)))) (znode 39 pc (zleaf 38 pc (.inl (zS1 (zII (fun x y => x + y) 39)))) (zleaf 39 pc (.inl (zSt1 zIsI 41 5)))))))) (znode 64 pc (znode 51 pc (znode 47 pc (znode 42 pc (zleaf 41 pc (.inl (zLd zIsA 42 0))) (znode 45 pc (zleaf 42 pc (.inl (zS2 (zGet 0 3 45)))) (zleaf 45 pc (.inl (zLd zIsI 47 5))))) (znode 49 pc (zleaf 47 pc (.inl (zLd zIsI 49 4))) (znode 50 pc (zleaf 49 pc (.inl (zAstI 0 50))) (zleaf 50 pc (.inl (zLd zIsA 51 0)))))) (znode 57 pc (znode 54 pc (zleaf 51 pc (.inl (zS2 (zGet 0 4 54)))) (znode 56 pc (zleaf 54 pc (.inl (zLd zIsI 56 5))) (zleaf 56 pc (.inl (zLd zIsI 57 3))))) (znode 59 pc (znode 58 pc (zleaf 57 pc (.inl (zAstI 0 58))) (zleaf 58 pc (.inl (zLd zIsA 59 0)))) (znode 62 pc (zleaf 59 pc (.inl (zS2 (zGet 0 5 62)))) (zleaf 62 pc (.inl (zLd zIsI 64 5))))))) (znode 74 pc (znode 67 pc (znode 65 pc (zleaf 64 pc (.inl (zS1 (zCst (.int 0) 65)))) (znode 66 pc (zleaf 65 pc (.inl (zAstI 0 66))) (zleaf 66 pc (.inl (zLd zIsA 67 0))))) (znode 72 pc (znode 70 pc (zleaf 67 pc (.inl (zS2 (zGet 0 6 70)))) (zleaf 70 pc (.inl (zLd zIsI 72 5)))) (znode 73 pc (zleaf 72 pc (.inl (zS1 (zCst (.int 1) 73)))) (zleaf 73 pc (.inl (zAstZ 1 74)))))) (znode 83 pc (znode 77 pc (zleaf 74 pc (.inl (zIinc 77 4 1))) (znode 80 pc (zleaf 77 pc (.inl (zS1 (zGo 27)))) (zleaf 80 pc (.inl (zIinc 83 3 1))))) (znode 87 pc (znode 86 pc (zleaf 83 pc (.inl (zS1 (zGo 19)))) (zleaf 86 pc (.inl (zLd zIsA 87 0)))) (znode 90 pc (zleaf 87 pc (.inr (.inr (.inr (7, 1, 0))))) (zleaf 90 pc (.inr (.inl 0))))))))
theorem zk_X0_spread (O : Nat → State → Heap → Prop) (E : zE) (l : Launch) : ∀ pc i, zc_X0_spread pc = some i → zOK z_cl z_T z_G z_N O E z_yy z_bb z_nl z_cc z_rt z_hh l 1 pc i := fun pc => znode_ok (znode_ok (znode_ok (znode_ok (znode_ok (zleaf_ok (zs_aload_n (by decide +kernel : decode cX0_spread 0 = .ok (.aload_n 0, 1)) rfl)) (znode_ok (zleaf_ok (zs_iload_n (by decide +kernel : decode cX0_spread 1 = .ok (.iload_n 1, 1)) rfl)) (zleaf_ok (zs_iload_n (by decide +kernel : decode cX0_spread 2 = .ok (.iload_n 2, 1)) rfl)))) (znode_ok (zleaf_ok (zs_imul (by decide +kernel : decode cX0_spread 3 = .ok (.imul, 1)))) (znode_ok (zleaf_ok (zs_put (C := RX0) (Tc := TX0) (Nc := 8) (ty0 := tyX0) (ty := .int) rfl zinX0 (Nat.le_of_ble_eq_true rfl) tyX0_ok nmX0 zw_10 rfl (by decide +kernel) (zfI) (by decide +kernel : decode cX0_spread 4 = .ok (.putfield 28, 3)))) (zleaf_ok (zs_aload_n (by decide +kernel : decode cX0_spread 7 = .ok (.aload_n 0, 1)) rfl))))) (znode_ok (znode_ok (zleaf_ok (zs_iload_n (by decide +kernel : decode cX0_spread 8 = .ok (.iload_n 1, 1)) rfl)) (znode_ok (zleaf_ok (zs_put (C := RX0) (Tc := TX0) (Nc := 8) (ty0 := tyX0) (ty := .int) rfl zinX0 (Nat.le_of_ble_eq_true rfl) tyX0_ok nmX0 zw_11 rfl (by decide +kernel) (zfI) (by decide +kernel : decode cX0_spread 9 = .ok (.putfield 32, 3)))) (zleaf_ok (zs_aload_n (by decide +kernel : decode cX0_spread 12 = .ok (.aload_n 0, 1)) rfl)))) (znode_ok (znode_ok (zleaf_ok (zs_iload_n (by decide +kernel : decode cX0_spread 13 = .ok (.iload_n 2, 1)) rfl)) (zleaf_ok (zs_put (C := RX0) (Tc := TX0) (Nc := 8) (ty0 := tyX0) (ty := .int) rfl zinX0 (Nat.le_of_ble_eq_true rfl) tyX0_ok nmX0 zw_12 rfl (by decide +kernel) (zfI) (by decide +kernel : decode cX0_spread 14 = .ok (.putfield 35, 3))))) (znode_ok (zleaf_ok (zs_iconst (by decide) (by decide +kernel : decode cX0_spread 17 = .ok (.iconst 0, 1)))) (zleaf_ok (zs_istore_n (Nat.le_of_ble_eq_true rfl) (by decide +kernel : decode cX0_spread 18 = .ok (.istore_n 3, 1)) rfl)))))) (znode_ok (znode_ok (znode_ok (zleaf_ok (zs_iload_n (by decide +kernel : decode cX0_spread 19 = .ok (.iload_n 3, 1)) rfl)) (znode_ok (zleaf_ok (zs_iload_n (by decide +kernel : decode cX0_spread 20 = .ok (.iload_n 2, 1)) rfl)) (zleaf_ok (zs_icmp_ge (t := 86) (by decide) (by decide +kernel : decode cX0_spread 21 = .ok (.if_icmp .ge 65, 3)))))) (znode_ok (znode_ok (zleaf_ok (zs_iconst (by decide) (by decide +kernel : decode cX0_spread 24 = .ok (.iconst 0, 1)))) (zleaf_ok (zs_istore (Nat.le_of_ble_eq_true rfl) (by decide +kernel : decode cX0_spread 25 = .ok (.istore 4, 2))))) (znode_ok (zleaf_ok (zs_iload (by decide +kernel : decode cX0_spread 27 = .ok (.iload 4, 2)))) (zleaf_ok (zs_iload_n (by decide +kernel : decode cX0_spread 29 = .ok (.iload_n 1, 1)) rfl))))) (znode_ok (znode_ok (zleaf_ok (zs_icmp_ge (t := 80) (by decide) (by decide +kernel : decode cX0_spread 30 = .ok (.if_icmp .ge 50, 3)))) (znode_ok (zleaf_ok (zs_iload_n (by decide +kernel : decode cX0_spread 33 = .ok (.iload_n 1, 1)) rfl)) (zleaf_ok (zs_iload_n (by decide +kernel : decode cX0_spread 34 = .ok (.iload_n 3, 1)) rfl)))) (znode_ok (znode_ok (zleaf_ok (zs_imul (by decide +kernel : decode cX0_spread 35 = .ok (.imul, 1)))) (zleaf_ok (zs_iload (by decide +kernel : decode cX0_spread 36 = .ok (.iload 4, 2))))) (znode_ok (zleaf_ok (zs_iadd (by decide +kernel : decode cX0_spread 38 = .ok (.iadd, 1)))) (zleaf_ok (zs_istore (Nat.le_of_ble_eq_true rfl) (by decide +kernel : decode cX0_spread 39 = .ok (.istore 5, 2))))))))) (znode_ok (znode_ok (znode_ok (znode_ok (zleaf_ok (zs_aload_n (by decide +kernel : decode cX0_spread 41 = .ok (.aload_n 0, 1)) rfl)) (znode_ok (zleaf_ok (zs_get (C := RX0) (Tc := TX0) (Nc := 8) rfl zinX0 (Nat.le_of_ble_eq_true rfl) zw_4 (by decide +kernel : decode cX0_spread 42 = .ok (.getfield 9, 3)))) (zleaf_ok (zs_iload (by decide +kernel : decode cX0_spread 45 = .ok (.iload 5, 2)))))) (znode_ok (zleaf_ok (zs_iload (by decide +kernel : decode cX0_spread 47 = .ok (.iload 4, 2)))) (znode_ok (zleaf_ok (zs_astI rfl (by decide +kernel : decode cX0_spread 49 = .ok (.iastore, 1)))) (zleaf_ok (zs_aload_n (by decide +kernel : decode cX0_spread 50 = .ok (.aload_n 0, 1)) rfl))))) (znode_ok (znode_ok (zleaf_ok (zs_get (C := RX0) (Tc := TX0) (Nc := 8) rfl zinX0 (Nat.le_of_ble_eq_true rfl) zw_5 (by decide +kernel : decode cX0_spread 51 = .ok (.getfield 15, 3)))) (znode_ok (zleaf_ok (zs_iload (by decide +kernel : decode cX0_spread 54 = .ok (.iload 5, 2)))) (zleaf_ok (zs_iload_n (by decide +kernel : decode cX0_spread 56 = .ok (.iload_n 3, 1)) rfl)))) (znode_ok (znode_ok (zleaf_ok (zs_astI rfl (by decide +kernel : decode cX0_spread 57 = .ok (.iastore, 1)))) (zleaf_ok (zs_aload_n (by decide +kernel : decode cX0_spread 58 = .ok (.aload_n 0, 1)) rfl))) (znode_ok (zleaf_ok (zs_get (C := RX0) (Tc := TX0) (Nc := 8) rfl zinX0 (Nat.le_of_ble_eq_true rfl) zw_6 (by decide +kernel : decode cX0_spread 59 = .ok (.getfield 18, 3)))) (zleaf_ok (zs_iload (by decide +kernel : decode cX0_spread 62 = .ok (.iload 5, 2)))))))) (znode_ok (znode_ok (znode_ok (zleaf_ok (zs_iconst (by decide) (by decide +kernel : decode cX0_spread 64 = .ok (.iconst 0, 1)))) (znode_ok (zleaf_ok (zs_astI rfl (by decide +kernel : decode cX0_spread 65 = .ok (.iastore, 1)))) (zleaf_ok (zs_aload_n (by decide +kernel : decode cX0_spread 66 = .ok (.aload_n 0, 1)) rfl)))) (znode_ok (znode_ok (zleaf_ok (zs_get (C := RX0) (Tc := TX0) (Nc := 8) rfl zinX0 (Nat.le_of_ble_eq_true rfl) zw_8 (by decide +kernel : decode cX0_spread 67 = .ok (.getfield 21, 3)))) (zleaf_ok (zs_iload (by decide +kernel : decode cX0_spread 70 = .ok (.iload 5, 2))))) (znode_ok (zleaf_ok (zs_iconst (by decide) (by decide +kernel : decode cX0_spread 72 = .ok (.iconst 1, 1)))) (zleaf_ok (zs_astZ rfl (by decide +kernel : decode cX0_spread 73 = .ok (.bastore, 1))))))) (znode_ok (znode_ok (zleaf_ok (zs_iinc (Nat.le_of_ble_eq_true rfl) (by decide) (by decide +kernel : decode cX0_spread 74 = .ok (.iinc 4 1, 3)))) (znode_ok (zleaf_ok (zs_goto (t := 27) (by decide) (by decide +kernel : decode cX0_spread 77 = .ok (.goto (-50), 3)))) (zleaf_ok (zs_iinc (Nat.le_of_ble_eq_true rfl) (by decide) (by decide +kernel : decode cX0_spread 80 = .ok (.iinc 3 1, 3)))))) (znode_ok (znode_ok (zleaf_ok (zs_goto (t := 19) (by decide) (by decide +kernel : decode cX0_spread 83 = .ok (.goto (-64), 3)))) (zleaf_ok (zs_aload_n (by decide +kernel : decode cX0_spread 86 = .ok (.aload_n 0, 1)) rfl))) (znode_ok (zleaf_ok (⟨zcs0 (n := 0) z_good zw_13 zw_14 zw_15 zw_16 zw_17 (by decide +kernel) (by decide +kernel : decode cX0_spread 87 = .ok (.invokevirtual 38, 3)), Nat.le_of_ble_eq_true rfl, by decide +kernel, (fun _ => ⟨TX0, 8, rfl⟩)⟩)) (zleaf_ok (Or.inl ⟨rfl, rfl, (by decide +kernel : decode cX0_spread 90 = .ok (.return_, 1))⟩)))))))
/-- Creasebook$Form.copyFrom(LCreasebook$Form;)V -/
def zc_X0_copyFrom (pc : Nat) : Option zI := znode 53 pc (znode 27 pc (znode 13 pc (znode 5 pc (znode 1 pc (zleaf 0 pc (.inl (zLd zIsA 1 0))) (znode 2 pc (zleaf 1 pc (.inl (zLd zIsA 2 1))) (zleaf 2 pc (.inl (zS2 (zGet 0 0 5)))))) (znode 9 pc (znode 8 pc (zleaf 5 pc (.inl (zPut zIsI 0 0 8))) (zleaf 8 pc (.inl (zLd zIsA 9 0)))) (znode 10 pc (zleaf 9 pc (.inl (zLd zIsA 10 1))) (zleaf 10 pc (.inl (zS2 (zGet 0 1 13))))))) (znode 21 pc (znode 17 pc (znode 16 pc (zleaf 13 pc (.inl (zPut zIsI 0 1 16))) (zleaf 16 pc (.inl (zLd zIsA 17 0)))) (znode 18 pc (zleaf 17 pc (.inl (zLd zIsA 18 1))) (zleaf 18 pc (.inl (zS2 (zGet 0 2 21)))))) (znode 25 pc (znode 24 pc (zleaf 21 pc (.inl (zPut zIsI 0 2 24))) (zleaf 24 pc (.inl (zS1 (zCst (.int 0) 25))))) (znode 26 pc (zleaf 25 pc (.inl (zSt1 zIsI 26 2))) (zleaf 26 pc (.inl (zLd zIsI 27 2))))))) (znode 41 pc (znode 33 pc (znode 29 pc (zleaf 27 pc (.inl (zS1 (zCst (.int 32) 29)))) (znode 32 pc (zleaf 29 pc (.inl (zS1 (zIcmp (fun x y => decide (y ≤ x)) 98 32)))) (zleaf 32 pc (.inl (zLd zIsA 33 0))))) (znode 37 pc (znode 36 pc (zleaf 33 pc (.inl (zS2 (zGet 0 3 36)))) (zleaf 36 pc (.inl (zLd zIsI 37 2)))) (znode 38 pc (zleaf 37 pc (.inl (zLd zIsA 38 1))) (zleaf 38 pc (.inl (zS2 (zGet 0 3 41))))))) (znode 45 pc (znode 43 pc (znode 42 pc (zleaf 41 pc (.inl (zLd zIsI 42 2))) (zleaf 42 pc (.inl (zS2 (zAldI 0 43))))) (znode 44 pc (zleaf 43 pc (.inl (zAstI 0 44))) (zleaf 44 pc (.inl (zLd zIsA 45 0))))) (znode 49 pc (znode 48 pc (zleaf 45 pc (.inl (zS2 (zGet 0 4 48)))) (zleaf 48 pc (.inl (zLd zIsI 49 2)))) (znode 50 pc (zleaf 49 pc (.inl (zLd zIsA 50 1))) (zleaf 50 pc (.inl (zS2 (zGet 0 4 53))))))))) (znode 74 pc (znode 62 pc (znode 56 pc (znode 54 pc (zleaf 53 pc (.inl (zLd zIsI 54 2))) (znode 55 pc (zleaf 54 pc (.inl (zS2 (zAldI 0 55)))) (zleaf 55 pc (.inl (zAstI 0 56))))) (znode 60 pc (znode 57 pc (zleaf 56 pc (.inl (zLd zIsA 57 0))) (zleaf 57 pc (.inl (zS2 (zGet 0 5 60))))) (znode 61 pc (zleaf 60 pc (.inl (zLd zIsI 61 2))) (zleaf 61 pc (.inl (zLd zIsA 62 1)))))) (znode 68 pc (znode 66 pc (znode 65 pc (zleaf 62 pc (.inl (zS2 (zGet 0 5 65)))) (zleaf 65 pc (.inl (zLd zIsI 66 2)))) (znode 67 pc (zleaf 66 pc (.inl (zS2 (zAldI 0 67)))) (zleaf 67 pc (.inl (zAstI 0 68))))) (znode 72 pc (znode 69 pc (zleaf 68 pc (.inl (zLd zIsA 69 0))) (zleaf 69 pc (.inl (zS2 (zGet 0 6 72))))) (znode 73 pc (zleaf 72 pc (.inl (zLd zIsI 73 2))) (zleaf 73 pc (.inl (zLd zIsA 74 1))))))) (znode 85 pc (znode 79 pc (znode 77 pc (zleaf 74 pc (.inl (zS2 (zGet 0 6 77)))) (znode 78 pc (zleaf 77 pc (.inl (zLd zIsI 78 2))) (zleaf 78 pc (.inl (zS2 (zAldZ 1 79)))))) (znode 81 pc (znode 80 pc (zleaf 79 pc (.inl (zAstZ 1 80))) (zleaf 80 pc (.inl (zLd zIsA 81 0)))) (znode 84 pc (zleaf 81 pc (.inl (zS2 (zGet 0 7 84)))) (zleaf 84 pc (.inl (zLd zIsI 85 2)))))) (znode 91 pc (znode 89 pc (znode 86 pc (zleaf 85 pc (.inl (zLd zIsA 86 1))) (zleaf 86 pc (.inl (zS2 (zGet 0 7 89))))) (znode 90 pc (zleaf 89 pc (.inl (zLd zIsI 90 2))) (zleaf 90 pc (.inl (zS2 (zAldI 0 91)))))) (znode 95 pc (znode 92 pc (zleaf 91 pc (.inl (zAstI 0 92))) (zleaf 92 pc (.inl (zIinc 95 2 1)))) (znode 98 pc (zleaf 95 pc (.inl (zS1 (zGo 26)))) (zleaf 98 pc (.inr (.inl 0))))))))
theorem zk_X0_copyFrom (O : Nat → State → Heap → Prop) (E : zE) (l : Launch) : ∀ pc i, zc_X0_copyFrom pc = some i → zOK z_cl z_T z_G z_N O E z_yy z_bb z_nl z_cc z_rt z_hh l 2 pc i := fun pc => znode_ok (znode_ok (znode_ok (znode_ok (znode_ok (zleaf_ok (zs_aload_n (by decide +kernel : decode cX0_copyFrom 0 = .ok (.aload_n 0, 1)) rfl)) (znode_ok (zleaf_ok (zs_aload_n (by decide +kernel : decode cX0_copyFrom 1 = .ok (.aload_n 1, 1)) rfl)) (zleaf_ok (zs_get (C := RX0) (Tc := TX0) (Nc := 8) rfl zinX0 (Nat.le_of_ble_eq_true rfl) zw_10 (by decide +kernel : decode cX0_copyFrom 2 = .ok (.getfield 28, 3)))))) (znode_ok (znode_ok (zleaf_ok (zs_put (C := RX0) (Tc := TX0) (Nc := 8) (ty0 := tyX0) (ty := .int) rfl zinX0 (Nat.le_of_ble_eq_true rfl) tyX0_ok nmX0 zw_10 rfl (by decide +kernel) (zfI) (by decide +kernel : decode cX0_copyFrom 5 = .ok (.putfield 28, 3)))) (zleaf_ok (zs_aload_n (by decide +kernel : decode cX0_copyFrom 8 = .ok (.aload_n 0, 1)) rfl))) (znode_ok (zleaf_ok (zs_aload_n (by decide +kernel : decode cX0_copyFrom 9 = .ok (.aload_n 1, 1)) rfl)) (zleaf_ok (zs_get (C := RX0) (Tc := TX0) (Nc := 8) rfl zinX0 (Nat.le_of_ble_eq_true rfl) zw_11 (by decide +kernel : decode cX0_copyFrom 10 = .ok (.getfield 32, 3))))))) (znode_ok (znode_ok (znode_ok (zleaf_ok (zs_put (C := RX0) (Tc := TX0) (Nc := 8) (ty0 := tyX0) (ty := .int) rfl zinX0 (Nat.le_of_ble_eq_true rfl) tyX0_ok nmX0 zw_11 rfl (by decide +kernel) (zfI) (by decide +kernel : decode cX0_copyFrom 13 = .ok (.putfield 32, 3)))) (zleaf_ok (zs_aload_n (by decide +kernel : decode cX0_copyFrom 16 = .ok (.aload_n 0, 1)) rfl))) (znode_ok (zleaf_ok (zs_aload_n (by decide +kernel : decode cX0_copyFrom 17 = .ok (.aload_n 1, 1)) rfl)) (zleaf_ok (zs_get (C := RX0) (Tc := TX0) (Nc := 8) rfl zinX0 (Nat.le_of_ble_eq_true rfl) zw_12 (by decide +kernel : decode cX0_copyFrom 18 = .ok (.getfield 35, 3)))))) (znode_ok (znode_ok (zleaf_ok (zs_put (C := RX0) (Tc := TX0) (Nc := 8) (ty0 := tyX0) (ty := .int) rfl zinX0 (Nat.le_of_ble_eq_true rfl) tyX0_ok nmX0 zw_12 rfl (by decide +kernel) (zfI) (by decide +kernel : decode cX0_copyFrom 21 = .ok (.putfield 35, 3)))) (zleaf_ok (zs_iconst (by decide) (by decide +kernel : decode cX0_copyFrom 24 = .ok (.iconst 0, 1))))) (znode_ok (zleaf_ok (zs_istore_n (Nat.le_of_ble_eq_true rfl) (by decide +kernel : decode cX0_copyFrom 25 = .ok (.istore_n 2, 1)) rfl)) (zleaf_ok (zs_iload_n (by decide +kernel : decode cX0_copyFrom 26 = .ok (.iload_n 2, 1)) rfl)))))) (znode_ok (znode_ok (znode_ok (zleaf_ok (zs_bipush (by decide) (by decide +kernel : decode cX0_copyFrom 27 = .ok (.bipush 32, 2)))) (znode_ok (zleaf_ok (zs_icmp_ge (t := 98) (by decide) (by decide +kernel : decode cX0_copyFrom 29 = .ok (.if_icmp .ge 69, 3)))) (zleaf_ok (zs_aload_n (by decide +kernel : decode cX0_copyFrom 32 = .ok (.aload_n 0, 1)) rfl)))) (znode_ok (znode_ok (zleaf_ok (zs_get (C := RX0) (Tc := TX0) (Nc := 8) rfl zinX0 (Nat.le_of_ble_eq_true rfl) zw_4 (by decide +kernel : decode cX0_copyFrom 33 = .ok (.getfield 9, 3)))) (zleaf_ok (zs_iload_n (by decide +kernel : decode cX0_copyFrom 36 = .ok (.iload_n 2, 1)) rfl))) (znode_ok (zleaf_ok (zs_aload_n (by decide +kernel : decode cX0_copyFrom 37 = .ok (.aload_n 1, 1)) rfl)) (zleaf_ok (zs_get (C := RX0) (Tc := TX0) (Nc := 8) rfl zinX0 (Nat.le_of_ble_eq_true rfl) zw_4 (by decide +kernel : decode cX0_copyFrom 38 = .ok (.getfield 9, 3))))))) (znode_ok (znode_ok (znode_ok (zleaf_ok (zs_iload_n (by decide +kernel : decode cX0_copyFrom 41 = .ok (.iload_n 2, 1)) rfl)) (zleaf_ok (zs_aldI rfl (by decide +kernel : decode cX0_copyFrom 42 = .ok (.iaload, 1))))) (znode_ok (zleaf_ok (zs_astI rfl (by decide +kernel : decode cX0_copyFrom 43 = .ok (.iastore, 1)))) (zleaf_ok (zs_aload_n (by decide +kernel : decode cX0_copyFrom 44 = .ok (.aload_n 0, 1)) rfl)))) (znode_ok (znode_ok (zleaf_ok (zs_get (C := RX0) (Tc := TX0) (Nc := 8) rfl zinX0 (Nat.le_of_ble_eq_true rfl) zw_5 (by decide +kernel : decode cX0_copyFrom 45 = .ok (.getfield 15, 3)))) (zleaf_ok (zs_iload_n (by decide +kernel : decode cX0_copyFrom 48 = .ok (.iload_n 2, 1)) rfl))) (znode_ok (zleaf_ok (zs_aload_n (by decide +kernel : decode cX0_copyFrom 49 = .ok (.aload_n 1, 1)) rfl)) (zleaf_ok (zs_get (C := RX0) (Tc := TX0) (Nc := 8) rfl zinX0 (Nat.le_of_ble_eq_true rfl) zw_5 (by decide +kernel : decode cX0_copyFrom 50 = .ok (.getfield 15, 3))))))))) (znode_ok (znode_ok (znode_ok (znode_ok (zleaf_ok (zs_iload_n (by decide +kernel : decode cX0_copyFrom 53 = .ok (.iload_n 2, 1)) rfl)) (znode_ok (zleaf_ok (zs_aldI rfl (by decide +kernel : decode cX0_copyFrom 54 = .ok (.iaload, 1)))) (zleaf_ok (zs_astI rfl (by decide +kernel : decode cX0_copyFrom 55 = .ok (.iastore, 1)))))) (znode_ok (znode_ok (zleaf_ok (zs_aload_n (by decide +kernel : decode cX0_copyFrom 56 = .ok (.aload_n 0, 1)) rfl)) (zleaf_ok (zs_get (C := RX0) (Tc := TX0) (Nc := 8) rfl zinX0 (Nat.le_of_ble_eq_true rfl) zw_6 (by decide +kernel : decode cX0_copyFrom 57 = .ok (.getfield 18, 3))))) (znode_ok (zleaf_ok (zs_iload_n (by decide +kernel : decode cX0_copyFrom 60 = .ok (.iload_n 2, 1)) rfl)) (zleaf_ok (zs_aload_n (by decide +kernel : decode cX0_copyFrom 61 = .ok (.aload_n 1, 1)) rfl))))) (znode_ok (znode_ok (znode_ok (zleaf_ok (zs_get (C := RX0) (Tc := TX0) (Nc := 8) rfl zinX0 (Nat.le_of_ble_eq_true rfl) zw_6 (by decide +kernel : decode cX0_copyFrom 62 = .ok (.getfield 18, 3)))) (zleaf_ok (zs_iload_n (by decide +kernel : decode cX0_copyFrom 65 = .ok (.iload_n 2, 1)) rfl))) (znode_ok (zleaf_ok (zs_aldI rfl (by decide +kernel : decode cX0_copyFrom 66 = .ok (.iaload, 1)))) (zleaf_ok (zs_astI rfl (by decide +kernel : decode cX0_copyFrom 67 = .ok (.iastore, 1)))))) (znode_ok (znode_ok (zleaf_ok (zs_aload_n (by decide +kernel : decode cX0_copyFrom 68 = .ok (.aload_n 0, 1)) rfl)) (zleaf_ok (zs_get (C := RX0) (Tc := TX0) (Nc := 8) rfl zinX0 (Nat.le_of_ble_eq_true rfl) zw_8 (by decide +kernel : decode cX0_copyFrom 69 = .ok (.getfield 21, 3))))) (znode_ok (zleaf_ok (zs_iload_n (by decide +kernel : decode cX0_copyFrom 72 = .ok (.iload_n 2, 1)) rfl)) (zleaf_ok (zs_aload_n (by decide +kernel : decode cX0_copyFrom 73 = .ok (.aload_n 1, 1)) rfl)))))) (znode_ok (znode_ok (znode_ok (zleaf_ok (zs_get (C := RX0) (Tc := TX0) (Nc := 8) rfl zinX0 (Nat.le_of_ble_eq_true rfl) zw_8 (by decide +kernel : decode cX0_copyFrom 74 = .ok (.getfield 21, 3)))) (znode_ok (zleaf_ok (zs_iload_n (by decide +kernel : decode cX0_copyFrom 77 = .ok (.iload_n 2, 1)) rfl)) (zleaf_ok (zs_aldZ rfl (by decide +kernel : decode cX0_copyFrom 78 = .ok (.baload, 1)))))) (znode_ok (znode_ok (zleaf_ok (zs_astZ rfl (by decide +kernel : decode cX0_copyFrom 79 = .ok (.bastore, 1)))) (zleaf_ok (zs_aload_n (by decide +kernel : decode cX0_copyFrom 80 = .ok (.aload_n 0, 1)) rfl))) (znode_ok (zleaf_ok (zs_get (C := RX0) (Tc := TX0) (Nc := 8) rfl zinX0 (Nat.le_of_ble_eq_true rfl) zw_9 (by decide +kernel : decode cX0_copyFrom 81 = .ok (.getfield 25, 3)))) (zleaf_ok (zs_iload_n (by decide +kernel : decode cX0_copyFrom 84 = .ok (.iload_n 2, 1)) rfl))))) (znode_ok (znode_ok (znode_ok (zleaf_ok (zs_aload_n (by decide +kernel : decode cX0_copyFrom 85 = .ok (.aload_n 1, 1)) rfl)) (zleaf_ok (zs_get (C := RX0) (Tc := TX0) (Nc := 8) rfl zinX0 (Nat.le_of_ble_eq_true rfl) zw_9 (by decide +kernel : decode cX0_copyFrom 86 = .ok (.getfield 25, 3))))) (znode_ok (zleaf_ok (zs_iload_n (by decide +kernel : decode cX0_copyFrom 89 = .ok (.iload_n 2, 1)) rfl)) (zleaf_ok (zs_aldI rfl (by decide +kernel : decode cX0_copyFrom 90 = .ok (.iaload, 1)))))) (znode_ok (znode_ok (zleaf_ok (zs_astI rfl (by decide +kernel : decode cX0_copyFrom 91 = .ok (.iastore, 1)))) (zleaf_ok (zs_iinc (Nat.le_of_ble_eq_true rfl) (by decide) (by decide +kernel : decode cX0_copyFrom 92 = .ok (.iinc 2 1, 3))))) (znode_ok (zleaf_ok (zs_goto (t := 26) (by decide) (by decide +kernel : decode cX0_copyFrom 95 = .ok (.goto (-69), 3)))) (zleaf_ok (Or.inl ⟨rfl, rfl, (by decide +kernel : decode cX0_copyFrom 98 = .ok (.return_, 1))⟩)))))))
/-- Creasebook$Form.becomeFolded(LCreasebook$Form;I)V -/
def zc_X0_becomeFolded (pc : Nat) : Option zI := znode 141 pc (znode 68 pc (znode 34 pc (znode 14 pc (znode 8 pc (znode 4 pc (znode 1 pc (zleaf 0 pc (.inl (zLd zIsI 1 2))) (zleaf 1 pc (.inr (.inr (.inr (87, 1, 3)))))) (znode 7 pc (zleaf 4 pc (.inl (zS1 (zIf (fun x => decide (¬ x = 0)) 11 7)))) (zleaf 7 pc (.inl (zS1 (zCst (.int 1) 8)))))) (znode 12 pc (znode 11 pc (zleaf 8 pc (.inl (zS1 (zGo 12)))) (zleaf 11 pc (.inl (zS1 (zCst (.int 0) 12))))) (znode 13 pc (zleaf 12 pc (.inl (zSt1 zIsI 13 3))) (zleaf 13 pc (.inl (zLd zIsI 14 3)))))) (znode 24 pc (znode 18 pc (znode 17 pc (zleaf 14 pc (.inl (zS1 (zIf (fun x => decide (x = 0)) 24 17)))) (zleaf 17 pc (.inl (zLd zIsA 18 1)))) (znode 21 pc (zleaf 18 pc (.inl (zS2 (zGet 0 1 21)))) (zleaf 21 pc (.inl (zS1 (zGo 28)))))) (znode 28 pc (znode 25 pc (zleaf 24 pc (.inl (zLd zIsA 25 1))) (zleaf 25 pc (.inl (zS2 (zGet 0 2 28))))) (znode 30 pc (zleaf 28 pc (.inl (zSt1 zIsI 30 4))) (znode 31 pc (zleaf 30 pc (.inl (zLd zIsI 31 2))) (zleaf 31 pc (.inr (.inr (.inr (86, 1, 3)))))))))) (znode 50 pc (znode 43 pc (znode 37 pc (znode 36 pc (zleaf 34 pc (.inl (zSt1 zIsI 36 5))) (zleaf 36 pc (.inl (zLd zIsI 37 2)))) (znode 40 pc (zleaf 37 pc (.inr (.inr (.inr (88, 1, 3))))) (zleaf 40 pc (.inl (zS1 (zIf (fun x => decide (x = 0)) 57 43)))))) (znode 45 pc (znode 44 pc (zleaf 43 pc (.inl (zS1 (zCst (.int 0) 44)))) (zleaf 44 pc (.inl (zS1 (zCst (.int 2) 45))))) (znode 47 pc (zleaf 45 pc (.inl (zLd zIsI 47 5))) (znode 48 pc (zleaf 47 pc (.inl (zS1 (zII (fun x y => x * y) 48)))) (zleaf 48 pc (.inl (zLd zIsI 50 4))))))) (znode 59 pc (znode 54 pc (znode 51 pc (zleaf 50 pc (.inl (zS1 (zII (fun x y => x - y) 51)))) (zleaf 51 pc (.inl (zS2 (zMin 54))))) (znode 57 pc (zleaf 54 pc (.inl (zS1 (zGo 59)))) (zleaf 57 pc (.inl (zLd zIsI 59 5))))) (znode 63 pc (znode 61 pc (zleaf 59 pc (.inl (zSt1 zIsI 61 6))) (zleaf 61 pc (.inl (zLd zIsI 63 5)))) (znode 65 pc (zleaf 63 pc (.inl (zLd zIsI 65 4))) (znode 67 pc (zleaf 65 pc (.inl (zLd zIsI 67 5))) (zleaf 67 pc (.inl (zS1 (zII (fun x y => x - y) 68)))))))))) (znode 103 pc (znode 83 pc (znode 75 pc (znode 73 pc (znode 71 pc (zleaf 68 pc (.inl (zS2 (zMax 71)))) (zleaf 71 pc (.inl (zSt1 zIsI 73 7)))) (znode 74 pc (zleaf 73 pc (.inl (zLd zIsA 74 0))) (zleaf 74 pc (.inl (zLd zIsA 75 1))))) (znode 81 pc (znode 78 pc (zleaf 75 pc (.inl (zS2 (zGet 0 0 78)))) (zleaf 78 pc (.inl (zPut zIsI 0 0 81)))) (znode 82 pc (zleaf 81 pc (.inl (zLd zIsA 82 0))) (zleaf 82 pc (.inl (zLd zIsI 83 3)))))) (znode 92 pc (znode 88 pc (znode 86 pc (zleaf 83 pc (.inl (zS1 (zIf (fun x => decide (x = 0)) 91 86)))) (zleaf 86 pc (.inl (zLd zIsI 88 7)))) (znode 91 pc (zleaf 88 pc (.inl (zS1 (zGo 95)))) (zleaf 91 pc (.inl (zLd zIsA 92 1))))) (znode 98 pc (znode 95 pc (zleaf 92 pc (.inl (zS2 (zGet 0 1 95)))) (zleaf 95 pc (.inl (zPut zIsI 0 1 98)))) (znode 99 pc (zleaf 98 pc (.inl (zLd zIsA 99 0))) (znode 100 pc (zleaf 99 pc (.inl (zLd zIsI 100 3))) (zleaf 100 pc (.inl (zS1 (zIf (fun x => decide (x = 0)) 110 103))))))))) (znode 121 pc (znode 112 pc (znode 107 pc (znode 104 pc (zleaf 103 pc (.inl (zLd zIsA 104 1))) (zleaf 104 pc (.inl (zS2 (zGet 0 2 107))))) (znode 110 pc (zleaf 107 pc (.inl (zS1 (zGo 112)))) (zleaf 110 pc (.inl (zLd zIsI 112 7))))) (znode 116 pc (znode 115 pc (zleaf 112 pc (.inl (zPut zIsI 0 2 115))) (zleaf 115 pc (.inl (zS1 (zCst (.int 0) 116))))) (znode 118 pc (zleaf 116 pc (.inl (zSt1 zIsI 118 8))) (znode 120 pc (zleaf 118 pc (.inl (zLd zIsI 120 8))) (zleaf 120 pc (.inl (zLd zIsA 121 0))))))) (znode 130 pc (znode 127 pc (znode 124 pc (zleaf 121 pc (.inl (zS2 (zGet 0 0 124)))) (zleaf 124 pc (.inl (zS1 (zIcmp (fun x y => decide (y ≤ x)) 270 127))))) (znode 128 pc (zleaf 127 pc (.inl (zLd zIsA 128 1))) (zleaf 128 pc (.inl (zLd zIsI 130 8))))) (znode 134 pc (znode 131 pc (zleaf 130 pc (.inl (zLd zIsI 131 2))) (zleaf 131 pc (.inr (.inr (.inr (19, 3, 0)))))) (znode 136 pc (zleaf 134 pc (.inl (zSt1 zIsI 136 9))) (znode 138 pc (zleaf 136 pc (.inl (zLd zIsI 138 9))) (zleaf 138 pc (.inl (zS1 (zIf (fun x => decide (x = 0)) 151 141))))))))))) (znode 209 pc (znode 175 pc (znode 157 pc (znode 148 pc (znode 144 pc (znode 142 pc (zleaf 141 pc (.inl (zLd zIsA 142 1))) (zleaf 142 pc (.inl (zLd zIsI 144 8)))) (znode 145 pc (zleaf 144 pc (.inl (zLd zIsI 145 2))) (zleaf 145 pc (.inr (.inr (.inr (20, 3, 0))))))) (znode 152 pc (znode 151 pc (zleaf 148 pc (.inl (zS1 (zGo 158)))) (zleaf 151 pc (.inl (zLd zIsA 152 1)))) (znode 155 pc (zleaf 152 pc (.inl (zS2 (zGet 0 3 155)))) (zleaf 155 pc (.inl (zLd zIsI 157 8)))))) (znode 165 pc (znode 160 pc (znode 158 pc (zleaf 157 pc (.inl (zS2 (zAldI 0 158)))) (zleaf 158 pc (.inl (zSt1 zIsI 160 10)))) (znode 162 pc (zleaf 160 pc (.inl (zLd zIsI 162 9))) (zleaf 162 pc (.inl (zS1 (zIf (fun x => decide (x = 0)) 175 165)))))) (znode 168 pc (znode 166 pc (zleaf 165 pc (.inl (zLd zIsA 166 1))) (zleaf 166 pc (.inl (zLd zIsI 168 8)))) (znode 169 pc (zleaf 168 pc (.inl (zLd zIsI 169 2))) (znode 172 pc (zleaf 169 pc (.inr (.inr (.inr (21, 3, 0))))) (zleaf 172 pc (.inl (zS1 (zGo 182))))))))) (znode 191 pc (znode 182 pc (znode 179 pc (znode 176 pc (zleaf 175 pc (.inl (zLd zIsA 176 1))) (zleaf 176 pc (.inl (zS2 (zGet 0 4 179))))) (znode 181 pc (zleaf 179 pc (.inl (zLd zIsI 181 8))) (zleaf 181 pc (.inl (zS2 (zAldI 0 182)))))) (znode 185 pc (znode 184 pc (zleaf 182 pc (.inl (zSt1 zIsI 184 11))) (zleaf 184 pc (.inl (zLd zIsA 185 0)))) (znode 188 pc (zleaf 185 pc (.inl (zS2 (zGet 0 3 188)))) (znode 190 pc (zleaf 188 pc (.inl (zLd zIsI 190 8))) (zleaf 190 pc (.inl (zLd zIsI 191 3))))))) (znode 199 pc (znode 196 pc (znode 194 pc (zleaf 191 pc (.inl (zS1 (zIf (fun x => decide (x = 0)) 202 194)))) (zleaf 194 pc (.inl (zLd zIsI 196 10)))) (znode 198 pc (zleaf 196 pc (.inl (zLd zIsI 198 6))) (zleaf 198 pc (.inl (zS1 (zII (fun x y => x - y) 199)))))) (znode 204 pc (znode 202 pc (zleaf 199 pc (.inl (zS1 (zGo 204)))) (zleaf 202 pc (.inl (zLd zIsI 204 10)))) (znode 205 pc (zleaf 204 pc (.inl (zAstI 0 205))) (znode 206 pc (zleaf 205 pc (.inl (zLd zIsA 206 0))) (zleaf 206 pc (.inl (zS2 (zGet 0 4 209)))))))))) (znode 240 pc (znode 225 pc (znode 217 pc (znode 212 pc (znode 211 pc (zleaf 209 pc (.inl (zLd zIsI 211 8))) (zleaf 211 pc (.inl (zLd zIsI 212 3)))) (znode 215 pc (zleaf 212 pc (.inl (zS1 (zIf (fun x => decide (x = 0)) 220 215)))) (zleaf 215 pc (.inl (zLd zIsI 217 11))))) (znode 222 pc (znode 220 pc (zleaf 217 pc (.inl (zS1 (zGo 225)))) (zleaf 220 pc (.inl (zLd zIsI 222 11)))) (znode 224 pc (zleaf 222 pc (.inl (zLd zIsI 224 6))) (zleaf 224 pc (.inl (zS1 (zII (fun x y => x - y) 225))))))) (znode 232 pc (znode 227 pc (znode 226 pc (zleaf 225 pc (.inl (zAstI 0 226))) (zleaf 226 pc (.inl (zLd zIsA 227 0)))) (znode 230 pc (zleaf 227 pc (.inl (zS2 (zGet 0 5 230)))) (zleaf 230 pc (.inl (zLd zIsI 232 8))))) (znode 235 pc (znode 233 pc (zleaf 232 pc (.inl (zLd zIsA 233 1))) (zleaf 233 pc (.inl (zLd zIsI 235 8)))) (znode 236 pc (zleaf 235 pc (.inl (zLd zIsI 236 2))) (znode 239 pc (zleaf 236 pc (.inr (.inr (.inr (4, 3, 0))))) (zleaf 239 pc (.inl (zAstI 0 240)))))))) (znode 258 pc (znode 247 pc (znode 244 pc (znode 241 pc (zleaf 240 pc (.inl (zLd zIsA 241 0))) (zleaf 241 pc (.inl (zS2 (zGet 0 6 244))))) (znode 246 pc (zleaf 244 pc (.inl (zLd zIsI 246 8))) (zleaf 246 pc (.inl (zLd zIsA 247 1))))) (znode 252 pc (znode 250 pc (zleaf 247 pc (.inl (zS2 (zGet 0 6 250)))) (zleaf 250 pc (.inl (zLd zIsI 252 8)))) (znode 253 pc (zleaf 252 pc (.inl (zS2 (zAldZ 1 253)))) (znode 255 pc (zleaf 253 pc (.inl (zLd zIsI 255 9))) (zleaf 255 pc (.inl (zS1 (zIcmp (fun x y => decide (x = y)) 262 258)))))))) (znode 264 pc (znode 262 pc (znode 259 pc (zleaf 258 pc (.inl (zS1 (zCst (.int 1) 259)))) (zleaf 259 pc (.inl (zS1 (zGo 263))))) (znode 263 pc (zleaf 262 pc (.inl (zS1 (zCst (.int 0) 263)))) (zleaf 263 pc (.inl (zAstZ 1 264))))) (znode 270 pc (znode 267 pc (zleaf 264 pc (.inl (zIinc 267 8 1))) (zleaf 267 pc (.inl (zS1 (zGo 118))))) (znode 271 pc (zleaf 270 pc (.inl (zLd zIsA 271 0))) (znode 274 pc (zleaf 271 pc (.inr (.inr (.inr (7, 1, 0))))) (zleaf 274 pc (.inr (.inl 0))))))))))
theorem zk_X0_becomeFolded (O : Nat → State → Heap → Prop) (E : zE) (l : Launch) : ∀ pc i, zc_X0_becomeFolded pc = some i → zOK z_cl z_T z_G z_N O E z_yy z_bb z_nl z_cc z_rt z_hh l 3 pc i := fun pc => znode_ok (znode_ok (znode_ok (znode_ok (znode_ok (znode_ok (znode_ok (zleaf_ok (zs_iload_n (by decide +kernel : decode cX0_becomeFolded 0 = .ok (.iload_n 2, 1)) rfl)) (zleaf_ok (⟨zcs3 (n := 1) z_good zw_18 zw_19 zw_20 zw_21 (by decide +kernel) (by decide +kernel : decode cX0_becomeFolded 1 = .ok (.invokestatic 41, 3)), Nat.le_of_ble_eq_true rfl, by decide +kernel, (fun h => absurd rfl (h.2.1))⟩))) (znode_ok (zleaf_ok (zs_if_ne (t := 11) (by decide) (by decide +kernel : decode cX0_becomeFolded 4 = .ok (.ifCond .ne 7, 3)))) (zleaf_ok (zs_iconst (by decide) (by decide +kernel : decode cX0_becomeFolded 7 = .ok (.iconst 1, 1)))))) (znode_ok (znode_ok (zleaf_ok (zs_goto (t := 12) (by decide) (by decide +kernel : decode cX0_becomeFolded 8 = .ok (.goto 4, 3)))) (zleaf_ok (zs_iconst (by decide) (by decide +kernel : decode cX0_becomeFolded 11 = .ok (.iconst 0, 1))))) (znode_ok (zleaf_ok (zs_istore_n (Nat.le_of_ble_eq_true rfl) (by decide +kernel : decode cX0_becomeFolded 12 = .ok (.istore_n 3, 1)) rfl)) (zleaf_ok (zs_iload_n (by decide +kernel : decode cX0_becomeFolded 13 = .ok (.iload_n 3, 1)) rfl))))) (znode_ok (znode_ok (znode_ok (zleaf_ok (zs_if_eq (t := 24) (by decide) (by decide +kernel : decode cX0_becomeFolded 14 = .ok (.ifCond .eq 10, 3)))) (zleaf_ok (zs_aload_n (by decide +kernel : decode cX0_becomeFolded 17 = .ok (.aload_n 1, 1)) rfl))) (znode_ok (zleaf_ok (zs_get (C := RX0) (Tc := TX0) (Nc := 8) rfl zinX0 (Nat.le_of_ble_eq_true rfl) zw_11 (by decide +kernel : decode cX0_becomeFolded 18 = .ok (.getfield 32, 3)))) (zleaf_ok (zs_goto (t := 28) (by decide) (by decide +kernel : decode cX0_becomeFolded 21 = .ok (.goto 7, 3)))))) (znode_ok (znode_ok (zleaf_ok (zs_aload_n (by decide +kernel : decode cX0_becomeFolded 24 = .ok (.aload_n 1, 1)) rfl)) (zleaf_ok (zs_get (C := RX0) (Tc := TX0) (Nc := 8) rfl zinX0 (Nat.le_of_ble_eq_true rfl) zw_12 (by decide +kernel : decode cX0_becomeFolded 25 = .ok (.getfield 35, 3))))) (znode_ok (zleaf_ok (zs_istore (Nat.le_of_ble_eq_true rfl) (by decide +kernel : decode cX0_becomeFolded 28 = .ok (.istore 4, 2)))) (znode_ok (zleaf_ok (zs_iload_n (by decide +kernel : decode cX0_becomeFolded 30 = .ok (.iload_n 2, 1)) rfl)) (zleaf_ok (⟨zcs3 (n := 1) z_good zw_22 zw_19 zw_23 zw_24 (by decide +kernel) (by decide +kernel : decode cX0_becomeFolded 31 = .ok (.invokestatic 45, 3)), Nat.le_of_ble_eq_true rfl, by decide +kernel, (fun h => absurd rfl (h.2.1))⟩))))))) (znode_ok (znode_ok (znode_ok (znode_ok (zleaf_ok (zs_istore (Nat.le_of_ble_eq_true rfl) (by decide +kernel : decode cX0_becomeFolded 34 = .ok (.istore 5, 2)))) (zleaf_ok (zs_iload_n (by decide +kernel : decode cX0_becomeFolded 36 = .ok (.iload_n 2, 1)) rfl))) (znode_ok (zleaf_ok (⟨zcs3 (n := 1) z_good zw_25 zw_19 zw_26 zw_27 (by decide +kernel) (by decide +kernel : decode cX0_becomeFolded 37 = .ok (.invokestatic 48, 3)), Nat.le_of_ble_eq_true rfl, by decide +kernel, (fun h => absurd rfl (h.2.1))⟩)) (zleaf_ok (zs_if_eq (t := 57) (by decide) (by decide +kernel : decode cX0_becomeFolded 40 = .ok (.ifCond .eq 17, 3)))))) (znode_ok (znode_ok (zleaf_ok (zs_iconst (by decide) (by decide +kernel : decode cX0_becomeFolded 43 = .ok (.iconst 0, 1)))) (zleaf_ok (zs_iconst (by decide) (by decide +kernel : decode cX0_becomeFolded 44 = .ok (.iconst 2, 1))))) (znode_ok (zleaf_ok (zs_iload (by decide +kernel : decode cX0_becomeFolded 45 = .ok (.iload 5, 2)))) (znode_ok (zleaf_ok (zs_imul (by decide +kernel : decode cX0_becomeFolded 47 = .ok (.imul, 1)))) (zleaf_ok (zs_iload (by decide +kernel : decode cX0_becomeFolded 48 = .ok (.iload 4, 2)))))))) (znode_ok (znode_ok (znode_ok (zleaf_ok (zs_isub (by decide +kernel : decode cX0_becomeFolded 50 = .ok (.isub, 1)))) (zleaf_ok (zs_min zw_28 zw_29 zw_30 zw_31 (by decide +kernel : decode cX0_becomeFolded 51 = .ok (.invokestatic 52, 3))))) (znode_ok (zleaf_ok (zs_goto (t := 59) (by decide) (by decide +kernel : decode cX0_becomeFolded 54 = .ok (.goto 5, 3)))) (zleaf_ok (zs_iload (by decide +kernel : decode cX0_becomeFolded 57 = .ok (.iload 5, 2)))))) (znode_ok (znode_ok (zleaf_ok (zs_istore (Nat.le_of_ble_eq_true rfl) (by decide +kernel : decode cX0_becomeFolded 59 = .ok (.istore 6, 2)))) (zleaf_ok (zs_iload (by decide +kernel : decode cX0_becomeFolded 61 = .ok (.iload 5, 2))))) (znode_ok (zleaf_ok (zs_iload (by decide +kernel : decode cX0_becomeFolded 63 = .ok (.iload 4, 2)))) (znode_ok (zleaf_ok (zs_iload (by decide +kernel : decode cX0_becomeFolded 65 = .ok (.iload 5, 2)))) (zleaf_ok (zs_isub (by decide +kernel : decode cX0_becomeFolded 67 = .ok (.isub, 1)))))))))) (znode_ok (znode_ok (znode_ok (znode_ok (znode_ok (zleaf_ok (zs_max zw_32 zw_33 zw_30 zw_34 (by decide +kernel : decode cX0_becomeFolded 68 = .ok (.invokestatic 58, 3)))) (zleaf_ok (zs_istore (Nat.le_of_ble_eq_true rfl) (by decide +kernel : decode cX0_becomeFolded 71 = .ok (.istore 7, 2))))) (znode_ok (zleaf_ok (zs_aload_n (by decide +kernel : decode cX0_becomeFolded 73 = .ok (.aload_n 0, 1)) rfl)) (zleaf_ok (zs_aload_n (by decide +kernel : decode cX0_becomeFolded 74 = .ok (.aload_n 1, 1)) rfl)))) (znode_ok (znode_ok (zleaf_ok (zs_get (C := RX0) (Tc := TX0) (Nc := 8) rfl zinX0 (Nat.le_of_ble_eq_true rfl) zw_10 (by decide +kernel : decode cX0_becomeFolded 75 = .ok (.getfield 28, 3)))) (zleaf_ok (zs_put (C := RX0) (Tc := TX0) (Nc := 8) (ty0 := tyX0) (ty := .int) rfl zinX0 (Nat.le_of_ble_eq_true rfl) tyX0_ok nmX0 zw_10 rfl (by decide +kernel) (zfI) (by decide +kernel : decode cX0_becomeFolded 78 = .ok (.putfield 28, 3))))) (znode_ok (zleaf_ok (zs_aload_n (by decide +kernel : decode cX0_becomeFolded 81 = .ok (.aload_n 0, 1)) rfl)) (zleaf_ok (zs_iload_n (by decide +kernel : decode cX0_becomeFolded 82 = .ok (.iload_n 3, 1)) rfl))))) (znode_ok (znode_ok (znode_ok (zleaf_ok (zs_if_eq (t := 91) (by decide) (by decide +kernel : decode cX0_becomeFolded 83 = .ok (.ifCond .eq 8, 3)))) (zleaf_ok (zs_iload (by decide +kernel : decode cX0_becomeFolded 86 = .ok (.iload 7, 2))))) (znode_ok (zleaf_ok (zs_goto (t := 95) (by decide) (by decide +kernel : decode cX0_becomeFolded 88 = .ok (.goto 7, 3)))) (zleaf_ok (zs_aload_n (by decide +kernel : decode cX0_becomeFolded 91 = .ok (.aload_n 1, 1)) rfl)))) (znode_ok (znode_ok (zleaf_ok (zs_get (C := RX0) (Tc := TX0) (Nc := 8) rfl zinX0 (Nat.le_of_ble_eq_true rfl) zw_11 (by decide +kernel : decode cX0_becomeFolded 92 = .ok (.getfield 32, 3)))) (zleaf_ok (zs_put (C := RX0) (Tc := TX0) (Nc := 8) (ty0 := tyX0) (ty := .int) rfl zinX0 (Nat.le_of_ble_eq_true rfl) tyX0_ok nmX0 zw_11 rfl (by decide +kernel) (zfI) (by decide +kernel : decode cX0_becomeFolded 95 = .ok (.putfield 32, 3))))) (znode_ok (zleaf_ok (zs_aload_n (by decide +kernel : decode cX0_becomeFolded 98 = .ok (.aload_n 0, 1)) rfl)) (znode_ok (zleaf_ok (zs_iload_n (by decide +kernel : decode cX0_becomeFolded 99 = .ok (.iload_n 3, 1)) rfl)) (zleaf_ok (zs_if_eq (t := 110) (by decide) (by decide +kernel : decode cX0_becomeFolded 100 = .ok (.ifCond .eq 10, 3))))))))) (znode_ok (znode_ok (znode_ok (znode_ok (zleaf_ok (zs_aload_n (by decide +kernel : decode cX0_becomeFolded 103 = .ok (.aload_n 1, 1)) rfl)) (zleaf_ok (zs_get (C := RX0) (Tc := TX0) (Nc := 8) rfl zinX0 (Nat.le_of_ble_eq_true rfl) zw_12 (by decide +kernel : decode cX0_becomeFolded 104 = .ok (.getfield 35, 3))))) (znode_ok (zleaf_ok (zs_goto (t := 112) (by decide) (by decide +kernel : decode cX0_becomeFolded 107 = .ok (.goto 5, 3)))) (zleaf_ok (zs_iload (by decide +kernel : decode cX0_becomeFolded 110 = .ok (.iload 7, 2)))))) (znode_ok (znode_ok (zleaf_ok (zs_put (C := RX0) (Tc := TX0) (Nc := 8) (ty0 := tyX0) (ty := .int) rfl zinX0 (Nat.le_of_ble_eq_true rfl) tyX0_ok nmX0 zw_12 rfl (by decide +kernel) (zfI) (by decide +kernel : decode cX0_becomeFolded 112 = .ok (.putfield 35, 3)))) (zleaf_ok (zs_iconst (by decide) (by decide +kernel : decode cX0_becomeFolded 115 = .ok (.iconst 0, 1))))) (znode_ok (zleaf_ok (zs_istore (Nat.le_of_ble_eq_true rfl) (by decide +kernel : decode cX0_becomeFolded 116 = .ok (.istore 8, 2)))) (znode_ok (zleaf_ok (zs_iload (by decide +kernel : decode cX0_becomeFolded 118 = .ok (.iload 8, 2)))) (zleaf_ok (zs_aload_n (by decide +kernel : decode cX0_becomeFolded 120 = .ok (.aload_n 0, 1)) rfl)))))) (znode_ok (znode_ok (znode_ok (zleaf_ok (zs_get (C := RX0) (Tc := TX0) (Nc := 8) rfl zinX0 (Nat.le_of_ble_eq_true rfl) zw_10 (by decide +kernel : decode cX0_becomeFolded 121 = .ok (.getfield 28, 3)))) (zleaf_ok (zs_icmp_ge (t := 270) (by decide) (by decide +kernel : decode cX0_becomeFolded 124 = .ok (.if_icmp .ge 146, 3))))) (znode_ok (zleaf_ok (zs_aload_n (by decide +kernel : decode cX0_becomeFolded 127 = .ok (.aload_n 1, 1)) rfl)) (zleaf_ok (zs_iload (by decide +kernel : decode cX0_becomeFolded 128 = .ok (.iload 8, 2)))))) (znode_ok (znode_ok (zleaf_ok (zs_iload_n (by decide +kernel : decode cX0_becomeFolded 130 = .ok (.iload_n 2, 1)) rfl)) (zleaf_ok (⟨zcs0 (n := 2) z_good zw_35 zw_14 zw_36 zw_37 zw_38 (by decide +kernel) (by decide +kernel : decode cX0_becomeFolded 131 = .ok (.invokevirtual 61, 3)), Nat.le_of_ble_eq_true rfl, by decide +kernel, (fun _ => ⟨TX0, 8, rfl⟩)⟩))) (znode_ok (zleaf_ok (zs_istore (Nat.le_of_ble_eq_true rfl) (by decide +kernel : decode cX0_becomeFolded 134 = .ok (.istore 9, 2)))) (znode_ok (zleaf_ok (zs_iload (by decide +kernel : decode cX0_becomeFolded 136 = .ok (.iload 9, 2)))) (zleaf_ok (zs_if_eq (t := 151) (by decide) (by decide +kernel : decode cX0_becomeFolded 138 = .ok (.ifCond .eq 13, 3))))))))))) (znode_ok (znode_ok (znode_ok (znode_ok (znode_ok (znode_ok (zleaf_ok (zs_aload_n (by decide +kernel : decode cX0_becomeFolded 141 = .ok (.aload_n 1, 1)) rfl)) (zleaf_ok (zs_iload (by decide +kernel : decode cX0_becomeFolded 142 = .ok (.iload 8, 2))))) (znode_ok (zleaf_ok (zs_iload_n (by decide +kernel : decode cX0_becomeFolded 144 = .ok (.iload_n 2, 1)) rfl)) (zleaf_ok (⟨zcs0 (n := 2) z_good zw_39 zw_14 zw_40 zw_41 zw_42 (by decide +kernel) (by decide +kernel : decode cX0_becomeFolded 145 = .ok (.invokevirtual 65, 3)), Nat.le_of_ble_eq_true rfl, by decide +kernel, (fun _ => ⟨TX0, 8, rfl⟩)⟩)))) (znode_ok (znode_ok (zleaf_ok (zs_goto (t := 158) (by decide) (by decide +kernel : decode cX0_becomeFolded 148 = .ok (.goto 10, 3)))) (zleaf_ok (zs_aload_n (by decide +kernel : decode cX0_becomeFolded 151 = .ok (.aload_n 1, 1)) rfl))) (znode_ok (zleaf_ok (zs_get (C := RX0) (Tc := TX0) (Nc := 8) rfl zinX0 (Nat.le_of_ble_eq_true rfl) zw_4 (by decide +kernel : decode cX0_becomeFolded 152 = .ok (.getfield 9, 3)))) (zleaf_ok (zs_iload (by decide +kernel : decode cX0_becomeFolded 155 = .ok (.iload 8, 2))))))) (znode_ok (znode_ok (znode_ok (zleaf_ok (zs_aldI rfl (by decide +kernel : decode cX0_becomeFolded 157 = .ok (.iaload, 1)))) (zleaf_ok (zs_istore (Nat.le_of_ble_eq_true rfl) (by decide +kernel : decode cX0_becomeFolded 158 = .ok (.istore 10, 2))))) (znode_ok (zleaf_ok (zs_iload (by decide +kernel : decode cX0_becomeFolded 160 = .ok (.iload 9, 2)))) (zleaf_ok (zs_if_eq (t := 175) (by decide) (by decide +kernel : decode cX0_becomeFolded 162 = .ok (.ifCond .eq 13, 3)))))) (znode_ok (znode_ok (zleaf_ok (zs_aload_n (by decide +kernel : decode cX0_becomeFolded 165 = .ok (.aload_n 1, 1)) rfl)) (zleaf_ok (zs_iload (by decide +kernel : decode cX0_becomeFolded 166 = .ok (.iload 8, 2))))) (znode_ok (zleaf_ok (zs_iload_n (by decide +kernel : decode cX0_becomeFolded 168 = .ok (.iload_n 2, 1)) rfl)) (znode_ok (zleaf_ok (⟨zcs0 (n := 2) z_good zw_43 zw_14 zw_44 zw_45 zw_46 (by decide +kernel) (by decide +kernel : decode cX0_becomeFolded 169 = .ok (.invokevirtual 68, 3)), Nat.le_of_ble_eq_true rfl, by decide +kernel, (fun _ => ⟨TX0, 8, rfl⟩)⟩)) (zleaf_ok (zs_goto (t := 182) (by decide) (by decide +kernel : decode cX0_becomeFolded 172 = .ok (.goto 10, 3))))))))) (znode_ok (znode_ok (znode_ok (znode_ok (zleaf_ok (zs_aload_n (by decide +kernel : decode cX0_becomeFolded 175 = .ok (.aload_n 1, 1)) rfl)) (zleaf_ok (zs_get (C := RX0) (Tc := TX0) (Nc := 8) rfl zinX0 (Nat.le_of_ble_eq_true rfl) zw_5 (by decide +kernel : decode cX0_becomeFolded 176 = .ok (.getfield 15, 3))))) (znode_ok (zleaf_ok (zs_iload (by decide +kernel : decode cX0_becomeFolded 179 = .ok (.iload 8, 2)))) (zleaf_ok (zs_aldI rfl (by decide +kernel : decode cX0_becomeFolded 181 = .ok (.iaload, 1)))))) (znode_ok (znode_ok (zleaf_ok (zs_istore (Nat.le_of_ble_eq_true rfl) (by decide +kernel : decode cX0_becomeFolded 182 = .ok (.istore 11, 2)))) (zleaf_ok (zs_aload_n (by decide +kernel : decode cX0_becomeFolded 184 = .ok (.aload_n 0, 1)) rfl))) (znode_ok (zleaf_ok (zs_get (C := RX0) (Tc := TX0) (Nc := 8) rfl zinX0 (Nat.le_of_ble_eq_true rfl) zw_4 (by decide +kernel : decode cX0_becomeFolded 185 = .ok (.getfield 9, 3)))) (znode_ok (zleaf_ok (zs_iload (by decide +kernel : decode cX0_becomeFolded 188 = .ok (.iload 8, 2)))) (zleaf_ok (zs_iload_n (by decide +kernel : decode cX0_becomeFolded 190 = .ok (.iload_n 3, 1)) rfl)))))) (znode_ok (znode_ok (znode_ok (zleaf_ok (zs_if_eq (t := 202) (by decide) (by decide +kernel : decode cX0_becomeFolded 191 = .ok (.ifCond .eq 11, 3)))) (zleaf_ok (zs_iload (by decide +kernel : decode cX0_becomeFolded 194 = .ok (.iload 10, 2))))) (znode_ok (zleaf_ok (zs_iload (by decide +kernel : decode cX0_becomeFolded 196 = .ok (.iload 6, 2)))) (zleaf_ok (zs_isub (by decide +kernel : decode cX0_becomeFolded 198 = .ok (.isub, 1)))))) (znode_ok (znode_ok (zleaf_ok (zs_goto (t := 204) (by decide) (by decide +kernel : decode cX0_becomeFolded 199 = .ok (.goto 5, 3)))) (zleaf_ok (zs_iload (by decide +kernel : decode cX0_becomeFolded 202 = .ok (.iload 10, 2))))) (znode_ok (zleaf_ok (zs_astI rfl (by decide +kernel : decode cX0_becomeFolded 204 = .ok (.iastore, 1)))) (znode_ok (zleaf_ok (zs_aload_n (by decide +kernel : decode cX0_becomeFolded 205 = .ok (.aload_n 0, 1)) rfl)) (zleaf_ok (zs_get (C := RX0) (Tc := TX0) (Nc := 8) rfl zinX0 (Nat.le_of_ble_eq_true rfl) zw_5 (by decide +kernel : decode cX0_becomeFolded 206 = .ok (.getfield 15, 3)))))))))) (znode_ok (znode_ok (znode_ok (znode_ok (znode_ok (zleaf_ok (zs_iload (by decide +kernel : decode cX0_becomeFolded 209 = .ok (.iload 8, 2)))) (zleaf_ok (zs_iload_n (by decide +kernel : decode cX0_becomeFolded 211 = .ok (.iload_n 3, 1)) rfl))) (znode_ok (zleaf_ok (zs_if_eq (t := 220) (by decide) (by decide +kernel : decode cX0_becomeFolded 212 = .ok (.ifCond .eq 8, 3)))) (zleaf_ok (zs_iload (by decide +kernel : decode cX0_becomeFolded 215 = .ok (.iload 11, 2)))))) (znode_ok (znode_ok (zleaf_ok (zs_goto (t := 225) (by decide) (by decide +kernel : decode cX0_becomeFolded 217 = .ok (.goto 8, 3)))) (zleaf_ok (zs_iload (by decide +kernel : decode cX0_becomeFolded 220 = .ok (.iload 11, 2))))) (znode_ok (zleaf_ok (zs_iload (by decide +kernel : decode cX0_becomeFolded 222 = .ok (.iload 6, 2)))) (zleaf_ok (zs_isub (by decide +kernel : decode cX0_becomeFolded 224 = .ok (.isub, 1))))))) (znode_ok (znode_ok (znode_ok (zleaf_ok (zs_astI rfl (by decide +kernel : decode cX0_becomeFolded 225 = .ok (.iastore, 1)))) (zleaf_ok (zs_aload_n (by decide +kernel : decode cX0_becomeFolded 226 = .ok (.aload_n 0, 1)) rfl))) (znode_ok (zleaf_ok (zs_get (C := RX0) (Tc := TX0) (Nc := 8) rfl zinX0 (Nat.le_of_ble_eq_true rfl) zw_6 (by decide +kernel : decode cX0_becomeFolded 227 = .ok (.getfield 18, 3)))) (zleaf_ok (zs_iload (by decide +kernel : decode cX0_becomeFolded 230 = .ok (.iload 8, 2)))))) (znode_ok (znode_ok (zleaf_ok (zs_aload_n (by decide +kernel : decode cX0_becomeFolded 232 = .ok (.aload_n 1, 1)) rfl)) (zleaf_ok (zs_iload (by decide +kernel : decode cX0_becomeFolded 233 = .ok (.iload 8, 2))))) (znode_ok (zleaf_ok (zs_iload_n (by decide +kernel : decode cX0_becomeFolded 235 = .ok (.iload_n 2, 1)) rfl)) (znode_ok (zleaf_ok (⟨zcs0 (n := 2) z_good zw_47 zw_14 zw_48 zw_49 zw_50 (by decide +kernel) (by decide +kernel : decode cX0_becomeFolded 236 = .ok (.invokevirtual 71, 3)), Nat.le_of_ble_eq_true rfl, by decide +kernel, (fun _ => ⟨TX0, 8, rfl⟩)⟩)) (zleaf_ok (zs_astI rfl (by decide +kernel : decode cX0_becomeFolded 239 = .ok (.iastore, 1))))))))) (znode_ok (znode_ok (znode_ok (znode_ok (zleaf_ok (zs_aload_n (by decide +kernel : decode cX0_becomeFolded 240 = .ok (.aload_n 0, 1)) rfl)) (zleaf_ok (zs_get (C := RX0) (Tc := TX0) (Nc := 8) rfl zinX0 (Nat.le_of_ble_eq_true rfl) zw_8 (by decide +kernel : decode cX0_becomeFolded 241 = .ok (.getfield 21, 3))))) (znode_ok (zleaf_ok (zs_iload (by decide +kernel : decode cX0_becomeFolded 244 = .ok (.iload 8, 2)))) (zleaf_ok (zs_aload_n (by decide +kernel : decode cX0_becomeFolded 246 = .ok (.aload_n 1, 1)) rfl)))) (znode_ok (znode_ok (zleaf_ok (zs_get (C := RX0) (Tc := TX0) (Nc := 8) rfl zinX0 (Nat.le_of_ble_eq_true rfl) zw_8 (by decide +kernel : decode cX0_becomeFolded 247 = .ok (.getfield 21, 3)))) (zleaf_ok (zs_iload (by decide +kernel : decode cX0_becomeFolded 250 = .ok (.iload 8, 2))))) (znode_ok (zleaf_ok (zs_aldZ rfl (by decide +kernel : decode cX0_becomeFolded 252 = .ok (.baload, 1)))) (znode_ok (zleaf_ok (zs_iload (by decide +kernel : decode cX0_becomeFolded 253 = .ok (.iload 9, 2)))) (zleaf_ok (zs_icmp_eq (t := 262) (by decide) (by decide +kernel : decode cX0_becomeFolded 255 = .ok (.if_icmp .eq 7, 3)))))))) (znode_ok (znode_ok (znode_ok (zleaf_ok (zs_iconst (by decide) (by decide +kernel : decode cX0_becomeFolded 258 = .ok (.iconst 1, 1)))) (zleaf_ok (zs_goto (t := 263) (by decide) (by decide +kernel : decode cX0_becomeFolded 259 = .ok (.goto 4, 3))))) (znode_ok (zleaf_ok (zs_iconst (by decide) (by decide +kernel : decode cX0_becomeFolded 262 = .ok (.iconst 0, 1)))) (zleaf_ok (zs_astZ rfl (by decide +kernel : decode cX0_becomeFolded 263 = .ok (.bastore, 1)))))) (znode_ok (znode_ok (zleaf_ok (zs_iinc (Nat.le_of_ble_eq_true rfl) (by decide) (by decide +kernel : decode cX0_becomeFolded 264 = .ok (.iinc 8 1, 3)))) (zleaf_ok (zs_goto (t := 118) (by decide) (by decide +kernel : decode cX0_becomeFolded 267 = .ok (.goto (-149), 3))))) (znode_ok (zleaf_ok (zs_aload_n (by decide +kernel : decode cX0_becomeFolded 270 = .ok (.aload_n 0, 1)) rfl)) (znode_ok (zleaf_ok (⟨zcs0 (n := 0) z_good zw_13 zw_14 zw_15 zw_16 zw_17 (by decide +kernel) (by decide +kernel : decode cX0_becomeFolded 271 = .ok (.invokevirtual 38, 3)), Nat.le_of_ble_eq_true rfl, by decide +kernel, (fun _ => ⟨TX0, 8, rfl⟩)⟩)) (zleaf_ok (Or.inl ⟨rfl, rfl, (by decide +kernel : decode cX0_becomeFolded 274 = .ok (.return_, 1))⟩)))))))))
/-- Creasebook$Form.layerBehind(II)I -/
def zc_X0_layerBehind (pc : Nat) : Option zI := znode 36 pc (znode 16 pc (znode 7 pc (znode 2 pc (znode 1 pc (zleaf 0 pc (.inl (zLd zIsA 1 0))) (zleaf 1 pc (.inl (zLd zIsI 2 1)))) (znode 3 pc (zleaf 2 pc (.inl (zLd zIsI 3 2))) (znode 6 pc (zleaf 3 pc (.inr (.inr (.inr (19, 3, 0))))) (zleaf 6 pc (.inl (zSt1 zIsI 7 3)))))) (znode 11 pc (znode 8 pc (zleaf 7 pc (.inl (zLd zIsI 8 3))) (zleaf 8 pc (.inl (zS1 (zIf (fun x => decide (x = 0)) 19 11))))) (znode 12 pc (zleaf 11 pc (.inl (zLd zIsA 12 0))) (znode 13 pc (zleaf 12 pc (.inl (zLd zIsI 13 1))) (zleaf 13 pc (.inr (.inr (.inr (15, 2, 0))))))))) (znode 25 pc (znode 20 pc (znode 19 pc (zleaf 16 pc (.inl (zS1 (zGo 25)))) (zleaf 19 pc (.inl (zLd zIsA 20 0)))) (znode 23 pc (zleaf 20 pc (.inl (zS2 (zGet 0 5 23)))) (znode 24 pc (zleaf 23 pc (.inl (zLd zIsI 24 1))) (zleaf 24 pc (.inl (zS2 (zAldI 0 25))))))) (znode 29 pc (znode 27 pc (zleaf 25 pc (.inl (zSt1 zIsI 27 4))) (znode 28 pc (zleaf 27 pc (.inl (zLd zIsI 28 3))) (zleaf 28 pc (.inl (zLd zIsI 29 2))))) (znode 32 pc (zleaf 29 pc (.inr (.inr (.inr (89, 1, 3))))) (znode 35 pc (zleaf 32 pc (.inl (zS1 (zIcmp (fun x y => decide (¬ x = y)) 39 35)))) (zleaf 35 pc (.inl (zS1 (zCst (.int 1) 36))))))))) (znode 55 pc (znode 47 pc (znode 40 pc (znode 39 pc (zleaf 36 pc (.inl (zS1 (zGo 40)))) (zleaf 39 pc (.inl (zS1 (zCst (.int 0) 40))))) (znode 42 pc (zleaf 40 pc (.inl (zSt1 zIsI 42 5))) (znode 44 pc (zleaf 42 pc (.inl (zLd zIsI 44 5))) (zleaf 44 pc (.inl (zS1 (zIf (fun x => decide (x = 0)) 66 47))))))) (znode 50 pc (znode 48 pc (zleaf 47 pc (.inl (zLd zIsA 48 0))) (znode 49 pc (zleaf 48 pc (.inl (zLd zIsA 49 0))) (zleaf 49 pc (.inl (zLd zIsI 50 1))))) (znode 51 pc (zleaf 50 pc (.inl (zLd zIsI 51 2))) (znode 54 pc (zleaf 51 pc (.inr (.inr (.inr (20, 3, 0))))) (zleaf 54 pc (.inl (zLd zIsA 55 0))))))) (znode 66 pc (znode 57 pc (znode 56 pc (zleaf 55 pc (.inl (zLd zIsI 56 1))) (zleaf 56 pc (.inl (zLd zIsI 57 2)))) (znode 60 pc (zleaf 57 pc (.inr (.inr (.inr (21, 3, 0))))) (znode 63 pc (zleaf 60 pc (.inr (.inr (.inr (11, 3, 0))))) (zleaf 63 pc (.inl (zS1 (zGo 67))))))) (znode 71 pc (znode 67 pc (zleaf 66 pc (.inl (zS1 (zCst (.int 0) 67)))) (znode 69 pc (zleaf 67 pc (.inl (zSt1 zIsI 69 6))) (zleaf 69 pc (.inl (zLd zIsI 71 6))))) (znode 73 pc (zleaf 71 pc (.inl (zLd zIsI 73 4))) (znode 74 pc (zleaf 73 pc (.inl (zS1 (zII (fun x y => x + y) 74)))) (zleaf 74 pc (.inr (.inl 1))))))))
theorem zk_X0_layerBehind (O : Nat → State → Heap → Prop) (E : zE) (l : Launch) : ∀ pc i, zc_X0_layerBehind pc = some i → zOK z_cl z_T z_G z_N O E z_yy z_bb z_nl z_cc z_rt z_hh l 4 pc i := fun pc => znode_ok (znode_ok (znode_ok (znode_ok (znode_ok (zleaf_ok (zs_aload_n (by decide +kernel : decode cX0_layerBehind 0 = .ok (.aload_n 0, 1)) rfl)) (zleaf_ok (zs_iload_n (by decide +kernel : decode cX0_layerBehind 1 = .ok (.iload_n 1, 1)) rfl))) (znode_ok (zleaf_ok (zs_iload_n (by decide +kernel : decode cX0_layerBehind 2 = .ok (.iload_n 2, 1)) rfl)) (znode_ok (zleaf_ok (⟨zcs0 (n := 2) z_good zw_35 zw_14 zw_36 zw_37 zw_38 (by decide +kernel) (by decide +kernel : decode cX0_layerBehind 3 = .ok (.invokevirtual 61, 3)), Nat.le_of_ble_eq_true rfl, by decide +kernel, (fun _ => ⟨TX0, 8, rfl⟩)⟩)) (zleaf_ok (zs_istore_n (Nat.le_of_ble_eq_true rfl) (by decide +kernel : decode cX0_layerBehind 6 = .ok (.istore_n 3, 1)) rfl))))) (znode_ok (znode_ok (zleaf_ok (zs_iload_n (by decide +kernel : decode cX0_layerBehind 7 = .ok (.iload_n 3, 1)) rfl)) (zleaf_ok (zs_if_eq (t := 19) (by decide) (by decide +kernel : decode cX0_layerBehind 8 = .ok (.ifCond .eq 11, 3))))) (znode_ok (zleaf_ok (zs_aload_n (by decide +kernel : decode cX0_layerBehind 11 = .ok (.aload_n 0, 1)) rfl)) (znode_ok (zleaf_ok (zs_iload_n (by decide +kernel : decode cX0_layerBehind 12 = .ok (.iload_n 1, 1)) rfl)) (zleaf_ok (⟨zcs0 (n := 1) z_good zw_51 zw_14 zw_52 zw_53 zw_54 (by decide +kernel) (by decide +kernel : decode cX0_layerBehind 13 = .ok (.invokevirtual 74, 3)), Nat.le_of_ble_eq_true rfl, by decide +kernel, (fun _ => ⟨TX0, 8, rfl⟩)⟩)))))) (znode_ok (znode_ok (znode_ok (zleaf_ok (zs_goto (t := 25) (by decide) (by decide +kernel : decode cX0_layerBehind 16 = .ok (.goto 9, 3)))) (zleaf_ok (zs_aload_n (by decide +kernel : decode cX0_layerBehind 19 = .ok (.aload_n 0, 1)) rfl))) (znode_ok (zleaf_ok (zs_get (C := RX0) (Tc := TX0) (Nc := 8) rfl zinX0 (Nat.le_of_ble_eq_true rfl) zw_6 (by decide +kernel : decode cX0_layerBehind 20 = .ok (.getfield 18, 3)))) (znode_ok (zleaf_ok (zs_iload_n (by decide +kernel : decode cX0_layerBehind 23 = .ok (.iload_n 1, 1)) rfl)) (zleaf_ok (zs_aldI rfl (by decide +kernel : decode cX0_layerBehind 24 = .ok (.iaload, 1))))))) (znode_ok (znode_ok (zleaf_ok (zs_istore (Nat.le_of_ble_eq_true rfl) (by decide +kernel : decode cX0_layerBehind 25 = .ok (.istore 4, 2)))) (znode_ok (zleaf_ok (zs_iload_n (by decide +kernel : decode cX0_layerBehind 27 = .ok (.iload_n 3, 1)) rfl)) (zleaf_ok (zs_iload_n (by decide +kernel : decode cX0_layerBehind 28 = .ok (.iload_n 2, 1)) rfl)))) (znode_ok (zleaf_ok (⟨zcs3 (n := 1) z_good zw_55 zw_19 zw_56 zw_57 (by decide +kernel) (by decide +kernel : decode cX0_layerBehind 29 = .ok (.invokestatic 77, 3)), Nat.le_of_ble_eq_true rfl, by decide +kernel, (fun h => absurd rfl (h.2.1))⟩)) (znode_ok (zleaf_ok (zs_icmp_ne (t := 39) (by decide) (by decide +kernel : decode cX0_layerBehind 32 = .ok (.if_icmp .ne 7, 3)))) (zleaf_ok (zs_iconst (by decide) (by decide +kernel : decode cX0_layerBehind 35 = .ok (.iconst 1, 1))))))))) (znode_ok (znode_ok (znode_ok (znode_ok (zleaf_ok (zs_goto (t := 40) (by decide) (by decide +kernel : decode cX0_layerBehind 36 = .ok (.goto 4, 3)))) (zleaf_ok (zs_iconst (by decide) (by decide +kernel : decode cX0_layerBehind 39 = .ok (.iconst 0, 1))))) (znode_ok (zleaf_ok (zs_istore (Nat.le_of_ble_eq_true rfl) (by decide +kernel : decode cX0_layerBehind 40 = .ok (.istore 5, 2)))) (znode_ok (zleaf_ok (zs_iload (by decide +kernel : decode cX0_layerBehind 42 = .ok (.iload 5, 2)))) (zleaf_ok (zs_if_eq (t := 66) (by decide) (by decide +kernel : decode cX0_layerBehind 44 = .ok (.ifCond .eq 22, 3))))))) (znode_ok (znode_ok (zleaf_ok (zs_aload_n (by decide +kernel : decode cX0_layerBehind 47 = .ok (.aload_n 0, 1)) rfl)) (znode_ok (zleaf_ok (zs_aload_n (by decide +kernel : decode cX0_layerBehind 48 = .ok (.aload_n 0, 1)) rfl)) (zleaf_ok (zs_iload_n (by decide +kernel : decode cX0_layerBehind 49 = .ok (.iload_n 1, 1)) rfl)))) (znode_ok (zleaf_ok (zs_iload_n (by decide +kernel : decode cX0_layerBehind 50 = .ok (.iload_n 2, 1)) rfl)) (znode_ok (zleaf_ok (⟨zcs0 (n := 2) z_good zw_39 zw_14 zw_40 zw_41 zw_42 (by decide +kernel) (by decide +kernel : decode cX0_layerBehind 51 = .ok (.invokevirtual 65, 3)), Nat.le_of_ble_eq_true rfl, by decide +kernel, (fun _ => ⟨TX0, 8, rfl⟩)⟩)) (zleaf_ok (zs_aload_n (by decide +kernel : decode cX0_layerBehind 54 = .ok (.aload_n 0, 1)) rfl)))))) (znode_ok (znode_ok (znode_ok (zleaf_ok (zs_iload_n (by decide +kernel : decode cX0_layerBehind 55 = .ok (.iload_n 1, 1)) rfl)) (zleaf_ok (zs_iload_n (by decide +kernel : decode cX0_layerBehind 56 = .ok (.iload_n 2, 1)) rfl))) (znode_ok (zleaf_ok (⟨zcs0 (n := 2) z_good zw_43 zw_14 zw_44 zw_45 zw_46 (by decide +kernel) (by decide +kernel : decode cX0_layerBehind 57 = .ok (.invokevirtual 68, 3)), Nat.le_of_ble_eq_true rfl, by decide +kernel, (fun _ => ⟨TX0, 8, rfl⟩)⟩)) (znode_ok (zleaf_ok (⟨zcs0 (n := 2) z_good zw_58 zw_14 zw_59 zw_60 zw_61 (by decide +kernel) (by decide +kernel : decode cX0_layerBehind 60 = .ok (.invokevirtual 80, 3)), Nat.le_of_ble_eq_true rfl, by decide +kernel, (fun _ => ⟨TX0, 8, rfl⟩)⟩)) (zleaf_ok (zs_goto (t := 67) (by decide) (by decide +kernel : decode cX0_layerBehind 63 = .ok (.goto 4, 3))))))) (znode_ok (znode_ok (zleaf_ok (zs_iconst (by decide) (by decide +kernel : decode cX0_layerBehind 66 = .ok (.iconst 0, 1)))) (znode_ok (zleaf_ok (zs_istore (Nat.le_of_ble_eq_true rfl) (by decide +kernel : decode cX0_layerBehind 67 = .ok (.istore 6, 2)))) (zleaf_ok (zs_iload (by decide +kernel : decode cX0_layerBehind 69 = .ok (.iload 6, 2)))))) (znode_ok (zleaf_ok (zs_iload (by decide +kernel : decode cX0_layerBehind 71 = .ok (.iload 4, 2)))) (znode_ok (zleaf_ok (zs_iadd (by decide +kernel : decode cX0_layerBehind 73 = .ok (.iadd, 1)))) (zleaf_ok (Or.inr (Or.inl ⟨rfl, rfl, (by decide +kernel : decode cX0_layerBehind 74 = .ok (.ireturn, 1))⟩))))))))
/-- Creasebook$Form.turnOver()V -/
def zc_X0_turnOver (pc : Nat) : Option zI := znode 33 pc (znode 16 pc (znode 7 pc (znode 2 pc (znode 1 pc (zleaf 0 pc (.inl (zS1 (zCst (.int 0) 1)))) (zleaf 1 pc (.inl (zSt1 zIsI 2 1)))) (znode 3 pc (zleaf 2 pc (.inl (zLd zIsI 3 1))) (znode 4 pc (zleaf 3 pc (.inl (zLd zIsA 4 0))) (zleaf 4 pc (.inl (zS2 (zGet 0 0 7))))))) (znode 11 pc (znode 10 pc (zleaf 7 pc (.inl (zS1 (zIcmp (fun x y => decide (y ≤ x)) 66 10)))) (zleaf 10 pc (.inl (zLd zIsA 11 0)))) (znode 14 pc (zleaf 11 pc (.inl (zS2 (zGet 0 5 14)))) (znode 15 pc (zleaf 14 pc (.inl (zLd zIsI 15 1))) (zleaf 15 pc (.inl (zLd zIsA 16 0))))))) (znode 25 pc (znode 20 pc (znode 17 pc (zleaf 16 pc (.inl (zLd zIsI 17 1))) (zleaf 17 pc (.inr (.inr (.inr (15, 2, 0)))))) (znode 21 pc (zleaf 20 pc (.inl (zAstI 0 21))) (znode 22 pc (zleaf 21 pc (.inl (zLd zIsA 22 0))) (zleaf 22 pc (.inl (zS2 (zGet 0 3 25))))))) (znode 30 pc (znode 26 pc (zleaf 25 pc (.inl (zLd zIsI 26 1))) (znode 27 pc (zleaf 26 pc (.inl (zLd zIsA 27 0))) (zleaf 27 pc (.inl (zS2 (zGet 0 1 30)))))) (znode 31 pc (zleaf 30 pc (.inl (zS1 (zCst (.int 1) 31)))) (znode 32 pc (zleaf 31 pc (.inl (zS1 (zII (fun x y => x - y) 32)))) (zleaf 32 pc (.inl (zLd zIsA 33 0)))))))) (znode 50 pc (znode 40 pc (znode 37 pc (znode 36 pc (zleaf 33 pc (.inl (zS2 (zGet 0 3 36)))) (zleaf 36 pc (.inl (zLd zIsI 37 1)))) (znode 38 pc (zleaf 37 pc (.inl (zS2 (zAldI 0 38)))) (znode 39 pc (zleaf 38 pc (.inl (zS1 (zII (fun x y => x - y) 39)))) (zleaf 39 pc (.inl (zAstI 0 40)))))) (znode 45 pc (znode 41 pc (zleaf 40 pc (.inl (zLd zIsA 41 0))) (znode 44 pc (zleaf 41 pc (.inl (zS2 (zGet 0 6 44)))) (zleaf 44 pc (.inl (zLd zIsI 45 1))))) (znode 46 pc (zleaf 45 pc (.inl (zLd zIsA 46 0))) (znode 49 pc (zleaf 46 pc (.inl (zS2 (zGet 0 6 49)))) (zleaf 49 pc (.inl (zLd zIsI 50 1))))))) (znode 59 pc (znode 54 pc (znode 51 pc (zleaf 50 pc (.inl (zS2 (zAldZ 1 51)))) (zleaf 51 pc (.inl (zS1 (zIf (fun x => decide (¬ x = 0)) 58 54))))) (znode 55 pc (zleaf 54 pc (.inl (zS1 (zCst (.int 1) 55)))) (znode 58 pc (zleaf 55 pc (.inl (zS1 (zGo 59)))) (zleaf 58 pc (.inl (zS1 (zCst (.int 0) 59))))))) (znode 66 pc (znode 60 pc (zleaf 59 pc (.inl (zAstZ 1 60))) (znode 63 pc (zleaf 60 pc (.inl (zIinc 63 1 1))) (zleaf 63 pc (.inl (zS1 (zGo 2)))))) (znode 67 pc (zleaf 66 pc (.inl (zLd zIsA 67 0))) (znode 70 pc (zleaf 67 pc (.inr (.inr (.inr (7, 1, 0))))) (zleaf 70 pc (.inr (.inl 0))))))))
theorem zk_X0_turnOver (O : Nat → State → Heap → Prop) (E : zE) (l : Launch) : ∀ pc i, zc_X0_turnOver pc = some i → zOK z_cl z_T z_G z_N O E z_yy z_bb z_nl z_cc z_rt z_hh l 5 pc i := fun pc => znode_ok (znode_ok (znode_ok (znode_ok (znode_ok (zleaf_ok (zs_iconst (by decide) (by decide +kernel : decode cX0_turnOver 0 = .ok (.iconst 0, 1)))) (zleaf_ok (zs_istore_n (Nat.le_of_ble_eq_true rfl) (by decide +kernel : decode cX0_turnOver 1 = .ok (.istore_n 1, 1)) rfl))) (znode_ok (zleaf_ok (zs_iload_n (by decide +kernel : decode cX0_turnOver 2 = .ok (.iload_n 1, 1)) rfl)) (znode_ok (zleaf_ok (zs_aload_n (by decide +kernel : decode cX0_turnOver 3 = .ok (.aload_n 0, 1)) rfl)) (zleaf_ok (zs_get (C := RX0) (Tc := TX0) (Nc := 8) rfl zinX0 (Nat.le_of_ble_eq_true rfl) zw_10 (by decide +kernel : decode cX0_turnOver 4 = .ok (.getfield 28, 3))))))) (znode_ok (znode_ok (zleaf_ok (zs_icmp_ge (t := 66) (by decide) (by decide +kernel : decode cX0_turnOver 7 = .ok (.if_icmp .ge 59, 3)))) (zleaf_ok (zs_aload_n (by decide +kernel : decode cX0_turnOver 10 = .ok (.aload_n 0, 1)) rfl))) (znode_ok (zleaf_ok (zs_get (C := RX0) (Tc := TX0) (Nc := 8) rfl zinX0 (Nat.le_of_ble_eq_true rfl) zw_6 (by decide +kernel : decode cX0_turnOver 11 = .ok (.getfield 18, 3)))) (znode_ok (zleaf_ok (zs_iload_n (by decide +kernel : decode cX0_turnOver 14 = .ok (.iload_n 1, 1)) rfl)) (zleaf_ok (zs_aload_n (by decide +kernel : decode cX0_turnOver 15 = .ok (.aload_n 0, 1)) rfl)))))) (znode_ok (znode_ok (znode_ok (zleaf_ok (zs_iload_n (by decide +kernel : decode cX0_turnOver 16 = .ok (.iload_n 1, 1)) rfl)) (zleaf_ok (⟨zcs0 (n := 1) z_good zw_51 zw_14 zw_52 zw_53 zw_54 (by decide +kernel) (by decide +kernel : decode cX0_turnOver 17 = .ok (.invokevirtual 74, 3)), Nat.le_of_ble_eq_true rfl, by decide +kernel, (fun _ => ⟨TX0, 8, rfl⟩)⟩))) (znode_ok (zleaf_ok (zs_astI rfl (by decide +kernel : decode cX0_turnOver 20 = .ok (.iastore, 1)))) (znode_ok (zleaf_ok (zs_aload_n (by decide +kernel : decode cX0_turnOver 21 = .ok (.aload_n 0, 1)) rfl)) (zleaf_ok (zs_get (C := RX0) (Tc := TX0) (Nc := 8) rfl zinX0 (Nat.le_of_ble_eq_true rfl) zw_4 (by decide +kernel : decode cX0_turnOver 22 = .ok (.getfield 9, 3))))))) (znode_ok (znode_ok (zleaf_ok (zs_iload_n (by decide +kernel : decode cX0_turnOver 25 = .ok (.iload_n 1, 1)) rfl)) (znode_ok (zleaf_ok (zs_aload_n (by decide +kernel : decode cX0_turnOver 26 = .ok (.aload_n 0, 1)) rfl)) (zleaf_ok (zs_get (C := RX0) (Tc := TX0) (Nc := 8) rfl zinX0 (Nat.le_of_ble_eq_true rfl) zw_11 (by decide +kernel : decode cX0_turnOver 27 = .ok (.getfield 32, 3)))))) (znode_ok (zleaf_ok (zs_iconst (by decide) (by decide +kernel : decode cX0_turnOver 30 = .ok (.iconst 1, 1)))) (znode_ok (zleaf_ok (zs_isub (by decide +kernel : decode cX0_turnOver 31 = .ok (.isub, 1)))) (zleaf_ok (zs_aload_n (by decide +kernel : decode cX0_turnOver 32 = .ok (.aload_n 0, 1)) rfl))))))) (znode_ok (znode_ok (znode_ok (znode_ok (zleaf_ok (zs_get (C := RX0) (Tc := TX0) (Nc := 8) rfl zinX0 (Nat.le_of_ble_eq_true rfl) zw_4 (by decide +kernel : decode cX0_turnOver 33 = .ok (.getfield 9, 3)))) (zleaf_ok (zs_iload_n (by decide +kernel : decode cX0_turnOver 36 = .ok (.iload_n 1, 1)) rfl))) (znode_ok (zleaf_ok (zs_aldI rfl (by decide +kernel : decode cX0_turnOver 37 = .ok (.iaload, 1)))) (znode_ok (zleaf_ok (zs_isub (by decide +kernel : decode cX0_turnOver 38 = .ok (.isub, 1)))) (zleaf_ok (zs_astI rfl (by decide +kernel : decode cX0_turnOver 39 = .ok (.iastore, 1))))))) (znode_ok (znode_ok (zleaf_ok (zs_aload_n (by decide +kernel : decode cX0_turnOver 40 = .ok (.aload_n 0, 1)) rfl)) (znode_ok (zleaf_ok (zs_get (C := RX0) (Tc := TX0) (Nc := 8) rfl zinX0 (Nat.le_of_ble_eq_true rfl) zw_8 (by decide +kernel : decode cX0_turnOver 41 = .ok (.getfield 21, 3)))) (zleaf_ok (zs_iload_n (by decide +kernel : decode cX0_turnOver 44 = .ok (.iload_n 1, 1)) rfl)))) (znode_ok (zleaf_ok (zs_aload_n (by decide +kernel : decode cX0_turnOver 45 = .ok (.aload_n 0, 1)) rfl)) (znode_ok (zleaf_ok (zs_get (C := RX0) (Tc := TX0) (Nc := 8) rfl zinX0 (Nat.le_of_ble_eq_true rfl) zw_8 (by decide +kernel : decode cX0_turnOver 46 = .ok (.getfield 21, 3)))) (zleaf_ok (zs_iload_n (by decide +kernel : decode cX0_turnOver 49 = .ok (.iload_n 1, 1)) rfl)))))) (znode_ok (znode_ok (znode_ok (zleaf_ok (zs_aldZ rfl (by decide +kernel : decode cX0_turnOver 50 = .ok (.baload, 1)))) (zleaf_ok (zs_if_ne (t := 58) (by decide) (by decide +kernel : decode cX0_turnOver 51 = .ok (.ifCond .ne 7, 3))))) (znode_ok (zleaf_ok (zs_iconst (by decide) (by decide +kernel : decode cX0_turnOver 54 = .ok (.iconst 1, 1)))) (znode_ok (zleaf_ok (zs_goto (t := 59) (by decide) (by decide +kernel : decode cX0_turnOver 55 = .ok (.goto 4, 3)))) (zleaf_ok (zs_iconst (by decide) (by decide +kernel : decode cX0_turnOver 58 = .ok (.iconst 0, 1))))))) (znode_ok (znode_ok (zleaf_ok (zs_astZ rfl (by decide +kernel : decode cX0_turnOver 59 = .ok (.bastore, 1)))) (znode_ok (zleaf_ok (zs_iinc (Nat.le_of_ble_eq_true rfl) (by decide) (by decide +kernel : decode cX0_turnOver 60 = .ok (.iinc 1 1, 3)))) (zleaf_ok (zs_goto (t := 2) (by decide) (by decide +kernel : decode cX0_turnOver 63 = .ok (.goto (-61), 3)))))) (znode_ok (zleaf_ok (zs_aload_n (by decide +kernel : decode cX0_turnOver 66 = .ok (.aload_n 0, 1)) rfl)) (znode_ok (zleaf_ok (⟨zcs0 (n := 0) z_good zw_13 zw_14 zw_15 zw_16 zw_17 (by decide +kernel) (by decide +kernel : decode cX0_turnOver 67 = .ok (.invokevirtual 38, 3)), Nat.le_of_ble_eq_true rfl, by decide +kernel, (fun _ => ⟨TX0, 8, rfl⟩)⟩)) (zleaf_ok (Or.inl ⟨rfl, rfl, (by decide +kernel : decode cX0_turnOver 70 = .ok (.return_, 1))⟩)))))))
/-- Creasebook$Form.turnRound()V -/
def zc_X0_turnRound (pc : Nat) : Option zI := znode 28 pc (znode 15 pc (znode 4 pc (znode 2 pc (znode 1 pc (zleaf 0 pc (.inl (zS1 (zCst (.int 0) 1)))) (zleaf 1 pc (.inl (zSt1 zIsI 2 1)))) (znode 3 pc (zleaf 2 pc (.inl (zLd zIsI 3 1))) (zleaf 3 pc (.inl (zLd zIsA 4 0))))) (znode 10 pc (znode 7 pc (zleaf 4 pc (.inl (zS2 (zGet 0 0 7)))) (zleaf 7 pc (.inl (zS1 (zIcmp (fun x y => decide (y ≤ x)) 54 10))))) (znode 11 pc (zleaf 10 pc (.inl (zLd zIsA 11 0))) (znode 14 pc (zleaf 11 pc (.inl (zS2 (zGet 0 3 14)))) (zleaf 14 pc (.inl (zLd zIsI 15 1))))))) (znode 21 pc (znode 19 pc (znode 16 pc (zleaf 15 pc (.inl (zLd zIsA 16 0))) (zleaf 16 pc (.inl (zS2 (zGet 0 1 19))))) (znode 20 pc (zleaf 19 pc (.inl (zS1 (zCst (.int 1) 20)))) (zleaf 20 pc (.inl (zS1 (zII (fun x y => x - y) 21)))))) (znode 25 pc (znode 22 pc (zleaf 21 pc (.inl (zLd zIsA 22 0))) (zleaf 22 pc (.inl (zS2 (zGet 0 3 25))))) (znode 26 pc (zleaf 25 pc (.inl (zLd zIsI 26 1))) (znode 27 pc (zleaf 26 pc (.inl (zS2 (zAldI 0 27)))) (zleaf 27 pc (.inl (zS1 (zII (fun x y => x - y) 28))))))))) (znode 41 pc (znode 34 pc (znode 30 pc (znode 29 pc (zleaf 28 pc (.inl (zAstI 0 29))) (zleaf 29 pc (.inl (zLd zIsA 30 0)))) (znode 33 pc (zleaf 30 pc (.inl (zS2 (zGet 0 4 33)))) (zleaf 33 pc (.inl (zLd zIsI 34 1))))) (znode 38 pc (znode 35 pc (zleaf 34 pc (.inl (zLd zIsA 35 0))) (zleaf 35 pc (.inl (zS2 (zGet 0 2 38))))) (znode 39 pc (zleaf 38 pc (.inl (zS1 (zCst (.int 1) 39)))) (znode 40 pc (zleaf 39 pc (.inl (zS1 (zII (fun x y => x - y) 40)))) (zleaf 40 pc (.inl (zLd zIsA 41 0))))))) (znode 48 pc (znode 45 pc (znode 44 pc (zleaf 41 pc (.inl (zS2 (zGet 0 4 44)))) (zleaf 44 pc (.inl (zLd zIsI 45 1)))) (znode 46 pc (zleaf 45 pc (.inl (zS2 (zAldI 0 46)))) (znode 47 pc (zleaf 46 pc (.inl (zS1 (zII (fun x y => x - y) 47)))) (zleaf 47 pc (.inl (zAstI 0 48)))))) (znode 54 pc (znode 51 pc (zleaf 48 pc (.inl (zIinc 51 1 1))) (zleaf 51 pc (.inl (zS1 (zGo 2))))) (znode 55 pc (zleaf 54 pc (.inl (zLd zIsA 55 0))) (znode 58 pc (zleaf 55 pc (.inr (.inr (.inr (7, 1, 0))))) (zleaf 58 pc (.inr (.inl 0))))))))
theorem zk_X0_turnRound (O : Nat → State → Heap → Prop) (E : zE) (l : Launch) : ∀ pc i, zc_X0_turnRound pc = some i → zOK z_cl z_T z_G z_N O E z_yy z_bb z_nl z_cc z_rt z_hh l 6 pc i := fun pc => znode_ok (znode_ok (znode_ok (znode_ok (znode_ok (zleaf_ok (zs_iconst (by decide) (by decide +kernel : decode cX0_turnRound 0 = .ok (.iconst 0, 1)))) (zleaf_ok (zs_istore_n (Nat.le_of_ble_eq_true rfl) (by decide +kernel : decode cX0_turnRound 1 = .ok (.istore_n 1, 1)) rfl))) (znode_ok (zleaf_ok (zs_iload_n (by decide +kernel : decode cX0_turnRound 2 = .ok (.iload_n 1, 1)) rfl)) (zleaf_ok (zs_aload_n (by decide +kernel : decode cX0_turnRound 3 = .ok (.aload_n 0, 1)) rfl)))) (znode_ok (znode_ok (zleaf_ok (zs_get (C := RX0) (Tc := TX0) (Nc := 8) rfl zinX0 (Nat.le_of_ble_eq_true rfl) zw_10 (by decide +kernel : decode cX0_turnRound 4 = .ok (.getfield 28, 3)))) (zleaf_ok (zs_icmp_ge (t := 54) (by decide) (by decide +kernel : decode cX0_turnRound 7 = .ok (.if_icmp .ge 47, 3))))) (znode_ok (zleaf_ok (zs_aload_n (by decide +kernel : decode cX0_turnRound 10 = .ok (.aload_n 0, 1)) rfl)) (znode_ok (zleaf_ok (zs_get (C := RX0) (Tc := TX0) (Nc := 8) rfl zinX0 (Nat.le_of_ble_eq_true rfl) zw_4 (by decide +kernel : decode cX0_turnRound 11 = .ok (.getfield 9, 3)))) (zleaf_ok (zs_iload_n (by decide +kernel : decode cX0_turnRound 14 = .ok (.iload_n 1, 1)) rfl)))))) (znode_ok (znode_ok (znode_ok (zleaf_ok (zs_aload_n (by decide +kernel : decode cX0_turnRound 15 = .ok (.aload_n 0, 1)) rfl)) (zleaf_ok (zs_get (C := RX0) (Tc := TX0) (Nc := 8) rfl zinX0 (Nat.le_of_ble_eq_true rfl) zw_11 (by decide +kernel : decode cX0_turnRound 16 = .ok (.getfield 32, 3))))) (znode_ok (zleaf_ok (zs_iconst (by decide) (by decide +kernel : decode cX0_turnRound 19 = .ok (.iconst 1, 1)))) (zleaf_ok (zs_isub (by decide +kernel : decode cX0_turnRound 20 = .ok (.isub, 1)))))) (znode_ok (znode_ok (zleaf_ok (zs_aload_n (by decide +kernel : decode cX0_turnRound 21 = .ok (.aload_n 0, 1)) rfl)) (zleaf_ok (zs_get (C := RX0) (Tc := TX0) (Nc := 8) rfl zinX0 (Nat.le_of_ble_eq_true rfl) zw_4 (by decide +kernel : decode cX0_turnRound 22 = .ok (.getfield 9, 3))))) (znode_ok (zleaf_ok (zs_iload_n (by decide +kernel : decode cX0_turnRound 25 = .ok (.iload_n 1, 1)) rfl)) (znode_ok (zleaf_ok (zs_aldI rfl (by decide +kernel : decode cX0_turnRound 26 = .ok (.iaload, 1)))) (zleaf_ok (zs_isub (by decide +kernel : decode cX0_turnRound 27 = .ok (.isub, 1))))))))) (znode_ok (znode_ok (znode_ok (znode_ok (zleaf_ok (zs_astI rfl (by decide +kernel : decode cX0_turnRound 28 = .ok (.iastore, 1)))) (zleaf_ok (zs_aload_n (by decide +kernel : decode cX0_turnRound 29 = .ok (.aload_n 0, 1)) rfl))) (znode_ok (zleaf_ok (zs_get (C := RX0) (Tc := TX0) (Nc := 8) rfl zinX0 (Nat.le_of_ble_eq_true rfl) zw_5 (by decide +kernel : decode cX0_turnRound 30 = .ok (.getfield 15, 3)))) (zleaf_ok (zs_iload_n (by decide +kernel : decode cX0_turnRound 33 = .ok (.iload_n 1, 1)) rfl)))) (znode_ok (znode_ok (zleaf_ok (zs_aload_n (by decide +kernel : decode cX0_turnRound 34 = .ok (.aload_n 0, 1)) rfl)) (zleaf_ok (zs_get (C := RX0) (Tc := TX0) (Nc := 8) rfl zinX0 (Nat.le_of_ble_eq_true rfl) zw_12 (by decide +kernel : decode cX0_turnRound 35 = .ok (.getfield 35, 3))))) (znode_ok (zleaf_ok (zs_iconst (by decide) (by decide +kernel : decode cX0_turnRound 38 = .ok (.iconst 1, 1)))) (znode_ok (zleaf_ok (zs_isub (by decide +kernel : decode cX0_turnRound 39 = .ok (.isub, 1)))) (zleaf_ok (zs_aload_n (by decide +kernel : decode cX0_turnRound 40 = .ok (.aload_n 0, 1)) rfl)))))) (znode_ok (znode_ok (znode_ok (zleaf_ok (zs_get (C := RX0) (Tc := TX0) (Nc := 8) rfl zinX0 (Nat.le_of_ble_eq_true rfl) zw_5 (by decide +kernel : decode cX0_turnRound 41 = .ok (.getfield 15, 3)))) (zleaf_ok (zs_iload_n (by decide +kernel : decode cX0_turnRound 44 = .ok (.iload_n 1, 1)) rfl))) (znode_ok (zleaf_ok (zs_aldI rfl (by decide +kernel : decode cX0_turnRound 45 = .ok (.iaload, 1)))) (znode_ok (zleaf_ok (zs_isub (by decide +kernel : decode cX0_turnRound 46 = .ok (.isub, 1)))) (zleaf_ok (zs_astI rfl (by decide +kernel : decode cX0_turnRound 47 = .ok (.iastore, 1))))))) (znode_ok (znode_ok (zleaf_ok (zs_iinc (Nat.le_of_ble_eq_true rfl) (by decide) (by decide +kernel : decode cX0_turnRound 48 = .ok (.iinc 1 1, 3)))) (zleaf_ok (zs_goto (t := 2) (by decide) (by decide +kernel : decode cX0_turnRound 51 = .ok (.goto (-49), 3))))) (znode_ok (zleaf_ok (zs_aload_n (by decide +kernel : decode cX0_turnRound 54 = .ok (.aload_n 0, 1)) rfl)) (znode_ok (zleaf_ok (⟨zcs0 (n := 0) z_good zw_13 zw_14 zw_15 zw_16 zw_17 (by decide +kernel) (by decide +kernel : decode cX0_turnRound 55 = .ok (.invokevirtual 38, 3)), Nat.le_of_ble_eq_true rfl, by decide +kernel, (fun _ => ⟨TX0, 8, rfl⟩)⟩)) (zleaf_ok (Or.inl ⟨rfl, rfl, (by decide +kernel : decode cX0_turnRound 58 = .ok (.return_, 1))⟩)))))))
/-- Creasebook$Form.measurePiles()V -/
def zc_X0_measurePiles (pc : Nat) : Option zI := znode 42 pc (znode 21 pc (znode 9 pc (znode 3 pc (znode 1 pc (zleaf 0 pc (.inl (zS1 (zCst (.int 0) 1)))) (znode 2 pc (zleaf 1 pc (.inl (zSt1 zIsI 2 1))) (zleaf 2 pc (.inl (zLd zIsI 3 1))))) (znode 5 pc (zleaf 3 pc (.inl (zS1 (zCst (.int 32) 5)))) (znode 8 pc (zleaf 5 pc (.inl (zS1 (zIcmp (fun x y => decide (y ≤ x)) 21 8)))) (zleaf 8 pc (.inl (zLd zIsA 9 0)))))) (znode 14 pc (znode 12 pc (zleaf 9 pc (.inl (zS2 (zGet 0 7 12)))) (znode 13 pc (zleaf 12 pc (.inl (zLd zIsI 13 1))) (zleaf 13 pc (.inl (zS1 (zCst (.int 0) 14)))))) (znode 15 pc (zleaf 14 pc (.inl (zAstI 0 15))) (znode 18 pc (zleaf 15 pc (.inl (zIinc 18 1 1))) (zleaf 18 pc (.inl (zS1 (zGo 2)))))))) (znode 31 pc (znode 24 pc (znode 22 pc (zleaf 21 pc (.inl (zS1 (zCst (.int 0) 22)))) (znode 23 pc (zleaf 22 pc (.inl (zSt1 zIsI 23 1))) (zleaf 23 pc (.inl (zLd zIsI 24 1))))) (znode 25 pc (zleaf 24 pc (.inl (zLd zIsA 25 0))) (znode 28 pc (zleaf 25 pc (.inl (zS2 (zGet 0 0 28)))) (zleaf 28 pc (.inl (zS1 (zIcmp (fun x y => decide (y ≤ x)) 83 31))))))) (znode 36 pc (znode 32 pc (zleaf 31 pc (.inl (zLd zIsA 32 0))) (znode 33 pc (zleaf 32 pc (.inl (zLd zIsA 33 0))) (zleaf 33 pc (.inl (zS2 (zGet 0 3 36)))))) (znode 38 pc (znode 37 pc (zleaf 36 pc (.inl (zLd zIsI 37 1))) (zleaf 37 pc (.inl (zS2 (zAldI 0 38))))) (znode 39 pc (zleaf 38 pc (.inl (zLd zIsA 39 0))) (zleaf 39 pc (.inl (zS2 (zGet 0 4 42))))))))) (znode 65 pc (znode 54 pc (znode 47 pc (znode 43 pc (zleaf 42 pc (.inl (zLd zIsI 43 1))) (znode 44 pc (zleaf 43 pc (.inl (zS2 (zAldI 0 44)))) (zleaf 44 pc (.inr (.inr (.inr (9, 3, 0))))))) (znode 50 pc (zleaf 47 pc (.inl (zS1 (zIf (fun x => decide (x = 0)) 77 50)))) (znode 51 pc (zleaf 50 pc (.inl (zLd zIsA 51 0))) (zleaf 51 pc (.inl (zS2 (zGet 0 7 54))))))) (znode 59 pc (znode 55 pc (zleaf 54 pc (.inl (zLd zIsA 55 0))) (znode 58 pc (zleaf 55 pc (.inl (zS2 (zGet 0 1 58)))) (zleaf 58 pc (.inl (zLd zIsA 59 0))))) (znode 63 pc (znode 62 pc (zleaf 59 pc (.inl (zS2 (zGet 0 4 62)))) (zleaf 62 pc (.inl (zLd zIsI 63 1)))) (znode 64 pc (zleaf 63 pc (.inl (zS2 (zAldI 0 64)))) (zleaf 64 pc (.inl (zS1 (zII (fun x y => x * y) 65)))))))) (znode 73 pc (znode 70 pc (znode 66 pc (zleaf 65 pc (.inl (zLd zIsA 66 0))) (znode 69 pc (zleaf 66 pc (.inl (zS2 (zGet 0 3 69)))) (zleaf 69 pc (.inl (zLd zIsI 70 1))))) (znode 71 pc (zleaf 70 pc (.inl (zS2 (zAldI 0 71)))) (znode 72 pc (zleaf 71 pc (.inl (zS1 (zII (fun x y => x + y) 72)))) (zleaf 72 pc (.inl (zS1 (zDup2 73))))))) (znode 76 pc (znode 74 pc (zleaf 73 pc (.inl (zS2 (zAldI 0 74)))) (znode 75 pc (zleaf 74 pc (.inl (zS1 (zCst (.int 1) 75)))) (zleaf 75 pc (.inl (zS1 (zII (fun x y => x + y) 76)))))) (znode 80 pc (znode 77 pc (zleaf 76 pc (.inl (zAstI 0 77))) (zleaf 77 pc (.inl (zIinc 80 1 1)))) (znode 83 pc (zleaf 80 pc (.inl (zS1 (zGo 23)))) (zleaf 83 pc (.inr (.inl 0))))))))
theorem zk_X0_measurePiles (O : Nat → State → Heap → Prop) (E : zE) (l : Launch) : ∀ pc i, zc_X0_measurePiles pc = some i → zOK z_cl z_T z_G z_N O E z_yy z_bb z_nl z_cc z_rt z_hh l 7 pc i := fun pc => znode_ok (znode_ok (znode_ok (znode_ok (znode_ok (zleaf_ok (zs_iconst (by decide) (by decide +kernel : decode cX0_measurePiles 0 = .ok (.iconst 0, 1)))) (znode_ok (zleaf_ok (zs_istore_n (Nat.le_of_ble_eq_true rfl) (by decide +kernel : decode cX0_measurePiles 1 = .ok (.istore_n 1, 1)) rfl)) (zleaf_ok (zs_iload_n (by decide +kernel : decode cX0_measurePiles 2 = .ok (.iload_n 1, 1)) rfl)))) (znode_ok (zleaf_ok (zs_bipush (by decide) (by decide +kernel : decode cX0_measurePiles 3 = .ok (.bipush 32, 2)))) (znode_ok (zleaf_ok (zs_icmp_ge (t := 21) (by decide) (by decide +kernel : decode cX0_measurePiles 5 = .ok (.if_icmp .ge 16, 3)))) (zleaf_ok (zs_aload_n (by decide +kernel : decode cX0_measurePiles 8 = .ok (.aload_n 0, 1)) rfl))))) (znode_ok (znode_ok (zleaf_ok (zs_get (C := RX0) (Tc := TX0) (Nc := 8) rfl zinX0 (Nat.le_of_ble_eq_true rfl) zw_9 (by decide +kernel : decode cX0_measurePiles 9 = .ok (.getfield 25, 3)))) (znode_ok (zleaf_ok (zs_iload_n (by decide +kernel : decode cX0_measurePiles 12 = .ok (.iload_n 1, 1)) rfl)) (zleaf_ok (zs_iconst (by decide) (by decide +kernel : decode cX0_measurePiles 13 = .ok (.iconst 0, 1)))))) (znode_ok (zleaf_ok (zs_astI rfl (by decide +kernel : decode cX0_measurePiles 14 = .ok (.iastore, 1)))) (znode_ok (zleaf_ok (zs_iinc (Nat.le_of_ble_eq_true rfl) (by decide) (by decide +kernel : decode cX0_measurePiles 15 = .ok (.iinc 1 1, 3)))) (zleaf_ok (zs_goto (t := 2) (by decide) (by decide +kernel : decode cX0_measurePiles 18 = .ok (.goto (-16), 3)))))))) (znode_ok (znode_ok (znode_ok (zleaf_ok (zs_iconst (by decide) (by decide +kernel : decode cX0_measurePiles 21 = .ok (.iconst 0, 1)))) (znode_ok (zleaf_ok (zs_istore_n (Nat.le_of_ble_eq_true rfl) (by decide +kernel : decode cX0_measurePiles 22 = .ok (.istore_n 1, 1)) rfl)) (zleaf_ok (zs_iload_n (by decide +kernel : decode cX0_measurePiles 23 = .ok (.iload_n 1, 1)) rfl)))) (znode_ok (zleaf_ok (zs_aload_n (by decide +kernel : decode cX0_measurePiles 24 = .ok (.aload_n 0, 1)) rfl)) (znode_ok (zleaf_ok (zs_get (C := RX0) (Tc := TX0) (Nc := 8) rfl zinX0 (Nat.le_of_ble_eq_true rfl) zw_10 (by decide +kernel : decode cX0_measurePiles 25 = .ok (.getfield 28, 3)))) (zleaf_ok (zs_icmp_ge (t := 83) (by decide) (by decide +kernel : decode cX0_measurePiles 28 = .ok (.if_icmp .ge 55, 3))))))) (znode_ok (znode_ok (zleaf_ok (zs_aload_n (by decide +kernel : decode cX0_measurePiles 31 = .ok (.aload_n 0, 1)) rfl)) (znode_ok (zleaf_ok (zs_aload_n (by decide +kernel : decode cX0_measurePiles 32 = .ok (.aload_n 0, 1)) rfl)) (zleaf_ok (zs_get (C := RX0) (Tc := TX0) (Nc := 8) rfl zinX0 (Nat.le_of_ble_eq_true rfl) zw_4 (by decide +kernel : decode cX0_measurePiles 33 = .ok (.getfield 9, 3)))))) (znode_ok (znode_ok (zleaf_ok (zs_iload_n (by decide +kernel : decode cX0_measurePiles 36 = .ok (.iload_n 1, 1)) rfl)) (zleaf_ok (zs_aldI rfl (by decide +kernel : decode cX0_measurePiles 37 = .ok (.iaload, 1))))) (znode_ok (zleaf_ok (zs_aload_n (by decide +kernel : decode cX0_measurePiles 38 = .ok (.aload_n 0, 1)) rfl)) (zleaf_ok (zs_get (C := RX0) (Tc := TX0) (Nc := 8) rfl zinX0 (Nat.le_of_ble_eq_true rfl) zw_5 (by decide +kernel : decode cX0_measurePiles 39 = .ok (.getfield 15, 3))))))))) (znode_ok (znode_ok (znode_ok (znode_ok (zleaf_ok (zs_iload_n (by decide +kernel : decode cX0_measurePiles 42 = .ok (.iload_n 1, 1)) rfl)) (znode_ok (zleaf_ok (zs_aldI rfl (by decide +kernel : decode cX0_measurePiles 43 = .ok (.iaload, 1)))) (zleaf_ok (⟨zcs0 (n := 2) z_good zw_62 zw_14 zw_63 zw_64 zw_65 (by decide +kernel) (by decide +kernel : decode cX0_measurePiles 44 = .ok (.invokevirtual 83, 3)), Nat.le_of_ble_eq_true rfl, by decide +kernel, (fun _ => ⟨TX0, 8, rfl⟩)⟩)))) (znode_ok (zleaf_ok (zs_if_eq (t := 77) (by decide) (by decide +kernel : decode cX0_measurePiles 47 = .ok (.ifCond .eq 30, 3)))) (znode_ok (zleaf_ok (zs_aload_n (by decide +kernel : decode cX0_measurePiles 50 = .ok (.aload_n 0, 1)) rfl)) (zleaf_ok (zs_get (C := RX0) (Tc := TX0) (Nc := 8) rfl zinX0 (Nat.le_of_ble_eq_true rfl) zw_9 (by decide +kernel : decode cX0_measurePiles 51 = .ok (.getfield 25, 3))))))) (znode_ok (znode_ok (zleaf_ok (zs_aload_n (by decide +kernel : decode cX0_measurePiles 54 = .ok (.aload_n 0, 1)) rfl)) (znode_ok (zleaf_ok (zs_get (C := RX0) (Tc := TX0) (Nc := 8) rfl zinX0 (Nat.le_of_ble_eq_true rfl) zw_11 (by decide +kernel : decode cX0_measurePiles 55 = .ok (.getfield 32, 3)))) (zleaf_ok (zs_aload_n (by decide +kernel : decode cX0_measurePiles 58 = .ok (.aload_n 0, 1)) rfl)))) (znode_ok (znode_ok (zleaf_ok (zs_get (C := RX0) (Tc := TX0) (Nc := 8) rfl zinX0 (Nat.le_of_ble_eq_true rfl) zw_5 (by decide +kernel : decode cX0_measurePiles 59 = .ok (.getfield 15, 3)))) (zleaf_ok (zs_iload_n (by decide +kernel : decode cX0_measurePiles 62 = .ok (.iload_n 1, 1)) rfl))) (znode_ok (zleaf_ok (zs_aldI rfl (by decide +kernel : decode cX0_measurePiles 63 = .ok (.iaload, 1)))) (zleaf_ok (zs_imul (by decide +kernel : decode cX0_measurePiles 64 = .ok (.imul, 1)))))))) (znode_ok (znode_ok (znode_ok (zleaf_ok (zs_aload_n (by decide +kernel : decode cX0_measurePiles 65 = .ok (.aload_n 0, 1)) rfl)) (znode_ok (zleaf_ok (zs_get (C := RX0) (Tc := TX0) (Nc := 8) rfl zinX0 (Nat.le_of_ble_eq_true rfl) zw_4 (by decide +kernel : decode cX0_measurePiles 66 = .ok (.getfield 9, 3)))) (zleaf_ok (zs_iload_n (by decide +kernel : decode cX0_measurePiles 69 = .ok (.iload_n 1, 1)) rfl)))) (znode_ok (zleaf_ok (zs_aldI rfl (by decide +kernel : decode cX0_measurePiles 70 = .ok (.iaload, 1)))) (znode_ok (zleaf_ok (zs_iadd (by decide +kernel : decode cX0_measurePiles 71 = .ok (.iadd, 1)))) (zleaf_ok (zs_dup2 (by decide +kernel : decode cX0_measurePiles 72 = .ok (.dup2, 1))))))) (znode_ok (znode_ok (zleaf_ok (zs_aldI rfl (by decide +kernel : decode cX0_measurePiles 73 = .ok (.iaload, 1)))) (znode_ok (zleaf_ok (zs_iconst (by decide) (by decide +kernel : decode cX0_measurePiles 74 = .ok (.iconst 1, 1)))) (zleaf_ok (zs_iadd (by decide +kernel : decode cX0_measurePiles 75 = .ok (.iadd, 1)))))) (znode_ok (znode_ok (zleaf_ok (zs_astI rfl (by decide +kernel : decode cX0_measurePiles 76 = .ok (.iastore, 1)))) (zleaf_ok (zs_iinc (Nat.le_of_ble_eq_true rfl) (by decide) (by decide +kernel : decode cX0_measurePiles 77 = .ok (.iinc 1 1, 3))))) (znode_ok (zleaf_ok (zs_goto (t := 23) (by decide) (by decide +kernel : decode cX0_measurePiles 80 = .ok (.goto (-57), 3)))) (zleaf_ok (Or.inl ⟨rfl, rfl, (by decide +kernel : decode cX0_measurePiles 83 = .ok (.return_, 1))⟩)))))))
/-- Creasebook$Form.places()I -/
def zc_X0_places (pc : Nat) : Option zI := znode 5 pc (znode 1 pc (zleaf 0 pc (.inl (zLd zIsA 1 0))) (znode 4 pc (zleaf 1 pc (.inl (zS2 (zGet 0 1 4)))) (zleaf 4 pc (.inl (zLd zIsA 5 0))))) (znode 8 pc (zleaf 5 pc (.inl (zS2 (zGet 0 2 8)))) (znode 9 pc (zleaf 8 pc (.inl (zS1 (zII (fun x y => x * y) 9)))) (zleaf 9 pc (.inr (.inl 1)))))
theorem zk_X0_places (O : Nat → State → Heap → Prop) (E : zE) (l : Launch) : ∀ pc i, zc_X0_places pc = some i → zOK z_cl z_T z_G z_N O E z_yy z_bb z_nl z_cc z_rt z_hh l 8 pc i := fun pc => znode_ok (znode_ok (zleaf_ok (zs_aload_n (by decide +kernel : decode cX0_places 0 = .ok (.aload_n 0, 1)) rfl)) (znode_ok (zleaf_ok (zs_get (C := RX0) (Tc := TX0) (Nc := 8) rfl zinX0 (Nat.le_of_ble_eq_true rfl) zw_11 (by decide +kernel : decode cX0_places 1 = .ok (.getfield 32, 3)))) (zleaf_ok (zs_aload_n (by decide +kernel : decode cX0_places 4 = .ok (.aload_n 0, 1)) rfl)))) (znode_ok (zleaf_ok (zs_get (C := RX0) (Tc := TX0) (Nc := 8) rfl zinX0 (Nat.le_of_ble_eq_true rfl) zw_12 (by decide +kernel : decode cX0_places 5 = .ok (.getfield 35, 3)))) (znode_ok (zleaf_ok (zs_imul (by decide +kernel : decode cX0_places 8 = .ok (.imul, 1)))) (zleaf_ok (Or.inr (Or.inl ⟨rfl, rfl, (by decide +kernel : decode cX0_places 9 = .ok (.ireturn, 1))⟩)))))
/-- Creasebook$Form.hasPlace(II)Z -/
def zc_X0_hasPlace (pc : Nat) : Option zI := znode 16 pc (znode 6 pc (znode 4 pc (znode 1 pc (zleaf 0 pc (.inl (zLd zIsI 1 1))) (zleaf 1 pc (.inl (zS1 (zIf (fun x => decide (x < 0)) 28 4))))) (znode 5 pc (zleaf 4 pc (.inl (zLd zIsI 5 1))) (zleaf 5 pc (.inl (zLd zIsA 6 0))))) (znode 12 pc (znode 9 pc (zleaf 6 pc (.inl (zS2 (zGet 0 1 9)))) (zleaf 9 pc (.inl (zS1 (zIcmp (fun x y => decide (y ≤ x)) 28 12))))) (znode 13 pc (zleaf 12 pc (.inl (zLd zIsI 13 2))) (zleaf 13 pc (.inl (zS1 (zIf (fun x => decide (x < 0)) 28 16))))))) (znode 24 pc (znode 18 pc (znode 17 pc (zleaf 16 pc (.inl (zLd zIsI 17 2))) (zleaf 17 pc (.inl (zLd zIsA 18 0)))) (znode 21 pc (zleaf 18 pc (.inl (zS2 (zGet 0 2 21)))) (zleaf 21 pc (.inl (zS1 (zIcmp (fun x y => decide (y ≤ x)) 28 24)))))) (znode 28 pc (znode 25 pc (zleaf 24 pc (.inl (zS1 (zCst (.int 1) 25)))) (zleaf 25 pc (.inl (zS1 (zGo 29))))) (znode 29 pc (zleaf 28 pc (.inl (zS1 (zCst (.int 0) 29)))) (zleaf 29 pc (.inr (.inl 5))))))
theorem zk_X0_hasPlace (O : Nat → State → Heap → Prop) (E : zE) (l : Launch) : ∀ pc i, zc_X0_hasPlace pc = some i → zOK z_cl z_T z_G z_N O E z_yy z_bb z_nl z_cc z_rt z_hh l 9 pc i := fun pc => znode_ok (znode_ok (znode_ok (znode_ok (zleaf_ok (zs_iload_n (by decide +kernel : decode cX0_hasPlace 0 = .ok (.iload_n 1, 1)) rfl)) (zleaf_ok (zs_if_lt (t := 28) (by decide) (by decide +kernel : decode cX0_hasPlace 1 = .ok (.ifCond .lt 27, 3))))) (znode_ok (zleaf_ok (zs_iload_n (by decide +kernel : decode cX0_hasPlace 4 = .ok (.iload_n 1, 1)) rfl)) (zleaf_ok (zs_aload_n (by decide +kernel : decode cX0_hasPlace 5 = .ok (.aload_n 0, 1)) rfl)))) (znode_ok (znode_ok (zleaf_ok (zs_get (C := RX0) (Tc := TX0) (Nc := 8) rfl zinX0 (Nat.le_of_ble_eq_true rfl) zw_11 (by decide +kernel : decode cX0_hasPlace 6 = .ok (.getfield 32, 3)))) (zleaf_ok (zs_icmp_ge (t := 28) (by decide) (by decide +kernel : decode cX0_hasPlace 9 = .ok (.if_icmp .ge 19, 3))))) (znode_ok (zleaf_ok (zs_iload_n (by decide +kernel : decode cX0_hasPlace 12 = .ok (.iload_n 2, 1)) rfl)) (zleaf_ok (zs_if_lt (t := 28) (by decide) (by decide +kernel : decode cX0_hasPlace 13 = .ok (.ifCond .lt 15, 3))))))) (znode_ok (znode_ok (znode_ok (zleaf_ok (zs_iload_n (by decide +kernel : decode cX0_hasPlace 16 = .ok (.iload_n 2, 1)) rfl)) (zleaf_ok (zs_aload_n (by decide +kernel : decode cX0_hasPlace 17 = .ok (.aload_n 0, 1)) rfl))) (znode_ok (zleaf_ok (zs_get (C := RX0) (Tc := TX0) (Nc := 8) rfl zinX0 (Nat.le_of_ble_eq_true rfl) zw_12 (by decide +kernel : decode cX0_hasPlace 18 = .ok (.getfield 35, 3)))) (zleaf_ok (zs_icmp_ge (t := 28) (by decide) (by decide +kernel : decode cX0_hasPlace 21 = .ok (.if_icmp .ge 7, 3)))))) (znode_ok (znode_ok (zleaf_ok (zs_iconst (by decide) (by decide +kernel : decode cX0_hasPlace 24 = .ok (.iconst 1, 1)))) (zleaf_ok (zs_goto (t := 29) (by decide) (by decide +kernel : decode cX0_hasPlace 25 = .ok (.goto 4, 3))))) (znode_ok (zleaf_ok (zs_iconst (by decide) (by decide +kernel : decode cX0_hasPlace 28 = .ok (.iconst 0, 1)))) (zleaf_ok (Or.inr (Or.inr (Or.inr (Or.inr (Or.inr ⟨rfl, rfl, (by decide +kernel : decode cX0_hasPlace 29 = .ok (.ireturn, 1))⟩)))))))))
/-- Creasebook$Form.hasLine(II)Z -/
def zc_X0_hasLine (pc : Nat) : Option zI := znode 17 pc (znode 9 pc (znode 4 pc (znode 1 pc (zleaf 0 pc (.inl (zLd zIsI 1 1))) (zleaf 1 pc (.inl (zS1 (zIf (fun x => decide (x = 0)) 11 4))))) (znode 5 pc (zleaf 4 pc (.inl (zLd zIsI 5 1))) (znode 6 pc (zleaf 5 pc (.inl (zS1 (zCst (.int 1) 6)))) (zleaf 6 pc (.inl (zS1 (zIcmp (fun x y => decide (x = y)) 11 9))))))) (znode 12 pc (znode 10 pc (zleaf 9 pc (.inl (zS1 (zCst (.int 0) 10)))) (znode 11 pc (zleaf 10 pc (.inr (.inl 5))) (zleaf 11 pc (.inl (zLd zIsI 12 2))))) (znode 13 pc (zleaf 12 pc (.inl (zS1 (zCst (.int 1) 13)))) (znode 16 pc (zleaf 13 pc (.inl (zS1 (zIcmp (fun x y => decide (x < y)) 39 16)))) (zleaf 16 pc (.inl (zLd zIsI 17 2))))))) (znode 29 pc (znode 22 pc (znode 18 pc (zleaf 17 pc (.inl (zLd zIsI 18 1))) (znode 21 pc (zleaf 18 pc (.inl (zS1 (zIf (fun x => decide (¬ x = 0)) 28 21)))) (zleaf 21 pc (.inl (zLd zIsA 22 0))))) (znode 25 pc (zleaf 22 pc (.inl (zS2 (zGet 0 1 25)))) (znode 28 pc (zleaf 25 pc (.inl (zS1 (zGo 32)))) (zleaf 28 pc (.inl (zLd zIsA 29 0)))))) (znode 36 pc (znode 32 pc (zleaf 29 pc (.inl (zS2 (zGet 0 2 32)))) (znode 35 pc (zleaf 32 pc (.inl (zS1 (zIcmp (fun x y => decide (y ≤ x)) 39 35)))) (zleaf 35 pc (.inl (zS1 (zCst (.int 1) 36)))))) (znode 39 pc (zleaf 36 pc (.inl (zS1 (zGo 40)))) (znode 40 pc (zleaf 39 pc (.inl (zS1 (zCst (.int 0) 40)))) (zleaf 40 pc (.inr (.inl 5)))))))
theorem zk_X0_hasLine (O : Nat → State → Heap → Prop) (E : zE) (l : Launch) : ∀ pc i, zc_X0_hasLine pc = some i → zOK z_cl z_T z_G z_N O E z_yy z_bb z_nl z_cc z_rt z_hh l 10 pc i := fun pc => znode_ok (znode_ok (znode_ok (znode_ok (zleaf_ok (zs_iload_n (by decide +kernel : decode cX0_hasLine 0 = .ok (.iload_n 1, 1)) rfl)) (zleaf_ok (zs_if_eq (t := 11) (by decide) (by decide +kernel : decode cX0_hasLine 1 = .ok (.ifCond .eq 10, 3))))) (znode_ok (zleaf_ok (zs_iload_n (by decide +kernel : decode cX0_hasLine 4 = .ok (.iload_n 1, 1)) rfl)) (znode_ok (zleaf_ok (zs_iconst (by decide) (by decide +kernel : decode cX0_hasLine 5 = .ok (.iconst 1, 1)))) (zleaf_ok (zs_icmp_eq (t := 11) (by decide) (by decide +kernel : decode cX0_hasLine 6 = .ok (.if_icmp .eq 5, 3))))))) (znode_ok (znode_ok (zleaf_ok (zs_iconst (by decide) (by decide +kernel : decode cX0_hasLine 9 = .ok (.iconst 0, 1)))) (znode_ok (zleaf_ok (Or.inr (Or.inr (Or.inr (Or.inr (Or.inr ⟨rfl, rfl, (by decide +kernel : decode cX0_hasLine 10 = .ok (.ireturn, 1))⟩)))))) (zleaf_ok (zs_iload_n (by decide +kernel : decode cX0_hasLine 11 = .ok (.iload_n 2, 1)) rfl)))) (znode_ok (zleaf_ok (zs_iconst (by decide) (by decide +kernel : decode cX0_hasLine 12 = .ok (.iconst 1, 1)))) (znode_ok (zleaf_ok (zs_icmp_lt (t := 39) (by decide) (by decide +kernel : decode cX0_hasLine 13 = .ok (.if_icmp .lt 26, 3)))) (zleaf_ok (zs_iload_n (by decide +kernel : decode cX0_hasLine 16 = .ok (.iload_n 2, 1)) rfl)))))) (znode_ok (znode_ok (znode_ok (zleaf_ok (zs_iload_n (by decide +kernel : decode cX0_hasLine 17 = .ok (.iload_n 1, 1)) rfl)) (znode_ok (zleaf_ok (zs_if_ne (t := 28) (by decide) (by decide +kernel : decode cX0_hasLine 18 = .ok (.ifCond .ne 10, 3)))) (zleaf_ok (zs_aload_n (by decide +kernel : decode cX0_hasLine 21 = .ok (.aload_n 0, 1)) rfl)))) (znode_ok (zleaf_ok (zs_get (C := RX0) (Tc := TX0) (Nc := 8) rfl zinX0 (Nat.le_of_ble_eq_true rfl) zw_11 (by decide +kernel : decode cX0_hasLine 22 = .ok (.getfield 32, 3)))) (znode_ok (zleaf_ok (zs_goto (t := 32) (by decide) (by decide +kernel : decode cX0_hasLine 25 = .ok (.goto 7, 3)))) (zleaf_ok (zs_aload_n (by decide +kernel : decode cX0_hasLine 28 = .ok (.aload_n 0, 1)) rfl))))) (znode_ok (znode_ok (zleaf_ok (zs_get (C := RX0) (Tc := TX0) (Nc := 8) rfl zinX0 (Nat.le_of_ble_eq_true rfl) zw_12 (by decide +kernel : decode cX0_hasLine 29 = .ok (.getfield 35, 3)))) (znode_ok (zleaf_ok (zs_icmp_ge (t := 39) (by decide) (by decide +kernel : decode cX0_hasLine 32 = .ok (.if_icmp .ge 7, 3)))) (zleaf_ok (zs_iconst (by decide) (by decide +kernel : decode cX0_hasLine 35 = .ok (.iconst 1, 1)))))) (znode_ok (zleaf_ok (zs_goto (t := 40) (by decide) (by decide +kernel : decode cX0_hasLine 36 = .ok (.goto 4, 3)))) (znode_ok (zleaf_ok (zs_iconst (by decide) (by decide +kernel : decode cX0_hasLine 39 = .ok (.iconst 0, 1)))) (zleaf_ok (Or.inr (Or.inr (Or.inr (Or.inr (Or.inr ⟨rfl, rfl, (by decide +kernel : decode cX0_hasLine 40 = .ok (.ireturn, 1))⟩))))))))))
/-- Creasebook$Form.heightAt(II)I -/
def zc_X0_heightAt (pc : Nat) : Option zI := znode 14 pc (znode 6 pc (znode 2 pc (znode 1 pc (zleaf 0 pc (.inl (zLd zIsA 1 0))) (zleaf 1 pc (.inl (zLd zIsI 2 1)))) (znode 3 pc (zleaf 2 pc (.inl (zLd zIsI 3 2))) (zleaf 3 pc (.inr (.inr (.inr (9, 3, 0))))))) (znode 10 pc (znode 9 pc (zleaf 6 pc (.inl (zS1 (zIf (fun x => decide (x = 0)) 25 9)))) (zleaf 9 pc (.inl (zLd zIsA 10 0)))) (znode 13 pc (zleaf 10 pc (.inl (zS2 (zGet 0 7 13)))) (zleaf 13 pc (.inl (zLd zIsA 14 0)))))) (znode 20 pc (znode 18 pc (znode 17 pc (zleaf 14 pc (.inl (zS2 (zGet 0 1 17)))) (zleaf 17 pc (.inl (zLd zIsI 18 2)))) (znode 19 pc (zleaf 18 pc (.inl (zS1 (zII (fun x y => x * y) 19)))) (zleaf 19 pc (.inl (zLd zIsI 20 1))))) (znode 22 pc (znode 21 pc (zleaf 20 pc (.inl (zS1 (zII (fun x y => x + y) 21)))) (zleaf 21 pc (.inl (zS2 (zAldI 0 22))))) (znode 25 pc (zleaf 22 pc (.inl (zS1 (zGo 26)))) (znode 26 pc (zleaf 25 pc (.inl (zS1 (zCst (.int 0) 26)))) (zleaf 26 pc (.inr (.inl 1)))))))
theorem zk_X0_heightAt (O : Nat → State → Heap → Prop) (E : zE) (l : Launch) : ∀ pc i, zc_X0_heightAt pc = some i → zOK z_cl z_T z_G z_N O E z_yy z_bb z_nl z_cc z_rt z_hh l 11 pc i := fun pc => znode_ok (znode_ok (znode_ok (znode_ok (zleaf_ok (zs_aload_n (by decide +kernel : decode cX0_heightAt 0 = .ok (.aload_n 0, 1)) rfl)) (zleaf_ok (zs_iload_n (by decide +kernel : decode cX0_heightAt 1 = .ok (.iload_n 1, 1)) rfl))) (znode_ok (zleaf_ok (zs_iload_n (by decide +kernel : decode cX0_heightAt 2 = .ok (.iload_n 2, 1)) rfl)) (zleaf_ok (⟨zcs0 (n := 2) z_good zw_62 zw_14 zw_63 zw_64 zw_65 (by decide +kernel) (by decide +kernel : decode cX0_heightAt 3 = .ok (.invokevirtual 83, 3)), Nat.le_of_ble_eq_true rfl, by decide +kernel, (fun _ => ⟨TX0, 8, rfl⟩)⟩)))) (znode_ok (znode_ok (zleaf_ok (zs_if_eq (t := 25) (by decide) (by decide +kernel : decode cX0_heightAt 6 = .ok (.ifCond .eq 19, 3)))) (zleaf_ok (zs_aload_n (by decide +kernel : decode cX0_heightAt 9 = .ok (.aload_n 0, 1)) rfl))) (znode_ok (zleaf_ok (zs_get (C := RX0) (Tc := TX0) (Nc := 8) rfl zinX0 (Nat.le_of_ble_eq_true rfl) zw_9 (by decide +kernel : decode cX0_heightAt 10 = .ok (.getfield 25, 3)))) (zleaf_ok (zs_aload_n (by decide +kernel : decode cX0_heightAt 13 = .ok (.aload_n 0, 1)) rfl))))) (znode_ok (znode_ok (znode_ok (zleaf_ok (zs_get (C := RX0) (Tc := TX0) (Nc := 8) rfl zinX0 (Nat.le_of_ble_eq_true rfl) zw_11 (by decide +kernel : decode cX0_heightAt 14 = .ok (.getfield 32, 3)))) (zleaf_ok (zs_iload_n (by decide +kernel : decode cX0_heightAt 17 = .ok (.iload_n 2, 1)) rfl))) (znode_ok (zleaf_ok (zs_imul (by decide +kernel : decode cX0_heightAt 18 = .ok (.imul, 1)))) (zleaf_ok (zs_iload_n (by decide +kernel : decode cX0_heightAt 19 = .ok (.iload_n 1, 1)) rfl)))) (znode_ok (znode_ok (zleaf_ok (zs_iadd (by decide +kernel : decode cX0_heightAt 20 = .ok (.iadd, 1)))) (zleaf_ok (zs_aldI rfl (by decide +kernel : decode cX0_heightAt 21 = .ok (.iaload, 1))))) (znode_ok (zleaf_ok (zs_goto (t := 26) (by decide) (by decide +kernel : decode cX0_heightAt 22 = .ok (.goto 4, 3)))) (znode_ok (zleaf_ok (zs_iconst (by decide) (by decide +kernel : decode cX0_heightAt 25 = .ok (.iconst 0, 1)))) (zleaf_ok (Or.inr (Or.inl ⟨rfl, rfl, (by decide +kernel : decode cX0_heightAt 26 = .ok (.ireturn, 1))⟩)))))))
end
section
/-- Creasebook$Form.liesAt(III)Z -/
def zc_X0_liesAt (pc : Nat) : Option zI := znode 14 pc (znode 6 pc (znode 4 pc (znode 1 pc (zleaf 0 pc (.inl (zLd zIsA 1 0))) (zleaf 1 pc (.inl (zS2 (zGet 0 3 4))))) (znode 5 pc (zleaf 4 pc (.inl (zLd zIsI 5 1))) (zleaf 5 pc (.inl (zS2 (zAldI 0 6)))))) (znode 10 pc (znode 7 pc (zleaf 6 pc (.inl (zLd zIsI 7 2))) (zleaf 7 pc (.inl (zS1 (zIcmp (fun x y => decide (¬ x = y)) 24 10))))) (znode 11 pc (zleaf 10 pc (.inl (zLd zIsA 11 0))) (zleaf 11 pc (.inl (zS2 (zGet 0 4 14))))))) (znode 20 pc (znode 16 pc (znode 15 pc (zleaf 14 pc (.inl (zLd zIsI 15 1))) (zleaf 15 pc (.inl (zS2 (zAldI 0 16))))) (znode 17 pc (zleaf 16 pc (.inl (zLd zIsI 17 3))) (zleaf 17 pc (.inl (zS1 (zIcmp (fun x y => decide (¬ x = y)) 24 20)))))) (znode 24 pc (znode 21 pc (zleaf 20 pc (.inl (zS1 (zCst (.int 1) 21)))) (zleaf 21 pc (.inl (zS1 (zGo 25))))) (znode 25 pc (zleaf 24 pc (.inl (zS1 (zCst (.int 0) 25)))) (zleaf 25 pc (.inr (.inl 5))))))
theorem zk_X0_liesAt (O : Nat → State → Heap → Prop) (E : zE) (l : Launch) : ∀ pc i, zc_X0_liesAt pc = some i → zOK z_cl z_T z_G z_N O E z_yy z_bb z_nl z_cc z_rt z_hh l 12 pc i := fun pc => znode_ok (znode_ok (znode_ok (znode_ok (zleaf_ok (zs_aload_n (by decide +kernel : decode cX0_liesAt 0 = .ok (.aload_n 0, 1)) rfl)) (zleaf_ok (zs_get (C := RX0) (Tc := TX0) (Nc := 8) rfl zinX0 (Nat.le_of_ble_eq_true rfl) zw_4 (by decide +kernel : decode cX0_liesAt 1 = .ok (.getfield 9, 3))))) (znode_ok (zleaf_ok (zs_iload_n (by decide +kernel : decode cX0_liesAt 4 = .ok (.iload_n 1, 1)) rfl)) (zleaf_ok (zs_aldI rfl (by decide +kernel : decode cX0_liesAt 5 = .ok (.iaload, 1)))))) (znode_ok (znode_ok (zleaf_ok (zs_iload_n (by decide +kernel : decode cX0_liesAt 6 = .ok (.iload_n 2, 1)) rfl)) (zleaf_ok (zs_icmp_ne (t := 24) (by decide) (by decide +kernel : decode cX0_liesAt 7 = .ok (.if_icmp .ne 17, 3))))) (znode_ok (zleaf_ok (zs_aload_n (by decide +kernel : decode cX0_liesAt 10 = .ok (.aload_n 0, 1)) rfl)) (zleaf_ok (zs_get (C := RX0) (Tc := TX0) (Nc := 8) rfl zinX0 (Nat.le_of_ble_eq_true rfl) zw_5 (by decide +kernel : decode cX0_liesAt 11 = .ok (.getfield 15, 3))))))) (znode_ok (znode_ok (znode_ok (zleaf_ok (zs_iload_n (by decide +kernel : decode cX0_liesAt 14 = .ok (.iload_n 1, 1)) rfl)) (zleaf_ok (zs_aldI rfl (by decide +kernel : decode cX0_liesAt 15 = .ok (.iaload, 1))))) (znode_ok (zleaf_ok (zs_iload_n (by decide +kernel : decode cX0_liesAt 16 = .ok (.iload_n 3, 1)) rfl)) (zleaf_ok (zs_icmp_ne (t := 24) (by decide) (by decide +kernel : decode cX0_liesAt 17 = .ok (.if_icmp .ne 7, 3)))))) (znode_ok (znode_ok (zleaf_ok (zs_iconst (by decide) (by decide +kernel : decode cX0_liesAt 20 = .ok (.iconst 1, 1)))) (zleaf_ok (zs_goto (t := 25) (by decide) (by decide +kernel : decode cX0_liesAt 21 = .ok (.goto 4, 3))))) (znode_ok (zleaf_ok (zs_iconst (by decide) (by decide +kernel : decode cX0_liesAt 24 = .ok (.iconst 0, 1)))) (zleaf_ok (Or.inr (Or.inr (Or.inr (Or.inr (Or.inr ⟨rfl, rfl, (by decide +kernel : decode cX0_liesAt 25 = .ok (.ireturn, 1))⟩)))))))))
/-- Creasebook$Form.cellAt(III)I -/
def zc_X0_cellAt (pc : Nat) : Option zI := znode 23 pc (znode 12 pc (znode 5 pc (znode 1 pc (zleaf 0 pc (.inl (zS1 (zCst (.int 0) 1)))) (znode 3 pc (zleaf 1 pc (.inl (zSt1 zIsI 3 4))) (zleaf 3 pc (.inl (zLd zIsI 5 4))))) (znode 6 pc (zleaf 5 pc (.inl (zLd zIsA 6 0))) (znode 9 pc (zleaf 6 pc (.inl (zS2 (zGet 0 0 9)))) (zleaf 9 pc (.inl (zS1 (zIcmp (fun x y => decide (y ≤ x)) 43 12))))))) (znode 16 pc (znode 13 pc (zleaf 12 pc (.inl (zLd zIsA 13 0))) (znode 15 pc (zleaf 13 pc (.inl (zLd zIsI 15 4))) (zleaf 15 pc (.inl (zLd zIsI 16 1))))) (znode 17 pc (zleaf 16 pc (.inl (zLd zIsI 17 2))) (znode 20 pc (zleaf 17 pc (.inr (.inr (.inr (12, 4, 0))))) (zleaf 20 pc (.inl (zS1 (zIf (fun x => decide (x = 0)) 37 23)))))))) (znode 34 pc (znode 29 pc (znode 24 pc (zleaf 23 pc (.inl (zLd zIsA 24 0))) (znode 27 pc (zleaf 24 pc (.inl (zS2 (zGet 0 5 27)))) (zleaf 27 pc (.inl (zLd zIsI 29 4))))) (znode 30 pc (zleaf 29 pc (.inl (zS2 (zAldI 0 30)))) (znode 31 pc (zleaf 30 pc (.inl (zLd zIsI 31 3))) (zleaf 31 pc (.inl (zS1 (zIcmp (fun x y => decide (¬ x = y)) 37 34))))))) (znode 40 pc (znode 36 pc (zleaf 34 pc (.inl (zLd zIsI 36 4))) (znode 37 pc (zleaf 36 pc (.inr (.inl 1))) (zleaf 37 pc (.inl (zIinc 40 4 1))))) (znode 43 pc (zleaf 40 pc (.inl (zS1 (zGo 3)))) (znode 44 pc (zleaf 43 pc (.inl (zS1 (zCst (.int (-1)) 44)))) (zleaf 44 pc (.inr (.inl 1)))))))
theorem zk_X0_cellAt (O : Nat → State → Heap → Prop) (E : zE) (l : Launch) : ∀ pc i, zc_X0_cellAt pc = some i → zOK z_cl z_T z_G z_N O E z_yy z_bb z_nl z_cc z_rt z_hh l 13 pc i := fun pc => znode_ok (znode_ok (znode_ok (znode_ok (zleaf_ok (zs_iconst (by decide) (by decide +kernel : decode cX0_cellAt 0 = .ok (.iconst 0, 1)))) (znode_ok (zleaf_ok (zs_istore (Nat.le_of_ble_eq_true rfl) (by decide +kernel : decode cX0_cellAt 1 = .ok (.istore 4, 2)))) (zleaf_ok (zs_iload (by decide +kernel : decode cX0_cellAt 3 = .ok (.iload 4, 2)))))) (znode_ok (zleaf_ok (zs_aload_n (by decide +kernel : decode cX0_cellAt 5 = .ok (.aload_n 0, 1)) rfl)) (znode_ok (zleaf_ok (zs_get (C := RX0) (Tc := TX0) (Nc := 8) rfl zinX0 (Nat.le_of_ble_eq_true rfl) zw_10 (by decide +kernel : decode cX0_cellAt 6 = .ok (.getfield 28, 3)))) (zleaf_ok (zs_icmp_ge (t := 43) (by decide) (by decide +kernel : decode cX0_cellAt 9 = .ok (.if_icmp .ge 34, 3))))))) (znode_ok (znode_ok (zleaf_ok (zs_aload_n (by decide +kernel : decode cX0_cellAt 12 = .ok (.aload_n 0, 1)) rfl)) (znode_ok (zleaf_ok (zs_iload (by decide +kernel : decode cX0_cellAt 13 = .ok (.iload 4, 2)))) (zleaf_ok (zs_iload_n (by decide +kernel : decode cX0_cellAt 15 = .ok (.iload_n 1, 1)) rfl)))) (znode_ok (zleaf_ok (zs_iload_n (by decide +kernel : decode cX0_cellAt 16 = .ok (.iload_n 2, 1)) rfl)) (znode_ok (zleaf_ok (⟨zcs0 (n := 3) z_good zw_66 zw_14 zw_67 zw_68 zw_69 (by decide +kernel) (by decide +kernel : decode cX0_cellAt 17 = .ok (.invokevirtual 86, 3)), Nat.le_of_ble_eq_true rfl, by decide +kernel, (fun _ => ⟨TX0, 8, rfl⟩)⟩)) (zleaf_ok (zs_if_eq (t := 37) (by decide) (by decide +kernel : decode cX0_cellAt 20 = .ok (.ifCond .eq 17, 3)))))))) (znode_ok (znode_ok (znode_ok (zleaf_ok (zs_aload_n (by decide +kernel : decode cX0_cellAt 23 = .ok (.aload_n 0, 1)) rfl)) (znode_ok (zleaf_ok (zs_get (C := RX0) (Tc := TX0) (Nc := 8) rfl zinX0 (Nat.le_of_ble_eq_true rfl) zw_6 (by decide +kernel : decode cX0_cellAt 24 = .ok (.getfield 18, 3)))) (zleaf_ok (zs_iload (by decide +kernel : decode cX0_cellAt 27 = .ok (.iload 4, 2)))))) (znode_ok (zleaf_ok (zs_aldI rfl (by decide +kernel : decode cX0_cellAt 29 = .ok (.iaload, 1)))) (znode_ok (zleaf_ok (zs_iload_n (by decide +kernel : decode cX0_cellAt 30 = .ok (.iload_n 3, 1)) rfl)) (zleaf_ok (zs_icmp_ne (t := 37) (by decide) (by decide +kernel : decode cX0_cellAt 31 = .ok (.if_icmp .ne 6, 3))))))) (znode_ok (znode_ok (zleaf_ok (zs_iload (by decide +kernel : decode cX0_cellAt 34 = .ok (.iload 4, 2)))) (znode_ok (zleaf_ok (Or.inr (Or.inl ⟨rfl, rfl, (by decide +kernel : decode cX0_cellAt 36 = .ok (.ireturn, 1))⟩))) (zleaf_ok (zs_iinc (Nat.le_of_ble_eq_true rfl) (by decide) (by decide +kernel : decode cX0_cellAt 37 = .ok (.iinc 4 1, 3)))))) (znode_ok (zleaf_ok (zs_goto (t := 3) (by decide) (by decide +kernel : decode cX0_cellAt 40 = .ok (.goto (-37), 3)))) (znode_ok (zleaf_ok (zs_iconst (by decide) (by decide +kernel : decode cX0_cellAt 43 = .ok (.iconst (-1), 1)))) (zleaf_ok (Or.inr (Or.inl ⟨rfl, rfl, (by decide +kernel : decode cX0_cellAt 44 = .ok (.ireturn, 1))⟩)))))))
/-- Creasebook$Form.highestAt(II)I -/
def zc_X0_highestAt (pc : Nat) : Option zI := znode 5 pc (znode 2 pc (znode 1 pc (zleaf 0 pc (.inl (zLd zIsA 1 0))) (zleaf 1 pc (.inl (zLd zIsI 2 1)))) (znode 3 pc (zleaf 2 pc (.inl (zLd zIsI 3 2))) (znode 4 pc (zleaf 3 pc (.inl (zLd zIsA 4 0))) (zleaf 4 pc (.inl (zLd zIsI 5 1)))))) (znode 10 pc (znode 6 pc (zleaf 5 pc (.inl (zLd zIsI 6 2))) (znode 9 pc (zleaf 6 pc (.inr (.inr (.inr (11, 3, 0))))) (zleaf 9 pc (.inl (zS1 (zCst (.int 1) 10)))))) (znode 11 pc (zleaf 10 pc (.inl (zS1 (zII (fun x y => x - y) 11)))) (znode 14 pc (zleaf 11 pc (.inr (.inr (.inr (13, 4, 0))))) (zleaf 14 pc (.inr (.inl 1))))))
theorem zk_X0_highestAt (O : Nat → State → Heap → Prop) (E : zE) (l : Launch) : ∀ pc i, zc_X0_highestAt pc = some i → zOK z_cl z_T z_G z_N O E z_yy z_bb z_nl z_cc z_rt z_hh l 14 pc i := fun pc => znode_ok (znode_ok (znode_ok (zleaf_ok (zs_aload_n (by decide +kernel : decode cX0_highestAt 0 = .ok (.aload_n 0, 1)) rfl)) (zleaf_ok (zs_iload_n (by decide +kernel : decode cX0_highestAt 1 = .ok (.iload_n 1, 1)) rfl))) (znode_ok (zleaf_ok (zs_iload_n (by decide +kernel : decode cX0_highestAt 2 = .ok (.iload_n 2, 1)) rfl)) (znode_ok (zleaf_ok (zs_aload_n (by decide +kernel : decode cX0_highestAt 3 = .ok (.aload_n 0, 1)) rfl)) (zleaf_ok (zs_iload_n (by decide +kernel : decode cX0_highestAt 4 = .ok (.iload_n 1, 1)) rfl))))) (znode_ok (znode_ok (zleaf_ok (zs_iload_n (by decide +kernel : decode cX0_highestAt 5 = .ok (.iload_n 2, 1)) rfl)) (znode_ok (zleaf_ok (⟨zcs0 (n := 2) z_good zw_58 zw_14 zw_59 zw_60 zw_61 (by decide +kernel) (by decide +kernel : decode cX0_highestAt 6 = .ok (.invokevirtual 80, 3)), Nat.le_of_ble_eq_true rfl, by decide +kernel, (fun _ => ⟨TX0, 8, rfl⟩)⟩)) (zleaf_ok (zs_iconst (by decide) (by decide +kernel : decode cX0_highestAt 9 = .ok (.iconst 1, 1)))))) (znode_ok (zleaf_ok (zs_isub (by decide +kernel : decode cX0_highestAt 10 = .ok (.isub, 1)))) (znode_ok (zleaf_ok (⟨zcs0 (n := 3) z_good zw_70 zw_14 zw_71 zw_72 zw_73 (by decide +kernel) (by decide +kernel : decode cX0_highestAt 11 = .ok (.invokevirtual 90, 3)), Nat.le_of_ble_eq_true rfl, by decide +kernel, (fun _ => ⟨TX0, 8, rfl⟩)⟩)) (zleaf_ok (Or.inr (Or.inl ⟨rfl, rfl, (by decide +kernel : decode cX0_highestAt 14 = .ok (.ireturn, 1))⟩))))))
/-- Creasebook$Form.layerFromAbove(I)I -/
def zc_X0_layerFromAbove (pc : Nat) : Option zI := znode 13 pc (znode 6 pc (znode 2 pc (znode 1 pc (zleaf 0 pc (.inl (zLd zIsA 1 0))) (zleaf 1 pc (.inl (zLd zIsA 2 0)))) (znode 5 pc (zleaf 2 pc (.inl (zS2 (zGet 0 3 5)))) (zleaf 5 pc (.inl (zLd zIsI 6 1))))) (znode 8 pc (znode 7 pc (zleaf 6 pc (.inl (zS2 (zAldI 0 7)))) (zleaf 7 pc (.inl (zLd zIsA 8 0)))) (znode 11 pc (zleaf 8 pc (.inl (zS2 (zGet 0 4 11)))) (znode 12 pc (zleaf 11 pc (.inl (zLd zIsI 12 1))) (zleaf 12 pc (.inl (zS2 (zAldI 0 13)))))))) (znode 19 pc (znode 17 pc (znode 16 pc (zleaf 13 pc (.inr (.inr (.inr (11, 3, 0))))) (zleaf 16 pc (.inl (zS1 (zCst (.int 1) 17))))) (znode 18 pc (zleaf 17 pc (.inl (zS1 (zII (fun x y => x - y) 18)))) (zleaf 18 pc (.inl (zLd zIsA 19 0))))) (znode 23 pc (znode 22 pc (zleaf 19 pc (.inl (zS2 (zGet 0 5 22)))) (zleaf 22 pc (.inl (zLd zIsI 23 1)))) (znode 24 pc (zleaf 23 pc (.inl (zS2 (zAldI 0 24)))) (znode 25 pc (zleaf 24 pc (.inl (zS1 (zII (fun x y => x - y) 25)))) (zleaf 25 pc (.inr (.inl 1)))))))
theorem zk_X0_layerFromAbove (O : Nat → State → Heap → Prop) (E : zE) (l : Launch) : ∀ pc i, zc_X0_layerFromAbove pc = some i → zOK z_cl z_T z_G z_N O E z_yy z_bb z_nl z_cc z_rt z_hh l 15 pc i := fun pc => znode_ok (znode_ok (znode_ok (znode_ok (zleaf_ok (zs_aload_n (by decide +kernel : decode cX0_layerFromAbove 0 = .ok (.aload_n 0, 1)) rfl)) (zleaf_ok (zs_aload_n (by decide +kernel : decode cX0_layerFromAbove 1 = .ok (.aload_n 0, 1)) rfl))) (znode_ok (zleaf_ok (zs_get (C := RX0) (Tc := TX0) (Nc := 8) rfl zinX0 (Nat.le_of_ble_eq_true rfl) zw_4 (by decide +kernel : decode cX0_layerFromAbove 2 = .ok (.getfield 9, 3)))) (zleaf_ok (zs_iload_n (by decide +kernel : decode cX0_layerFromAbove 5 = .ok (.iload_n 1, 1)) rfl)))) (znode_ok (znode_ok (zleaf_ok (zs_aldI rfl (by decide +kernel : decode cX0_layerFromAbove 6 = .ok (.iaload, 1)))) (zleaf_ok (zs_aload_n (by decide +kernel : decode cX0_layerFromAbove 7 = .ok (.aload_n 0, 1)) rfl))) (znode_ok (zleaf_ok (zs_get (C := RX0) (Tc := TX0) (Nc := 8) rfl zinX0 (Nat.le_of_ble_eq_true rfl) zw_5 (by decide +kernel : decode cX0_layerFromAbove 8 = .ok (.getfield 15, 3)))) (znode_ok (zleaf_ok (zs_iload_n (by decide +kernel : decode cX0_layerFromAbove 11 = .ok (.iload_n 1, 1)) rfl)) (zleaf_ok (zs_aldI rfl (by decide +kernel : decode cX0_layerFromAbove 12 = .ok (.iaload, 1)))))))) (znode_ok (znode_ok (znode_ok (zleaf_ok (⟨zcs0 (n := 2) z_good zw_58 zw_14 zw_59 zw_60 zw_61 (by decide +kernel) (by decide +kernel : decode cX0_layerFromAbove 13 = .ok (.invokevirtual 80, 3)), Nat.le_of_ble_eq_true rfl, by decide +kernel, (fun _ => ⟨TX0, 8, rfl⟩)⟩)) (zleaf_ok (zs_iconst (by decide) (by decide +kernel : decode cX0_layerFromAbove 16 = .ok (.iconst 1, 1))))) (znode_ok (zleaf_ok (zs_isub (by decide +kernel : decode cX0_layerFromAbove 17 = .ok (.isub, 1)))) (zleaf_ok (zs_aload_n (by decide +kernel : decode cX0_layerFromAbove 18 = .ok (.aload_n 0, 1)) rfl)))) (znode_ok (znode_ok (zleaf_ok (zs_get (C := RX0) (Tc := TX0) (Nc := 8) rfl zinX0 (Nat.le_of_ble_eq_true rfl) zw_6 (by decide +kernel : decode cX0_layerFromAbove 19 = .ok (.getfield 18, 3)))) (zleaf_ok (zs_iload_n (by decide +kernel : decode cX0_layerFromAbove 22 = .ok (.iload_n 1, 1)) rfl))) (znode_ok (zleaf_ok (zs_aldI rfl (by decide +kernel : decode cX0_layerFromAbove 23 = .ok (.iaload, 1)))) (znode_ok (zleaf_ok (zs_isub (by decide +kernel : decode cX0_layerFromAbove 24 = .ok (.isub, 1)))) (zleaf_ok (Or.inr (Or.inl ⟨rfl, rfl, (by decide +kernel : decode cX0_layerFromAbove 25 = .ok (.ireturn, 1))⟩)))))))
/-- Creasebook$Form.isOutermost(IZ)Z -/
def zc_X0_isOutermost (pc : Nat) : Option zI := znode 13 pc (znode 5 pc (znode 1 pc (zleaf 0 pc (.inl (zLd zIsI 1 2))) (znode 4 pc (zleaf 1 pc (.inl (zS1 (zIf (fun x => decide (x = 0)) 12 4)))) (zleaf 4 pc (.inl (zLd zIsA 5 0))))) (znode 9 pc (znode 6 pc (zleaf 5 pc (.inl (zLd zIsI 6 1))) (zleaf 6 pc (.inr (.inr (.inr (15, 2, 0)))))) (znode 12 pc (zleaf 9 pc (.inl (zS1 (zGo 18)))) (zleaf 12 pc (.inl (zLd zIsA 13 0)))))) (znode 21 pc (znode 17 pc (znode 16 pc (zleaf 13 pc (.inl (zS2 (zGet 0 5 16)))) (zleaf 16 pc (.inl (zLd zIsI 17 1)))) (znode 18 pc (zleaf 17 pc (.inl (zS2 (zAldI 0 18)))) (zleaf 18 pc (.inl (zS1 (zIf (fun x => decide (¬ x = 0)) 25 21)))))) (znode 25 pc (znode 22 pc (zleaf 21 pc (.inl (zS1 (zCst (.int 1) 22)))) (zleaf 22 pc (.inl (zS1 (zGo 26))))) (znode 26 pc (zleaf 25 pc (.inl (zS1 (zCst (.int 0) 26)))) (zleaf 26 pc (.inr (.inl 5))))))
theorem zk_X0_isOutermost (O : Nat → State → Heap → Prop) (E : zE) (l : Launch) : ∀ pc i, zc_X0_isOutermost pc = some i → zOK z_cl z_T z_G z_N O E z_yy z_bb z_nl z_cc z_rt z_hh l 16 pc i := fun pc => znode_ok (znode_ok (znode_ok (zleaf_ok (zs_iload_n (by decide +kernel : decode cX0_isOutermost 0 = .ok (.iload_n 2, 1)) rfl)) (znode_ok (zleaf_ok (zs_if_eq (t := 12) (by decide) (by decide +kernel : decode cX0_isOutermost 1 = .ok (.ifCond .eq 11, 3)))) (zleaf_ok (zs_aload_n (by decide +kernel : decode cX0_isOutermost 4 = .ok (.aload_n 0, 1)) rfl)))) (znode_ok (znode_ok (zleaf_ok (zs_iload_n (by decide +kernel : decode cX0_isOutermost 5 = .ok (.iload_n 1, 1)) rfl)) (zleaf_ok (⟨zcs0 (n := 1) z_good zw_51 zw_14 zw_52 zw_53 zw_54 (by decide +kernel) (by decide +kernel : decode cX0_isOutermost 6 = .ok (.invokevirtual 74, 3)), Nat.le_of_ble_eq_true rfl, by decide +kernel, (fun _ => ⟨TX0, 8, rfl⟩)⟩))) (znode_ok (zleaf_ok (zs_goto (t := 18) (by decide) (by decide +kernel : decode cX0_isOutermost 9 = .ok (.goto 9, 3)))) (zleaf_ok (zs_aload_n (by decide +kernel : decode cX0_isOutermost 12 = .ok (.aload_n 0, 1)) rfl))))) (znode_ok (znode_ok (znode_ok (zleaf_ok (zs_get (C := RX0) (Tc := TX0) (Nc := 8) rfl zinX0 (Nat.le_of_ble_eq_true rfl) zw_6 (by decide +kernel : decode cX0_isOutermost 13 = .ok (.getfield 18, 3)))) (zleaf_ok (zs_iload_n (by decide +kernel : decode cX0_isOutermost 16 = .ok (.iload_n 1, 1)) rfl))) (znode_ok (zleaf_ok (zs_aldI rfl (by decide +kernel : decode cX0_isOutermost 17 = .ok (.iaload, 1)))) (zleaf_ok (zs_if_ne (t := 25) (by decide) (by decide +kernel : decode cX0_isOutermost 18 = .ok (.ifCond .ne 7, 3)))))) (znode_ok (znode_ok (zleaf_ok (zs_iconst (by decide) (by decide +kernel : decode cX0_isOutermost 21 = .ok (.iconst 1, 1)))) (zleaf_ok (zs_goto (t := 26) (by decide) (by decide +kernel : decode cX0_isOutermost 22 = .ok (.goto 4, 3))))) (znode_ok (zleaf_ok (zs_iconst (by decide) (by decide +kernel : decode cX0_isOutermost 25 = .ok (.iconst 0, 1)))) (zleaf_ok (Or.inr (Or.inr (Or.inr (Or.inr (Or.inr ⟨rfl, rfl, (by decide +kernel : decode cX0_isOutermost 26 = .ok (.ireturn, 1))⟩)))))))))
/-- Creasebook$Form.isFrontUp(I)Z -/
def zc_X0_isFrontUp (pc : Nat) : Option zI := znode 13 pc (znode 5 pc (znode 1 pc (zleaf 0 pc (.inl (zLd zIsI 1 1))) (znode 4 pc (zleaf 1 pc (.inl (zS1 (zIf (fun x => decide (x < 0)) 25 4)))) (zleaf 4 pc (.inl (zLd zIsI 5 1))))) (znode 9 pc (znode 6 pc (zleaf 5 pc (.inl (zLd zIsA 6 0))) (zleaf 6 pc (.inl (zS2 (zGet 0 0 9))))) (znode 12 pc (zleaf 9 pc (.inl (zS1 (zIcmp (fun x y => decide (y ≤ x)) 25 12)))) (zleaf 12 pc (.inl (zLd zIsA 13 0)))))) (znode 21 pc (znode 17 pc (znode 16 pc (zleaf 13 pc (.inl (zS2 (zGet 0 6 16)))) (zleaf 16 pc (.inl (zLd zIsI 17 1)))) (znode 18 pc (zleaf 17 pc (.inl (zS2 (zAldZ 1 18)))) (zleaf 18 pc (.inl (zS1 (zIf (fun x => decide (x = 0)) 25 21)))))) (znode 25 pc (znode 22 pc (zleaf 21 pc (.inl (zS1 (zCst (.int 1) 22)))) (zleaf 22 pc (.inl (zS1 (zGo 26))))) (znode 26 pc (zleaf 25 pc (.inl (zS1 (zCst (.int 0) 26)))) (zleaf 26 pc (.inr (.inl 5))))))
theorem zk_X0_isFrontUp (O : Nat → State → Heap → Prop) (E : zE) (l : Launch) : ∀ pc i, zc_X0_isFrontUp pc = some i → zOK z_cl z_T z_G z_N O E z_yy z_bb z_nl z_cc z_rt z_hh l 17 pc i := fun pc => znode_ok (znode_ok (znode_ok (zleaf_ok (zs_iload_n (by decide +kernel : decode cX0_isFrontUp 0 = .ok (.iload_n 1, 1)) rfl)) (znode_ok (zleaf_ok (zs_if_lt (t := 25) (by decide) (by decide +kernel : decode cX0_isFrontUp 1 = .ok (.ifCond .lt 24, 3)))) (zleaf_ok (zs_iload_n (by decide +kernel : decode cX0_isFrontUp 4 = .ok (.iload_n 1, 1)) rfl)))) (znode_ok (znode_ok (zleaf_ok (zs_aload_n (by decide +kernel : decode cX0_isFrontUp 5 = .ok (.aload_n 0, 1)) rfl)) (zleaf_ok (zs_get (C := RX0) (Tc := TX0) (Nc := 8) rfl zinX0 (Nat.le_of_ble_eq_true rfl) zw_10 (by decide +kernel : decode cX0_isFrontUp 6 = .ok (.getfield 28, 3))))) (znode_ok (zleaf_ok (zs_icmp_ge (t := 25) (by decide) (by decide +kernel : decode cX0_isFrontUp 9 = .ok (.if_icmp .ge 16, 3)))) (zleaf_ok (zs_aload_n (by decide +kernel : decode cX0_isFrontUp 12 = .ok (.aload_n 0, 1)) rfl))))) (znode_ok (znode_ok (znode_ok (zleaf_ok (zs_get (C := RX0) (Tc := TX0) (Nc := 8) rfl zinX0 (Nat.le_of_ble_eq_true rfl) zw_8 (by decide +kernel : decode cX0_isFrontUp 13 = .ok (.getfield 21, 3)))) (zleaf_ok (zs_iload_n (by decide +kernel : decode cX0_isFrontUp 16 = .ok (.iload_n 1, 1)) rfl))) (znode_ok (zleaf_ok (zs_aldZ rfl (by decide +kernel : decode cX0_isFrontUp 17 = .ok (.baload, 1)))) (zleaf_ok (zs_if_eq (t := 25) (by decide) (by decide +kernel : decode cX0_isFrontUp 18 = .ok (.ifCond .eq 7, 3)))))) (znode_ok (znode_ok (zleaf_ok (zs_iconst (by decide) (by decide +kernel : decode cX0_isFrontUp 21 = .ok (.iconst 1, 1)))) (zleaf_ok (zs_goto (t := 26) (by decide) (by decide +kernel : decode cX0_isFrontUp 22 = .ok (.goto 4, 3))))) (znode_ok (zleaf_ok (zs_iconst (by decide) (by decide +kernel : decode cX0_isFrontUp 25 = .ok (.iconst 0, 1)))) (zleaf_ok (Or.inr (Or.inr (Or.inr (Or.inr (Or.inr ⟨rfl, rfl, (by decide +kernel : decode cX0_isFrontUp 26 = .ok (.ireturn, 1))⟩)))))))))
/-- Creasebook$Form.isJustUpon(II)Z -/
def zc_X0_isJustUpon (pc : Nat) : Option zI := znode 21 pc (znode 8 pc (znode 3 pc (znode 1 pc (zleaf 0 pc (.inl (zLd zIsA 1 0))) (znode 2 pc (zleaf 1 pc (.inl (zLd zIsI 2 2))) (zleaf 2 pc (.inl (zLd zIsA 3 0))))) (znode 6 pc (zleaf 3 pc (.inl (zS2 (zGet 0 3 6)))) (znode 7 pc (zleaf 6 pc (.inl (zLd zIsI 7 1))) (zleaf 7 pc (.inl (zS2 (zAldI 0 8))))))) (znode 13 pc (znode 9 pc (zleaf 8 pc (.inl (zLd zIsA 9 0))) (znode 12 pc (zleaf 9 pc (.inl (zS2 (zGet 0 4 12)))) (zleaf 12 pc (.inl (zLd zIsI 13 1))))) (znode 17 pc (znode 14 pc (zleaf 13 pc (.inl (zS2 (zAldI 0 14)))) (zleaf 14 pc (.inr (.inr (.inr (12, 4, 0)))))) (znode 20 pc (zleaf 17 pc (.inl (zS1 (zIf (fun x => decide (x = 0)) 41 20)))) (zleaf 20 pc (.inl (zLd zIsA 21 0))))))) (znode 32 pc (znode 26 pc (znode 24 pc (zleaf 21 pc (.inl (zS2 (zGet 0 5 24)))) (znode 25 pc (zleaf 24 pc (.inl (zLd zIsI 25 2))) (zleaf 25 pc (.inl (zS2 (zAldI 0 26)))))) (znode 30 pc (znode 27 pc (zleaf 26 pc (.inl (zLd zIsA 27 0))) (zleaf 27 pc (.inl (zS2 (zGet 0 5 30))))) (znode 31 pc (zleaf 30 pc (.inl (zLd zIsI 31 1))) (zleaf 31 pc (.inl (zS2 (zAldI 0 32))))))) (znode 37 pc (znode 33 pc (zleaf 32 pc (.inl (zS1 (zCst (.int 1) 33)))) (znode 34 pc (zleaf 33 pc (.inl (zS1 (zII (fun x y => x + y) 34)))) (zleaf 34 pc (.inl (zS1 (zIcmp (fun x y => decide (¬ x = y)) 41 37)))))) (znode 41 pc (znode 38 pc (zleaf 37 pc (.inl (zS1 (zCst (.int 1) 38)))) (zleaf 38 pc (.inl (zS1 (zGo 42))))) (znode 42 pc (zleaf 41 pc (.inl (zS1 (zCst (.int 0) 42)))) (zleaf 42 pc (.inr (.inl 5)))))))
theorem zk_X0_isJustUpon (O : Nat → State → Heap → Prop) (E : zE) (l : Launch) : ∀ pc i, zc_X0_isJustUpon pc = some i → zOK z_cl z_T z_G z_N O E z_yy z_bb z_nl z_cc z_rt z_hh l 18 pc i := fun pc => znode_ok (znode_ok (znode_ok (znode_ok (zleaf_ok (zs_aload_n (by decide +kernel : decode cX0_isJustUpon 0 = .ok (.aload_n 0, 1)) rfl)) (znode_ok (zleaf_ok (zs_iload_n (by decide +kernel : decode cX0_isJustUpon 1 = .ok (.iload_n 2, 1)) rfl)) (zleaf_ok (zs_aload_n (by decide +kernel : decode cX0_isJustUpon 2 = .ok (.aload_n 0, 1)) rfl)))) (znode_ok (zleaf_ok (zs_get (C := RX0) (Tc := TX0) (Nc := 8) rfl zinX0 (Nat.le_of_ble_eq_true rfl) zw_4 (by decide +kernel : decode cX0_isJustUpon 3 = .ok (.getfield 9, 3)))) (znode_ok (zleaf_ok (zs_iload_n (by decide +kernel : decode cX0_isJustUpon 6 = .ok (.iload_n 1, 1)) rfl)) (zleaf_ok (zs_aldI rfl (by decide +kernel : decode cX0_isJustUpon 7 = .ok (.iaload, 1))))))) (znode_ok (znode_ok (zleaf_ok (zs_aload_n (by decide +kernel : decode cX0_isJustUpon 8 = .ok (.aload_n 0, 1)) rfl)) (znode_ok (zleaf_ok (zs_get (C := RX0) (Tc := TX0) (Nc := 8) rfl zinX0 (Nat.le_of_ble_eq_true rfl) zw_5 (by decide +kernel : decode cX0_isJustUpon 9 = .ok (.getfield 15, 3)))) (zleaf_ok (zs_iload_n (by decide +kernel : decode cX0_isJustUpon 12 = .ok (.iload_n 1, 1)) rfl)))) (znode_ok (znode_ok (zleaf_ok (zs_aldI rfl (by decide +kernel : decode cX0_isJustUpon 13 = .ok (.iaload, 1)))) (zleaf_ok (⟨zcs0 (n := 3) z_good zw_66 zw_14 zw_67 zw_68 zw_69 (by decide +kernel) (by decide +kernel : decode cX0_isJustUpon 14 = .ok (.invokevirtual 86, 3)), Nat.le_of_ble_eq_true rfl, by decide +kernel, (fun _ => ⟨TX0, 8, rfl⟩)⟩))) (znode_ok (zleaf_ok (zs_if_eq (t := 41) (by decide) (by decide +kernel : decode cX0_isJustUpon 17 = .ok (.ifCond .eq 24, 3)))) (zleaf_ok (zs_aload_n (by decide +kernel : decode cX0_isJustUpon 20 = .ok (.aload_n 0, 1)) rfl)))))) (znode_ok (znode_ok (znode_ok (zleaf_ok (zs_get (C := RX0) (Tc := TX0) (Nc := 8) rfl zinX0 (Nat.le_of_ble_eq_true rfl) zw_6 (by decide +kernel : decode cX0_isJustUpon 21 = .ok (.getfield 18, 3)))) (znode_ok (zleaf_ok (zs_iload_n (by decide +kernel : decode cX0_isJustUpon 24 = .ok (.iload_n 2, 1)) rfl)) (zleaf_ok (zs_aldI rfl (by decide +kernel : decode cX0_isJustUpon 25 = .ok (.iaload, 1)))))) (znode_ok (znode_ok (zleaf_ok (zs_aload_n (by decide +kernel : decode cX0_isJustUpon 26 = .ok (.aload_n 0, 1)) rfl)) (zleaf_ok (zs_get (C := RX0) (Tc := TX0) (Nc := 8) rfl zinX0 (Nat.le_of_ble_eq_true rfl) zw_6 (by decide +kernel : decode cX0_isJustUpon 27 = .ok (.getfield 18, 3))))) (znode_ok (zleaf_ok (zs_iload_n (by decide +kernel : decode cX0_isJustUpon 30 = .ok (.iload_n 1, 1)) rfl)) (zleaf_ok (zs_aldI rfl (by decide +kernel : decode cX0_isJustUpon 31 = .ok (.iaload, 1))))))) (znode_ok (znode_ok (zleaf_ok (zs_iconst (by decide) (by decide +kernel : decode cX0_isJustUpon 32 = .ok (.iconst 1, 1)))) (znode_ok (zleaf_ok (zs_iadd (by decide +kernel : decode cX0_isJustUpon 33 = .ok (.iadd, 1)))) (zleaf_ok (zs_icmp_ne (t := 41) (by decide) (by decide +kernel : decode cX0_isJustUpon 34 = .ok (.if_icmp .ne 7, 3)))))) (znode_ok (znode_ok (zleaf_ok (zs_iconst (by decide) (by decide +kernel : decode cX0_isJustUpon 37 = .ok (.iconst 1, 1)))) (zleaf_ok (zs_goto (t := 42) (by decide) (by decide +kernel : decode cX0_isJustUpon 38 = .ok (.goto 4, 3))))) (znode_ok (zleaf_ok (zs_iconst (by decide) (by decide +kernel : decode cX0_isJustUpon 41 = .ok (.iconst 0, 1)))) (zleaf_ok (Or.inr (Or.inr (Or.inr (Or.inr (Or.inr ⟨rfl, rfl, (by decide +kernel : decode cX0_isJustUpon 42 = .ok (.ireturn, 1))⟩))))))))))
/-- Creasebook$Form.goes(II)Z -/
def zc_X0_goes (pc : Nat) : Option zI := znode 23 pc (znode 12 pc (znode 7 pc (znode 1 pc (zleaf 0 pc (.inl (zLd zIsI 1 2))) (znode 4 pc (zleaf 1 pc (.inr (.inr (.inr (87, 1, 3))))) (zleaf 4 pc (.inl (zS1 (zIf (fun x => decide (¬ x = 0)) 16 7)))))) (znode 8 pc (zleaf 7 pc (.inl (zLd zIsA 8 0))) (znode 11 pc (zleaf 8 pc (.inl (zS2 (zGet 0 3 11)))) (zleaf 11 pc (.inl (zLd zIsI 12 1)))))) (znode 17 pc (znode 13 pc (zleaf 12 pc (.inl (zS2 (zAldI 0 13)))) (znode 16 pc (zleaf 13 pc (.inl (zS1 (zGo 22)))) (zleaf 16 pc (.inl (zLd zIsA 17 0))))) (znode 21 pc (znode 20 pc (zleaf 17 pc (.inl (zS2 (zGet 0 4 20)))) (zleaf 20 pc (.inl (zLd zIsI 21 1)))) (znode 22 pc (zleaf 21 pc (.inl (zS2 (zAldI 0 22)))) (zleaf 22 pc (.inl (zSt1 zIsI 23 3))))))) (znode 36 pc (znode 28 pc (znode 24 pc (zleaf 23 pc (.inl (zLd zIsI 24 2))) (znode 27 pc (zleaf 24 pc (.inr (.inr (.inr (88, 1, 3))))) (zleaf 27 pc (.inl (zLd zIsI 28 3))))) (znode 32 pc (znode 29 pc (zleaf 28 pc (.inl (zLd zIsI 29 2))) (zleaf 29 pc (.inr (.inr (.inr (86, 1, 3)))))) (znode 35 pc (zleaf 32 pc (.inl (zS1 (zIcmp (fun x y => decide (x < y)) 39 35)))) (zleaf 35 pc (.inl (zS1 (zCst (.int 1) 36))))))) (znode 43 pc (znode 39 pc (zleaf 36 pc (.inl (zS1 (zGo 40)))) (znode 40 pc (zleaf 39 pc (.inl (zS1 (zCst (.int 0) 40)))) (zleaf 40 pc (.inl (zS1 (zIcmp (fun x y => decide (¬ x = y)) 47 43)))))) (znode 47 pc (znode 44 pc (zleaf 43 pc (.inl (zS1 (zCst (.int 1) 44)))) (zleaf 44 pc (.inl (zS1 (zGo 48))))) (znode 48 pc (zleaf 47 pc (.inl (zS1 (zCst (.int 0) 48)))) (zleaf 48 pc (.inr (.inl 5)))))))
theorem zk_X0_goes (O : Nat → State → Heap → Prop) (E : zE) (l : Launch) : ∀ pc i, zc_X0_goes pc = some i → zOK z_cl z_T z_G z_N O E z_yy z_bb z_nl z_cc z_rt z_hh l 19 pc i := fun pc => znode_ok (znode_ok (znode_ok (znode_ok (zleaf_ok (zs_iload_n (by decide +kernel : decode cX0_goes 0 = .ok (.iload_n 2, 1)) rfl)) (znode_ok (zleaf_ok (⟨zcs3 (n := 1) z_good zw_18 zw_19 zw_20 zw_21 (by decide +kernel) (by decide +kernel : decode cX0_goes 1 = .ok (.invokestatic 41, 3)), Nat.le_of_ble_eq_true rfl, by decide +kernel, (fun h => absurd rfl (h.2.1))⟩)) (zleaf_ok (zs_if_ne (t := 16) (by decide) (by decide +kernel : decode cX0_goes 4 = .ok (.ifCond .ne 12, 3)))))) (znode_ok (zleaf_ok (zs_aload_n (by decide +kernel : decode cX0_goes 7 = .ok (.aload_n 0, 1)) rfl)) (znode_ok (zleaf_ok (zs_get (C := RX0) (Tc := TX0) (Nc := 8) rfl zinX0 (Nat.le_of_ble_eq_true rfl) zw_4 (by decide +kernel : decode cX0_goes 8 = .ok (.getfield 9, 3)))) (zleaf_ok (zs_iload_n (by decide +kernel : decode cX0_goes 11 = .ok (.iload_n 1, 1)) rfl))))) (znode_ok (znode_ok (zleaf_ok (zs_aldI rfl (by decide +kernel : decode cX0_goes 12 = .ok (.iaload, 1)))) (znode_ok (zleaf_ok (zs_goto (t := 22) (by decide) (by decide +kernel : decode cX0_goes 13 = .ok (.goto 9, 3)))) (zleaf_ok (zs_aload_n (by decide +kernel : decode cX0_goes 16 = .ok (.aload_n 0, 1)) rfl)))) (znode_ok (znode_ok (zleaf_ok (zs_get (C := RX0) (Tc := TX0) (Nc := 8) rfl zinX0 (Nat.le_of_ble_eq_true rfl) zw_5 (by decide +kernel : decode cX0_goes 17 = .ok (.getfield 15, 3)))) (zleaf_ok (zs_iload_n (by decide +kernel : decode cX0_goes 20 = .ok (.iload_n 1, 1)) rfl))) (znode_ok (zleaf_ok (zs_aldI rfl (by decide +kernel : decode cX0_goes 21 = .ok (.iaload, 1)))) (zleaf_ok (zs_istore_n (Nat.le_of_ble_eq_true rfl) (by decide +kernel : decode cX0_goes 22 = .ok (.istore_n 3, 1)) rfl)))))) (znode_ok (znode_ok (znode_ok (zleaf_ok (zs_iload_n (by decide +kernel : decode cX0_goes 23 = .ok (.iload_n 2, 1)) rfl)) (znode_ok (zleaf_ok (⟨zcs3 (n := 1) z_good zw_25 zw_19 zw_26 zw_27 (by decide +kernel) (by decide +kernel : decode cX0_goes 24 = .ok (.invokestatic 48, 3)), Nat.le_of_ble_eq_true rfl, by decide +kernel, (fun h => absurd rfl (h.2.1))⟩)) (zleaf_ok (zs_iload_n (by decide +kernel : decode cX0_goes 27 = .ok (.iload_n 3, 1)) rfl)))) (znode_ok (znode_ok (zleaf_ok (zs_iload_n (by decide +kernel : decode cX0_goes 28 = .ok (.iload_n 2, 1)) rfl)) (zleaf_ok (⟨zcs3 (n := 1) z_good zw_22 zw_19 zw_23 zw_24 (by decide +kernel) (by decide +kernel : decode cX0_goes 29 = .ok (.invokestatic 45, 3)), Nat.le_of_ble_eq_true rfl, by decide +kernel, (fun h => absurd rfl (h.2.1))⟩))) (znode_ok (zleaf_ok (zs_icmp_lt (t := 39) (by decide) (by decide +kernel : decode cX0_goes 32 = .ok (.if_icmp .lt 7, 3)))) (zleaf_ok (zs_iconst (by decide) (by decide +kernel : decode cX0_goes 35 = .ok (.iconst 1, 1))))))) (znode_ok (znode_ok (zleaf_ok (zs_goto (t := 40) (by decide) (by decide +kernel : decode cX0_goes 36 = .ok (.goto 4, 3)))) (znode_ok (zleaf_ok (zs_iconst (by decide) (by decide +kernel : decode cX0_goes 39 = .ok (.iconst 0, 1)))) (zleaf_ok (zs_icmp_ne (t := 47) (by decide) (by decide +kernel : decode cX0_goes 40 = .ok (.if_icmp .ne 7, 3)))))) (znode_ok (znode_ok (zleaf_ok (zs_iconst (by decide) (by decide +kernel : decode cX0_goes 43 = .ok (.iconst 1, 1)))) (zleaf_ok (zs_goto (t := 48) (by decide) (by decide +kernel : decode cX0_goes 44 = .ok (.goto 4, 3))))) (znode_ok (zleaf_ok (zs_iconst (by decide) (by decide +kernel : decode cX0_goes 47 = .ok (.iconst 0, 1)))) (zleaf_ok (Or.inr (Or.inr (Or.inr (Or.inr (Or.inr ⟨rfl, rfl, (by decide +kernel : decode cX0_goes 48 = .ok (.ireturn, 1))⟩))))))))))
/-- Creasebook$Form.mirroredColumn(II)I -/
def zc_X0_mirroredColumn (pc : Nat) : Option zI := znode 16 pc (znode 9 pc (znode 4 pc (znode 1 pc (zleaf 0 pc (.inl (zLd zIsI 1 2))) (zleaf 1 pc (.inr (.inr (.inr (87, 1, 3)))))) (znode 7 pc (zleaf 4 pc (.inl (zS1 (zIf (fun x => decide (¬ x = 0)) 25 7)))) (znode 8 pc (zleaf 7 pc (.inl (zS1 (zCst (.int 2) 8)))) (zleaf 8 pc (.inl (zLd zIsI 9 2)))))) (znode 13 pc (znode 12 pc (zleaf 9 pc (.inr (.inr (.inr (86, 1, 3))))) (zleaf 12 pc (.inl (zS1 (zII (fun x y => x * y) 13))))) (znode 14 pc (zleaf 13 pc (.inl (zS1 (zCst (.int 1) 14)))) (znode 15 pc (zleaf 14 pc (.inl (zS1 (zII (fun x y => x - y) 15)))) (zleaf 15 pc (.inl (zLd zIsA 16 0))))))) (znode 25 pc (znode 20 pc (znode 19 pc (zleaf 16 pc (.inl (zS2 (zGet 0 3 19)))) (zleaf 19 pc (.inl (zLd zIsI 20 1)))) (znode 21 pc (zleaf 20 pc (.inl (zS2 (zAldI 0 21)))) (znode 22 pc (zleaf 21 pc (.inl (zS1 (zII (fun x y => x - y) 22)))) (zleaf 22 pc (.inl (zS1 (zGo 31))))))) (znode 29 pc (znode 26 pc (zleaf 25 pc (.inl (zLd zIsA 26 0))) (zleaf 26 pc (.inl (zS2 (zGet 0 3 29))))) (znode 30 pc (zleaf 29 pc (.inl (zLd zIsI 30 1))) (znode 31 pc (zleaf 30 pc (.inl (zS2 (zAldI 0 31)))) (zleaf 31 pc (.inr (.inl 1)))))))
theorem zk_X0_mirroredColumn (O : Nat → State → Heap → Prop) (E : zE) (l : Launch) : ∀ pc i, zc_X0_mirroredColumn pc = some i → zOK z_cl z_T z_G z_N O E z_yy z_bb z_nl z_cc z_rt z_hh l 20 pc i := fun pc => znode_ok (znode_ok (znode_ok (znode_ok (zleaf_ok (zs_iload_n (by decide +kernel : decode cX0_mirroredColumn 0 = .ok (.iload_n 2, 1)) rfl)) (zleaf_ok (⟨zcs3 (n := 1) z_good zw_18 zw_19 zw_20 zw_21 (by decide +kernel) (by decide +kernel : decode cX0_mirroredColumn 1 = .ok (.invokestatic 41, 3)), Nat.le_of_ble_eq_true rfl, by decide +kernel, (fun h => absurd rfl (h.2.1))⟩))) (znode_ok (zleaf_ok (zs_if_ne (t := 25) (by decide) (by decide +kernel : decode cX0_mirroredColumn 4 = .ok (.ifCond .ne 21, 3)))) (znode_ok (zleaf_ok (zs_iconst (by decide) (by decide +kernel : decode cX0_mirroredColumn 7 = .ok (.iconst 2, 1)))) (zleaf_ok (zs_iload_n (by decide +kernel : decode cX0_mirroredColumn 8 = .ok (.iload_n 2, 1)) rfl))))) (znode_ok (znode_ok (zleaf_ok (⟨zcs3 (n := 1) z_good zw_22 zw_19 zw_23 zw_24 (by decide +kernel) (by decide +kernel : decode cX0_mirroredColumn 9 = .ok (.invokestatic 45, 3)), Nat.le_of_ble_eq_true rfl, by decide +kernel, (fun h => absurd rfl (h.2.1))⟩)) (zleaf_ok (zs_imul (by decide +kernel : decode cX0_mirroredColumn 12 = .ok (.imul, 1))))) (znode_ok (zleaf_ok (zs_iconst (by decide) (by decide +kernel : decode cX0_mirroredColumn 13 = .ok (.iconst 1, 1)))) (znode_ok (zleaf_ok (zs_isub (by decide +kernel : decode cX0_mirroredColumn 14 = .ok (.isub, 1)))) (zleaf_ok (zs_aload_n (by decide +kernel : decode cX0_mirroredColumn 15 = .ok (.aload_n 0, 1)) rfl)))))) (znode_ok (znode_ok (znode_ok (zleaf_ok (zs_get (C := RX0) (Tc := TX0) (Nc := 8) rfl zinX0 (Nat.le_of_ble_eq_true rfl) zw_4 (by decide +kernel : decode cX0_mirroredColumn 16 = .ok (.getfield 9, 3)))) (zleaf_ok (zs_iload_n (by decide +kernel : decode cX0_mirroredColumn 19 = .ok (.iload_n 1, 1)) rfl))) (znode_ok (zleaf_ok (zs_aldI rfl (by decide +kernel : decode cX0_mirroredColumn 20 = .ok (.iaload, 1)))) (znode_ok (zleaf_ok (zs_isub (by decide +kernel : decode cX0_mirroredColumn 21 = .ok (.isub, 1)))) (zleaf_ok (zs_goto (t := 31) (by decide) (by decide +kernel : decode cX0_mirroredColumn 22 = .ok (.goto 9, 3))))))) (znode_ok (znode_ok (zleaf_ok (zs_aload_n (by decide +kernel : decode cX0_mirroredColumn 25 = .ok (.aload_n 0, 1)) rfl)) (zleaf_ok (zs_get (C := RX0) (Tc := TX0) (Nc := 8) rfl zinX0 (Nat.le_of_ble_eq_true rfl) zw_4 (by decide +kernel : decode cX0_mirroredColumn 26 = .ok (.getfield 9, 3))))) (znode_ok (zleaf_ok (zs_iload_n (by decide +kernel : decode cX0_mirroredColumn 29 = .ok (.iload_n 1, 1)) rfl)) (znode_ok (zleaf_ok (zs_aldI rfl (by decide +kernel : decode cX0_mirroredColumn 30 = .ok (.iaload, 1)))) (zleaf_ok (Or.inr (Or.inl ⟨rfl, rfl, (by decide +kernel : decode cX0_mirroredColumn 31 = .ok (.ireturn, 1))⟩)))))))
/-- Creasebook$Form.mirroredRow(II)I -/
def zc_X0_mirroredRow (pc : Nat) : Option zI := znode 16 pc (znode 9 pc (znode 4 pc (znode 1 pc (zleaf 0 pc (.inl (zLd zIsI 1 2))) (zleaf 1 pc (.inr (.inr (.inr (87, 1, 3)))))) (znode 5 pc (zleaf 4 pc (.inl (zS1 (zCst (.int 1) 5)))) (znode 8 pc (zleaf 5 pc (.inl (zS1 (zIcmp (fun x y => decide (¬ x = y)) 26 8)))) (zleaf 8 pc (.inl (zS1 (zCst (.int 2) 9))))))) (znode 13 pc (znode 10 pc (zleaf 9 pc (.inl (zLd zIsI 10 2))) (zleaf 10 pc (.inr (.inr (.inr (86, 1, 3)))))) (znode 14 pc (zleaf 13 pc (.inl (zS1 (zII (fun x y => x * y) 14)))) (znode 15 pc (zleaf 14 pc (.inl (zS1 (zCst (.int 1) 15)))) (zleaf 15 pc (.inl (zS1 (zII (fun x y => x - y) 16)))))))) (znode 23 pc (znode 20 pc (znode 17 pc (zleaf 16 pc (.inl (zLd zIsA 17 0))) (zleaf 17 pc (.inl (zS2 (zGet 0 4 20))))) (znode 21 pc (zleaf 20 pc (.inl (zLd zIsI 21 1))) (znode 22 pc (zleaf 21 pc (.inl (zS2 (zAldI 0 22)))) (zleaf 22 pc (.inl (zS1 (zII (fun x y => x - y) 23))))))) (znode 30 pc (znode 26 pc (zleaf 23 pc (.inl (zS1 (zGo 32)))) (znode 27 pc (zleaf 26 pc (.inl (zLd zIsA 27 0))) (zleaf 27 pc (.inl (zS2 (zGet 0 4 30)))))) (znode 31 pc (zleaf 30 pc (.inl (zLd zIsI 31 1))) (znode 32 pc (zleaf 31 pc (.inl (zS2 (zAldI 0 32)))) (zleaf 32 pc (.inr (.inl 1)))))))
theorem zk_X0_mirroredRow (O : Nat → State → Heap → Prop) (E : zE) (l : Launch) : ∀ pc i, zc_X0_mirroredRow pc = some i → zOK z_cl z_T z_G z_N O E z_yy z_bb z_nl z_cc z_rt z_hh l 21 pc i := fun pc => znode_ok (znode_ok (znode_ok (znode_ok (zleaf_ok (zs_iload_n (by decide +kernel : decode cX0_mirroredRow 0 = .ok (.iload_n 2, 1)) rfl)) (zleaf_ok (⟨zcs3 (n := 1) z_good zw_18 zw_19 zw_20 zw_21 (by decide +kernel) (by decide +kernel : decode cX0_mirroredRow 1 = .ok (.invokestatic 41, 3)), Nat.le_of_ble_eq_true rfl, by decide +kernel, (fun h => absurd rfl (h.2.1))⟩))) (znode_ok (zleaf_ok (zs_iconst (by decide) (by decide +kernel : decode cX0_mirroredRow 4 = .ok (.iconst 1, 1)))) (znode_ok (zleaf_ok (zs_icmp_ne (t := 26) (by decide) (by decide +kernel : decode cX0_mirroredRow 5 = .ok (.if_icmp .ne 21, 3)))) (zleaf_ok (zs_iconst (by decide) (by decide +kernel : decode cX0_mirroredRow 8 = .ok (.iconst 2, 1))))))) (znode_ok (znode_ok (zleaf_ok (zs_iload_n (by decide +kernel : decode cX0_mirroredRow 9 = .ok (.iload_n 2, 1)) rfl)) (zleaf_ok (⟨zcs3 (n := 1) z_good zw_22 zw_19 zw_23 zw_24 (by decide +kernel) (by decide +kernel : decode cX0_mirroredRow 10 = .ok (.invokestatic 45, 3)), Nat.le_of_ble_eq_true rfl, by decide +kernel, (fun h => absurd rfl (h.2.1))⟩))) (znode_ok (zleaf_ok (zs_imul (by decide +kernel : decode cX0_mirroredRow 13 = .ok (.imul, 1)))) (znode_ok (zleaf_ok (zs_iconst (by decide) (by decide +kernel : decode cX0_mirroredRow 14 = .ok (.iconst 1, 1)))) (zleaf_ok (zs_isub (by decide +kernel : decode cX0_mirroredRow 15 = .ok (.isub, 1)))))))) (znode_ok (znode_ok (znode_ok (zleaf_ok (zs_aload_n (by decide +kernel : decode cX0_mirroredRow 16 = .ok (.aload_n 0, 1)) rfl)) (zleaf_ok (zs_get (C := RX0) (Tc := TX0) (Nc := 8) rfl zinX0 (Nat.le_of_ble_eq_true rfl) zw_5 (by decide +kernel : decode cX0_mirroredRow 17 = .ok (.getfield 15, 3))))) (znode_ok (zleaf_ok (zs_iload_n (by decide +kernel : decode cX0_mirroredRow 20 = .ok (.iload_n 1, 1)) rfl)) (znode_ok (zleaf_ok (zs_aldI rfl (by decide +kernel : decode cX0_mirroredRow 21 = .ok (.iaload, 1)))) (zleaf_ok (zs_isub (by decide +kernel : decode cX0_mirroredRow 22 = .ok (.isub, 1))))))) (znode_ok (znode_ok (zleaf_ok (zs_goto (t := 32) (by decide) (by decide +kernel : decode cX0_mirroredRow 23 = .ok (.goto 9, 3)))) (znode_ok (zleaf_ok (zs_aload_n (by decide +kernel : decode cX0_mirroredRow 26 = .ok (.aload_n 0, 1)) rfl)) (zleaf_ok (zs_get (C := RX0) (Tc := TX0) (Nc := 8) rfl zinX0 (Nat.le_of_ble_eq_true rfl) zw_5 (by decide +kernel : decode cX0_mirroredRow 27 = .ok (.getfield 15, 3)))))) (znode_ok (zleaf_ok (zs_iload_n (by decide +kernel : decode cX0_mirroredRow 30 = .ok (.iload_n 1, 1)) rfl)) (znode_ok (zleaf_ok (zs_aldI rfl (by decide +kernel : decode cX0_mirroredRow 31 = .ok (.iaload, 1)))) (zleaf_ok (Or.inr (Or.inl ⟨rfl, rfl, (by decide +kernel : decode cX0_mirroredRow 32 = .ok (.ireturn, 1))⟩)))))))
/-- Creasebook$Form.isLineBetween(III)Z -/
def zc_X0_isLineBetween (pc : Nat) : Option zI := znode 34 pc (znode 16 pc (znode 7 pc (znode 4 pc (znode 1 pc (zleaf 0 pc (.inl (zLd zIsA 1 0))) (zleaf 1 pc (.inl (zS2 (zGet 0 3 4))))) (znode 5 pc (zleaf 4 pc (.inl (zLd zIsI 5 1))) (znode 6 pc (zleaf 5 pc (.inl (zS2 (zAldI 0 6)))) (zleaf 6 pc (.inl (zLd zIsA 7 0)))))) (znode 12 pc (znode 10 pc (zleaf 7 pc (.inl (zS2 (zGet 0 3 10)))) (znode 11 pc (zleaf 10 pc (.inl (zLd zIsI 11 2))) (zleaf 11 pc (.inl (zS2 (zAldI 0 12)))))) (znode 13 pc (zleaf 12 pc (.inl (zS1 (zII (fun x y => x - y) 13)))) (znode 15 pc (zleaf 13 pc (.inl (zSt1 zIsI 15 4))) (zleaf 15 pc (.inl (zLd zIsA 16 0))))))) (znode 25 pc (znode 20 pc (znode 19 pc (zleaf 16 pc (.inl (zS2 (zGet 0 4 19)))) (zleaf 19 pc (.inl (zLd zIsI 20 1)))) (znode 21 pc (zleaf 20 pc (.inl (zS2 (zAldI 0 21)))) (znode 22 pc (zleaf 21 pc (.inl (zLd zIsA 22 0))) (zleaf 22 pc (.inl (zS2 (zGet 0 4 25))))))) (znode 28 pc (znode 26 pc (zleaf 25 pc (.inl (zLd zIsI 26 2))) (znode 27 pc (zleaf 26 pc (.inl (zS2 (zAldI 0 27)))) (zleaf 27 pc (.inl (zS1 (zII (fun x y => x - y) 28)))))) (znode 30 pc (zleaf 28 pc (.inl (zSt1 zIsI 30 5))) (znode 32 pc (zleaf 30 pc (.inl (zLd zIsI 32 4))) (zleaf 32 pc (.inl (zLd zIsI 34 4)))))))) (znode 49 pc (znode 41 pc (znode 37 pc (znode 35 pc (zleaf 34 pc (.inl (zS1 (zII (fun x y => x * y) 35)))) (zleaf 35 pc (.inl (zLd zIsI 37 5)))) (znode 39 pc (zleaf 37 pc (.inl (zLd zIsI 39 5))) (znode 40 pc (zleaf 39 pc (.inl (zS1 (zII (fun x y => x * y) 40)))) (zleaf 40 pc (.inl (zS1 (zII (fun x y => x + y) 41))))))) (znode 46 pc (znode 42 pc (zleaf 41 pc (.inl (zS1 (zCst (.int 1) 42)))) (znode 45 pc (zleaf 42 pc (.inl (zS1 (zIcmp (fun x y => decide (¬ x = y)) 69 45)))) (zleaf 45 pc (.inl (zLd zIsA 46 0))))) (znode 47 pc (zleaf 46 pc (.inl (zLd zIsI 47 2))) (znode 48 pc (zleaf 47 pc (.inl (zLd zIsA 48 0))) (zleaf 48 pc (.inl (zLd zIsI 49 1))))))) (znode 59 pc (znode 54 pc (znode 50 pc (zleaf 49 pc (.inl (zLd zIsI 50 3))) (znode 53 pc (zleaf 50 pc (.inr (.inr (.inr (20, 3, 0))))) (zleaf 53 pc (.inl (zLd zIsA 54 0))))) (znode 55 pc (zleaf 54 pc (.inl (zLd zIsI 55 1))) (znode 56 pc (zleaf 55 pc (.inl (zLd zIsI 56 3))) (zleaf 56 pc (.inr (.inr (.inr (21, 3, 0)))))))) (znode 66 pc (znode 62 pc (zleaf 59 pc (.inr (.inr (.inr (12, 4, 0))))) (znode 65 pc (zleaf 62 pc (.inl (zS1 (zIf (fun x => decide (x = 0)) 69 65)))) (zleaf 65 pc (.inl (zS1 (zCst (.int 1) 66)))))) (znode 69 pc (zleaf 66 pc (.inl (zS1 (zGo 70)))) (znode 70 pc (zleaf 69 pc (.inl (zS1 (zCst (.int 0) 70)))) (zleaf 70 pc (.inr (.inl 5))))))))
theorem zk_X0_isLineBetween (O : Nat → State → Heap → Prop) (E : zE) (l : Launch) : ∀ pc i, zc_X0_isLineBetween pc = some i → zOK z_cl z_T z_G z_N O E z_yy z_bb z_nl z_cc z_rt z_hh l 22 pc i := fun pc => znode_ok (znode_ok (znode_ok (znode_ok (znode_ok (zleaf_ok (zs_aload_n (by decide +kernel : decode cX0_isLineBetween 0 = .ok (.aload_n 0, 1)) rfl)) (zleaf_ok (zs_get (C := RX0) (Tc := TX0) (Nc := 8) rfl zinX0 (Nat.le_of_ble_eq_true rfl) zw_4 (by decide +kernel : decode cX0_isLineBetween 1 = .ok (.getfield 9, 3))))) (znode_ok (zleaf_ok (zs_iload_n (by decide +kernel : decode cX0_isLineBetween 4 = .ok (.iload_n 1, 1)) rfl)) (znode_ok (zleaf_ok (zs_aldI rfl (by decide +kernel : decode cX0_isLineBetween 5 = .ok (.iaload, 1)))) (zleaf_ok (zs_aload_n (by decide +kernel : decode cX0_isLineBetween 6 = .ok (.aload_n 0, 1)) rfl))))) (znode_ok (znode_ok (zleaf_ok (zs_get (C := RX0) (Tc := TX0) (Nc := 8) rfl zinX0 (Nat.le_of_ble_eq_true rfl) zw_4 (by decide +kernel : decode cX0_isLineBetween 7 = .ok (.getfield 9, 3)))) (znode_ok (zleaf_ok (zs_iload_n (by decide +kernel : decode cX0_isLineBetween 10 = .ok (.iload_n 2, 1)) rfl)) (zleaf_ok (zs_aldI rfl (by decide +kernel : decode cX0_isLineBetween 11 = .ok (.iaload, 1)))))) (znode_ok (zleaf_ok (zs_isub (by decide +kernel : decode cX0_isLineBetween 12 = .ok (.isub, 1)))) (znode_ok (zleaf_ok (zs_istore (Nat.le_of_ble_eq_true rfl) (by decide +kernel : decode cX0_isLineBetween 13 = .ok (.istore 4, 2)))) (zleaf_ok (zs_aload_n (by decide +kernel : decode cX0_isLineBetween 15 = .ok (.aload_n 0, 1)) rfl)))))) (znode_ok (znode_ok (znode_ok (zleaf_ok (zs_get (C := RX0) (Tc := TX0) (Nc := 8) rfl zinX0 (Nat.le_of_ble_eq_true rfl) zw_5 (by decide +kernel : decode cX0_isLineBetween 16 = .ok (.getfield 15, 3)))) (zleaf_ok (zs_iload_n (by decide +kernel : decode cX0_isLineBetween 19 = .ok (.iload_n 1, 1)) rfl))) (znode_ok (zleaf_ok (zs_aldI rfl (by decide +kernel : decode cX0_isLineBetween 20 = .ok (.iaload, 1)))) (znode_ok (zleaf_ok (zs_aload_n (by decide +kernel : decode cX0_isLineBetween 21 = .ok (.aload_n 0, 1)) rfl)) (zleaf_ok (zs_get (C := RX0) (Tc := TX0) (Nc := 8) rfl zinX0 (Nat.le_of_ble_eq_true rfl) zw_5 (by decide +kernel : decode cX0_isLineBetween 22 = .ok (.getfield 15, 3))))))) (znode_ok (znode_ok (zleaf_ok (zs_iload_n (by decide +kernel : decode cX0_isLineBetween 25 = .ok (.iload_n 2, 1)) rfl)) (znode_ok (zleaf_ok (zs_aldI rfl (by decide +kernel : decode cX0_isLineBetween 26 = .ok (.iaload, 1)))) (zleaf_ok (zs_isub (by decide +kernel : decode cX0_isLineBetween 27 = .ok (.isub, 1)))))) (znode_ok (zleaf_ok (zs_istore (Nat.le_of_ble_eq_true rfl) (by decide +kernel : decode cX0_isLineBetween 28 = .ok (.istore 5, 2)))) (znode_ok (zleaf_ok (zs_iload (by decide +kernel : decode cX0_isLineBetween 30 = .ok (.iload 4, 2)))) (zleaf_ok (zs_iload (by decide +kernel : decode cX0_isLineBetween 32 = .ok (.iload 4, 2))))))))) (znode_ok (znode_ok (znode_ok (znode_ok (zleaf_ok (zs_imul (by decide +kernel : decode cX0_isLineBetween 34 = .ok (.imul, 1)))) (zleaf_ok (zs_iload (by decide +kernel : decode cX0_isLineBetween 35 = .ok (.iload 5, 2))))) (znode_ok (zleaf_ok (zs_iload (by decide +kernel : decode cX0_isLineBetween 37 = .ok (.iload 5, 2)))) (znode_ok (zleaf_ok (zs_imul (by decide +kernel : decode cX0_isLineBetween 39 = .ok (.imul, 1)))) (zleaf_ok (zs_iadd (by decide +kernel : decode cX0_isLineBetween 40 = .ok (.iadd, 1))))))) (znode_ok (znode_ok (zleaf_ok (zs_iconst (by decide) (by decide +kernel : decode cX0_isLineBetween 41 = .ok (.iconst 1, 1)))) (znode_ok (zleaf_ok (zs_icmp_ne (t := 69) (by decide) (by decide +kernel : decode cX0_isLineBetween 42 = .ok (.if_icmp .ne 27, 3)))) (zleaf_ok (zs_aload_n (by decide +kernel : decode cX0_isLineBetween 45 = .ok (.aload_n 0, 1)) rfl)))) (znode_ok (zleaf_ok (zs_iload_n (by decide +kernel : decode cX0_isLineBetween 46 = .ok (.iload_n 2, 1)) rfl)) (znode_ok (zleaf_ok (zs_aload_n (by decide +kernel : decode cX0_isLineBetween 47 = .ok (.aload_n 0, 1)) rfl)) (zleaf_ok (zs_iload_n (by decide +kernel : decode cX0_isLineBetween 48 = .ok (.iload_n 1, 1)) rfl)))))) (znode_ok (znode_ok (znode_ok (zleaf_ok (zs_iload_n (by decide +kernel : decode cX0_isLineBetween 49 = .ok (.iload_n 3, 1)) rfl)) (znode_ok (zleaf_ok (⟨zcs0 (n := 2) z_good zw_39 zw_14 zw_40 zw_41 zw_42 (by decide +kernel) (by decide +kernel : decode cX0_isLineBetween 50 = .ok (.invokevirtual 65, 3)), Nat.le_of_ble_eq_true rfl, by decide +kernel, (fun _ => ⟨TX0, 8, rfl⟩)⟩)) (zleaf_ok (zs_aload_n (by decide +kernel : decode cX0_isLineBetween 53 = .ok (.aload_n 0, 1)) rfl)))) (znode_ok (zleaf_ok (zs_iload_n (by decide +kernel : decode cX0_isLineBetween 54 = .ok (.iload_n 1, 1)) rfl)) (znode_ok (zleaf_ok (zs_iload_n (by decide +kernel : decode cX0_isLineBetween 55 = .ok (.iload_n 3, 1)) rfl)) (zleaf_ok (⟨zcs0 (n := 2) z_good zw_43 zw_14 zw_44 zw_45 zw_46 (by decide +kernel) (by decide +kernel : decode cX0_isLineBetween 56 = .ok (.invokevirtual 68, 3)), Nat.le_of_ble_eq_true rfl, by decide +kernel, (fun _ => ⟨TX0, 8, rfl⟩)⟩))))) (znode_ok (znode_ok (zleaf_ok (⟨zcs0 (n := 3) z_good zw_66 zw_14 zw_67 zw_68 zw_69 (by decide +kernel) (by decide +kernel : decode cX0_isLineBetween 59 = .ok (.invokevirtual 86, 3)), Nat.le_of_ble_eq_true rfl, by decide +kernel, (fun _ => ⟨TX0, 8, rfl⟩)⟩)) (znode_ok (zleaf_ok (zs_if_eq (t := 69) (by decide) (by decide +kernel : decode cX0_isLineBetween 62 = .ok (.ifCond .eq 7, 3)))) (zleaf_ok (zs_iconst (by decide) (by decide +kernel : decode cX0_isLineBetween 65 = .ok (.iconst 1, 1)))))) (znode_ok (zleaf_ok (zs_goto (t := 70) (by decide) (by decide +kernel : decode cX0_isLineBetween 66 = .ok (.goto 4, 3)))) (znode_ok (zleaf_ok (zs_iconst (by decide) (by decide +kernel : decode cX0_isLineBetween 69 = .ok (.iconst 0, 1)))) (zleaf_ok (Or.inr (Or.inr (Or.inr (Or.inr (Or.inr ⟨rfl, rfl, (by decide +kernel : decode cX0_isLineBetween 70 = .ok (.ireturn, 1))⟩)))))))))))
/-- Creasebook$Form.highestPile()I -/
def zc_X0_highestPile (pc : Nat) : Option zI := znode 12 pc (znode 4 pc (znode 2 pc (znode 1 pc (zleaf 0 pc (.inl (zS1 (zCst (.int 0) 1)))) (zleaf 1 pc (.inl (zSt1 zIsI 2 1)))) (znode 3 pc (zleaf 2 pc (.inl (zS1 (zCst (.int 0) 3)))) (zleaf 3 pc (.inl (zSt1 zIsI 4 2))))) (znode 7 pc (znode 5 pc (zleaf 4 pc (.inl (zLd zIsI 5 2))) (zleaf 5 pc (.inl (zS1 (zCst (.int 32) 7))))) (znode 10 pc (zleaf 7 pc (.inl (zS1 (zIcmp (fun x y => decide (y ≤ x)) 27 10)))) (znode 11 pc (zleaf 10 pc (.inl (zLd zIsI 11 1))) (zleaf 11 pc (.inl (zLd zIsA 12 0))))))) (znode 20 pc (znode 16 pc (znode 15 pc (zleaf 12 pc (.inl (zS2 (zGet 0 7 15)))) (zleaf 15 pc (.inl (zLd zIsI 16 2)))) (znode 17 pc (zleaf 16 pc (.inl (zS2 (zAldI 0 17)))) (zleaf 17 pc (.inl (zS2 (zMax 20)))))) (znode 24 pc (znode 21 pc (zleaf 20 pc (.inl (zSt1 zIsI 21 1))) (zleaf 21 pc (.inl (zIinc 24 2 1)))) (znode 27 pc (zleaf 24 pc (.inl (zS1 (zGo 4)))) (znode 28 pc (zleaf 27 pc (.inl (zLd zIsI 28 1))) (zleaf 28 pc (.inr (.inl 1)))))))
theorem zk_X0_highestPile (O : Nat → State → Heap → Prop) (E : zE) (l : Launch) : ∀ pc i, zc_X0_highestPile pc = some i → zOK z_cl z_T z_G z_N O E z_yy z_bb z_nl z_cc z_rt z_hh l 23 pc i := fun pc => znode_ok (znode_ok (znode_ok (znode_ok (zleaf_ok (zs_iconst (by decide) (by decide +kernel : decode cX0_highestPile 0 = .ok (.iconst 0, 1)))) (zleaf_ok (zs_istore_n (Nat.le_of_ble_eq_true rfl) (by decide +kernel : decode cX0_highestPile 1 = .ok (.istore_n 1, 1)) rfl))) (znode_ok (zleaf_ok (zs_iconst (by decide) (by decide +kernel : decode cX0_highestPile 2 = .ok (.iconst 0, 1)))) (zleaf_ok (zs_istore_n (Nat.le_of_ble_eq_true rfl) (by decide +kernel : decode cX0_highestPile 3 = .ok (.istore_n 2, 1)) rfl)))) (znode_ok (znode_ok (zleaf_ok (zs_iload_n (by decide +kernel : decode cX0_highestPile 4 = .ok (.iload_n 2, 1)) rfl)) (zleaf_ok (zs_bipush (by decide) (by decide +kernel : decode cX0_highestPile 5 = .ok (.bipush 32, 2))))) (znode_ok (zleaf_ok (zs_icmp_ge (t := 27) (by decide) (by decide +kernel : decode cX0_highestPile 7 = .ok (.if_icmp .ge 20, 3)))) (znode_ok (zleaf_ok (zs_iload_n (by decide +kernel : decode cX0_highestPile 10 = .ok (.iload_n 1, 1)) rfl)) (zleaf_ok (zs_aload_n (by decide +kernel : decode cX0_highestPile 11 = .ok (.aload_n 0, 1)) rfl)))))) (znode_ok (znode_ok (znode_ok (zleaf_ok (zs_get (C := RX0) (Tc := TX0) (Nc := 8) rfl zinX0 (Nat.le_of_ble_eq_true rfl) zw_9 (by decide +kernel : decode cX0_highestPile 12 = .ok (.getfield 25, 3)))) (zleaf_ok (zs_iload_n (by decide +kernel : decode cX0_highestPile 15 = .ok (.iload_n 2, 1)) rfl))) (znode_ok (zleaf_ok (zs_aldI rfl (by decide +kernel : decode cX0_highestPile 16 = .ok (.iaload, 1)))) (zleaf_ok (zs_max zw_32 zw_33 zw_30 zw_34 (by decide +kernel : decode cX0_highestPile 17 = .ok (.invokestatic 58, 3)))))) (znode_ok (znode_ok (zleaf_ok (zs_istore_n (Nat.le_of_ble_eq_true rfl) (by decide +kernel : decode cX0_highestPile 20 = .ok (.istore_n 1, 1)) rfl)) (zleaf_ok (zs_iinc (Nat.le_of_ble_eq_true rfl) (by decide) (by decide +kernel : decode cX0_highestPile 21 = .ok (.iinc 2 1, 3))))) (znode_ok (zleaf_ok (zs_goto (t := 4) (by decide) (by decide +kernel : decode cX0_highestPile 24 = .ok (.goto (-20), 3)))) (znode_ok (zleaf_ok (zs_iload_n (by decide +kernel : decode cX0_highestPile 27 = .ok (.iload_n 1, 1)) rfl)) (zleaf_ok (Or.inr (Or.inl ⟨rfl, rfl, (by decide +kernel : decode cX0_highestPile 28 = .ok (.ireturn, 1))⟩)))))))
/-- Creasebook$Form.frontsSeenFromAbove()I -/
def zc_X0_frontsSeenFromAbove (pc : Nat) : Option zI := znode 17 pc (znode 5 pc (znode 2 pc (znode 1 pc (zleaf 0 pc (.inl (zS1 (zCst (.int 0) 1)))) (zleaf 1 pc (.inl (zSt1 zIsI 2 1)))) (znode 3 pc (zleaf 2 pc (.inl (zS1 (zCst (.int 0) 3)))) (znode 4 pc (zleaf 3 pc (.inl (zSt1 zIsI 4 2))) (zleaf 4 pc (.inl (zLd zIsI 5 2)))))) (znode 12 pc (znode 6 pc (zleaf 5 pc (.inl (zLd zIsA 6 0))) (znode 9 pc (zleaf 6 pc (.inl (zS2 (zGet 0 0 9)))) (zleaf 9 pc (.inl (zS1 (zIcmp (fun x y => decide (y ≤ x)) 39 12)))))) (znode 13 pc (zleaf 12 pc (.inl (zLd zIsA 13 0))) (znode 16 pc (zleaf 13 pc (.inl (zS2 (zGet 0 6 16)))) (zleaf 16 pc (.inl (zLd zIsI 17 2))))))) (znode 27 pc (znode 22 pc (znode 18 pc (zleaf 17 pc (.inl (zS2 (zAldZ 1 18)))) (znode 21 pc (zleaf 18 pc (.inl (zS1 (zIf (fun x => decide (x = 0)) 33 21)))) (zleaf 21 pc (.inl (zLd zIsA 22 0))))) (znode 23 pc (zleaf 22 pc (.inl (zLd zIsI 23 2))) (znode 24 pc (zleaf 23 pc (.inl (zS1 (zCst (.int 1) 24)))) (zleaf 24 pc (.inr (.inr (.inr (16, 3, 0)))))))) (znode 36 pc (znode 30 pc (zleaf 27 pc (.inl (zS1 (zIf (fun x => decide (x = 0)) 33 30)))) (znode 33 pc (zleaf 30 pc (.inl (zIinc 33 1 1))) (zleaf 33 pc (.inl (zIinc 36 2 1))))) (znode 39 pc (zleaf 36 pc (.inl (zS1 (zGo 4)))) (znode 40 pc (zleaf 39 pc (.inl (zLd zIsI 40 1))) (zleaf 40 pc (.inr (.inl 1)))))))
theorem zk_X0_frontsSeenFromAbove (O : Nat → State → Heap → Prop) (E : zE) (l : Launch) : ∀ pc i, zc_X0_frontsSeenFromAbove pc = some i → zOK z_cl z_T z_G z_N O E z_yy z_bb z_nl z_cc z_rt z_hh l 24 pc i := fun pc => znode_ok (znode_ok (znode_ok (znode_ok (zleaf_ok (zs_iconst (by decide) (by decide +kernel : decode cX0_frontsSeenFromAbove 0 = .ok (.iconst 0, 1)))) (zleaf_ok (zs_istore_n (Nat.le_of_ble_eq_true rfl) (by decide +kernel : decode cX0_frontsSeenFromAbove 1 = .ok (.istore_n 1, 1)) rfl))) (znode_ok (zleaf_ok (zs_iconst (by decide) (by decide +kernel : decode cX0_frontsSeenFromAbove 2 = .ok (.iconst 0, 1)))) (znode_ok (zleaf_ok (zs_istore_n (Nat.le_of_ble_eq_true rfl) (by decide +kernel : decode cX0_frontsSeenFromAbove 3 = .ok (.istore_n 2, 1)) rfl)) (zleaf_ok (zs_iload_n (by decide +kernel : decode cX0_frontsSeenFromAbove 4 = .ok (.iload_n 2, 1)) rfl))))) (znode_ok (znode_ok (zleaf_ok (zs_aload_n (by decide +kernel : decode cX0_frontsSeenFromAbove 5 = .ok (.aload_n 0, 1)) rfl)) (znode_ok (zleaf_ok (zs_get (C := RX0) (Tc := TX0) (Nc := 8) rfl zinX0 (Nat.le_of_ble_eq_true rfl) zw_10 (by decide +kernel : decode cX0_frontsSeenFromAbove 6 = .ok (.getfield 28, 3)))) (zleaf_ok (zs_icmp_ge (t := 39) (by decide) (by decide +kernel : decode cX0_frontsSeenFromAbove 9 = .ok (.if_icmp .ge 30, 3)))))) (znode_ok (zleaf_ok (zs_aload_n (by decide +kernel : decode cX0_frontsSeenFromAbove 12 = .ok (.aload_n 0, 1)) rfl)) (znode_ok (zleaf_ok (zs_get (C := RX0) (Tc := TX0) (Nc := 8) rfl zinX0 (Nat.le_of_ble_eq_true rfl) zw_8 (by decide +kernel : decode cX0_frontsSeenFromAbove 13 = .ok (.getfield 21, 3)))) (zleaf_ok (zs_iload_n (by decide +kernel : decode cX0_frontsSeenFromAbove 16 = .ok (.iload_n 2, 1)) rfl)))))) (znode_ok (znode_ok (znode_ok (zleaf_ok (zs_aldZ rfl (by decide +kernel : decode cX0_frontsSeenFromAbove 17 = .ok (.baload, 1)))) (znode_ok (zleaf_ok (zs_if_eq (t := 33) (by decide) (by decide +kernel : decode cX0_frontsSeenFromAbove 18 = .ok (.ifCond .eq 15, 3)))) (zleaf_ok (zs_aload_n (by decide +kernel : decode cX0_frontsSeenFromAbove 21 = .ok (.aload_n 0, 1)) rfl)))) (znode_ok (zleaf_ok (zs_iload_n (by decide +kernel : decode cX0_frontsSeenFromAbove 22 = .ok (.iload_n 2, 1)) rfl)) (znode_ok (zleaf_ok (zs_iconst (by decide) (by decide +kernel : decode cX0_frontsSeenFromAbove 23 = .ok (.iconst 1, 1)))) (zleaf_ok (⟨zcs0 (n := 2) z_good zw_74 zw_14 zw_75 zw_76 zw_77 (by decide +kernel) (by decide +kernel : decode cX0_frontsSeenFromAbove 24 = .ok (.invokevirtual 94, 3)), Nat.le_of_ble_eq_true rfl, by decide +kernel, (fun _ => ⟨TX0, 8, rfl⟩)⟩))))) (znode_ok (znode_ok (zleaf_ok (zs_if_eq (t := 33) (by decide) (by decide +kernel : decode cX0_frontsSeenFromAbove 27 = .ok (.ifCond .eq 6, 3)))) (znode_ok (zleaf_ok (zs_iinc (Nat.le_of_ble_eq_true rfl) (by decide) (by decide +kernel : decode cX0_frontsSeenFromAbove 30 = .ok (.iinc 1 1, 3)))) (zleaf_ok (zs_iinc (Nat.le_of_ble_eq_true rfl) (by decide) (by decide +kernel : decode cX0_frontsSeenFromAbove 33 = .ok (.iinc 2 1, 3)))))) (znode_ok (zleaf_ok (zs_goto (t := 4) (by decide) (by decide +kernel : decode cX0_frontsSeenFromAbove 36 = .ok (.goto (-32), 3)))) (znode_ok (zleaf_ok (zs_iload_n (by decide +kernel : decode cX0_frontsSeenFromAbove 39 = .ok (.iload_n 1, 1)) rfl)) (zleaf_ok (Or.inr (Or.inl ⟨rfl, rfl, (by decide +kernel : decode cX0_frontsSeenFromAbove 40 = .ok (.ireturn, 1))⟩)))))))
/-- Creasebook$Form.frontsSeenFromBelow()I -/
def zc_X0_frontsSeenFromBelow (pc : Nat) : Option zI := znode 17 pc (znode 5 pc (znode 2 pc (znode 1 pc (zleaf 0 pc (.inl (zS1 (zCst (.int 0) 1)))) (zleaf 1 pc (.inl (zSt1 zIsI 2 1)))) (znode 3 pc (zleaf 2 pc (.inl (zS1 (zCst (.int 0) 3)))) (znode 4 pc (zleaf 3 pc (.inl (zSt1 zIsI 4 2))) (zleaf 4 pc (.inl (zLd zIsI 5 2)))))) (znode 12 pc (znode 6 pc (zleaf 5 pc (.inl (zLd zIsA 6 0))) (znode 9 pc (zleaf 6 pc (.inl (zS2 (zGet 0 0 9)))) (zleaf 9 pc (.inl (zS1 (zIcmp (fun x y => decide (y ≤ x)) 39 12)))))) (znode 13 pc (zleaf 12 pc (.inl (zLd zIsA 13 0))) (znode 16 pc (zleaf 13 pc (.inl (zS2 (zGet 0 6 16)))) (zleaf 16 pc (.inl (zLd zIsI 17 2))))))) (znode 27 pc (znode 22 pc (znode 18 pc (zleaf 17 pc (.inl (zS2 (zAldZ 1 18)))) (znode 21 pc (zleaf 18 pc (.inl (zS1 (zIf (fun x => decide (¬ x = 0)) 33 21)))) (zleaf 21 pc (.inl (zLd zIsA 22 0))))) (znode 23 pc (zleaf 22 pc (.inl (zLd zIsI 23 2))) (znode 24 pc (zleaf 23 pc (.inl (zS1 (zCst (.int 0) 24)))) (zleaf 24 pc (.inr (.inr (.inr (16, 3, 0)))))))) (znode 36 pc (znode 30 pc (zleaf 27 pc (.inl (zS1 (zIf (fun x => decide (x = 0)) 33 30)))) (znode 33 pc (zleaf 30 pc (.inl (zIinc 33 1 1))) (zleaf 33 pc (.inl (zIinc 36 2 1))))) (znode 39 pc (zleaf 36 pc (.inl (zS1 (zGo 4)))) (znode 40 pc (zleaf 39 pc (.inl (zLd zIsI 40 1))) (zleaf 40 pc (.inr (.inl 1)))))))
theorem zk_X0_frontsSeenFromBelow (O : Nat → State → Heap → Prop) (E : zE) (l : Launch) : ∀ pc i, zc_X0_frontsSeenFromBelow pc = some i → zOK z_cl z_T z_G z_N O E z_yy z_bb z_nl z_cc z_rt z_hh l 25 pc i := fun pc => znode_ok (znode_ok (znode_ok (znode_ok (zleaf_ok (zs_iconst (by decide) (by decide +kernel : decode cX0_frontsSeenFromBelow 0 = .ok (.iconst 0, 1)))) (zleaf_ok (zs_istore_n (Nat.le_of_ble_eq_true rfl) (by decide +kernel : decode cX0_frontsSeenFromBelow 1 = .ok (.istore_n 1, 1)) rfl))) (znode_ok (zleaf_ok (zs_iconst (by decide) (by decide +kernel : decode cX0_frontsSeenFromBelow 2 = .ok (.iconst 0, 1)))) (znode_ok (zleaf_ok (zs_istore_n (Nat.le_of_ble_eq_true rfl) (by decide +kernel : decode cX0_frontsSeenFromBelow 3 = .ok (.istore_n 2, 1)) rfl)) (zleaf_ok (zs_iload_n (by decide +kernel : decode cX0_frontsSeenFromBelow 4 = .ok (.iload_n 2, 1)) rfl))))) (znode_ok (znode_ok (zleaf_ok (zs_aload_n (by decide +kernel : decode cX0_frontsSeenFromBelow 5 = .ok (.aload_n 0, 1)) rfl)) (znode_ok (zleaf_ok (zs_get (C := RX0) (Tc := TX0) (Nc := 8) rfl zinX0 (Nat.le_of_ble_eq_true rfl) zw_10 (by decide +kernel : decode cX0_frontsSeenFromBelow 6 = .ok (.getfield 28, 3)))) (zleaf_ok (zs_icmp_ge (t := 39) (by decide) (by decide +kernel : decode cX0_frontsSeenFromBelow 9 = .ok (.if_icmp .ge 30, 3)))))) (znode_ok (zleaf_ok (zs_aload_n (by decide +kernel : decode cX0_frontsSeenFromBelow 12 = .ok (.aload_n 0, 1)) rfl)) (znode_ok (zleaf_ok (zs_get (C := RX0) (Tc := TX0) (Nc := 8) rfl zinX0 (Nat.le_of_ble_eq_true rfl) zw_8 (by decide +kernel : decode cX0_frontsSeenFromBelow 13 = .ok (.getfield 21, 3)))) (zleaf_ok (zs_iload_n (by decide +kernel : decode cX0_frontsSeenFromBelow 16 = .ok (.iload_n 2, 1)) rfl)))))) (znode_ok (znode_ok (znode_ok (zleaf_ok (zs_aldZ rfl (by decide +kernel : decode cX0_frontsSeenFromBelow 17 = .ok (.baload, 1)))) (znode_ok (zleaf_ok (zs_if_ne (t := 33) (by decide) (by decide +kernel : decode cX0_frontsSeenFromBelow 18 = .ok (.ifCond .ne 15, 3)))) (zleaf_ok (zs_aload_n (by decide +kernel : decode cX0_frontsSeenFromBelow 21 = .ok (.aload_n 0, 1)) rfl)))) (znode_ok (zleaf_ok (zs_iload_n (by decide +kernel : decode cX0_frontsSeenFromBelow 22 = .ok (.iload_n 2, 1)) rfl)) (znode_ok (zleaf_ok (zs_iconst (by decide) (by decide +kernel : decode cX0_frontsSeenFromBelow 23 = .ok (.iconst 0, 1)))) (zleaf_ok (⟨zcs0 (n := 2) z_good zw_74 zw_14 zw_75 zw_76 zw_77 (by decide +kernel) (by decide +kernel : decode cX0_frontsSeenFromBelow 24 = .ok (.invokevirtual 94, 3)), Nat.le_of_ble_eq_true rfl, by decide +kernel, (fun _ => ⟨TX0, 8, rfl⟩)⟩))))) (znode_ok (znode_ok (zleaf_ok (zs_if_eq (t := 33) (by decide) (by decide +kernel : decode cX0_frontsSeenFromBelow 27 = .ok (.ifCond .eq 6, 3)))) (znode_ok (zleaf_ok (zs_iinc (Nat.le_of_ble_eq_true rfl) (by decide) (by decide +kernel : decode cX0_frontsSeenFromBelow 30 = .ok (.iinc 1 1, 3)))) (zleaf_ok (zs_iinc (Nat.le_of_ble_eq_true rfl) (by decide) (by decide +kernel : decode cX0_frontsSeenFromBelow 33 = .ok (.iinc 2 1, 3)))))) (znode_ok (zleaf_ok (zs_goto (t := 4) (by decide) (by decide +kernel : decode cX0_frontsSeenFromBelow 36 = .ok (.goto (-32), 3)))) (znode_ok (zleaf_ok (zs_iload_n (by decide +kernel : decode cX0_frontsSeenFromBelow 39 = .ok (.iload_n 1, 1)) rfl)) (zleaf_ok (Or.inr (Or.inl ⟨rfl, rfl, (by decide +kernel : decode cX0_frontsSeenFromBelow 40 = .ok (.ireturn, 1))⟩)))))))
/-- Creasebook$Paper.<init>()V -/
def zc_X1_init (pc : Nat) : Option zI := znode 25 pc (znode 12 pc (znode 5 pc (znode 1 pc (zleaf 0 pc (.inl (zLd zIsA 1 0))) (znode 4 pc (zleaf 1 pc (.inl (zS2 (zObj 4)))) (zleaf 4 pc (.inl (zLd zIsA 5 0))))) (znode 7 pc (zleaf 5 pc (.inl (zS1 (zCst (.int 64) 7)))) (znode 9 pc (zleaf 7 pc (.inl (zNwaI 0 9))) (zleaf 9 pc (.inl (zPut zIsA 1 3 12)))))) (znode 17 pc (znode 13 pc (zleaf 12 pc (.inl (zLd zIsA 13 0))) (znode 15 pc (zleaf 13 pc (.inl (zS1 (zCst (.int 64) 15)))) (zleaf 15 pc (.inl (zNwaI 0 17))))) (znode 21 pc (znode 20 pc (zleaf 17 pc (.inl (zPut zIsA 1 4 20))) (zleaf 20 pc (.inl (zLd zIsA 21 0)))) (znode 23 pc (zleaf 21 pc (.inl (zS1 (zCst (.int 64) 23)))) (zleaf 23 pc (.inl (zNwaI 0 25))))))) (znode 39 pc (znode 31 pc (znode 28 pc (zleaf 25 pc (.inl (zPut zIsA 1 5 28))) (znode 29 pc (zleaf 28 pc (.inl (zLd zIsA 29 0))) (zleaf 29 pc (.inl (zS1 (zCst (.int 64) 31)))))) (znode 36 pc (znode 33 pc (zleaf 31 pc (.inl (zNwaI 0 33))) (zleaf 33 pc (.inl (zPut zIsA 1 6 36)))) (znode 37 pc (zleaf 36 pc (.inl (zLd zIsA 37 0))) (zleaf 37 pc (.inl (zS1 (zCst (.int 32) 39))))))) (znode 45 pc (znode 41 pc (zleaf 39 pc (.inl (zNwaI 0 41))) (znode 44 pc (zleaf 41 pc (.inl (zPut zIsA 1 7 44))) (zleaf 44 pc (.inl (zLd zIsA 45 0))))) (znode 49 pc (znode 47 pc (zleaf 45 pc (.inl (zS1 (zCst (.int 32) 47)))) (zleaf 47 pc (.inl (zNwaI 0 49)))) (znode 52 pc (zleaf 49 pc (.inl (zPut zIsA 1 8 52))) (zleaf 52 pc (.inr (.inl 0)))))))
theorem zk_X1_init (O : Nat → State → Heap → Prop) (E : zE) (l : Launch) : ∀ pc i, zc_X1_init pc = some i → zOK z_cl z_T z_G z_N O E z_yy z_bb z_nl z_cc z_rt z_hh l 26 pc i := fun pc => znode_ok (znode_ok (znode_ok (znode_ok (zleaf_ok (zs_aload_n (by decide +kernel : decode cX1_init 0 = .ok (.aload_n 0, 1)) rfl)) (znode_ok (zleaf_ok (zs_obj zw_78 zw_1 zw_2 (by decide +kernel : decode cX1_init 1 = .ok (.invokespecial 3, 3)))) (zleaf_ok (zs_aload_n (by decide +kernel : decode cX1_init 4 = .ok (.aload_n 0, 1)) rfl)))) (znode_ok (zleaf_ok (zs_bipush (by decide) (by decide +kernel : decode cX1_init 5 = .ok (.bipush 64, 2)))) (znode_ok (zleaf_ok (zs_nwaI rfl zw_3 (by decide +kernel : decode cX1_init 7 = .ok (.newarray .int, 2)))) (zleaf_ok (zs_putF (C := RX1) (Tc := TX1) (Nc := 9) (ty0 := tyX1) (ty := (.array .int)) rfl zinX1 (Nat.le_of_ble_eq_true rfl) tyX1_ok nmX1 zw_79 rfl rfl rfl (by decide +kernel) (zfR _) (by decide +kernel : decode cX1_init 9 = .ok (.putfield 9, 3))))))) (znode_ok (znode_ok (zleaf_ok (zs_aload_n (by decide +kernel : decode cX1_init 12 = .ok (.aload_n 0, 1)) rfl)) (znode_ok (zleaf_ok (zs_bipush (by decide) (by decide +kernel : decode cX1_init 13 = .ok (.bipush 64, 2)))) (zleaf_ok (zs_nwaI rfl zw_3 (by decide +kernel : decode cX1_init 15 = .ok (.newarray .int, 2)))))) (znode_ok (znode_ok (zleaf_ok (zs_putF (C := RX1) (Tc := TX1) (Nc := 9) (ty0 := tyX1) (ty := (.array .int)) rfl zinX1 (Nat.le_of_ble_eq_true rfl) tyX1_ok nmX1 zw_80 rfl rfl rfl (by decide +kernel) (zfR _) (by decide +kernel : decode cX1_init 17 = .ok (.putfield 15, 3)))) (zleaf_ok (zs_aload_n (by decide +kernel : decode cX1_init 20 = .ok (.aload_n 0, 1)) rfl))) (znode_ok (zleaf_ok (zs_bipush (by decide) (by decide +kernel : decode cX1_init 21 = .ok (.bipush 64, 2)))) (zleaf_ok (zs_nwaI rfl zw_3 (by decide +kernel : decode cX1_init 23 = .ok (.newarray .int, 2)))))))) (znode_ok (znode_ok (znode_ok (zleaf_ok (zs_putF (C := RX1) (Tc := TX1) (Nc := 9) (ty0 := tyX1) (ty := (.array .int)) rfl zinX1 (Nat.le_of_ble_eq_true rfl) tyX1_ok nmX1 zw_81 rfl rfl rfl (by decide +kernel) (zfR _) (by decide +kernel : decode cX1_init 25 = .ok (.putfield 18, 3)))) (znode_ok (zleaf_ok (zs_aload_n (by decide +kernel : decode cX1_init 28 = .ok (.aload_n 0, 1)) rfl)) (zleaf_ok (zs_bipush (by decide) (by decide +kernel : decode cX1_init 29 = .ok (.bipush 64, 2)))))) (znode_ok (znode_ok (zleaf_ok (zs_nwaI rfl zw_3 (by decide +kernel : decode cX1_init 31 = .ok (.newarray .int, 2)))) (zleaf_ok (zs_putF (C := RX1) (Tc := TX1) (Nc := 9) (ty0 := tyX1) (ty := (.array .int)) rfl zinX1 (Nat.le_of_ble_eq_true rfl) tyX1_ok nmX1 zw_82 rfl rfl rfl (by decide +kernel) (zfR _) (by decide +kernel : decode cX1_init 33 = .ok (.putfield 21, 3))))) (znode_ok (zleaf_ok (zs_aload_n (by decide +kernel : decode cX1_init 36 = .ok (.aload_n 0, 1)) rfl)) (zleaf_ok (zs_bipush (by decide) (by decide +kernel : decode cX1_init 37 = .ok (.bipush 32, 2))))))) (znode_ok (znode_ok (zleaf_ok (zs_nwaI rfl zw_3 (by decide +kernel : decode cX1_init 39 = .ok (.newarray .int, 2)))) (znode_ok (zleaf_ok (zs_putF (C := RX1) (Tc := TX1) (Nc := 9) (ty0 := tyX1) (ty := (.array .int)) rfl zinX1 (Nat.le_of_ble_eq_true rfl) tyX1_ok nmX1 zw_83 rfl rfl rfl (by decide +kernel) (zfR _) (by decide +kernel : decode cX1_init 41 = .ok (.putfield 24, 3)))) (zleaf_ok (zs_aload_n (by decide +kernel : decode cX1_init 44 = .ok (.aload_n 0, 1)) rfl)))) (znode_ok (znode_ok (zleaf_ok (zs_bipush (by decide) (by decide +kernel : decode cX1_init 45 = .ok (.bipush 32, 2)))) (zleaf_ok (zs_nwaI rfl zw_3 (by decide +kernel : decode cX1_init 47 = .ok (.newarray .int, 2))))) (znode_ok (zleaf_ok (zs_putF (C := RX1) (Tc := TX1) (Nc := 9) (ty0 := tyX1) (ty := (.array .int)) rfl zinX1 (Nat.le_of_ble_eq_true rfl) tyX1_ok nmX1 zw_84 rfl rfl rfl (by decide +kernel) (zfR _) (by decide +kernel : decode cX1_init 49 = .ok (.putfield 27, 3)))) (zleaf_ok (Or.inl ⟨rfl, rfl, (by decide +kernel : decode cX1_init 52 = .ok (.return_, 1))⟩))))))
/-- Creasebook$Paper.renew(II)V -/
def zc_X1_renew (pc : Nat) : Option zI := znode 43 pc (znode 20 pc (znode 11 pc (znode 5 pc (znode 1 pc (zleaf 0 pc (.inl (zLd zIsA 1 0))) (znode 2 pc (zleaf 1 pc (.inl (zLd zIsI 2 1))) (zleaf 2 pc (.inl (zPut zIsI 1 0 5))))) (znode 7 pc (znode 6 pc (zleaf 5 pc (.inl (zLd zIsA 6 0))) (zleaf 6 pc (.inl (zLd zIsI 7 2)))) (znode 10 pc (zleaf 7 pc (.inl (zPut zIsI 1 1 10))) (zleaf 10 pc (.inl (zLd zIsA 11 0)))))) (znode 14 pc (znode 12 pc (zleaf 11 pc (.inl (zLd zIsI 12 1))) (znode 13 pc (zleaf 12 pc (.inl (zLd zIsI 13 2))) (zleaf 13 pc (.inl (zS1 (zII (fun x y => x * y) 14)))))) (znode 18 pc (znode 17 pc (zleaf 14 pc (.inl (zPut zIsI 1 2 17))) (zleaf 17 pc (.inl (zS1 (zCst (.int 0) 18))))) (znode 19 pc (zleaf 18 pc (.inl (zSt1 zIsI 19 3))) (zleaf 19 pc (.inl (zLd zIsI 20 3))))))) (znode 32 pc (znode 26 pc (znode 22 pc (zleaf 20 pc (.inl (zS1 (zCst (.int 64) 22)))) (znode 25 pc (zleaf 22 pc (.inl (zS1 (zIcmp (fun x y => decide (y ≤ x)) 59 25)))) (zleaf 25 pc (.inl (zLd zIsA 26 0))))) (znode 30 pc (znode 29 pc (zleaf 26 pc (.inl (zS2 (zGet 1 3 29)))) (zleaf 29 pc (.inl (zLd zIsI 30 3)))) (znode 31 pc (zleaf 30 pc (.inl (zS1 (zCst (.int 0) 31)))) (zleaf 31 pc (.inl (zAstI 0 32)))))) (znode 37 pc (znode 33 pc (zleaf 32 pc (.inl (zLd zIsA 33 0))) (znode 36 pc (zleaf 33 pc (.inl (zS2 (zGet 1 4 36)))) (zleaf 36 pc (.inl (zLd zIsI 37 3))))) (znode 39 pc (znode 38 pc (zleaf 37 pc (.inl (zS1 (zCst (.int 0) 38)))) (zleaf 38 pc (.inl (zAstI 0 39)))) (znode 40 pc (zleaf 39 pc (.inl (zLd zIsA 40 0))) (zleaf 40 pc (.inl (zS2 (zGet 1 5 43))))))))) (znode 64 pc (znode 52 pc (znode 46 pc (znode 44 pc (zleaf 43 pc (.inl (zLd zIsI 44 3))) (znode 45 pc (zleaf 44 pc (.inl (zS1 (zCst (.int 0) 45)))) (zleaf 45 pc (.inl (zAstI 0 46))))) (znode 50 pc (znode 47 pc (zleaf 46 pc (.inl (zLd zIsA 47 0))) (zleaf 47 pc (.inl (zS2 (zGet 1 6 50))))) (znode 51 pc (zleaf 50 pc (.inl (zLd zIsI 51 3))) (zleaf 51 pc (.inl (zS1 (zCst (.int 0) 52))))))) (znode 59 pc (znode 53 pc (zleaf 52 pc (.inl (zAstI 0 53))) (znode 56 pc (zleaf 53 pc (.inl (zIinc 56 3 1))) (zleaf 56 pc (.inl (zS1 (zGo 19)))))) (znode 61 pc (znode 60 pc (zleaf 59 pc (.inl (zS1 (zCst (.int 0) 60)))) (zleaf 60 pc (.inl (zSt1 zIsI 61 3)))) (znode 62 pc (zleaf 61 pc (.inl (zLd zIsI 62 3))) (zleaf 62 pc (.inl (zS1 (zCst (.int 32) 64)))))))) (znode 75 pc (znode 71 pc (znode 67 pc (zleaf 64 pc (.inl (zS1 (zIcmp (fun x y => decide (y ≤ x)) 87 67)))) (znode 68 pc (zleaf 67 pc (.inl (zLd zIsA 68 0))) (zleaf 68 pc (.inl (zS2 (zGet 1 7 71)))))) (znode 73 pc (znode 72 pc (zleaf 71 pc (.inl (zLd zIsI 72 3))) (zleaf 72 pc (.inl (zS1 (zCst (.int 0) 73))))) (znode 74 pc (zleaf 73 pc (.inl (zAstI 0 74))) (zleaf 74 pc (.inl (zLd zIsA 75 0)))))) (znode 80 pc (znode 78 pc (zleaf 75 pc (.inl (zS2 (zGet 1 8 78)))) (znode 79 pc (zleaf 78 pc (.inl (zLd zIsI 79 3))) (zleaf 79 pc (.inl (zS1 (zCst (.int 0) 80)))))) (znode 84 pc (znode 81 pc (zleaf 80 pc (.inl (zAstI 0 81))) (zleaf 81 pc (.inl (zIinc 84 3 1)))) (znode 87 pc (zleaf 84 pc (.inl (zS1 (zGo 61)))) (zleaf 87 pc (.inr (.inl 0))))))))
theorem zk_X1_renew (O : Nat → State → Heap → Prop) (E : zE) (l : Launch) : ∀ pc i, zc_X1_renew pc = some i → zOK z_cl z_T z_G z_N O E z_yy z_bb z_nl z_cc z_rt z_hh l 27 pc i := fun pc => znode_ok (znode_ok (znode_ok (znode_ok (znode_ok (zleaf_ok (zs_aload_n (by decide +kernel : decode cX1_renew 0 = .ok (.aload_n 0, 1)) rfl)) (znode_ok (zleaf_ok (zs_iload_n (by decide +kernel : decode cX1_renew 1 = .ok (.iload_n 1, 1)) rfl)) (zleaf_ok (zs_put (C := RX1) (Tc := TX1) (Nc := 9) (ty0 := tyX1) (ty := .int) rfl zinX1 (Nat.le_of_ble_eq_true rfl) tyX1_ok nmX1 zw_85 rfl (by decide +kernel) (zfI) (by decide +kernel : decode cX1_renew 2 = .ok (.putfield 30, 3)))))) (znode_ok (znode_ok (zleaf_ok (zs_aload_n (by decide +kernel : decode cX1_renew 5 = .ok (.aload_n 0, 1)) rfl)) (zleaf_ok (zs_iload_n (by decide +kernel : decode cX1_renew 6 = .ok (.iload_n 2, 1)) rfl))) (znode_ok (zleaf_ok (zs_put (C := RX1) (Tc := TX1) (Nc := 9) (ty0 := tyX1) (ty := .int) rfl zinX1 (Nat.le_of_ble_eq_true rfl) tyX1_ok nmX1 zw_86 rfl (by decide +kernel) (zfI) (by decide +kernel : decode cX1_renew 7 = .ok (.putfield 34, 3)))) (zleaf_ok (zs_aload_n (by decide +kernel : decode cX1_renew 10 = .ok (.aload_n 0, 1)) rfl))))) (znode_ok (znode_ok (zleaf_ok (zs_iload_n (by decide +kernel : decode cX1_renew 11 = .ok (.iload_n 1, 1)) rfl)) (znode_ok (zleaf_ok (zs_iload_n (by decide +kernel : decode cX1_renew 12 = .ok (.iload_n 2, 1)) rfl)) (zleaf_ok (zs_imul (by decide +kernel : decode cX1_renew 13 = .ok (.imul, 1)))))) (znode_ok (znode_ok (zleaf_ok (zs_put (C := RX1) (Tc := TX1) (Nc := 9) (ty0 := tyX1) (ty := .int) rfl zinX1 (Nat.le_of_ble_eq_true rfl) tyX1_ok nmX1 zw_87 rfl (by decide +kernel) (zfI) (by decide +kernel : decode cX1_renew 14 = .ok (.putfield 37, 3)))) (zleaf_ok (zs_iconst (by decide) (by decide +kernel : decode cX1_renew 17 = .ok (.iconst 0, 1))))) (znode_ok (zleaf_ok (zs_istore_n (Nat.le_of_ble_eq_true rfl) (by decide +kernel : decode cX1_renew 18 = .ok (.istore_n 3, 1)) rfl)) (zleaf_ok (zs_iload_n (by decide +kernel : decode cX1_renew 19 = .ok (.iload_n 3, 1)) rfl)))))) (znode_ok (znode_ok (znode_ok (zleaf_ok (zs_bipush (by decide) (by decide +kernel : decode cX1_renew 20 = .ok (.bipush 64, 2)))) (znode_ok (zleaf_ok (zs_icmp_ge (t := 59) (by decide) (by decide +kernel : decode cX1_renew 22 = .ok (.if_icmp .ge 37, 3)))) (zleaf_ok (zs_aload_n (by decide +kernel : decode cX1_renew 25 = .ok (.aload_n 0, 1)) rfl)))) (znode_ok (znode_ok (zleaf_ok (zs_get (C := RX1) (Tc := TX1) (Nc := 9) rfl zinX1 (Nat.le_of_ble_eq_true rfl) zw_79 (by decide +kernel : decode cX1_renew 26 = .ok (.getfield 9, 3)))) (zleaf_ok (zs_iload_n (by decide +kernel : decode cX1_renew 29 = .ok (.iload_n 3, 1)) rfl))) (znode_ok (zleaf_ok (zs_iconst (by decide) (by decide +kernel : decode cX1_renew 30 = .ok (.iconst 0, 1)))) (zleaf_ok (zs_astI rfl (by decide +kernel : decode cX1_renew 31 = .ok (.iastore, 1))))))) (znode_ok (znode_ok (zleaf_ok (zs_aload_n (by decide +kernel : decode cX1_renew 32 = .ok (.aload_n 0, 1)) rfl)) (znode_ok (zleaf_ok (zs_get (C := RX1) (Tc := TX1) (Nc := 9) rfl zinX1 (Nat.le_of_ble_eq_true rfl) zw_80 (by decide +kernel : decode cX1_renew 33 = .ok (.getfield 15, 3)))) (zleaf_ok (zs_iload_n (by decide +kernel : decode cX1_renew 36 = .ok (.iload_n 3, 1)) rfl)))) (znode_ok (znode_ok (zleaf_ok (zs_iconst (by decide) (by decide +kernel : decode cX1_renew 37 = .ok (.iconst 0, 1)))) (zleaf_ok (zs_astI rfl (by decide +kernel : decode cX1_renew 38 = .ok (.iastore, 1))))) (znode_ok (zleaf_ok (zs_aload_n (by decide +kernel : decode cX1_renew 39 = .ok (.aload_n 0, 1)) rfl)) (zleaf_ok (zs_get (C := RX1) (Tc := TX1) (Nc := 9) rfl zinX1 (Nat.le_of_ble_eq_true rfl) zw_81 (by decide +kernel : decode cX1_renew 40 = .ok (.getfield 18, 3))))))))) (znode_ok (znode_ok (znode_ok (znode_ok (zleaf_ok (zs_iload_n (by decide +kernel : decode cX1_renew 43 = .ok (.iload_n 3, 1)) rfl)) (znode_ok (zleaf_ok (zs_iconst (by decide) (by decide +kernel : decode cX1_renew 44 = .ok (.iconst 0, 1)))) (zleaf_ok (zs_astI rfl (by decide +kernel : decode cX1_renew 45 = .ok (.iastore, 1)))))) (znode_ok (znode_ok (zleaf_ok (zs_aload_n (by decide +kernel : decode cX1_renew 46 = .ok (.aload_n 0, 1)) rfl)) (zleaf_ok (zs_get (C := RX1) (Tc := TX1) (Nc := 9) rfl zinX1 (Nat.le_of_ble_eq_true rfl) zw_82 (by decide +kernel : decode cX1_renew 47 = .ok (.getfield 21, 3))))) (znode_ok (zleaf_ok (zs_iload_n (by decide +kernel : decode cX1_renew 50 = .ok (.iload_n 3, 1)) rfl)) (zleaf_ok (zs_iconst (by decide) (by decide +kernel : decode cX1_renew 51 = .ok (.iconst 0, 1))))))) (znode_ok (znode_ok (zleaf_ok (zs_astI rfl (by decide +kernel : decode cX1_renew 52 = .ok (.iastore, 1)))) (znode_ok (zleaf_ok (zs_iinc (Nat.le_of_ble_eq_true rfl) (by decide) (by decide +kernel : decode cX1_renew 53 = .ok (.iinc 3 1, 3)))) (zleaf_ok (zs_goto (t := 19) (by decide) (by decide +kernel : decode cX1_renew 56 = .ok (.goto (-37), 3)))))) (znode_ok (znode_ok (zleaf_ok (zs_iconst (by decide) (by decide +kernel : decode cX1_renew 59 = .ok (.iconst 0, 1)))) (zleaf_ok (zs_istore_n (Nat.le_of_ble_eq_true rfl) (by decide +kernel : decode cX1_renew 60 = .ok (.istore_n 3, 1)) rfl))) (znode_ok (zleaf_ok (zs_iload_n (by decide +kernel : decode cX1_renew 61 = .ok (.iload_n 3, 1)) rfl)) (zleaf_ok (zs_bipush (by decide) (by decide +kernel : decode cX1_renew 62 = .ok (.bipush 32, 2)))))))) (znode_ok (znode_ok (znode_ok (zleaf_ok (zs_icmp_ge (t := 87) (by decide) (by decide +kernel : decode cX1_renew 64 = .ok (.if_icmp .ge 23, 3)))) (znode_ok (zleaf_ok (zs_aload_n (by decide +kernel : decode cX1_renew 67 = .ok (.aload_n 0, 1)) rfl)) (zleaf_ok (zs_get (C := RX1) (Tc := TX1) (Nc := 9) rfl zinX1 (Nat.le_of_ble_eq_true rfl) zw_83 (by decide +kernel : decode cX1_renew 68 = .ok (.getfield 24, 3)))))) (znode_ok (znode_ok (zleaf_ok (zs_iload_n (by decide +kernel : decode cX1_renew 71 = .ok (.iload_n 3, 1)) rfl)) (zleaf_ok (zs_iconst (by decide) (by decide +kernel : decode cX1_renew 72 = .ok (.iconst 0, 1))))) (znode_ok (zleaf_ok (zs_astI rfl (by decide +kernel : decode cX1_renew 73 = .ok (.iastore, 1)))) (zleaf_ok (zs_aload_n (by decide +kernel : decode cX1_renew 74 = .ok (.aload_n 0, 1)) rfl))))) (znode_ok (znode_ok (zleaf_ok (zs_get (C := RX1) (Tc := TX1) (Nc := 9) rfl zinX1 (Nat.le_of_ble_eq_true rfl) zw_84 (by decide +kernel : decode cX1_renew 75 = .ok (.getfield 27, 3)))) (znode_ok (zleaf_ok (zs_iload_n (by decide +kernel : decode cX1_renew 78 = .ok (.iload_n 3, 1)) rfl)) (zleaf_ok (zs_iconst (by decide) (by decide +kernel : decode cX1_renew 79 = .ok (.iconst 0, 1)))))) (znode_ok (znode_ok (zleaf_ok (zs_astI rfl (by decide +kernel : decode cX1_renew 80 = .ok (.iastore, 1)))) (zleaf_ok (zs_iinc (Nat.le_of_ble_eq_true rfl) (by decide) (by decide +kernel : decode cX1_renew 81 = .ok (.iinc 3 1, 3))))) (znode_ok (zleaf_ok (zs_goto (t := 61) (by decide) (by decide +kernel : decode cX1_renew 84 = .ok (.goto (-23), 3)))) (zleaf_ok (Or.inl ⟨rfl, rfl, (by decide +kernel : decode cX1_renew 87 = .ok (.return_, 1))⟩)))))))
/-- Creasebook$Paper.hasCell(I)Z -/
def zc_X1_hasCell (pc : Nat) : Option zI := znode 9 pc (znode 4 pc (znode 1 pc (zleaf 0 pc (.inl (zLd zIsI 1 1))) (zleaf 1 pc (.inl (zS1 (zIf (fun x => decide (x < 0)) 16 4))))) (znode 5 pc (zleaf 4 pc (.inl (zLd zIsI 5 1))) (znode 6 pc (zleaf 5 pc (.inl (zLd zIsA 6 0))) (zleaf 6 pc (.inl (zS2 (zGet 1 2 9))))))) (znode 13 pc (znode 12 pc (zleaf 9 pc (.inl (zS1 (zIcmp (fun x y => decide (y ≤ x)) 16 12)))) (zleaf 12 pc (.inl (zS1 (zCst (.int 1) 13))))) (znode 16 pc (zleaf 13 pc (.inl (zS1 (zGo 17)))) (znode 17 pc (zleaf 16 pc (.inl (zS1 (zCst (.int 0) 17)))) (zleaf 17 pc (.inr (.inl 5))))))
theorem zk_X1_hasCell (O : Nat → State → Heap → Prop) (E : zE) (l : Launch) : ∀ pc i, zc_X1_hasCell pc = some i → zOK z_cl z_T z_G z_N O E z_yy z_bb z_nl z_cc z_rt z_hh l 28 pc i := fun pc => znode_ok (znode_ok (znode_ok (zleaf_ok (zs_iload_n (by decide +kernel : decode cX1_hasCell 0 = .ok (.iload_n 1, 1)) rfl)) (zleaf_ok (zs_if_lt (t := 16) (by decide) (by decide +kernel : decode cX1_hasCell 1 = .ok (.ifCond .lt 15, 3))))) (znode_ok (zleaf_ok (zs_iload_n (by decide +kernel : decode cX1_hasCell 4 = .ok (.iload_n 1, 1)) rfl)) (znode_ok (zleaf_ok (zs_aload_n (by decide +kernel : decode cX1_hasCell 5 = .ok (.aload_n 0, 1)) rfl)) (zleaf_ok (zs_get (C := RX1) (Tc := TX1) (Nc := 9) rfl zinX1 (Nat.le_of_ble_eq_true rfl) zw_87 (by decide +kernel : decode cX1_hasCell 6 = .ok (.getfield 37, 3))))))) (znode_ok (znode_ok (zleaf_ok (zs_icmp_ge (t := 16) (by decide) (by decide +kernel : decode cX1_hasCell 9 = .ok (.if_icmp .ge 7, 3)))) (zleaf_ok (zs_iconst (by decide) (by decide +kernel : decode cX1_hasCell 12 = .ok (.iconst 1, 1))))) (znode_ok (zleaf_ok (zs_goto (t := 17) (by decide) (by decide +kernel : decode cX1_hasCell 13 = .ok (.goto 4, 3)))) (znode_ok (zleaf_ok (zs_iconst (by decide) (by decide +kernel : decode cX1_hasCell 16 = .ok (.iconst 0, 1)))) (zleaf_ok (Or.inr (Or.inr (Or.inr (Or.inr (Or.inr ⟨rfl, rfl, (by decide +kernel : decode cX1_hasCell 17 = .ok (.ireturn, 1))⟩)))))))))
/-- Creasebook$Paper.cellBeside(IZ)I -/
def zc_X1_cellBeside (pc : Nat) : Option zI := znode 36 pc (znode 18 pc (znode 7 pc (znode 4 pc (znode 1 pc (zleaf 0 pc (.inl (zLd zIsI 1 2))) (zleaf 1 pc (.inl (zS1 (zIf (fun x => decide (x = 0)) 28 4))))) (znode 5 pc (zleaf 4 pc (.inl (zLd zIsA 5 0))) (znode 6 pc (zleaf 5 pc (.inl (zLd zIsI 6 1))) (zleaf 6 pc (.inl (zLd zIsA 7 0)))))) (znode 11 pc (znode 10 pc (zleaf 7 pc (.inl (zS2 (zGet 1 0 10)))) (zleaf 10 pc (.inl (zS1 (zII (fun x y => x + y) 11))))) (znode 14 pc (zleaf 11 pc (.inr (.inr (.inr (28, 2, 0))))) (znode 17 pc (zleaf 14 pc (.inl (zS1 (zIf (fun x => decide (x = 0)) 26 17)))) (zleaf 17 pc (.inl (zLd zIsI 18 1))))))) (znode 27 pc (znode 22 pc (znode 19 pc (zleaf 18 pc (.inl (zLd zIsA 19 0))) (zleaf 19 pc (.inl (zS2 (zGet 1 0 22))))) (znode 23 pc (zleaf 22 pc (.inl (zS1 (zII (fun x y => x + y) 23)))) (znode 26 pc (zleaf 23 pc (.inl (zS1 (zGo 27)))) (zleaf 26 pc (.inl (zS1 (zCst (.int (-1)) 27))))))) (znode 29 pc (znode 28 pc (zleaf 27 pc (.inr (.inl 1))) (zleaf 28 pc (.inl (zLd zIsA 29 0)))) (znode 32 pc (zleaf 29 pc (.inl (zS2 (zGet 1 0 32)))) (znode 33 pc (zleaf 32 pc (.inl (zS1 (zCst (.int 1) 33)))) (zleaf 33 pc (.inl (zS1 (zIcmp (fun x y => decide (x < y)) 51 36))))))))) (znode 52 pc (znode 43 pc (znode 38 pc (znode 37 pc (zleaf 36 pc (.inl (zLd zIsI 37 1))) (zleaf 37 pc (.inl (zLd zIsA 38 0)))) (znode 41 pc (zleaf 38 pc (.inl (zS2 (zGet 1 0 41)))) (znode 42 pc (zleaf 41 pc (.inl (zS1 (zIIg (fun x y => x - x / y * y) 42)))) (zleaf 42 pc (.inl (zLd zIsA 43 0)))))) (znode 47 pc (znode 46 pc (zleaf 43 pc (.inl (zS2 (zGet 1 0 46)))) (zleaf 46 pc (.inl (zS1 (zCst (.int 1) 47))))) (znode 48 pc (zleaf 47 pc (.inl (zS1 (zII (fun x y => x - y) 48)))) (znode 51 pc (zleaf 48 pc (.inl (zS1 (zIcmp (fun x y => decide (¬ x = y)) 55 51)))) (zleaf 51 pc (.inl (zS1 (zCst (.int 1) 52)))))))) (znode 61 pc (znode 56 pc (znode 55 pc (zleaf 52 pc (.inl (zS1 (zGo 56)))) (zleaf 55 pc (.inl (zS1 (zCst (.int 0) 56))))) (znode 57 pc (zleaf 56 pc (.inl (zSt1 zIsI 57 3))) (znode 58 pc (zleaf 57 pc (.inl (zLd zIsI 58 3))) (zleaf 58 pc (.inl (zS1 (zIf (fun x => decide (x = 0)) 65 61))))))) (znode 66 pc (znode 62 pc (zleaf 61 pc (.inl (zS1 (zCst (.int (-1)) 62)))) (znode 65 pc (zleaf 62 pc (.inl (zS1 (zGo 68)))) (zleaf 65 pc (.inl (zLd zIsI 66 1))))) (znode 67 pc (zleaf 66 pc (.inl (zS1 (zCst (.int 1) 67)))) (znode 68 pc (zleaf 67 pc (.inl (zS1 (zII (fun x y => x + y) 68)))) (zleaf 68 pc (.inr (.inl 1))))))))
theorem zk_X1_cellBeside (O : Nat → State → Heap → Prop) (E : zE) (l : Launch) : ∀ pc i, zc_X1_cellBeside pc = some i → zOK z_cl z_T z_G z_N O E z_yy z_bb z_nl z_cc z_rt z_hh l 29 pc i := fun pc => znode_ok (znode_ok (znode_ok (znode_ok (znode_ok (zleaf_ok (zs_iload_n (by decide +kernel : decode cX1_cellBeside 0 = .ok (.iload_n 2, 1)) rfl)) (zleaf_ok (zs_if_eq (t := 28) (by decide) (by decide +kernel : decode cX1_cellBeside 1 = .ok (.ifCond .eq 27, 3))))) (znode_ok (zleaf_ok (zs_aload_n (by decide +kernel : decode cX1_cellBeside 4 = .ok (.aload_n 0, 1)) rfl)) (znode_ok (zleaf_ok (zs_iload_n (by decide +kernel : decode cX1_cellBeside 5 = .ok (.iload_n 1, 1)) rfl)) (zleaf_ok (zs_aload_n (by decide +kernel : decode cX1_cellBeside 6 = .ok (.aload_n 0, 1)) rfl))))) (znode_ok (znode_ok (zleaf_ok (zs_get (C := RX1) (Tc := TX1) (Nc := 9) rfl zinX1 (Nat.le_of_ble_eq_true rfl) zw_85 (by decide +kernel : decode cX1_cellBeside 7 = .ok (.getfield 30, 3)))) (zleaf_ok (zs_iadd (by decide +kernel : decode cX1_cellBeside 10 = .ok (.iadd, 1))))) (znode_ok (zleaf_ok (⟨zcs0 (n := 1) z_good zw_88 zw_89 zw_90 zw_91 zw_92 (by decide +kernel) (by decide +kernel : decode cX1_cellBeside 11 = .ok (.invokevirtual 40, 3)), Nat.le_of_ble_eq_true rfl, by decide +kernel, (fun _ => ⟨TX1, 9, rfl⟩)⟩)) (znode_ok (zleaf_ok (zs_if_eq (t := 26) (by decide) (by decide +kernel : decode cX1_cellBeside 14 = .ok (.ifCond .eq 12, 3)))) (zleaf_ok (zs_iload_n (by decide +kernel : decode cX1_cellBeside 17 = .ok (.iload_n 1, 1)) rfl)))))) (znode_ok (znode_ok (znode_ok (zleaf_ok (zs_aload_n (by decide +kernel : decode cX1_cellBeside 18 = .ok (.aload_n 0, 1)) rfl)) (zleaf_ok (zs_get (C := RX1) (Tc := TX1) (Nc := 9) rfl zinX1 (Nat.le_of_ble_eq_true rfl) zw_85 (by decide +kernel : decode cX1_cellBeside 19 = .ok (.getfield 30, 3))))) (znode_ok (zleaf_ok (zs_iadd (by decide +kernel : decode cX1_cellBeside 22 = .ok (.iadd, 1)))) (znode_ok (zleaf_ok (zs_goto (t := 27) (by decide) (by decide +kernel : decode cX1_cellBeside 23 = .ok (.goto 4, 3)))) (zleaf_ok (zs_iconst (by decide) (by decide +kernel : decode cX1_cellBeside 26 = .ok (.iconst (-1), 1))))))) (znode_ok (znode_ok (zleaf_ok (Or.inr (Or.inl ⟨rfl, rfl, (by decide +kernel : decode cX1_cellBeside 27 = .ok (.ireturn, 1))⟩))) (zleaf_ok (zs_aload_n (by decide +kernel : decode cX1_cellBeside 28 = .ok (.aload_n 0, 1)) rfl))) (znode_ok (zleaf_ok (zs_get (C := RX1) (Tc := TX1) (Nc := 9) rfl zinX1 (Nat.le_of_ble_eq_true rfl) zw_85 (by decide +kernel : decode cX1_cellBeside 29 = .ok (.getfield 30, 3)))) (znode_ok (zleaf_ok (zs_iconst (by decide) (by decide +kernel : decode cX1_cellBeside 32 = .ok (.iconst 1, 1)))) (zleaf_ok (zs_icmp_lt (t := 51) (by decide) (by decide +kernel : decode cX1_cellBeside 33 = .ok (.if_icmp .lt 18, 3))))))))) (znode_ok (znode_ok (znode_ok (znode_ok (zleaf_ok (zs_iload_n (by decide +kernel : decode cX1_cellBeside 36 = .ok (.iload_n 1, 1)) rfl)) (zleaf_ok (zs_aload_n (by decide +kernel : decode cX1_cellBeside 37 = .ok (.aload_n 0, 1)) rfl))) (znode_ok (zleaf_ok (zs_get (C := RX1) (Tc := TX1) (Nc := 9) rfl zinX1 (Nat.le_of_ble_eq_true rfl) zw_85 (by decide +kernel : decode cX1_cellBeside 38 = .ok (.getfield 30, 3)))) (znode_ok (zleaf_ok (zs_irem (by decide +kernel : decode cX1_cellBeside 41 = .ok (.irem, 1)))) (zleaf_ok (zs_aload_n (by decide +kernel : decode cX1_cellBeside 42 = .ok (.aload_n 0, 1)) rfl))))) (znode_ok (znode_ok (zleaf_ok (zs_get (C := RX1) (Tc := TX1) (Nc := 9) rfl zinX1 (Nat.le_of_ble_eq_true rfl) zw_85 (by decide +kernel : decode cX1_cellBeside 43 = .ok (.getfield 30, 3)))) (zleaf_ok (zs_iconst (by decide) (by decide +kernel : decode cX1_cellBeside 46 = .ok (.iconst 1, 1))))) (znode_ok (zleaf_ok (zs_isub (by decide +kernel : decode cX1_cellBeside 47 = .ok (.isub, 1)))) (znode_ok (zleaf_ok (zs_icmp_ne (t := 55) (by decide) (by decide +kernel : decode cX1_cellBeside 48 = .ok (.if_icmp .ne 7, 3)))) (zleaf_ok (zs_iconst (by decide) (by decide +kernel : decode cX1_cellBeside 51 = .ok (.iconst 1, 1)))))))) (znode_ok (znode_ok (znode_ok (zleaf_ok (zs_goto (t := 56) (by decide) (by decide +kernel : decode cX1_cellBeside 52 = .ok (.goto 4, 3)))) (zleaf_ok (zs_iconst (by decide) (by decide +kernel : decode cX1_cellBeside 55 = .ok (.iconst 0, 1))))) (znode_ok (zleaf_ok (zs_istore_n (Nat.le_of_ble_eq_true rfl) (by decide +kernel : decode cX1_cellBeside 56 = .ok (.istore_n 3, 1)) rfl)) (znode_ok (zleaf_ok (zs_iload_n (by decide +kernel : decode cX1_cellBeside 57 = .ok (.iload_n 3, 1)) rfl)) (zleaf_ok (zs_if_eq (t := 65) (by decide) (by decide +kernel : decode cX1_cellBeside 58 = .ok (.ifCond .eq 7, 3))))))) (znode_ok (znode_ok (zleaf_ok (zs_iconst (by decide) (by decide +kernel : decode cX1_cellBeside 61 = .ok (.iconst (-1), 1)))) (znode_ok (zleaf_ok (zs_goto (t := 68) (by decide) (by decide +kernel : decode cX1_cellBeside 62 = .ok (.goto 6, 3)))) (zleaf_ok (zs_iload_n (by decide +kernel : decode cX1_cellBeside 65 = .ok (.iload_n 1, 1)) rfl)))) (znode_ok (zleaf_ok (zs_iconst (by decide) (by decide +kernel : decode cX1_cellBeside 66 = .ok (.iconst 1, 1)))) (znode_ok (zleaf_ok (zs_iadd (by decide +kernel : decode cX1_cellBeside 67 = .ok (.iadd, 1)))) (zleaf_ok (Or.inr (Or.inl ⟨rfl, rfl, (by decide +kernel : decode cX1_cellBeside 68 = .ok (.ireturn, 1))⟩))))))))
/-- Creasebook$Paper.press(III)V -/
def zc_X1_press (pc : Nat) : Option zI := znode 13 pc (znode 6 pc (znode 4 pc (znode 1 pc (zleaf 0 pc (.inl (zLd zIsA 1 0))) (zleaf 1 pc (.inl (zS2 (zGet 1 3 4))))) (znode 5 pc (zleaf 4 pc (.inl (zLd zIsI 5 1))) (zleaf 5 pc (.inl (zLd zIsI 6 2))))) (znode 8 pc (znode 7 pc (zleaf 6 pc (.inl (zAstI 0 7))) (zleaf 7 pc (.inl (zLd zIsA 8 0)))) (znode 11 pc (zleaf 8 pc (.inl (zS2 (zGet 1 4 11)))) (znode 12 pc (zleaf 11 pc (.inl (zLd zIsI 12 1))) (zleaf 12 pc (.inl (zLd zIsI 13 3))))))) (znode 20 pc (znode 15 pc (znode 14 pc (zleaf 13 pc (.inl (zAstI 0 14))) (zleaf 14 pc (.inl (zLd zIsA 15 0)))) (znode 18 pc (zleaf 15 pc (.inl (zS2 (zGet 1 5 18)))) (znode 19 pc (zleaf 18 pc (.inl (zLd zIsI 19 1))) (zleaf 19 pc (.inl (zS1 (zDup2 20))))))) (znode 22 pc (znode 21 pc (zleaf 20 pc (.inl (zS2 (zAldI 0 21)))) (zleaf 21 pc (.inl (zS1 (zCst (.int 1) 22))))) (znode 23 pc (zleaf 22 pc (.inl (zS1 (zII (fun x y => x + y) 23)))) (znode 24 pc (zleaf 23 pc (.inl (zAstI 0 24))) (zleaf 24 pc (.inr (.inl 0)))))))
theorem zk_X1_press (O : Nat → State → Heap → Prop) (E : zE) (l : Launch) : ∀ pc i, zc_X1_press pc = some i → zOK z_cl z_T z_G z_N O E z_yy z_bb z_nl z_cc z_rt z_hh l 30 pc i := fun pc => znode_ok (znode_ok (znode_ok (znode_ok (zleaf_ok (zs_aload_n (by decide +kernel : decode cX1_press 0 = .ok (.aload_n 0, 1)) rfl)) (zleaf_ok (zs_get (C := RX1) (Tc := TX1) (Nc := 9) rfl zinX1 (Nat.le_of_ble_eq_true rfl) zw_79 (by decide +kernel : decode cX1_press 1 = .ok (.getfield 9, 3))))) (znode_ok (zleaf_ok (zs_iload_n (by decide +kernel : decode cX1_press 4 = .ok (.iload_n 1, 1)) rfl)) (zleaf_ok (zs_iload_n (by decide +kernel : decode cX1_press 5 = .ok (.iload_n 2, 1)) rfl)))) (znode_ok (znode_ok (zleaf_ok (zs_astI rfl (by decide +kernel : decode cX1_press 6 = .ok (.iastore, 1)))) (zleaf_ok (zs_aload_n (by decide +kernel : decode cX1_press 7 = .ok (.aload_n 0, 1)) rfl))) (znode_ok (zleaf_ok (zs_get (C := RX1) (Tc := TX1) (Nc := 9) rfl zinX1 (Nat.le_of_ble_eq_true rfl) zw_80 (by decide +kernel : decode cX1_press 8 = .ok (.getfield 15, 3)))) (znode_ok (zleaf_ok (zs_iload_n (by decide +kernel : decode cX1_press 11 = .ok (.iload_n 1, 1)) rfl)) (zleaf_ok (zs_iload_n (by decide +kernel : decode cX1_press 12 = .ok (.iload_n 3, 1)) rfl)))))) (znode_ok (znode_ok (znode_ok (zleaf_ok (zs_astI rfl (by decide +kernel : decode cX1_press 13 = .ok (.iastore, 1)))) (zleaf_ok (zs_aload_n (by decide +kernel : decode cX1_press 14 = .ok (.aload_n 0, 1)) rfl))) (znode_ok (zleaf_ok (zs_get (C := RX1) (Tc := TX1) (Nc := 9) rfl zinX1 (Nat.le_of_ble_eq_true rfl) zw_81 (by decide +kernel : decode cX1_press 15 = .ok (.getfield 18, 3)))) (znode_ok (zleaf_ok (zs_iload_n (by decide +kernel : decode cX1_press 18 = .ok (.iload_n 1, 1)) rfl)) (zleaf_ok (zs_dup2 (by decide +kernel : decode cX1_press 19 = .ok (.dup2, 1))))))) (znode_ok (znode_ok (zleaf_ok (zs_aldI rfl (by decide +kernel : decode cX1_press 20 = .ok (.iaload, 1)))) (zleaf_ok (zs_iconst (by decide) (by decide +kernel : decode cX1_press 21 = .ok (.iconst 1, 1))))) (znode_ok (zleaf_ok (zs_iadd (by decide +kernel : decode cX1_press 22 = .ok (.iadd, 1)))) (znode_ok (zleaf_ok (zs_astI rfl (by decide +kernel : decode cX1_press 23 = .ok (.iastore, 1)))) (zleaf_ok (Or.inl ⟨rfl, rfl, (by decide +kernel : decode cX1_press 24 = .ok (.return_, 1))⟩))))))
/-- Creasebook$Paper.smoothCreasesOf(I)V -/
def zc_X1_smoothCreasesOf (pc : Nat) : Option zI := znode 19 pc (znode 8 pc (znode 3 pc (znode 1 pc (zleaf 0 pc (.inl (zS1 (zCst (.int 0) 1)))) (znode 2 pc (zleaf 1 pc (.inl (zSt1 zIsI 2 2))) (zleaf 2 pc (.inl (zLd zIsI 3 2))))) (znode 4 pc (zleaf 3 pc (.inl (zS1 (zCst (.int 2) 4)))) (znode 5 pc (zleaf 4 pc (.inl (zLd zIsA 5 0))) (zleaf 5 pc (.inl (zS2 (zGet 1 2 8))))))) (znode 13 pc (znode 9 pc (zleaf 8 pc (.inl (zS1 (zII (fun x y => x * y) 9)))) (znode 12 pc (zleaf 9 pc (.inl (zS1 (zIcmp (fun x y => decide (y ≤ x)) 42 12)))) (zleaf 12 pc (.inl (zLd zIsA 13 0))))) (znode 17 pc (znode 16 pc (zleaf 13 pc (.inl (zS2 (zGet 1 4 16)))) (zleaf 16 pc (.inl (zLd zIsI 17 2)))) (znode 18 pc (zleaf 17 pc (.inl (zS2 (zAldI 0 18)))) (zleaf 18 pc (.inl (zLd zIsI 19 1))))))) (znode 30 pc (znode 26 pc (znode 22 pc (zleaf 19 pc (.inl (zS1 (zIcmp (fun x y => decide (¬ x = y)) 36 22)))) (znode 23 pc (zleaf 22 pc (.inl (zLd zIsA 23 0))) (zleaf 23 pc (.inl (zS2 (zGet 1 3 26)))))) (znode 28 pc (znode 27 pc (zleaf 26 pc (.inl (zLd zIsI 27 2))) (zleaf 27 pc (.inl (zS1 (zCst (.int 0) 28))))) (znode 29 pc (zleaf 28 pc (.inl (zAstI 0 29))) (zleaf 29 pc (.inl (zLd zIsA 30 0)))))) (znode 35 pc (znode 33 pc (zleaf 30 pc (.inl (zS2 (zGet 1 4 33)))) (znode 34 pc (zleaf 33 pc (.inl (zLd zIsI 34 2))) (zleaf 34 pc (.inl (zS1 (zCst (.int 0) 35)))))) (znode 39 pc (znode 36 pc (zleaf 35 pc (.inl (zAstI 0 36))) (zleaf 36 pc (.inl (zIinc 39 2 1)))) (znode 42 pc (zleaf 39 pc (.inl (zS1 (zGo 2)))) (zleaf 42 pc (.inr (.inl 0)))))))
theorem zk_X1_smoothCreasesOf (O : Nat → State → Heap → Prop) (E : zE) (l : Launch) : ∀ pc i, zc_X1_smoothCreasesOf pc = some i → zOK z_cl z_T z_G z_N O E z_yy z_bb z_nl z_cc z_rt z_hh l 31 pc i := fun pc => znode_ok (znode_ok (znode_ok (znode_ok (zleaf_ok (zs_iconst (by decide) (by decide +kernel : decode cX1_smoothCreasesOf 0 = .ok (.iconst 0, 1)))) (znode_ok (zleaf_ok (zs_istore_n (Nat.le_of_ble_eq_true rfl) (by decide +kernel : decode cX1_smoothCreasesOf 1 = .ok (.istore_n 2, 1)) rfl)) (zleaf_ok (zs_iload_n (by decide +kernel : decode cX1_smoothCreasesOf 2 = .ok (.iload_n 2, 1)) rfl)))) (znode_ok (zleaf_ok (zs_iconst (by decide) (by decide +kernel : decode cX1_smoothCreasesOf 3 = .ok (.iconst 2, 1)))) (znode_ok (zleaf_ok (zs_aload_n (by decide +kernel : decode cX1_smoothCreasesOf 4 = .ok (.aload_n 0, 1)) rfl)) (zleaf_ok (zs_get (C := RX1) (Tc := TX1) (Nc := 9) rfl zinX1 (Nat.le_of_ble_eq_true rfl) zw_87 (by decide +kernel : decode cX1_smoothCreasesOf 5 = .ok (.getfield 37, 3))))))) (znode_ok (znode_ok (zleaf_ok (zs_imul (by decide +kernel : decode cX1_smoothCreasesOf 8 = .ok (.imul, 1)))) (znode_ok (zleaf_ok (zs_icmp_ge (t := 42) (by decide) (by decide +kernel : decode cX1_smoothCreasesOf 9 = .ok (.if_icmp .ge 33, 3)))) (zleaf_ok (zs_aload_n (by decide +kernel : decode cX1_smoothCreasesOf 12 = .ok (.aload_n 0, 1)) rfl)))) (znode_ok (znode_ok (zleaf_ok (zs_get (C := RX1) (Tc := TX1) (Nc := 9) rfl zinX1 (Nat.le_of_ble_eq_true rfl) zw_80 (by decide +kernel : decode cX1_smoothCreasesOf 13 = .ok (.getfield 15, 3)))) (zleaf_ok (zs_iload_n (by decide +kernel : decode cX1_smoothCreasesOf 16 = .ok (.iload_n 2, 1)) rfl))) (znode_ok (zleaf_ok (zs_aldI rfl (by decide +kernel : decode cX1_smoothCreasesOf 17 = .ok (.iaload, 1)))) (zleaf_ok (zs_iload_n (by decide +kernel : decode cX1_smoothCreasesOf 18 = .ok (.iload_n 1, 1)) rfl)))))) (znode_ok (znode_ok (znode_ok (zleaf_ok (zs_icmp_ne (t := 36) (by decide) (by decide +kernel : decode cX1_smoothCreasesOf 19 = .ok (.if_icmp .ne 17, 3)))) (znode_ok (zleaf_ok (zs_aload_n (by decide +kernel : decode cX1_smoothCreasesOf 22 = .ok (.aload_n 0, 1)) rfl)) (zleaf_ok (zs_get (C := RX1) (Tc := TX1) (Nc := 9) rfl zinX1 (Nat.le_of_ble_eq_true rfl) zw_79 (by decide +kernel : decode cX1_smoothCreasesOf 23 = .ok (.getfield 9, 3)))))) (znode_ok (znode_ok (zleaf_ok (zs_iload_n (by decide +kernel : decode cX1_smoothCreasesOf 26 = .ok (.iload_n 2, 1)) rfl)) (zleaf_ok (zs_iconst (by decide) (by decide +kernel : decode cX1_smoothCreasesOf 27 = .ok (.iconst 0, 1))))) (znode_ok (zleaf_ok (zs_astI rfl (by decide +kernel : decode cX1_smoothCreasesOf 28 = .ok (.iastore, 1)))) (zleaf_ok (zs_aload_n (by decide +kernel : decode cX1_smoothCreasesOf 29 = .ok (.aload_n 0, 1)) rfl))))) (znode_ok (znode_ok (zleaf_ok (zs_get (C := RX1) (Tc := TX1) (Nc := 9) rfl zinX1 (Nat.le_of_ble_eq_true rfl) zw_80 (by decide +kernel : decode cX1_smoothCreasesOf 30 = .ok (.getfield 15, 3)))) (znode_ok (zleaf_ok (zs_iload_n (by decide +kernel : decode cX1_smoothCreasesOf 33 = .ok (.iload_n 2, 1)) rfl)) (zleaf_ok (zs_iconst (by decide) (by decide +kernel : decode cX1_smoothCreasesOf 34 = .ok (.iconst 0, 1)))))) (znode_ok (znode_ok (zleaf_ok (zs_astI rfl (by decide +kernel : decode cX1_smoothCreasesOf 35 = .ok (.iastore, 1)))) (zleaf_ok (zs_iinc (Nat.le_of_ble_eq_true rfl) (by decide) (by decide +kernel : decode cX1_smoothCreasesOf 36 = .ok (.iinc 2 1, 3))))) (znode_ok (zleaf_ok (zs_goto (t := 2) (by decide) (by decide +kernel : decode cX1_smoothCreasesOf 39 = .ok (.goto (-37), 3)))) (zleaf_ok (Or.inl ⟨rfl, rfl, (by decide +kernel : decode cX1_smoothCreasesOf 42 = .ok (.return_, 1))⟩))))))
/-- Creasebook$Paper.creasesOf(I)I -/
def zc_X1_creasesOf (pc : Nat) : Option zI := znode 37 pc (znode 17 pc (znode 5 pc (znode 2 pc (znode 1 pc (zleaf 0 pc (.inl (zS1 (zCst (.int 0) 1)))) (zleaf 1 pc (.inl (zSt1 zIsI 2 2)))) (znode 3 pc (zleaf 2 pc (.inl (zS1 (zCst (.int 0) 3)))) (znode 4 pc (zleaf 3 pc (.inl (zSt1 zIsI 4 3))) (zleaf 4 pc (.inl (zLd zIsI 5 3)))))) (znode 12 pc (znode 6 pc (zleaf 5 pc (.inl (zLd zIsA 6 0))) (znode 9 pc (zleaf 6 pc (.inl (zS2 (zGet 1 2 9)))) (zleaf 9 pc (.inl (zS1 (zIcmp (fun x y => decide (y ≤ x)) 80 12)))))) (znode 13 pc (zleaf 12 pc (.inl (zLd zIsA 13 0))) (znode 16 pc (zleaf 13 pc (.inl (zS2 (zGet 1 3 16)))) (zleaf 16 pc (.inl (zLd zIsI 17 3))))))) (znode 27 pc (znode 22 pc (znode 18 pc (zleaf 17 pc (.inl (zS1 (zCst (.int 0) 18)))) (znode 21 pc (zleaf 18 pc (.inr (.inr (.inr (90, 2, 3))))) (zleaf 21 pc (.inl (zS2 (zAldI 0 22)))))) (znode 25 pc (zleaf 22 pc (.inl (zS1 (zIf (fun x => decide (x = 0)) 43 25)))) (znode 26 pc (zleaf 25 pc (.inl (zLd zIsI 26 3))) (zleaf 26 pc (.inl (zLd zIsI 27 1)))))) (znode 32 pc (znode 30 pc (zleaf 27 pc (.inl (zS1 (zIcmp (fun x y => decide (x = y)) 40 30)))) (znode 31 pc (zleaf 30 pc (.inl (zLd zIsA 31 0))) (zleaf 31 pc (.inl (zLd zIsI 32 3))))) (znode 33 pc (zleaf 32 pc (.inl (zS1 (zCst (.int 0) 33)))) (znode 36 pc (zleaf 33 pc (.inr (.inr (.inr (29, 3, 0))))) (zleaf 36 pc (.inl (zLd zIsI 37 1)))))))) (znode 58 pc (znode 48 pc (znode 43 pc (znode 40 pc (zleaf 37 pc (.inl (zS1 (zIcmp (fun x y => decide (¬ x = y)) 43 40)))) (zleaf 40 pc (.inl (zIinc 43 2 1)))) (znode 44 pc (zleaf 43 pc (.inl (zLd zIsA 44 0))) (znode 47 pc (zleaf 44 pc (.inl (zS2 (zGet 1 3 47)))) (zleaf 47 pc (.inl (zLd zIsI 48 3)))))) (znode 53 pc (znode 49 pc (zleaf 48 pc (.inl (zS1 (zCst (.int 1) 49)))) (znode 52 pc (zleaf 49 pc (.inr (.inr (.inr (90, 2, 3))))) (zleaf 52 pc (.inl (zS2 (zAldI 0 53)))))) (znode 56 pc (zleaf 53 pc (.inl (zS1 (zIf (fun x => decide (x = 0)) 74 56)))) (znode 57 pc (zleaf 56 pc (.inl (zLd zIsI 57 3))) (zleaf 57 pc (.inl (zLd zIsI 58 1))))))) (znode 68 pc (znode 63 pc (znode 61 pc (zleaf 58 pc (.inl (zS1 (zIcmp (fun x y => decide (x = y)) 71 61)))) (znode 62 pc (zleaf 61 pc (.inl (zLd zIsA 62 0))) (zleaf 62 pc (.inl (zLd zIsI 63 3))))) (znode 64 pc (zleaf 63 pc (.inl (zS1 (zCst (.int 1) 64)))) (znode 67 pc (zleaf 64 pc (.inr (.inr (.inr (29, 3, 0))))) (zleaf 67 pc (.inl (zLd zIsI 68 1)))))) (znode 77 pc (znode 71 pc (zleaf 68 pc (.inl (zS1 (zIcmp (fun x y => decide (¬ x = y)) 74 71)))) (znode 74 pc (zleaf 71 pc (.inl (zIinc 74 2 1))) (zleaf 74 pc (.inl (zIinc 77 3 1))))) (znode 80 pc (zleaf 77 pc (.inl (zS1 (zGo 4)))) (znode 81 pc (zleaf 80 pc (.inl (zLd zIsI 81 2))) (zleaf 81 pc (.inr (.inl 1))))))))
theorem zk_X1_creasesOf (O : Nat → State → Heap → Prop) (E : zE) (l : Launch) : ∀ pc i, zc_X1_creasesOf pc = some i → zOK z_cl z_T z_G z_N O E z_yy z_bb z_nl z_cc z_rt z_hh l 32 pc i := fun pc => znode_ok (znode_ok (znode_ok (znode_ok (znode_ok (zleaf_ok (zs_iconst (by decide) (by decide +kernel : decode cX1_creasesOf 0 = .ok (.iconst 0, 1)))) (zleaf_ok (zs_istore_n (Nat.le_of_ble_eq_true rfl) (by decide +kernel : decode cX1_creasesOf 1 = .ok (.istore_n 2, 1)) rfl))) (znode_ok (zleaf_ok (zs_iconst (by decide) (by decide +kernel : decode cX1_creasesOf 2 = .ok (.iconst 0, 1)))) (znode_ok (zleaf_ok (zs_istore_n (Nat.le_of_ble_eq_true rfl) (by decide +kernel : decode cX1_creasesOf 3 = .ok (.istore_n 3, 1)) rfl)) (zleaf_ok (zs_iload_n (by decide +kernel : decode cX1_creasesOf 4 = .ok (.iload_n 3, 1)) rfl))))) (znode_ok (znode_ok (zleaf_ok (zs_aload_n (by decide +kernel : decode cX1_creasesOf 5 = .ok (.aload_n 0, 1)) rfl)) (znode_ok (zleaf_ok (zs_get (C := RX1) (Tc := TX1) (Nc := 9) rfl zinX1 (Nat.le_of_ble_eq_true rfl) zw_87 (by decide +kernel : decode cX1_creasesOf 6 = .ok (.getfield 37, 3)))) (zleaf_ok (zs_icmp_ge (t := 80) (by decide) (by decide +kernel : decode cX1_creasesOf 9 = .ok (.if_icmp .ge 71, 3)))))) (znode_ok (zleaf_ok (zs_aload_n (by decide +kernel : decode cX1_creasesOf 12 = .ok (.aload_n 0, 1)) rfl)) (znode_ok (zleaf_ok (zs_get (C := RX1) (Tc := TX1) (Nc := 9) rfl zinX1 (Nat.le_of_ble_eq_true rfl) zw_79 (by decide +kernel : decode cX1_creasesOf 13 = .ok (.getfield 9, 3)))) (zleaf_ok (zs_iload_n (by decide +kernel : decode cX1_creasesOf 16 = .ok (.iload_n 3, 1)) rfl)))))) (znode_ok (znode_ok (znode_ok (zleaf_ok (zs_iconst (by decide) (by decide +kernel : decode cX1_creasesOf 17 = .ok (.iconst 0, 1)))) (znode_ok (zleaf_ok (⟨zcs3 (n := 2) z_good zw_93 zw_19 zw_94 zw_95 (by decide +kernel) (by decide +kernel : decode cX1_creasesOf 18 = .ok (.invokestatic 44, 3)), Nat.le_of_ble_eq_true rfl, by decide +kernel, (fun h => absurd rfl (h.2.1))⟩)) (zleaf_ok (zs_aldI rfl (by decide +kernel : decode cX1_creasesOf 21 = .ok (.iaload, 1)))))) (znode_ok (zleaf_ok (zs_if_eq (t := 43) (by decide) (by decide +kernel : decode cX1_creasesOf 22 = .ok (.ifCond .eq 21, 3)))) (znode_ok (zleaf_ok (zs_iload_n (by decide +kernel : decode cX1_creasesOf 25 = .ok (.iload_n 3, 1)) rfl)) (zleaf_ok (zs_iload_n (by decide +kernel : decode cX1_creasesOf 26 = .ok (.iload_n 1, 1)) rfl))))) (znode_ok (znode_ok (zleaf_ok (zs_icmp_eq (t := 40) (by decide) (by decide +kernel : decode cX1_creasesOf 27 = .ok (.if_icmp .eq 13, 3)))) (znode_ok (zleaf_ok (zs_aload_n (by decide +kernel : decode cX1_creasesOf 30 = .ok (.aload_n 0, 1)) rfl)) (zleaf_ok (zs_iload_n (by decide +kernel : decode cX1_creasesOf 31 = .ok (.iload_n 3, 1)) rfl)))) (znode_ok (zleaf_ok (zs_iconst (by decide) (by decide +kernel : decode cX1_creasesOf 32 = .ok (.iconst 0, 1)))) (znode_ok (zleaf_ok (⟨zcs0 (n := 2) z_good zw_96 zw_89 zw_97 zw_98 zw_99 (by decide +kernel) (by decide +kernel : decode cX1_creasesOf 33 = .ok (.invokevirtual 48, 3)), Nat.le_of_ble_eq_true rfl, by decide +kernel, (fun _ => ⟨TX1, 9, rfl⟩)⟩)) (zleaf_ok (zs_iload_n (by decide +kernel : decode cX1_creasesOf 36 = .ok (.iload_n 1, 1)) rfl))))))) (znode_ok (znode_ok (znode_ok (znode_ok (zleaf_ok (zs_icmp_ne (t := 43) (by decide) (by decide +kernel : decode cX1_creasesOf 37 = .ok (.if_icmp .ne 6, 3)))) (zleaf_ok (zs_iinc (Nat.le_of_ble_eq_true rfl) (by decide) (by decide +kernel : decode cX1_creasesOf 40 = .ok (.iinc 2 1, 3))))) (znode_ok (zleaf_ok (zs_aload_n (by decide +kernel : decode cX1_creasesOf 43 = .ok (.aload_n 0, 1)) rfl)) (znode_ok (zleaf_ok (zs_get (C := RX1) (Tc := TX1) (Nc := 9) rfl zinX1 (Nat.le_of_ble_eq_true rfl) zw_79 (by decide +kernel : decode cX1_creasesOf 44 = .ok (.getfield 9, 3)))) (zleaf_ok (zs_iload_n (by decide +kernel : decode cX1_creasesOf 47 = .ok (.iload_n 3, 1)) rfl))))) (znode_ok (znode_ok (zleaf_ok (zs_iconst (by decide) (by decide +kernel : decode cX1_creasesOf 48 = .ok (.iconst 1, 1)))) (znode_ok (zleaf_ok (⟨zcs3 (n := 2) z_good zw_93 zw_19 zw_94 zw_95 (by decide +kernel) (by decide +kernel : decode cX1_creasesOf 49 = .ok (.invokestatic 44, 3)), Nat.le_of_ble_eq_true rfl, by decide +kernel, (fun h => absurd rfl (h.2.1))⟩)) (zleaf_ok (zs_aldI rfl (by decide +kernel : decode cX1_creasesOf 52 = .ok (.iaload, 1)))))) (znode_ok (zleaf_ok (zs_if_eq (t := 74) (by decide) (by decide +kernel : decode cX1_creasesOf 53 = .ok (.ifCond .eq 21, 3)))) (znode_ok (zleaf_ok (zs_iload_n (by decide +kernel : decode cX1_creasesOf 56 = .ok (.iload_n 3, 1)) rfl)) (zleaf_ok (zs_iload_n (by decide +kernel : decode cX1_creasesOf 57 = .ok (.iload_n 1, 1)) rfl)))))) (znode_ok (znode_ok (znode_ok (zleaf_ok (zs_icmp_eq (t := 71) (by decide) (by decide +kernel : decode cX1_creasesOf 58 = .ok (.if_icmp .eq 13, 3)))) (znode_ok (zleaf_ok (zs_aload_n (by decide +kernel : decode cX1_creasesOf 61 = .ok (.aload_n 0, 1)) rfl)) (zleaf_ok (zs_iload_n (by decide +kernel : decode cX1_creasesOf 62 = .ok (.iload_n 3, 1)) rfl)))) (znode_ok (zleaf_ok (zs_iconst (by decide) (by decide +kernel : decode cX1_creasesOf 63 = .ok (.iconst 1, 1)))) (znode_ok (zleaf_ok (⟨zcs0 (n := 2) z_good zw_96 zw_89 zw_97 zw_98 zw_99 (by decide +kernel) (by decide +kernel : decode cX1_creasesOf 64 = .ok (.invokevirtual 48, 3)), Nat.le_of_ble_eq_true rfl, by decide +kernel, (fun _ => ⟨TX1, 9, rfl⟩)⟩)) (zleaf_ok (zs_iload_n (by decide +kernel : decode cX1_creasesOf 67 = .ok (.iload_n 1, 1)) rfl))))) (znode_ok (znode_ok (zleaf_ok (zs_icmp_ne (t := 74) (by decide) (by decide +kernel : decode cX1_creasesOf 68 = .ok (.if_icmp .ne 6, 3)))) (znode_ok (zleaf_ok (zs_iinc (Nat.le_of_ble_eq_true rfl) (by decide) (by decide +kernel : decode cX1_creasesOf 71 = .ok (.iinc 2 1, 3)))) (zleaf_ok (zs_iinc (Nat.le_of_ble_eq_true rfl) (by decide) (by decide +kernel : decode cX1_creasesOf 74 = .ok (.iinc 3 1, 3)))))) (znode_ok (zleaf_ok (zs_goto (t := 4) (by decide) (by decide +kernel : decode cX1_creasesOf 77 = .ok (.goto (-73), 3)))) (znode_ok (zleaf_ok (zs_iload_n (by decide +kernel : decode cX1_creasesOf 80 = .ok (.iload_n 2, 1)) rfl)) (zleaf_ok (Or.inr (Or.inl ⟨rfl, rfl, (by decide +kernel : decode cX1_creasesOf 81 = .ok (.ireturn, 1))⟩))))))))
end
section
/-- Creasebook$Paper.tellPair(II)I -/
def zc_X1_tellPair (pc : Nat) : Option zI := znode 41 pc (znode 21 pc (znode 9 pc (znode 4 pc (znode 1 pc (zleaf 0 pc (.inl (zLd zIsI 1 2))) (zleaf 1 pc (.inl (zS1 (zIf (fun x => decide (¬ x = 0)) 22 4))))) (znode 5 pc (zleaf 4 pc (.inl (zLd zIsA 5 0))) (znode 8 pc (zleaf 5 pc (.inl (zS2 (zGet 1 3 8)))) (zleaf 8 pc (.inl (zLd zIsI 9 1)))))) (znode 14 pc (znode 10 pc (zleaf 9 pc (.inl (zS2 (zAldI 0 10)))) (znode 13 pc (zleaf 10 pc (.inl (zS1 (zIf (fun x => decide (x = 0)) 17 13)))) (zleaf 13 pc (.inl (zS1 (zCst (.int 1) 14)))))) (znode 17 pc (zleaf 14 pc (.inl (zS1 (zGo 18)))) (znode 18 pc (zleaf 17 pc (.inl (zS1 (zCst (.int 0) 18)))) (zleaf 18 pc (.inr (.inr (.inr (84, 1, 3))))))))) (znode 31 pc (znode 24 pc (znode 22 pc (zleaf 21 pc (.inr (.inl 1))) (znode 23 pc (zleaf 22 pc (.inl (zLd zIsI 23 2))) (zleaf 23 pc (.inl (zS1 (zCst (.int 1) 24)))))) (znode 27 pc (zleaf 24 pc (.inl (zS1 (zIcmp (fun x y => decide (¬ x = y)) 65 27)))) (znode 28 pc (zleaf 27 pc (.inl (zLd zIsA 28 0))) (zleaf 28 pc (.inl (zS2 (zGet 1 3 31))))))) (znode 34 pc (znode 32 pc (zleaf 31 pc (.inl (zLd zIsI 32 1))) (znode 33 pc (zleaf 32 pc (.inl (zS2 (zAldI 0 33)))) (zleaf 33 pc (.inl (zS1 (zCst (.int 2) 34)))))) (znode 37 pc (zleaf 34 pc (.inl (zS1 (zIcmp (fun x y => decide (¬ x = y)) 41 37)))) (znode 38 pc (zleaf 37 pc (.inl (zS1 (zCst (.int 1) 38)))) (zleaf 38 pc (.inl (zS1 (zGo 42))))))))) (znode 63 pc (znode 51 pc (znode 46 pc (znode 42 pc (zleaf 41 pc (.inl (zS1 (zCst (.int 0) 42)))) (znode 45 pc (zleaf 42 pc (.inr (.inr (.inr (84, 1, 3))))) (zleaf 45 pc (.inl (zLd zIsA 46 0))))) (znode 49 pc (zleaf 46 pc (.inl (zS2 (zGet 1 3 49)))) (znode 50 pc (zleaf 49 pc (.inl (zLd zIsI 50 1))) (zleaf 50 pc (.inl (zS2 (zAldI 0 51))))))) (znode 56 pc (znode 52 pc (zleaf 51 pc (.inl (zS1 (zCst (.int 1) 52)))) (znode 55 pc (zleaf 52 pc (.inl (zS1 (zIcmp (fun x y => decide (¬ x = y)) 59 55)))) (zleaf 55 pc (.inl (zS1 (zCst (.int 1) 56)))))) (znode 59 pc (zleaf 56 pc (.inl (zS1 (zGo 60)))) (znode 60 pc (zleaf 59 pc (.inl (zS1 (zCst (.int 0) 60)))) (zleaf 60 pc (.inr (.inr (.inr (84, 1, 3))))))))) (znode 71 pc (znode 66 pc (znode 64 pc (zleaf 63 pc (.inl (zS1 (zII (fun x y => x - y) 64)))) (znode 65 pc (zleaf 64 pc (.inr (.inl 1))) (zleaf 65 pc (.inl (zLd zIsA 66 0))))) (znode 69 pc (zleaf 66 pc (.inl (zS2 (zGet 1 5 69)))) (znode 70 pc (zleaf 69 pc (.inl (zLd zIsI 70 1))) (zleaf 70 pc (.inl (zS2 (zAldI 0 71))))))) (znode 78 pc (znode 74 pc (zleaf 71 pc (.inl (zS1 (zIf (fun x => decide (x ≤ 0)) 78 74)))) (znode 75 pc (zleaf 74 pc (.inl (zS1 (zCst (.int 1) 75)))) (zleaf 75 pc (.inl (zS1 (zGo 79)))))) (znode 79 pc (zleaf 78 pc (.inl (zS1 (zCst (.int 0) 79)))) (znode 82 pc (zleaf 79 pc (.inr (.inr (.inr (84, 1, 3))))) (zleaf 82 pc (.inr (.inl 1))))))))
theorem zk_X1_tellPair (O : Nat → State → Heap → Prop) (E : zE) (l : Launch) : ∀ pc i, zc_X1_tellPair pc = some i → zOK z_cl z_T z_G z_N O E z_yy z_bb z_nl z_cc z_rt z_hh l 33 pc i := fun pc => znode_ok (znode_ok (znode_ok (znode_ok (znode_ok (zleaf_ok (zs_iload_n (by decide +kernel : decode cX1_tellPair 0 = .ok (.iload_n 2, 1)) rfl)) (zleaf_ok (zs_if_ne (t := 22) (by decide) (by decide +kernel : decode cX1_tellPair 1 = .ok (.ifCond .ne 21, 3))))) (znode_ok (zleaf_ok (zs_aload_n (by decide +kernel : decode cX1_tellPair 4 = .ok (.aload_n 0, 1)) rfl)) (znode_ok (zleaf_ok (zs_get (C := RX1) (Tc := TX1) (Nc := 9) rfl zinX1 (Nat.le_of_ble_eq_true rfl) zw_79 (by decide +kernel : decode cX1_tellPair 5 = .ok (.getfield 9, 3)))) (zleaf_ok (zs_iload_n (by decide +kernel : decode cX1_tellPair 8 = .ok (.iload_n 1, 1)) rfl))))) (znode_ok (znode_ok (zleaf_ok (zs_aldI rfl (by decide +kernel : decode cX1_tellPair 9 = .ok (.iaload, 1)))) (znode_ok (zleaf_ok (zs_if_eq (t := 17) (by decide) (by decide +kernel : decode cX1_tellPair 10 = .ok (.ifCond .eq 7, 3)))) (zleaf_ok (zs_iconst (by decide) (by decide +kernel : decode cX1_tellPair 13 = .ok (.iconst 1, 1)))))) (znode_ok (zleaf_ok (zs_goto (t := 18) (by decide) (by decide +kernel : decode cX1_tellPair 14 = .ok (.goto 4, 3)))) (znode_ok (zleaf_ok (zs_iconst (by decide) (by decide +kernel : decode cX1_tellPair 17 = .ok (.iconst 0, 1)))) (zleaf_ok (⟨zcs3 (n := 1) z_good zw_100 zw_19 zw_101 zw_102 (by decide +kernel) (by decide +kernel : decode cX1_tellPair 18 = .ok (.invokestatic 51, 3)), Nat.le_of_ble_eq_true rfl, by decide +kernel, (fun h => absurd rfl (h.2.1))⟩)))))) (znode_ok (znode_ok (znode_ok (zleaf_ok (Or.inr (Or.inl ⟨rfl, rfl, (by decide +kernel : decode cX1_tellPair 21 = .ok (.ireturn, 1))⟩))) (znode_ok (zleaf_ok (zs_iload_n (by decide +kernel : decode cX1_tellPair 22 = .ok (.iload_n 2, 1)) rfl)) (zleaf_ok (zs_iconst (by decide) (by decide +kernel : decode cX1_tellPair 23 = .ok (.iconst 1, 1)))))) (znode_ok (zleaf_ok (zs_icmp_ne (t := 65) (by decide) (by decide +kernel : decode cX1_tellPair 24 = .ok (.if_icmp .ne 41, 3)))) (znode_ok (zleaf_ok (zs_aload_n (by decide +kernel : decode cX1_tellPair 27 = .ok (.aload_n 0, 1)) rfl)) (zleaf_ok (zs_get (C := RX1) (Tc := TX1) (Nc := 9) rfl zinX1 (Nat.le_of_ble_eq_true rfl) zw_79 (by decide +kernel : decode cX1_tellPair 28 = .ok (.getfield 9, 3))))))) (znode_ok (znode_ok (zleaf_ok (zs_iload_n (by decide +kernel : decode cX1_tellPair 31 = .ok (.iload_n 1, 1)) rfl)) (znode_ok (zleaf_ok (zs_aldI rfl (by decide +kernel : decode cX1_tellPair 32 = .ok (.iaload, 1)))) (zleaf_ok (zs_iconst (by decide) (by decide +kernel : decode cX1_tellPair 33 = .ok (.iconst 2, 1)))))) (znode_ok (zleaf_ok (zs_icmp_ne (t := 41) (by decide) (by decide +kernel : decode cX1_tellPair 34 = .ok (.if_icmp .ne 7, 3)))) (znode_ok (zleaf_ok (zs_iconst (by decide) (by decide +kernel : decode cX1_tellPair 37 = .ok (.iconst 1, 1)))) (zleaf_ok (zs_goto (t := 42) (by decide) (by decide +kernel : decode cX1_tellPair 38 = .ok (.goto 4, 3))))))))) (znode_ok (znode_ok (znode_ok (znode_ok (zleaf_ok (zs_iconst (by decide) (by decide +kernel : decode cX1_tellPair 41 = .ok (.iconst 0, 1)))) (znode_ok (zleaf_ok (⟨zcs3 (n := 1) z_good zw_100 zw_19 zw_101 zw_102 (by decide +kernel) (by decide +kernel : decode cX1_tellPair 42 = .ok (.invokestatic 51, 3)), Nat.le_of_ble_eq_true rfl, by decide +kernel, (fun h => absurd rfl (h.2.1))⟩)) (zleaf_ok (zs_aload_n (by decide +kernel : decode cX1_tellPair 45 = .ok (.aload_n 0, 1)) rfl)))) (znode_ok (zleaf_ok (zs_get (C := RX1) (Tc := TX1) (Nc := 9) rfl zinX1 (Nat.le_of_ble_eq_true rfl) zw_79 (by decide +kernel : decode cX1_tellPair 46 = .ok (.getfield 9, 3)))) (znode_ok (zleaf_ok (zs_iload_n (by decide +kernel : decode cX1_tellPair 49 = .ok (.iload_n 1, 1)) rfl)) (zleaf_ok (zs_aldI rfl (by decide +kernel : decode cX1_tellPair 50 = .ok (.iaload, 1))))))) (znode_ok (znode_ok (zleaf_ok (zs_iconst (by decide) (by decide +kernel : decode cX1_tellPair 51 = .ok (.iconst 1, 1)))) (znode_ok (zleaf_ok (zs_icmp_ne (t := 59) (by decide) (by decide +kernel : decode cX1_tellPair 52 = .ok (.if_icmp .ne 7, 3)))) (zleaf_ok (zs_iconst (by decide) (by decide +kernel : decode cX1_tellPair 55 = .ok (.iconst 1, 1)))))) (znode_ok (zleaf_ok (zs_goto (t := 60) (by decide) (by decide +kernel : decode cX1_tellPair 56 = .ok (.goto 4, 3)))) (znode_ok (zleaf_ok (zs_iconst (by decide) (by decide +kernel : decode cX1_tellPair 59 = .ok (.iconst 0, 1)))) (zleaf_ok (⟨zcs3 (n := 1) z_good zw_100 zw_19 zw_101 zw_102 (by decide +kernel) (by decide +kernel : decode cX1_tellPair 60 = .ok (.invokestatic 51, 3)), Nat.le_of_ble_eq_true rfl, by decide +kernel, (fun h => absurd rfl (h.2.1))⟩)))))) (znode_ok (znode_ok (znode_ok (zleaf_ok (zs_isub (by decide +kernel : decode cX1_tellPair 63 = .ok (.isub, 1)))) (znode_ok (zleaf_ok (Or.inr (Or.inl ⟨rfl, rfl, (by decide +kernel : decode cX1_tellPair 64 = .ok (.ireturn, 1))⟩))) (zleaf_ok (zs_aload_n (by decide +kernel : decode cX1_tellPair 65 = .ok (.aload_n 0, 1)) rfl)))) (znode_ok (zleaf_ok (zs_get (C := RX1) (Tc := TX1) (Nc := 9) rfl zinX1 (Nat.le_of_ble_eq_true rfl) zw_81 (by decide +kernel : decode cX1_tellPair 66 = .ok (.getfield 18, 3)))) (znode_ok (zleaf_ok (zs_iload_n (by decide +kernel : decode cX1_tellPair 69 = .ok (.iload_n 1, 1)) rfl)) (zleaf_ok (zs_aldI rfl (by decide +kernel : decode cX1_tellPair 70 = .ok (.iaload, 1))))))) (znode_ok (znode_ok (zleaf_ok (zs_if_le (t := 78) (by decide) (by decide +kernel : decode cX1_tellPair 71 = .ok (.ifCond .le 7, 3)))) (znode_ok (zleaf_ok (zs_iconst (by decide) (by decide +kernel : decode cX1_tellPair 74 = .ok (.iconst 1, 1)))) (zleaf_ok (zs_goto (t := 79) (by decide) (by decide +kernel : decode cX1_tellPair 75 = .ok (.goto 4, 3)))))) (znode_ok (zleaf_ok (zs_iconst (by decide) (by decide +kernel : decode cX1_tellPair 78 = .ok (.iconst 0, 1)))) (znode_ok (zleaf_ok (⟨zcs3 (n := 1) z_good zw_100 zw_19 zw_101 zw_102 (by decide +kernel) (by decide +kernel : decode cX1_tellPair 79 = .ok (.invokestatic 51, 3)), Nat.le_of_ble_eq_true rfl, by decide +kernel, (fun h => absurd rfl (h.2.1))⟩)) (zleaf_ok (Or.inr (Or.inl ⟨rfl, rfl, (by decide +kernel : decode cX1_tellPair 82 = .ok (.ireturn, 1))⟩))))))))
/-- Creasebook$Paper.countCreases(I)I -/
def zc_X1_countCreases (pc : Nat) : Option zI := znode 14 pc (znode 5 pc (znode 2 pc (znode 1 pc (zleaf 0 pc (.inl (zS1 (zCst (.int 0) 1)))) (zleaf 1 pc (.inl (zSt1 zIsI 2 2)))) (znode 3 pc (zleaf 2 pc (.inl (zS1 (zCst (.int 0) 3)))) (znode 4 pc (zleaf 3 pc (.inl (zSt1 zIsI 4 3))) (zleaf 4 pc (.inl (zLd zIsI 5 3)))))) (znode 7 pc (znode 6 pc (zleaf 5 pc (.inl (zS1 (zCst (.int 2) 6)))) (zleaf 6 pc (.inl (zLd zIsA 7 0)))) (znode 10 pc (zleaf 7 pc (.inl (zS2 (zGet 1 2 10)))) (znode 11 pc (zleaf 10 pc (.inl (zS1 (zII (fun x y => x * y) 11)))) (zleaf 11 pc (.inl (zS1 (zIcmp (fun x y => decide (y ≤ x)) 33 14)))))))) (znode 21 pc (znode 18 pc (znode 15 pc (zleaf 14 pc (.inl (zLd zIsA 15 0))) (zleaf 15 pc (.inl (zS2 (zGet 1 3 18))))) (znode 19 pc (zleaf 18 pc (.inl (zLd zIsI 19 3))) (znode 20 pc (zleaf 19 pc (.inl (zS2 (zAldI 0 20)))) (zleaf 20 pc (.inl (zLd zIsI 21 1)))))) (znode 30 pc (znode 24 pc (zleaf 21 pc (.inl (zS1 (zIcmp (fun x y => decide (¬ x = y)) 27 24)))) (znode 27 pc (zleaf 24 pc (.inl (zIinc 27 2 1))) (zleaf 27 pc (.inl (zIinc 30 3 1))))) (znode 33 pc (zleaf 30 pc (.inl (zS1 (zGo 4)))) (znode 34 pc (zleaf 33 pc (.inl (zLd zIsI 34 2))) (zleaf 34 pc (.inr (.inl 1)))))))
theorem zk_X1_countCreases (O : Nat → State → Heap → Prop) (E : zE) (l : Launch) : ∀ pc i, zc_X1_countCreases pc = some i → zOK z_cl z_T z_G z_N O E z_yy z_bb z_nl z_cc z_rt z_hh l 34 pc i := fun pc => znode_ok (znode_ok (znode_ok (znode_ok (zleaf_ok (zs_iconst (by decide) (by decide +kernel : decode cX1_countCreases 0 = .ok (.iconst 0, 1)))) (zleaf_ok (zs_istore_n (Nat.le_of_ble_eq_true rfl) (by decide +kernel : decode cX1_countCreases 1 = .ok (.istore_n 2, 1)) rfl))) (znode_ok (zleaf_ok (zs_iconst (by decide) (by decide +kernel : decode cX1_countCreases 2 = .ok (.iconst 0, 1)))) (znode_ok (zleaf_ok (zs_istore_n (Nat.le_of_ble_eq_true rfl) (by decide +kernel : decode cX1_countCreases 3 = .ok (.istore_n 3, 1)) rfl)) (zleaf_ok (zs_iload_n (by decide +kernel : decode cX1_countCreases 4 = .ok (.iload_n 3, 1)) rfl))))) (znode_ok (znode_ok (zleaf_ok (zs_iconst (by decide) (by decide +kernel : decode cX1_countCreases 5 = .ok (.iconst 2, 1)))) (zleaf_ok (zs_aload_n (by decide +kernel : decode cX1_countCreases 6 = .ok (.aload_n 0, 1)) rfl))) (znode_ok (zleaf_ok (zs_get (C := RX1) (Tc := TX1) (Nc := 9) rfl zinX1 (Nat.le_of_ble_eq_true rfl) zw_87 (by decide +kernel : decode cX1_countCreases 7 = .ok (.getfield 37, 3)))) (znode_ok (zleaf_ok (zs_imul (by decide +kernel : decode cX1_countCreases 10 = .ok (.imul, 1)))) (zleaf_ok (zs_icmp_ge (t := 33) (by decide) (by decide +kernel : decode cX1_countCreases 11 = .ok (.if_icmp .ge 22, 3)))))))) (znode_ok (znode_ok (znode_ok (zleaf_ok (zs_aload_n (by decide +kernel : decode cX1_countCreases 14 = .ok (.aload_n 0, 1)) rfl)) (zleaf_ok (zs_get (C := RX1) (Tc := TX1) (Nc := 9) rfl zinX1 (Nat.le_of_ble_eq_true rfl) zw_79 (by decide +kernel : decode cX1_countCreases 15 = .ok (.getfield 9, 3))))) (znode_ok (zleaf_ok (zs_iload_n (by decide +kernel : decode cX1_countCreases 18 = .ok (.iload_n 3, 1)) rfl)) (znode_ok (zleaf_ok (zs_aldI rfl (by decide +kernel : decode cX1_countCreases 19 = .ok (.iaload, 1)))) (zleaf_ok (zs_iload_n (by decide +kernel : decode cX1_countCreases 20 = .ok (.iload_n 1, 1)) rfl))))) (znode_ok (znode_ok (zleaf_ok (zs_icmp_ne (t := 27) (by decide) (by decide +kernel : decode cX1_countCreases 21 = .ok (.if_icmp .ne 6, 3)))) (znode_ok (zleaf_ok (zs_iinc (Nat.le_of_ble_eq_true rfl) (by decide) (by decide +kernel : decode cX1_countCreases 24 = .ok (.iinc 2 1, 3)))) (zleaf_ok (zs_iinc (Nat.le_of_ble_eq_true rfl) (by decide) (by decide +kernel : decode cX1_countCreases 27 = .ok (.iinc 3 1, 3)))))) (znode_ok (zleaf_ok (zs_goto (t := 4) (by decide) (by decide +kernel : decode cX1_countCreases 30 = .ok (.goto (-26), 3)))) (znode_ok (zleaf_ok (zs_iload_n (by decide +kernel : decode cX1_countCreases 33 = .ok (.iload_n 2, 1)) rfl)) (zleaf_ok (Or.inr (Or.inl ⟨rfl, rfl, (by decide +kernel : decode cX1_countCreases 34 = .ok (.ireturn, 1))⟩)))))))
/-- Creasebook$Paper.sumOfMarks()I -/
def zc_X1_sumOfMarks (pc : Nat) : Option zI := znode 14 pc (znode 5 pc (znode 2 pc (znode 1 pc (zleaf 0 pc (.inl (zS1 (zCst (.int 0) 1)))) (zleaf 1 pc (.inl (zSt1 zIsI 2 1)))) (znode 3 pc (zleaf 2 pc (.inl (zS1 (zCst (.int 0) 3)))) (znode 4 pc (zleaf 3 pc (.inl (zSt1 zIsI 4 2))) (zleaf 4 pc (.inl (zLd zIsI 5 2)))))) (znode 7 pc (znode 6 pc (zleaf 5 pc (.inl (zS1 (zCst (.int 2) 6)))) (zleaf 6 pc (.inl (zLd zIsA 7 0)))) (znode 10 pc (zleaf 7 pc (.inl (zS2 (zGet 1 2 10)))) (znode 11 pc (zleaf 10 pc (.inl (zS1 (zII (fun x y => x * y) 11)))) (zleaf 11 pc (.inl (zS1 (zIcmp (fun x y => decide (y ≤ x)) 29 14)))))))) (znode 21 pc (znode 16 pc (znode 15 pc (zleaf 14 pc (.inl (zLd zIsI 15 1))) (zleaf 15 pc (.inl (zLd zIsA 16 0)))) (znode 19 pc (zleaf 16 pc (.inl (zS2 (zGet 1 5 19)))) (znode 20 pc (zleaf 19 pc (.inl (zLd zIsI 20 2))) (zleaf 20 pc (.inl (zS2 (zAldI 0 21))))))) (znode 26 pc (znode 22 pc (zleaf 21 pc (.inl (zS1 (zII (fun x y => x + y) 22)))) (znode 23 pc (zleaf 22 pc (.inl (zSt1 zIsI 23 1))) (zleaf 23 pc (.inl (zIinc 26 2 1))))) (znode 29 pc (zleaf 26 pc (.inl (zS1 (zGo 4)))) (znode 30 pc (zleaf 29 pc (.inl (zLd zIsI 30 1))) (zleaf 30 pc (.inr (.inl 1)))))))
theorem zk_X1_sumOfMarks (O : Nat → State → Heap → Prop) (E : zE) (l : Launch) : ∀ pc i, zc_X1_sumOfMarks pc = some i → zOK z_cl z_T z_G z_N O E z_yy z_bb z_nl z_cc z_rt z_hh l 35 pc i := fun pc => znode_ok (znode_ok (znode_ok (znode_ok (zleaf_ok (zs_iconst (by decide) (by decide +kernel : decode cX1_sumOfMarks 0 = .ok (.iconst 0, 1)))) (zleaf_ok (zs_istore_n (Nat.le_of_ble_eq_true rfl) (by decide +kernel : decode cX1_sumOfMarks 1 = .ok (.istore_n 1, 1)) rfl))) (znode_ok (zleaf_ok (zs_iconst (by decide) (by decide +kernel : decode cX1_sumOfMarks 2 = .ok (.iconst 0, 1)))) (znode_ok (zleaf_ok (zs_istore_n (Nat.le_of_ble_eq_true rfl) (by decide +kernel : decode cX1_sumOfMarks 3 = .ok (.istore_n 2, 1)) rfl)) (zleaf_ok (zs_iload_n (by decide +kernel : decode cX1_sumOfMarks 4 = .ok (.iload_n 2, 1)) rfl))))) (znode_ok (znode_ok (zleaf_ok (zs_iconst (by decide) (by decide +kernel : decode cX1_sumOfMarks 5 = .ok (.iconst 2, 1)))) (zleaf_ok (zs_aload_n (by decide +kernel : decode cX1_sumOfMarks 6 = .ok (.aload_n 0, 1)) rfl))) (znode_ok (zleaf_ok (zs_get (C := RX1) (Tc := TX1) (Nc := 9) rfl zinX1 (Nat.le_of_ble_eq_true rfl) zw_87 (by decide +kernel : decode cX1_sumOfMarks 7 = .ok (.getfield 37, 3)))) (znode_ok (zleaf_ok (zs_imul (by decide +kernel : decode cX1_sumOfMarks 10 = .ok (.imul, 1)))) (zleaf_ok (zs_icmp_ge (t := 29) (by decide) (by decide +kernel : decode cX1_sumOfMarks 11 = .ok (.if_icmp .ge 18, 3)))))))) (znode_ok (znode_ok (znode_ok (zleaf_ok (zs_iload_n (by decide +kernel : decode cX1_sumOfMarks 14 = .ok (.iload_n 1, 1)) rfl)) (zleaf_ok (zs_aload_n (by decide +kernel : decode cX1_sumOfMarks 15 = .ok (.aload_n 0, 1)) rfl))) (znode_ok (zleaf_ok (zs_get (C := RX1) (Tc := TX1) (Nc := 9) rfl zinX1 (Nat.le_of_ble_eq_true rfl) zw_81 (by decide +kernel : decode cX1_sumOfMarks 16 = .ok (.getfield 18, 3)))) (znode_ok (zleaf_ok (zs_iload_n (by decide +kernel : decode cX1_sumOfMarks 19 = .ok (.iload_n 2, 1)) rfl)) (zleaf_ok (zs_aldI rfl (by decide +kernel : decode cX1_sumOfMarks 20 = .ok (.iaload, 1))))))) (znode_ok (znode_ok (zleaf_ok (zs_iadd (by decide +kernel : decode cX1_sumOfMarks 21 = .ok (.iadd, 1)))) (znode_ok (zleaf_ok (zs_istore_n (Nat.le_of_ble_eq_true rfl) (by decide +kernel : decode cX1_sumOfMarks 22 = .ok (.istore_n 1, 1)) rfl)) (zleaf_ok (zs_iinc (Nat.le_of_ble_eq_true rfl) (by decide) (by decide +kernel : decode cX1_sumOfMarks 23 = .ok (.iinc 2 1, 3)))))) (znode_ok (zleaf_ok (zs_goto (t := 4) (by decide) (by decide +kernel : decode cX1_sumOfMarks 26 = .ok (.goto (-22), 3)))) (znode_ok (zleaf_ok (zs_iload_n (by decide +kernel : decode cX1_sumOfMarks 29 = .ok (.iload_n 1, 1)) rfl)) (zleaf_ok (Or.inr (Or.inl ⟨rfl, rfl, (by decide +kernel : decode cX1_sumOfMarks 30 = .ok (.ireturn, 1))⟩)))))))
/-- Creasebook$Paper.isWet(I)Z -/
def zc_X1_isWet (pc : Nat) : Option zI := znode 15 pc (znode 6 pc (znode 4 pc (znode 1 pc (zleaf 0 pc (.inl (zLd zIsI 1 1))) (zleaf 1 pc (.inl (zS1 (zIf (fun x => decide (x < 0)) 28 4))))) (znode 5 pc (zleaf 4 pc (.inl (zLd zIsI 5 1))) (zleaf 5 pc (.inl (zS1 (zCst (.int 2) 6)))))) (znode 10 pc (znode 7 pc (zleaf 6 pc (.inl (zLd zIsA 7 0))) (zleaf 7 pc (.inl (zS2 (zGet 1 2 10))))) (znode 11 pc (zleaf 10 pc (.inl (zS1 (zII (fun x y => x * y) 11)))) (znode 14 pc (zleaf 11 pc (.inl (zS1 (zIcmp (fun x y => decide (y ≤ x)) 28 14)))) (zleaf 14 pc (.inl (zLd zIsA 15 0))))))) (znode 21 pc (znode 19 pc (znode 18 pc (zleaf 15 pc (.inl (zS2 (zGet 1 6 18)))) (zleaf 18 pc (.inl (zLd zIsI 19 1)))) (znode 20 pc (zleaf 19 pc (.inl (zS2 (zAldI 0 20)))) (zleaf 20 pc (.inl (zS1 (zCst (.int 2) 21)))))) (znode 25 pc (znode 24 pc (zleaf 21 pc (.inl (zS1 (zIcmp (fun x y => decide (¬ x = y)) 28 24)))) (zleaf 24 pc (.inl (zS1 (zCst (.int 1) 25))))) (znode 28 pc (zleaf 25 pc (.inl (zS1 (zGo 29)))) (znode 29 pc (zleaf 28 pc (.inl (zS1 (zCst (.int 0) 29)))) (zleaf 29 pc (.inr (.inl 5)))))))
theorem zk_X1_isWet (O : Nat → State → Heap → Prop) (E : zE) (l : Launch) : ∀ pc i, zc_X1_isWet pc = some i → zOK z_cl z_T z_G z_N O E z_yy z_bb z_nl z_cc z_rt z_hh l 36 pc i := fun pc => znode_ok (znode_ok (znode_ok (znode_ok (zleaf_ok (zs_iload_n (by decide +kernel : decode cX1_isWet 0 = .ok (.iload_n 1, 1)) rfl)) (zleaf_ok (zs_if_lt (t := 28) (by decide) (by decide +kernel : decode cX1_isWet 1 = .ok (.ifCond .lt 27, 3))))) (znode_ok (zleaf_ok (zs_iload_n (by decide +kernel : decode cX1_isWet 4 = .ok (.iload_n 1, 1)) rfl)) (zleaf_ok (zs_iconst (by decide) (by decide +kernel : decode cX1_isWet 5 = .ok (.iconst 2, 1)))))) (znode_ok (znode_ok (zleaf_ok (zs_aload_n (by decide +kernel : decode cX1_isWet 6 = .ok (.aload_n 0, 1)) rfl)) (zleaf_ok (zs_get (C := RX1) (Tc := TX1) (Nc := 9) rfl zinX1 (Nat.le_of_ble_eq_true rfl) zw_87 (by decide +kernel : decode cX1_isWet 7 = .ok (.getfield 37, 3))))) (znode_ok (zleaf_ok (zs_imul (by decide +kernel : decode cX1_isWet 10 = .ok (.imul, 1)))) (znode_ok (zleaf_ok (zs_icmp_ge (t := 28) (by decide) (by decide +kernel : decode cX1_isWet 11 = .ok (.if_icmp .ge 17, 3)))) (zleaf_ok (zs_aload_n (by decide +kernel : decode cX1_isWet 14 = .ok (.aload_n 0, 1)) rfl)))))) (znode_ok (znode_ok (znode_ok (zleaf_ok (zs_get (C := RX1) (Tc := TX1) (Nc := 9) rfl zinX1 (Nat.le_of_ble_eq_true rfl) zw_82 (by decide +kernel : decode cX1_isWet 15 = .ok (.getfield 21, 3)))) (zleaf_ok (zs_iload_n (by decide +kernel : decode cX1_isWet 18 = .ok (.iload_n 1, 1)) rfl))) (znode_ok (zleaf_ok (zs_aldI rfl (by decide +kernel : decode cX1_isWet 19 = .ok (.iaload, 1)))) (zleaf_ok (zs_iconst (by decide) (by decide +kernel : decode cX1_isWet 20 = .ok (.iconst 2, 1)))))) (znode_ok (znode_ok (zleaf_ok (zs_icmp_ne (t := 28) (by decide) (by decide +kernel : decode cX1_isWet 21 = .ok (.if_icmp .ne 7, 3)))) (zleaf_ok (zs_iconst (by decide) (by decide +kernel : decode cX1_isWet 24 = .ok (.iconst 1, 1))))) (znode_ok (zleaf_ok (zs_goto (t := 29) (by decide) (by decide +kernel : decode cX1_isWet 25 = .ok (.goto 4, 3)))) (znode_ok (zleaf_ok (zs_iconst (by decide) (by decide +kernel : decode cX1_isWet 28 = .ok (.iconst 0, 1)))) (zleaf_ok (Or.inr (Or.inr (Or.inr (Or.inr (Or.inr ⟨rfl, rfl, (by decide +kernel : decode cX1_isWet 29 = .ok (.ireturn, 1))⟩))))))))))
/-- Creasebook$Paper.wet(I)Z -/
def zc_X1_wet (pc : Nat) : Option zI := znode 21 pc (znode 10 pc (znode 5 pc (znode 1 pc (zleaf 0 pc (.inl (zLd zIsI 1 1))) (znode 4 pc (zleaf 1 pc (.inl (zS1 (zIf (fun x => decide (x < 0)) 28 4)))) (zleaf 4 pc (.inl (zLd zIsI 5 1))))) (znode 6 pc (zleaf 5 pc (.inl (zS1 (zCst (.int 2) 6)))) (znode 7 pc (zleaf 6 pc (.inl (zLd zIsA 7 0))) (zleaf 7 pc (.inl (zS2 (zGet 1 2 10))))))) (znode 15 pc (znode 11 pc (zleaf 10 pc (.inl (zS1 (zII (fun x y => x * y) 11)))) (znode 14 pc (zleaf 11 pc (.inl (zS1 (zIcmp (fun x y => decide (y ≤ x)) 28 14)))) (zleaf 14 pc (.inl (zLd zIsA 15 0))))) (znode 19 pc (znode 18 pc (zleaf 15 pc (.inl (zS2 (zGet 1 6 18)))) (zleaf 18 pc (.inl (zLd zIsI 19 1)))) (znode 20 pc (zleaf 19 pc (.inl (zS2 (zAldI 0 20)))) (zleaf 20 pc (.inl (zS1 (zCst (.int 2) 21)))))))) (znode 34 pc (znode 28 pc (znode 24 pc (zleaf 21 pc (.inl (zS1 (zIcmp (fun x y => decide (x = y)) 28 24)))) (znode 25 pc (zleaf 24 pc (.inl (zS1 (zCst (.int 1) 25)))) (zleaf 25 pc (.inl (zS1 (zGo 29)))))) (znode 30 pc (znode 29 pc (zleaf 28 pc (.inl (zS1 (zCst (.int 0) 29)))) (zleaf 29 pc (.inl (zSt1 zIsI 30 2)))) (znode 31 pc (zleaf 30 pc (.inl (zLd zIsI 31 2))) (zleaf 31 pc (.inl (zS1 (zIf (fun x => decide (x = 0)) 41 34))))))) (znode 39 pc (znode 35 pc (zleaf 34 pc (.inl (zLd zIsA 35 0))) (znode 38 pc (zleaf 35 pc (.inl (zS2 (zGet 1 6 38)))) (zleaf 38 pc (.inl (zLd zIsI 39 1))))) (znode 41 pc (znode 40 pc (zleaf 39 pc (.inl (zS1 (zCst (.int 2) 40)))) (zleaf 40 pc (.inl (zAstI 0 41)))) (znode 42 pc (zleaf 41 pc (.inl (zLd zIsI 42 2))) (zleaf 42 pc (.inr (.inl 5)))))))
theorem zk_X1_wet (O : Nat → State → Heap → Prop) (E : zE) (l : Launch) : ∀ pc i, zc_X1_wet pc = some i → zOK z_cl z_T z_G z_N O E z_yy z_bb z_nl z_cc z_rt z_hh l 37 pc i := fun pc => znode_ok (znode_ok (znode_ok (znode_ok (zleaf_ok (zs_iload_n (by decide +kernel : decode cX1_wet 0 = .ok (.iload_n 1, 1)) rfl)) (znode_ok (zleaf_ok (zs_if_lt (t := 28) (by decide) (by decide +kernel : decode cX1_wet 1 = .ok (.ifCond .lt 27, 3)))) (zleaf_ok (zs_iload_n (by decide +kernel : decode cX1_wet 4 = .ok (.iload_n 1, 1)) rfl)))) (znode_ok (zleaf_ok (zs_iconst (by decide) (by decide +kernel : decode cX1_wet 5 = .ok (.iconst 2, 1)))) (znode_ok (zleaf_ok (zs_aload_n (by decide +kernel : decode cX1_wet 6 = .ok (.aload_n 0, 1)) rfl)) (zleaf_ok (zs_get (C := RX1) (Tc := TX1) (Nc := 9) rfl zinX1 (Nat.le_of_ble_eq_true rfl) zw_87 (by decide +kernel : decode cX1_wet 7 = .ok (.getfield 37, 3))))))) (znode_ok (znode_ok (zleaf_ok (zs_imul (by decide +kernel : decode cX1_wet 10 = .ok (.imul, 1)))) (znode_ok (zleaf_ok (zs_icmp_ge (t := 28) (by decide) (by decide +kernel : decode cX1_wet 11 = .ok (.if_icmp .ge 17, 3)))) (zleaf_ok (zs_aload_n (by decide +kernel : decode cX1_wet 14 = .ok (.aload_n 0, 1)) rfl)))) (znode_ok (znode_ok (zleaf_ok (zs_get (C := RX1) (Tc := TX1) (Nc := 9) rfl zinX1 (Nat.le_of_ble_eq_true rfl) zw_82 (by decide +kernel : decode cX1_wet 15 = .ok (.getfield 21, 3)))) (zleaf_ok (zs_iload_n (by decide +kernel : decode cX1_wet 18 = .ok (.iload_n 1, 1)) rfl))) (znode_ok (zleaf_ok (zs_aldI rfl (by decide +kernel : decode cX1_wet 19 = .ok (.iaload, 1)))) (zleaf_ok (zs_iconst (by decide) (by decide +kernel : decode cX1_wet 20 = .ok (.iconst 2, 1)))))))) (znode_ok (znode_ok (znode_ok (zleaf_ok (zs_icmp_eq (t := 28) (by decide) (by decide +kernel : decode cX1_wet 21 = .ok (.if_icmp .eq 7, 3)))) (znode_ok (zleaf_ok (zs_iconst (by decide) (by decide +kernel : decode cX1_wet 24 = .ok (.iconst 1, 1)))) (zleaf_ok (zs_goto (t := 29) (by decide) (by decide +kernel : decode cX1_wet 25 = .ok (.goto 4, 3)))))) (znode_ok (znode_ok (zleaf_ok (zs_iconst (by decide) (by decide +kernel : decode cX1_wet 28 = .ok (.iconst 0, 1)))) (zleaf_ok (zs_istore_n (Nat.le_of_ble_eq_true rfl) (by decide +kernel : decode cX1_wet 29 = .ok (.istore_n 2, 1)) rfl))) (znode_ok (zleaf_ok (zs_iload_n (by decide +kernel : decode cX1_wet 30 = .ok (.iload_n 2, 1)) rfl)) (zleaf_ok (zs_if_eq (t := 41) (by decide) (by decide +kernel : decode cX1_wet 31 = .ok (.ifCond .eq 10, 3))))))) (znode_ok (znode_ok (zleaf_ok (zs_aload_n (by decide +kernel : decode cX1_wet 34 = .ok (.aload_n 0, 1)) rfl)) (znode_ok (zleaf_ok (zs_get (C := RX1) (Tc := TX1) (Nc := 9) rfl zinX1 (Nat.le_of_ble_eq_true rfl) zw_82 (by decide +kernel : decode cX1_wet 35 = .ok (.getfield 21, 3)))) (zleaf_ok (zs_iload_n (by decide +kernel : decode cX1_wet 38 = .ok (.iload_n 1, 1)) rfl)))) (znode_ok (znode_ok (zleaf_ok (zs_iconst (by decide) (by decide +kernel : decode cX1_wet 39 = .ok (.iconst 2, 1)))) (zleaf_ok (zs_astI rfl (by decide +kernel : decode cX1_wet 40 = .ok (.iastore, 1))))) (znode_ok (zleaf_ok (zs_iload_n (by decide +kernel : decode cX1_wet 41 = .ok (.iload_n 2, 1)) rfl)) (zleaf_ok (Or.inr (Or.inr (Or.inr (Or.inr (Or.inr ⟨rfl, rfl, (by decide +kernel : decode cX1_wet 42 = .ok (.ireturn, 1))⟩))))))))))
/-- Creasebook$Paper.dryAll()I -/
def zc_X1_dryAll (pc : Nat) : Option zI := znode 16 pc (znode 6 pc (znode 3 pc (znode 1 pc (zleaf 0 pc (.inl (zS1 (zCst (.int 0) 1)))) (znode 2 pc (zleaf 1 pc (.inl (zSt1 zIsI 2 1))) (zleaf 2 pc (.inl (zS1 (zCst (.int 0) 3)))))) (znode 4 pc (zleaf 3 pc (.inl (zSt1 zIsI 4 2))) (znode 5 pc (zleaf 4 pc (.inl (zLd zIsI 5 2))) (zleaf 5 pc (.inl (zS1 (zCst (.int 2) 6))))))) (znode 11 pc (znode 7 pc (zleaf 6 pc (.inl (zLd zIsA 7 0))) (znode 10 pc (zleaf 7 pc (.inl (zS2 (zGet 1 2 10)))) (zleaf 10 pc (.inl (zS1 (zII (fun x y => x * y) 11)))))) (znode 14 pc (zleaf 11 pc (.inl (zS1 (zIcmp (fun x y => decide (y ≤ x)) 38 14)))) (znode 15 pc (zleaf 14 pc (.inl (zLd zIsA 15 0))) (zleaf 15 pc (.inl (zLd zIsI 16 2))))))) (znode 28 pc (znode 23 pc (znode 19 pc (zleaf 16 pc (.inr (.inr (.inr (36, 2, 0))))) (znode 22 pc (zleaf 19 pc (.inl (zS1 (zIf (fun x => decide (x = 0)) 32 22)))) (zleaf 22 pc (.inl (zLd zIsA 23 0))))) (znode 26 pc (zleaf 23 pc (.inl (zS2 (zGet 1 6 26)))) (znode 27 pc (zleaf 26 pc (.inl (zLd zIsI 27 2))) (zleaf 27 pc (.inl (zS1 (zCst (.int 1) 28))))))) (znode 35 pc (znode 29 pc (zleaf 28 pc (.inl (zAstI 0 29))) (znode 32 pc (zleaf 29 pc (.inl (zIinc 32 1 1))) (zleaf 32 pc (.inl (zIinc 35 2 1))))) (znode 38 pc (zleaf 35 pc (.inl (zS1 (zGo 4)))) (znode 39 pc (zleaf 38 pc (.inl (zLd zIsI 39 1))) (zleaf 39 pc (.inr (.inl 1)))))))
theorem zk_X1_dryAll (O : Nat → State → Heap → Prop) (E : zE) (l : Launch) : ∀ pc i, zc_X1_dryAll pc = some i → zOK z_cl z_T z_G z_N O E z_yy z_bb z_nl z_cc z_rt z_hh l 38 pc i := fun pc => znode_ok (znode_ok (znode_ok (znode_ok (zleaf_ok (zs_iconst (by decide) (by decide +kernel : decode cX1_dryAll 0 = .ok (.iconst 0, 1)))) (znode_ok (zleaf_ok (zs_istore_n (Nat.le_of_ble_eq_true rfl) (by decide +kernel : decode cX1_dryAll 1 = .ok (.istore_n 1, 1)) rfl)) (zleaf_ok (zs_iconst (by decide) (by decide +kernel : decode cX1_dryAll 2 = .ok (.iconst 0, 1)))))) (znode_ok (zleaf_ok (zs_istore_n (Nat.le_of_ble_eq_true rfl) (by decide +kernel : decode cX1_dryAll 3 = .ok (.istore_n 2, 1)) rfl)) (znode_ok (zleaf_ok (zs_iload_n (by decide +kernel : decode cX1_dryAll 4 = .ok (.iload_n 2, 1)) rfl)) (zleaf_ok (zs_iconst (by decide) (by decide +kernel : decode cX1_dryAll 5 = .ok (.iconst 2, 1))))))) (znode_ok (znode_ok (zleaf_ok (zs_aload_n (by decide +kernel : decode cX1_dryAll 6 = .ok (.aload_n 0, 1)) rfl)) (znode_ok (zleaf_ok (zs_get (C := RX1) (Tc := TX1) (Nc := 9) rfl zinX1 (Nat.le_of_ble_eq_true rfl) zw_87 (by decide +kernel : decode cX1_dryAll 7 = .ok (.getfield 37, 3)))) (zleaf_ok (zs_imul (by decide +kernel : decode cX1_dryAll 10 = .ok (.imul, 1)))))) (znode_ok (zleaf_ok (zs_icmp_ge (t := 38) (by decide) (by decide +kernel : decode cX1_dryAll 11 = .ok (.if_icmp .ge 27, 3)))) (znode_ok (zleaf_ok (zs_aload_n (by decide +kernel : decode cX1_dryAll 14 = .ok (.aload_n 0, 1)) rfl)) (zleaf_ok (zs_iload_n (by decide +kernel : decode cX1_dryAll 15 = .ok (.iload_n 2, 1)) rfl)))))) (znode_ok (znode_ok (znode_ok (zleaf_ok (⟨zcs0 (n := 1) z_good zw_103 zw_89 zw_104 zw_105 zw_106 (by decide +kernel) (by decide +kernel : decode cX1_dryAll 16 = .ok (.invokevirtual 55, 3)), Nat.le_of_ble_eq_true rfl, by decide +kernel, (fun _ => ⟨TX1, 9, rfl⟩)⟩)) (znode_ok (zleaf_ok (zs_if_eq (t := 32) (by decide) (by decide +kernel : decode cX1_dryAll 19 = .ok (.ifCond .eq 13, 3)))) (zleaf_ok (zs_aload_n (by decide +kernel : decode cX1_dryAll 22 = .ok (.aload_n 0, 1)) rfl)))) (znode_ok (zleaf_ok (zs_get (C := RX1) (Tc := TX1) (Nc := 9) rfl zinX1 (Nat.le_of_ble_eq_true rfl) zw_82 (by decide +kernel : decode cX1_dryAll 23 = .ok (.getfield 21, 3)))) (znode_ok (zleaf_ok (zs_iload_n (by decide +kernel : decode cX1_dryAll 26 = .ok (.iload_n 2, 1)) rfl)) (zleaf_ok (zs_iconst (by decide) (by decide +kernel : decode cX1_dryAll 27 = .ok (.iconst 1, 1))))))) (znode_ok (znode_ok (zleaf_ok (zs_astI rfl (by decide +kernel : decode cX1_dryAll 28 = .ok (.iastore, 1)))) (znode_ok (zleaf_ok (zs_iinc (Nat.le_of_ble_eq_true rfl) (by decide) (by decide +kernel : decode cX1_dryAll 29 = .ok (.iinc 1 1, 3)))) (zleaf_ok (zs_iinc (Nat.le_of_ble_eq_true rfl) (by decide) (by decide +kernel : decode cX1_dryAll 32 = .ok (.iinc 2 1, 3)))))) (znode_ok (zleaf_ok (zs_goto (t := 4) (by decide) (by decide +kernel : decode cX1_dryAll 35 = .ok (.goto (-31), 3)))) (znode_ok (zleaf_ok (zs_iload_n (by decide +kernel : decode cX1_dryAll 38 = .ok (.iload_n 1, 1)) rfl)) (zleaf_ok (Or.inr (Or.inl ⟨rfl, rfl, (by decide +kernel : decode cX1_dryAll 39 = .ok (.ireturn, 1))⟩)))))))
/-- Creasebook$Paper.countSides(I)I -/
def zc_X1_countSides (pc : Nat) : Option zI := znode 14 pc (znode 5 pc (znode 2 pc (znode 1 pc (zleaf 0 pc (.inl (zS1 (zCst (.int 0) 1)))) (zleaf 1 pc (.inl (zSt1 zIsI 2 2)))) (znode 3 pc (zleaf 2 pc (.inl (zS1 (zCst (.int 0) 3)))) (znode 4 pc (zleaf 3 pc (.inl (zSt1 zIsI 4 3))) (zleaf 4 pc (.inl (zLd zIsI 5 3)))))) (znode 7 pc (znode 6 pc (zleaf 5 pc (.inl (zS1 (zCst (.int 2) 6)))) (zleaf 6 pc (.inl (zLd zIsA 7 0)))) (znode 10 pc (zleaf 7 pc (.inl (zS2 (zGet 1 2 10)))) (znode 11 pc (zleaf 10 pc (.inl (zS1 (zII (fun x y => x * y) 11)))) (zleaf 11 pc (.inl (zS1 (zIcmp (fun x y => decide (y ≤ x)) 33 14)))))))) (znode 21 pc (znode 18 pc (znode 15 pc (zleaf 14 pc (.inl (zLd zIsA 15 0))) (zleaf 15 pc (.inl (zS2 (zGet 1 6 18))))) (znode 19 pc (zleaf 18 pc (.inl (zLd zIsI 19 3))) (znode 20 pc (zleaf 19 pc (.inl (zS2 (zAldI 0 20)))) (zleaf 20 pc (.inl (zLd zIsI 21 1)))))) (znode 30 pc (znode 24 pc (zleaf 21 pc (.inl (zS1 (zIcmp (fun x y => decide (¬ x = y)) 27 24)))) (znode 27 pc (zleaf 24 pc (.inl (zIinc 27 2 1))) (zleaf 27 pc (.inl (zIinc 30 3 1))))) (znode 33 pc (zleaf 30 pc (.inl (zS1 (zGo 4)))) (znode 34 pc (zleaf 33 pc (.inl (zLd zIsI 34 2))) (zleaf 34 pc (.inr (.inl 1)))))))
theorem zk_X1_countSides (O : Nat → State → Heap → Prop) (E : zE) (l : Launch) : ∀ pc i, zc_X1_countSides pc = some i → zOK z_cl z_T z_G z_N O E z_yy z_bb z_nl z_cc z_rt z_hh l 39 pc i := fun pc => znode_ok (znode_ok (znode_ok (znode_ok (zleaf_ok (zs_iconst (by decide) (by decide +kernel : decode cX1_countSides 0 = .ok (.iconst 0, 1)))) (zleaf_ok (zs_istore_n (Nat.le_of_ble_eq_true rfl) (by decide +kernel : decode cX1_countSides 1 = .ok (.istore_n 2, 1)) rfl))) (znode_ok (zleaf_ok (zs_iconst (by decide) (by decide +kernel : decode cX1_countSides 2 = .ok (.iconst 0, 1)))) (znode_ok (zleaf_ok (zs_istore_n (Nat.le_of_ble_eq_true rfl) (by decide +kernel : decode cX1_countSides 3 = .ok (.istore_n 3, 1)) rfl)) (zleaf_ok (zs_iload_n (by decide +kernel : decode cX1_countSides 4 = .ok (.iload_n 3, 1)) rfl))))) (znode_ok (znode_ok (zleaf_ok (zs_iconst (by decide) (by decide +kernel : decode cX1_countSides 5 = .ok (.iconst 2, 1)))) (zleaf_ok (zs_aload_n (by decide +kernel : decode cX1_countSides 6 = .ok (.aload_n 0, 1)) rfl))) (znode_ok (zleaf_ok (zs_get (C := RX1) (Tc := TX1) (Nc := 9) rfl zinX1 (Nat.le_of_ble_eq_true rfl) zw_87 (by decide +kernel : decode cX1_countSides 7 = .ok (.getfield 37, 3)))) (znode_ok (zleaf_ok (zs_imul (by decide +kernel : decode cX1_countSides 10 = .ok (.imul, 1)))) (zleaf_ok (zs_icmp_ge (t := 33) (by decide) (by decide +kernel : decode cX1_countSides 11 = .ok (.if_icmp .ge 22, 3)))))))) (znode_ok (znode_ok (znode_ok (zleaf_ok (zs_aload_n (by decide +kernel : decode cX1_countSides 14 = .ok (.aload_n 0, 1)) rfl)) (zleaf_ok (zs_get (C := RX1) (Tc := TX1) (Nc := 9) rfl zinX1 (Nat.le_of_ble_eq_true rfl) zw_82 (by decide +kernel : decode cX1_countSides 15 = .ok (.getfield 21, 3))))) (znode_ok (zleaf_ok (zs_iload_n (by decide +kernel : decode cX1_countSides 18 = .ok (.iload_n 3, 1)) rfl)) (znode_ok (zleaf_ok (zs_aldI rfl (by decide +kernel : decode cX1_countSides 19 = .ok (.iaload, 1)))) (zleaf_ok (zs_iload_n (by decide +kernel : decode cX1_countSides 20 = .ok (.iload_n 1, 1)) rfl))))) (znode_ok (znode_ok (zleaf_ok (zs_icmp_ne (t := 27) (by decide) (by decide +kernel : decode cX1_countSides 21 = .ok (.if_icmp .ne 6, 3)))) (znode_ok (zleaf_ok (zs_iinc (Nat.le_of_ble_eq_true rfl) (by decide) (by decide +kernel : decode cX1_countSides 24 = .ok (.iinc 2 1, 3)))) (zleaf_ok (zs_iinc (Nat.le_of_ble_eq_true rfl) (by decide) (by decide +kernel : decode cX1_countSides 27 = .ok (.iinc 3 1, 3)))))) (znode_ok (zleaf_ok (zs_goto (t := 4) (by decide) (by decide +kernel : decode cX1_countSides 30 = .ok (.goto (-26), 3)))) (znode_ok (zleaf_ok (zs_iload_n (by decide +kernel : decode cX1_countSides 33 = .ok (.iload_n 2, 1)) rfl)) (zleaf_ok (Or.inr (Or.inl ⟨rfl, rfl, (by decide +kernel : decode cX1_countSides 34 = .ok (.ireturn, 1))⟩)))))))
/-- Creasebook$Paper.sumOfHoles()I -/
def zc_X1_sumOfHoles (pc : Nat) : Option zI := znode 13 pc (znode 4 pc (znode 2 pc (znode 1 pc (zleaf 0 pc (.inl (zS1 (zCst (.int 0) 1)))) (zleaf 1 pc (.inl (zSt1 zIsI 2 1)))) (znode 3 pc (zleaf 2 pc (.inl (zS1 (zCst (.int 0) 3)))) (zleaf 3 pc (.inl (zSt1 zIsI 4 2))))) (znode 6 pc (znode 5 pc (zleaf 4 pc (.inl (zLd zIsI 5 2))) (zleaf 5 pc (.inl (zLd zIsA 6 0)))) (znode 9 pc (zleaf 6 pc (.inl (zS2 (zGet 1 2 9)))) (znode 12 pc (zleaf 9 pc (.inl (zS1 (zIcmp (fun x y => decide (y ≤ x)) 27 12)))) (zleaf 12 pc (.inl (zLd zIsI 13 1))))))) (znode 20 pc (znode 17 pc (znode 14 pc (zleaf 13 pc (.inl (zLd zIsA 14 0))) (zleaf 14 pc (.inl (zS2 (zGet 1 7 17))))) (znode 18 pc (zleaf 17 pc (.inl (zLd zIsI 18 2))) (znode 19 pc (zleaf 18 pc (.inl (zS2 (zAldI 0 19)))) (zleaf 19 pc (.inl (zS1 (zII (fun x y => x + y) 20))))))) (znode 24 pc (znode 21 pc (zleaf 20 pc (.inl (zSt1 zIsI 21 1))) (zleaf 21 pc (.inl (zIinc 24 2 1)))) (znode 27 pc (zleaf 24 pc (.inl (zS1 (zGo 4)))) (znode 28 pc (zleaf 27 pc (.inl (zLd zIsI 28 1))) (zleaf 28 pc (.inr (.inl 1)))))))
theorem zk_X1_sumOfHoles (O : Nat → State → Heap → Prop) (E : zE) (l : Launch) : ∀ pc i, zc_X1_sumOfHoles pc = some i → zOK z_cl z_T z_G z_N O E z_yy z_bb z_nl z_cc z_rt z_hh l 40 pc i := fun pc => znode_ok (znode_ok (znode_ok (znode_ok (zleaf_ok (zs_iconst (by decide) (by decide +kernel : decode cX1_sumOfHoles 0 = .ok (.iconst 0, 1)))) (zleaf_ok (zs_istore_n (Nat.le_of_ble_eq_true rfl) (by decide +kernel : decode cX1_sumOfHoles 1 = .ok (.istore_n 1, 1)) rfl))) (znode_ok (zleaf_ok (zs_iconst (by decide) (by decide +kernel : decode cX1_sumOfHoles 2 = .ok (.iconst 0, 1)))) (zleaf_ok (zs_istore_n (Nat.le_of_ble_eq_true rfl) (by decide +kernel : decode cX1_sumOfHoles 3 = .ok (.istore_n 2, 1)) rfl)))) (znode_ok (znode_ok (zleaf_ok (zs_iload_n (by decide +kernel : decode cX1_sumOfHoles 4 = .ok (.iload_n 2, 1)) rfl)) (zleaf_ok (zs_aload_n (by decide +kernel : decode cX1_sumOfHoles 5 = .ok (.aload_n 0, 1)) rfl))) (znode_ok (zleaf_ok (zs_get (C := RX1) (Tc := TX1) (Nc := 9) rfl zinX1 (Nat.le_of_ble_eq_true rfl) zw_87 (by decide +kernel : decode cX1_sumOfHoles 6 = .ok (.getfield 37, 3)))) (znode_ok (zleaf_ok (zs_icmp_ge (t := 27) (by decide) (by decide +kernel : decode cX1_sumOfHoles 9 = .ok (.if_icmp .ge 18, 3)))) (zleaf_ok (zs_iload_n (by decide +kernel : decode cX1_sumOfHoles 12 = .ok (.iload_n 1, 1)) rfl)))))) (znode_ok (znode_ok (znode_ok (zleaf_ok (zs_aload_n (by decide +kernel : decode cX1_sumOfHoles 13 = .ok (.aload_n 0, 1)) rfl)) (zleaf_ok (zs_get (C := RX1) (Tc := TX1) (Nc := 9) rfl zinX1 (Nat.le_of_ble_eq_true rfl) zw_83 (by decide +kernel : decode cX1_sumOfHoles 14 = .ok (.getfield 24, 3))))) (znode_ok (zleaf_ok (zs_iload_n (by decide +kernel : decode cX1_sumOfHoles 17 = .ok (.iload_n 2, 1)) rfl)) (znode_ok (zleaf_ok (zs_aldI rfl (by decide +kernel : decode cX1_sumOfHoles 18 = .ok (.iaload, 1)))) (zleaf_ok (zs_iadd (by decide +kernel : decode cX1_sumOfHoles 19 = .ok (.iadd, 1))))))) (znode_ok (znode_ok (zleaf_ok (zs_istore_n (Nat.le_of_ble_eq_true rfl) (by decide +kernel : decode cX1_sumOfHoles 20 = .ok (.istore_n 1, 1)) rfl)) (zleaf_ok (zs_iinc (Nat.le_of_ble_eq_true rfl) (by decide) (by decide +kernel : decode cX1_sumOfHoles 21 = .ok (.iinc 2 1, 3))))) (znode_ok (zleaf_ok (zs_goto (t := 4) (by decide) (by decide +kernel : decode cX1_sumOfHoles 24 = .ok (.goto (-20), 3)))) (znode_ok (zleaf_ok (zs_iload_n (by decide +kernel : decode cX1_sumOfHoles 27 = .ok (.iload_n 1, 1)) rfl)) (zleaf_ok (Or.inr (Or.inl ⟨rfl, rfl, (by decide +kernel : decode cX1_sumOfHoles 28 = .ok (.ireturn, 1))⟩)))))))
/-- Creasebook$Paper.areGlued(II)Z -/
def zc_X1_areGlued (pc : Nat) : Option zI := znode 21 pc (znode 9 pc (znode 2 pc (znode 1 pc (zleaf 0 pc (.inl (zLd zIsA 1 0))) (zleaf 1 pc (.inl (zLd zIsI 2 1)))) (znode 5 pc (zleaf 2 pc (.inr (.inr (.inr (28, 2, 0))))) (znode 8 pc (zleaf 5 pc (.inl (zS1 (zIf (fun x => decide (x = 0)) 34 8)))) (zleaf 8 pc (.inl (zLd zIsA 9 0)))))) (znode 16 pc (znode 10 pc (zleaf 9 pc (.inl (zLd zIsI 10 2))) (znode 13 pc (zleaf 10 pc (.inr (.inr (.inr (28, 2, 0))))) (zleaf 13 pc (.inl (zS1 (zIf (fun x => decide (x = 0)) 34 16)))))) (znode 17 pc (zleaf 16 pc (.inl (zLd zIsA 17 0))) (znode 20 pc (zleaf 17 pc (.inl (zS2 (zGet 1 8 20)))) (zleaf 20 pc (.inl (zLd zIsI 21 1))))))) (znode 26 pc (znode 23 pc (znode 22 pc (zleaf 21 pc (.inl (zS2 (zAldI 0 22)))) (zleaf 22 pc (.inl (zLd zIsI 23 2)))) (znode 24 pc (zleaf 23 pc (.inl (zS1 (zII (fun x y => (x.toUInt32 >>> (y.toUInt32 &&& Int32.toUInt32 31)).toInt32) 24)))) (znode 25 pc (zleaf 24 pc (.inl (zS1 (zCst (.int 1) 25)))) (zleaf 25 pc (.inl (zS1 (zII (fun x y => x &&& y) 26))))))) (znode 31 pc (znode 27 pc (zleaf 26 pc (.inl (zS1 (zCst (.int 1) 27)))) (znode 30 pc (zleaf 27 pc (.inl (zS1 (zIcmp (fun x y => decide (¬ x = y)) 34 30)))) (zleaf 30 pc (.inl (zS1 (zCst (.int 1) 31)))))) (znode 34 pc (zleaf 31 pc (.inl (zS1 (zGo 35)))) (znode 35 pc (zleaf 34 pc (.inl (zS1 (zCst (.int 0) 35)))) (zleaf 35 pc (.inr (.inl 5)))))))
theorem zk_X1_areGlued (O : Nat → State → Heap → Prop) (E : zE) (l : Launch) : ∀ pc i, zc_X1_areGlued pc = some i → zOK z_cl z_T z_G z_N O E z_yy z_bb z_nl z_cc z_rt z_hh l 41 pc i := fun pc => znode_ok (znode_ok (znode_ok (znode_ok (zleaf_ok (zs_aload_n (by decide +kernel : decode cX1_areGlued 0 = .ok (.aload_n 0, 1)) rfl)) (zleaf_ok (zs_iload_n (by decide +kernel : decode cX1_areGlued 1 = .ok (.iload_n 1, 1)) rfl))) (znode_ok (zleaf_ok (⟨zcs0 (n := 1) z_good zw_88 zw_89 zw_90 zw_91 zw_92 (by decide +kernel) (by decide +kernel : decode cX1_areGlued 2 = .ok (.invokevirtual 40, 3)), Nat.le_of_ble_eq_true rfl, by decide +kernel, (fun _ => ⟨TX1, 9, rfl⟩)⟩)) (znode_ok (zleaf_ok (zs_if_eq (t := 34) (by decide) (by decide +kernel : decode cX1_areGlued 5 = .ok (.ifCond .eq 29, 3)))) (zleaf_ok (zs_aload_n (by decide +kernel : decode cX1_areGlued 8 = .ok (.aload_n 0, 1)) rfl))))) (znode_ok (znode_ok (zleaf_ok (zs_iload_n (by decide +kernel : decode cX1_areGlued 9 = .ok (.iload_n 2, 1)) rfl)) (znode_ok (zleaf_ok (⟨zcs0 (n := 1) z_good zw_88 zw_89 zw_90 zw_91 zw_92 (by decide +kernel) (by decide +kernel : decode cX1_areGlued 10 = .ok (.invokevirtual 40, 3)), Nat.le_of_ble_eq_true rfl, by decide +kernel, (fun _ => ⟨TX1, 9, rfl⟩)⟩)) (zleaf_ok (zs_if_eq (t := 34) (by decide) (by decide +kernel : decode cX1_areGlued 13 = .ok (.ifCond .eq 21, 3)))))) (znode_ok (zleaf_ok (zs_aload_n (by decide +kernel : decode cX1_areGlued 16 = .ok (.aload_n 0, 1)) rfl)) (znode_ok (zleaf_ok (zs_get (C := RX1) (Tc := TX1) (Nc := 9) rfl zinX1 (Nat.le_of_ble_eq_true rfl) zw_84 (by decide +kernel : decode cX1_areGlued 17 = .ok (.getfield 27, 3)))) (zleaf_ok (zs_iload_n (by decide +kernel : decode cX1_areGlued 20 = .ok (.iload_n 1, 1)) rfl)))))) (znode_ok (znode_ok (znode_ok (zleaf_ok (zs_aldI rfl (by decide +kernel : decode cX1_areGlued 21 = .ok (.iaload, 1)))) (zleaf_ok (zs_iload_n (by decide +kernel : decode cX1_areGlued 22 = .ok (.iload_n 2, 1)) rfl))) (znode_ok (zleaf_ok (zs_iushr (by decide +kernel : decode cX1_areGlued 23 = .ok (.iushr, 1)))) (znode_ok (zleaf_ok (zs_iconst (by decide) (by decide +kernel : decode cX1_areGlued 24 = .ok (.iconst 1, 1)))) (zleaf_ok (zs_iand (by decide +kernel : decode cX1_areGlued 25 = .ok (.iand, 1))))))) (znode_ok (znode_ok (zleaf_ok (zs_iconst (by decide) (by decide +kernel : decode cX1_areGlued 26 = .ok (.iconst 1, 1)))) (znode_ok (zleaf_ok (zs_icmp_ne (t := 34) (by decide) (by decide +kernel : decode cX1_areGlued 27 = .ok (.if_icmp .ne 7, 3)))) (zleaf_ok (zs_iconst (by decide) (by decide +kernel : decode cX1_areGlued 30 = .ok (.iconst 1, 1)))))) (znode_ok (zleaf_ok (zs_goto (t := 35) (by decide) (by decide +kernel : decode cX1_areGlued 31 = .ok (.goto 4, 3)))) (znode_ok (zleaf_ok (zs_iconst (by decide) (by decide +kernel : decode cX1_areGlued 34 = .ok (.iconst 0, 1)))) (zleaf_ok (Or.inr (Or.inr (Or.inr (Or.inr (Or.inr ⟨rfl, rfl, (by decide +kernel : decode cX1_areGlued 35 = .ok (.ireturn, 1))⟩))))))))))
/-- Creasebook$Paper.stick(II)V -/
def zc_X1_stick (pc : Nat) : Option zI := znode 24 pc (znode 13 pc (znode 5 pc (znode 1 pc (zleaf 0 pc (.inl (zLd zIsA 1 0))) (znode 2 pc (zleaf 1 pc (.inl (zLd zIsI 2 1))) (zleaf 2 pc (.inr (.inr (.inr (28, 2, 0))))))) (znode 9 pc (znode 8 pc (zleaf 5 pc (.inl (zS1 (zIf (fun x => decide (x = 0)) 40 8)))) (zleaf 8 pc (.inl (zLd zIsA 9 0)))) (znode 10 pc (zleaf 9 pc (.inl (zLd zIsI 10 2))) (zleaf 10 pc (.inr (.inr (.inr (28, 2, 0)))))))) (znode 20 pc (znode 16 pc (zleaf 13 pc (.inl (zS1 (zIf (fun x => decide (x = 0)) 40 16)))) (znode 17 pc (zleaf 16 pc (.inl (zLd zIsA 17 0))) (zleaf 17 pc (.inl (zS2 (zGet 1 8 20)))))) (znode 22 pc (znode 21 pc (zleaf 20 pc (.inl (zLd zIsI 21 1))) (zleaf 21 pc (.inl (zS1 (zDup2 22))))) (znode 23 pc (zleaf 22 pc (.inl (zS2 (zAldI 0 23)))) (zleaf 23 pc (.inl (zS1 (zCst (.int 1) 24)))))))) (znode 33 pc (znode 27 pc (znode 25 pc (zleaf 24 pc (.inl (zLd zIsI 25 2))) (znode 26 pc (zleaf 25 pc (.inl (zS1 (zII (fun x y => x <<< (y &&& 31)) 26)))) (zleaf 26 pc (.inl (zS1 (zII (fun x y => x ||| y) 27)))))) (znode 29 pc (znode 28 pc (zleaf 27 pc (.inl (zAstI 0 28))) (zleaf 28 pc (.inl (zLd zIsA 29 0)))) (znode 32 pc (zleaf 29 pc (.inl (zS2 (zGet 1 8 32)))) (zleaf 32 pc (.inl (zLd zIsI 33 2)))))) (znode 37 pc (znode 35 pc (znode 34 pc (zleaf 33 pc (.inl (zS1 (zDup2 34)))) (zleaf 34 pc (.inl (zS2 (zAldI 0 35))))) (znode 36 pc (zleaf 35 pc (.inl (zS1 (zCst (.int 1) 36)))) (zleaf 36 pc (.inl (zLd zIsI 37 1))))) (znode 39 pc (znode 38 pc (zleaf 37 pc (.inl (zS1 (zII (fun x y => x <<< (y &&& 31)) 38)))) (zleaf 38 pc (.inl (zS1 (zII (fun x y => x ||| y) 39))))) (znode 40 pc (zleaf 39 pc (.inl (zAstI 0 40))) (zleaf 40 pc (.inr (.inl 0)))))))
theorem zk_X1_stick (O : Nat → State → Heap → Prop) (E : zE) (l : Launch) : ∀ pc i, zc_X1_stick pc = some i → zOK z_cl z_T z_G z_N O E z_yy z_bb z_nl z_cc z_rt z_hh l 42 pc i := fun pc => znode_ok (znode_ok (znode_ok (znode_ok (zleaf_ok (zs_aload_n (by decide +kernel : decode cX1_stick 0 = .ok (.aload_n 0, 1)) rfl)) (znode_ok (zleaf_ok (zs_iload_n (by decide +kernel : decode cX1_stick 1 = .ok (.iload_n 1, 1)) rfl)) (zleaf_ok (⟨zcs0 (n := 1) z_good zw_88 zw_89 zw_90 zw_91 zw_92 (by decide +kernel) (by decide +kernel : decode cX1_stick 2 = .ok (.invokevirtual 40, 3)), Nat.le_of_ble_eq_true rfl, by decide +kernel, (fun _ => ⟨TX1, 9, rfl⟩)⟩)))) (znode_ok (znode_ok (zleaf_ok (zs_if_eq (t := 40) (by decide) (by decide +kernel : decode cX1_stick 5 = .ok (.ifCond .eq 35, 3)))) (zleaf_ok (zs_aload_n (by decide +kernel : decode cX1_stick 8 = .ok (.aload_n 0, 1)) rfl))) (znode_ok (zleaf_ok (zs_iload_n (by decide +kernel : decode cX1_stick 9 = .ok (.iload_n 2, 1)) rfl)) (zleaf_ok (⟨zcs0 (n := 1) z_good zw_88 zw_89 zw_90 zw_91 zw_92 (by decide +kernel) (by decide +kernel : decode cX1_stick 10 = .ok (.invokevirtual 40, 3)), Nat.le_of_ble_eq_true rfl, by decide +kernel, (fun _ => ⟨TX1, 9, rfl⟩)⟩))))) (znode_ok (znode_ok (zleaf_ok (zs_if_eq (t := 40) (by decide) (by decide +kernel : decode cX1_stick 13 = .ok (.ifCond .eq 27, 3)))) (znode_ok (zleaf_ok (zs_aload_n (by decide +kernel : decode cX1_stick 16 = .ok (.aload_n 0, 1)) rfl)) (zleaf_ok (zs_get (C := RX1) (Tc := TX1) (Nc := 9) rfl zinX1 (Nat.le_of_ble_eq_true rfl) zw_84 (by decide +kernel : decode cX1_stick 17 = .ok (.getfield 27, 3)))))) (znode_ok (znode_ok (zleaf_ok (zs_iload_n (by decide +kernel : decode cX1_stick 20 = .ok (.iload_n 1, 1)) rfl)) (zleaf_ok (zs_dup2 (by decide +kernel : decode cX1_stick 21 = .ok (.dup2, 1))))) (znode_ok (zleaf_ok (zs_aldI rfl (by decide +kernel : decode cX1_stick 22 = .ok (.iaload, 1)))) (zleaf_ok (zs_iconst (by decide) (by decide +kernel : decode cX1_stick 23 = .ok (.iconst 1, 1)))))))) (znode_ok (znode_ok (znode_ok (zleaf_ok (zs_iload_n (by decide +kernel : decode cX1_stick 24 = .ok (.iload_n 2, 1)) rfl)) (znode_ok (zleaf_ok (zs_ishl (by decide +kernel : decode cX1_stick 25 = .ok (.ishl, 1)))) (zleaf_ok (zs_ior (by decide +kernel : decode cX1_stick 26 = .ok (.ior, 1)))))) (znode_ok (znode_ok (zleaf_ok (zs_astI rfl (by decide +kernel : decode cX1_stick 27 = .ok (.iastore, 1)))) (zleaf_ok (zs_aload_n (by decide +kernel : decode cX1_stick 28 = .ok (.aload_n 0, 1)) rfl))) (znode_ok (zleaf_ok (zs_get (C := RX1) (Tc := TX1) (Nc := 9) rfl zinX1 (Nat.le_of_ble_eq_true rfl) zw_84 (by decide +kernel : decode cX1_stick 29 = .ok (.getfield 27, 3)))) (zleaf_ok (zs_iload_n (by decide +kernel : decode cX1_stick 32 = .ok (.iload_n 2, 1)) rfl))))) (znode_ok (znode_ok (znode_ok (zleaf_ok (zs_dup2 (by decide +kernel : decode cX1_stick 33 = .ok (.dup2, 1)))) (zleaf_ok (zs_aldI rfl (by decide +kernel : decode cX1_stick 34 = .ok (.iaload, 1))))) (znode_ok (zleaf_ok (zs_iconst (by decide) (by decide +kernel : decode cX1_stick 35 = .ok (.iconst 1, 1)))) (zleaf_ok (zs_iload_n (by decide +kernel : decode cX1_stick 36 = .ok (.iload_n 1, 1)) rfl)))) (znode_ok (znode_ok (zleaf_ok (zs_ishl (by decide +kernel : decode cX1_stick 37 = .ok (.ishl, 1)))) (zleaf_ok (zs_ior (by decide +kernel : decode cX1_stick 38 = .ok (.ior, 1))))) (znode_ok (zleaf_ok (zs_astI rfl (by decide +kernel : decode cX1_stick 39 = .ok (.iastore, 1)))) (zleaf_ok (Or.inl ⟨rfl, rfl, (by decide +kernel : decode cX1_stick 40 = .ok (.return_, 1))⟩))))))
/-- Creasebook.<init>()V -/
def zc_X2_init (pc : Nat) : Option zI := znode 49 pc (znode 23 pc (znode 9 pc (znode 4 pc (znode 1 pc (zleaf 0 pc (.inl (zLd zIsA 1 0))) (zleaf 1 pc (.inl (zS2 (zObj 4))))) (znode 5 pc (zleaf 4 pc (.inl (zLd zIsA 5 0))) (znode 8 pc (zleaf 5 pc (.inl (zNew 1 [.int 0, .int 0, .int 0, .null, .null, .null, .null, .null, .null] 9 8))) (zleaf 8 pc (.inl (zS1 (zDup 9))))))) (znode 16 pc (znode 12 pc (zleaf 9 pc (.inr (.inr (.inr (26, 1, 5))))) (znode 15 pc (zleaf 12 pc (.inl (zPut zIsA 2 0 15))) (zleaf 15 pc (.inl (zLd zIsA 16 0))))) (znode 19 pc (zleaf 16 pc (.inl (zNew 0 [.int 0, .int 0, .int 0, .null, .null, .null, .null, .null] 8 19))) (znode 20 pc (zleaf 19 pc (.inl (zS1 (zDup 20)))) (zleaf 20 pc (.inr (.inr (.inr (0, 1, 5))))))))) (znode 37 pc (znode 30 pc (znode 26 pc (zleaf 23 pc (.inl (zPut zIsA 2 1 26))) (znode 27 pc (zleaf 26 pc (.inl (zLd zIsA 27 0))) (zleaf 27 pc (.inl (zNew 0 [.int 0, .int 0, .int 0, .null, .null, .null, .null, .null] 8 30))))) (znode 31 pc (zleaf 30 pc (.inl (zS1 (zDup 31)))) (znode 34 pc (zleaf 31 pc (.inr (.inr (.inr (0, 1, 5))))) (zleaf 34 pc (.inl (zPut zIsA 2 2 37)))))) (znode 43 pc (znode 38 pc (zleaf 37 pc (.inl (zLd zIsA 38 0))) (znode 40 pc (zleaf 38 pc (.inl (zS1 (zCst (.int 8) 40)))) (zleaf 40 pc (.inl (zNwaQ 4 43))))) (znode 46 pc (zleaf 43 pc (.inl (zPut zIsA 2 3 46))) (znode 47 pc (zleaf 46 pc (.inl (zLd zIsA 47 0))) (zleaf 47 pc (.inl (zS1 (zCst (.int 8) 49))))))))) (znode 69 pc (znode 57 pc (znode 54 pc (znode 51 pc (zleaf 49 pc (.inl (zNwaI 0 51))) (zleaf 51 pc (.inl (zPut zIsA 2 4 54)))) (znode 55 pc (zleaf 54 pc (.inl (zS1 (zCst (.int 0) 55)))) (znode 56 pc (zleaf 55 pc (.inl (zSt1 zIsI 56 1))) (zleaf 56 pc (.inl (zLd zIsI 57 1)))))) (znode 62 pc (znode 58 pc (zleaf 57 pc (.inl (zLd zIsA 58 0))) (znode 61 pc (zleaf 58 pc (.inl (zS2 (zGet 2 3 61)))) (zleaf 61 pc (.inl (zS2 (zLen 4 62)))))) (znode 65 pc (zleaf 62 pc (.inl (zS1 (zIcmp (fun x y => decide (y ≤ x)) 84 65)))) (znode 66 pc (zleaf 65 pc (.inl (zLd zIsA 66 0))) (zleaf 66 pc (.inl (zS2 (zGet 2 3 69)))))))) (znode 81 pc (znode 74 pc (znode 70 pc (zleaf 69 pc (.inl (zLd zIsI 70 1))) (znode 73 pc (zleaf 70 pc (.inl (zNew 0 [.int 0, .int 0, .int 0, .null, .null, .null, .null, .null] 8 73))) (zleaf 73 pc (.inl (zS1 (zDup 74)))))) (znode 77 pc (zleaf 74 pc (.inr (.inr (.inr (0, 1, 5))))) (znode 78 pc (zleaf 77 pc (.inl (zAstQ 4 0 78))) (zleaf 78 pc (.inl (zIinc 81 1 1)))))) (znode 86 pc (znode 84 pc (zleaf 81 pc (.inl (zS1 (zGo 56)))) (znode 85 pc (zleaf 84 pc (.inl (zLd zIsA 85 0))) (zleaf 85 pc (.inl (zS1 (zCst (.int 1) 86)))))) (znode 87 pc (zleaf 86 pc (.inl (zS1 (zCst (.int 1) 87)))) (znode 90 pc (zleaf 87 pc (.inr (.inr (.inr (65, 3, 0))))) (zleaf 90 pc (.inr (.inl 0))))))))
theorem zk_X2_init (O : Nat → State → Heap → Prop) (E : zE) (l : Launch) : ∀ pc i, zc_X2_init pc = some i → zOK z_cl z_T z_G z_N O E z_yy z_bb z_nl z_cc z_rt z_hh l 43 pc i := fun pc => znode_ok (znode_ok (znode_ok (znode_ok (znode_ok (zleaf_ok (zs_aload_n (by decide +kernel : decode cX2_init 0 = .ok (.aload_n 0, 1)) rfl)) (zleaf_ok (zs_obj zw_107 zw_1 zw_2 (by decide +kernel : decode cX2_init 1 = .ok (.invokespecial 1, 3))))) (znode_ok (zleaf_ok (zs_aload_n (by decide +kernel : decode cX2_init 4 = .ok (.aload_n 0, 1)) rfl)) (znode_ok (zleaf_ok (zs_new (C := RX1) (Tc := TX1) (Nc := 9) (ty := tyX1) rfl zinX1 tyX1_ok zw_108 zw_109 zw_89 (by decide +kernel) rfl (by decide +kernel : decode cX2_init 5 = .ok (.new 7, 3)))) (zleaf_ok (zs_dup (by decide +kernel : decode cX2_init 8 = .ok (.dup, 1))))))) (znode_ok (znode_ok (zleaf_ok (⟨zcs5 (n := 0) z_good zw_110 zw_89 zw_111 zw_112 rfl (by decide +kernel) (by decide +kernel : decode cX2_init 9 = .ok (.invokespecial 9, 3)), Nat.le_of_ble_eq_true rfl, by decide +kernel, (fun _ => ⟨TX1, 9, rfl⟩)⟩)) (znode_ok (zleaf_ok (zs_putF (C := RX2) (Tc := TX2) (Nc := 8) (ty0 := tyX2) (ty := (.object "Creasebook$Paper")) rfl zinX2 (Nat.le_of_ble_eq_true rfl) tyX2_ok nmX2 zw_113 rfl rfl rfl (by decide +kernel) (zfO _) (by decide +kernel : decode cX2_init 12 = .ok (.putfield 10, 3)))) (zleaf_ok (zs_aload_n (by decide +kernel : decode cX2_init 15 = .ok (.aload_n 0, 1)) rfl)))) (znode_ok (zleaf_ok (zs_new (C := RX0) (Tc := TX0) (Nc := 8) (ty := tyX0) rfl zinX0 tyX0_ok zw_114 zw_115 zw_14 (by decide +kernel) rfl (by decide +kernel : decode cX2_init 16 = .ok (.new 16, 3)))) (znode_ok (zleaf_ok (zs_dup (by decide +kernel : decode cX2_init 19 = .ok (.dup, 1)))) (zleaf_ok (⟨zcs5 (n := 0) z_good zw_116 zw_14 zw_117 zw_118 rfl (by decide +kernel) (by decide +kernel : decode cX2_init 20 = .ok (.invokespecial 18, 3)), Nat.le_of_ble_eq_true rfl, by decide +kernel, (fun _ => ⟨TX0, 8, rfl⟩)⟩)))))) (znode_ok (znode_ok (znode_ok (zleaf_ok (zs_putF (C := RX2) (Tc := TX2) (Nc := 8) (ty0 := tyX2) (ty := (.object "Creasebook$Form")) rfl zinX2 (Nat.le_of_ble_eq_true rfl) tyX2_ok nmX2 zw_119 rfl rfl rfl (by decide +kernel) (zfO _) (by decide +kernel : decode cX2_init 23 = .ok (.putfield 19, 3)))) (znode_ok (zleaf_ok (zs_aload_n (by decide +kernel : decode cX2_init 26 = .ok (.aload_n 0, 1)) rfl)) (zleaf_ok (zs_new (C := RX0) (Tc := TX0) (Nc := 8) (ty := tyX0) rfl zinX0 tyX0_ok zw_114 zw_115 zw_14 (by decide +kernel) rfl (by decide +kernel : decode cX2_init 27 = .ok (.new 16, 3)))))) (znode_ok (zleaf_ok (zs_dup (by decide +kernel : decode cX2_init 30 = .ok (.dup, 1)))) (znode_ok (zleaf_ok (⟨zcs5 (n := 0) z_good zw_116 zw_14 zw_117 zw_118 rfl (by decide +kernel) (by decide +kernel : decode cX2_init 31 = .ok (.invokespecial 18, 3)), Nat.le_of_ble_eq_true rfl, by decide +kernel, (fun _ => ⟨TX0, 8, rfl⟩)⟩)) (zleaf_ok (zs_putF (C := RX2) (Tc := TX2) (Nc := 8) (ty0 := tyX2) (ty := (.object "Creasebook$Form")) rfl zinX2 (Nat.le_of_ble_eq_true rfl) tyX2_ok nmX2 zw_120 rfl rfl rfl (by decide +kernel) (zfO _) (by decide +kernel : decode cX2_init 34 = .ok (.putfield 23, 3))))))) (znode_ok (znode_ok (zleaf_ok (zs_aload_n (by decide +kernel : decode cX2_init 37 = .ok (.aload_n 0, 1)) rfl)) (znode_ok (zleaf_ok (zs_bipush (by decide) (by decide +kernel : decode cX2_init 38 = .ok (.bipush 8, 2)))) (zleaf_ok (zs_nwaQ (C := "Creasebook$Form") rfl zw_114 zw_121 (by decide +kernel : decode cX2_init 40 = .ok (.anewarray 16, 3)))))) (znode_ok (zleaf_ok (zs_putF (C := RX2) (Tc := TX2) (Nc := 8) (ty0 := tyX2) (ty := (.array (.object "Creasebook$Form"))) rfl zinX2 (Nat.le_of_ble_eq_true rfl) tyX2_ok nmX2 zw_122 rfl rfl rfl (by decide +kernel) (zfR _) (by decide +kernel : decode cX2_init 43 = .ok (.putfield 26, 3)))) (znode_ok (zleaf_ok (zs_aload_n (by decide +kernel : decode cX2_init 46 = .ok (.aload_n 0, 1)) rfl)) (zleaf_ok (zs_bipush (by decide) (by decide +kernel : decode cX2_init 47 = .ok (.bipush 8, 2))))))))) (znode_ok (znode_ok (znode_ok (znode_ok (zleaf_ok (zs_nwaI rfl zw_3 (by decide +kernel : decode cX2_init 49 = .ok (.newarray .int, 2)))) (zleaf_ok (zs_putF (C := RX2) (Tc := TX2) (Nc := 8) (ty0 := tyX2) (ty := (.array .int)) rfl zinX2 (Nat.le_of_ble_eq_true rfl) tyX2_ok nmX2 zw_123 rfl rfl rfl (by decide +kernel) (zfR _) (by decide +kernel : decode cX2_init 51 = .ok (.putfield 30, 3))))) (znode_ok (zleaf_ok (zs_iconst (by decide) (by decide +kernel : decode cX2_init 54 = .ok (.iconst 0, 1)))) (znode_ok (zleaf_ok (zs_istore_n (Nat.le_of_ble_eq_true rfl) (by decide +kernel : decode cX2_init 55 = .ok (.istore_n 1, 1)) rfl)) (zleaf_ok (zs_iload_n (by decide +kernel : decode cX2_init 56 = .ok (.iload_n 1, 1)) rfl))))) (znode_ok (znode_ok (zleaf_ok (zs_aload_n (by decide +kernel : decode cX2_init 57 = .ok (.aload_n 0, 1)) rfl)) (znode_ok (zleaf_ok (zs_get (C := RX2) (Tc := TX2) (Nc := 8) rfl zinX2 (Nat.le_of_ble_eq_true rfl) zw_122 (by decide +kernel : decode cX2_init 58 = .ok (.getfield 26, 3)))) (zleaf_ok (zs_len (ty := (.object "Creasebook$Form")) rfl (by decide +kernel : decode cX2_init 61 = .ok (.arraylength, 1)))))) (znode_ok (zleaf_ok (zs_icmp_ge (t := 84) (by decide) (by decide +kernel : decode cX2_init 62 = .ok (.if_icmp .ge 22, 3)))) (znode_ok (zleaf_ok (zs_aload_n (by decide +kernel : decode cX2_init 65 = .ok (.aload_n 0, 1)) rfl)) (zleaf_ok (zs_get (C := RX2) (Tc := TX2) (Nc := 8) rfl zinX2 (Nat.le_of_ble_eq_true rfl) zw_122 (by decide +kernel : decode cX2_init 66 = .ok (.getfield 26, 3)))))))) (znode_ok (znode_ok (znode_ok (zleaf_ok (zs_iload_n (by decide +kernel : decode cX2_init 69 = .ok (.iload_n 1, 1)) rfl)) (znode_ok (zleaf_ok (zs_new (C := RX0) (Tc := TX0) (Nc := 8) (ty := tyX0) rfl zinX0 tyX0_ok zw_114 zw_115 zw_14 (by decide +kernel) rfl (by decide +kernel : decode cX2_init 70 = .ok (.new 16, 3)))) (zleaf_ok (zs_dup (by decide +kernel : decode cX2_init 73 = .ok (.dup, 1)))))) (znode_ok (zleaf_ok (⟨zcs5 (n := 0) z_good zw_116 zw_14 zw_117 zw_118 rfl (by decide +kernel) (by decide +kernel : decode cX2_init 74 = .ok (.invokespecial 18, 3)), Nat.le_of_ble_eq_true rfl, by decide +kernel, (fun _ => ⟨TX0, 8, rfl⟩)⟩)) (znode_ok (zleaf_ok (zs_astQ (C := RX0) (Tc := TX0) (Nc := 8) rfl rfl (by decide +kernel : decode cX2_init 77 = .ok (.aastore, 1)))) (zleaf_ok (zs_iinc (Nat.le_of_ble_eq_true rfl) (by decide) (by decide +kernel : decode cX2_init 78 = .ok (.iinc 1 1, 3))))))) (znode_ok (znode_ok (zleaf_ok (zs_goto (t := 56) (by decide) (by decide +kernel : decode cX2_init 81 = .ok (.goto (-25), 3)))) (znode_ok (zleaf_ok (zs_aload_n (by decide +kernel : decode cX2_init 84 = .ok (.aload_n 0, 1)) rfl)) (zleaf_ok (zs_iconst (by decide) (by decide +kernel : decode cX2_init 85 = .ok (.iconst 1, 1)))))) (znode_ok (zleaf_ok (zs_iconst (by decide) (by decide +kernel : decode cX2_init 86 = .ok (.iconst 1, 1)))) (znode_ok (zleaf_ok (⟨zcs0 (n := 2) z_good zw_124 zw_19 zw_125 zw_126 zw_127 (by decide +kernel) (by decide +kernel : decode cX2_init 87 = .ok (.invokevirtual 34, 3)), Nat.le_of_ble_eq_true rfl, by decide +kernel, (fun _ => ⟨TX2, 8, rfl⟩)⟩)) (zleaf_ok (Or.inl ⟨rfl, rfl, (by decide +kernel : decode cX2_init 90 = .ok (.return_, 1))⟩)))))))
/-- Creasebook.sheet(II)I -/
def zc_X2_sheet (pc : Nat) : Option zI := znode 32 pc (znode 11 pc (znode 5 pc (znode 1 pc (zleaf 0 pc (.inl (zLd zIsI 1 1))) (znode 2 pc (zleaf 1 pc (.inl (zS1 (zCst (.int 1) 2)))) (zleaf 2 pc (.inl (zS1 (zIcmp (fun x y => decide (x < y)) 22 5)))))) (znode 6 pc (zleaf 5 pc (.inl (zLd zIsI 6 1))) (znode 8 pc (zleaf 6 pc (.inl (zS1 (zCst (.int 8) 8)))) (zleaf 8 pc (.inl (zS1 (zIcmp (fun x y => decide (y < x)) 22 11))))))) (znode 16 pc (znode 12 pc (zleaf 11 pc (.inl (zLd zIsI 12 2))) (znode 13 pc (zleaf 12 pc (.inl (zS1 (zCst (.int 1) 13)))) (zleaf 13 pc (.inl (zS1 (zIcmp (fun x y => decide (x < y)) 22 16)))))) (znode 17 pc (zleaf 16 pc (.inl (zLd zIsI 17 2))) (znode 19 pc (zleaf 17 pc (.inl (zS1 (zCst (.int 8) 19)))) (zleaf 19 pc (.inl (zS1 (zIcmp (fun x y => decide (x ≤ y)) 32 22)))))))) (znode 51 pc (znode 35 pc (znode 33 pc (zleaf 32 pc (.inl (zLd zIsI 33 1))) (znode 34 pc (zleaf 33 pc (.inl (zLd zIsI 34 2))) (zleaf 34 pc (.inl (zS1 (zII (fun x y => x * y) 35)))))) (znode 37 pc (zleaf 35 pc (.inl (zS1 (zCst (.int 32) 37)))) (znode 50 pc (zleaf 37 pc (.inl (zS1 (zIcmp (fun x y => decide (x ≤ y)) 50 40)))) (zleaf 50 pc (.inl (zLd zIsA 51 0)))))) (znode 56 pc (znode 52 pc (zleaf 51 pc (.inl (zLd zIsI 52 1))) (znode 53 pc (zleaf 52 pc (.inl (zLd zIsI 53 2))) (zleaf 53 pc (.inr (.inr (.inr (65, 3, 0))))))) (znode 60 pc (znode 57 pc (zleaf 56 pc (.inl (zLd zIsA 57 0))) (zleaf 57 pc (.inl (zS2 (zGet 2 0 60))))) (znode 63 pc (zleaf 60 pc (.inl (zS2 (zGet 1 2 63)))) (zleaf 63 pc (.inr (.inl 1)))))))
theorem zk_X2_sheet (O : Nat → State → Heap → Prop) (E : zE) (l : Launch) : ∀ pc i, zc_X2_sheet pc = some i → zOK z_cl z_T z_G z_N O E z_yy z_bb z_nl z_cc z_rt z_hh l 44 pc i := fun pc => znode_ok (znode_ok (znode_ok (znode_ok (zleaf_ok (zs_iload_n (by decide +kernel : decode cX2_sheet 0 = .ok (.iload_n 1, 1)) rfl)) (znode_ok (zleaf_ok (zs_iconst (by decide) (by decide +kernel : decode cX2_sheet 1 = .ok (.iconst 1, 1)))) (zleaf_ok (zs_icmp_lt (t := 22) (by decide) (by decide +kernel : decode cX2_sheet 2 = .ok (.if_icmp .lt 20, 3)))))) (znode_ok (zleaf_ok (zs_iload_n (by decide +kernel : decode cX2_sheet 5 = .ok (.iload_n 1, 1)) rfl)) (znode_ok (zleaf_ok (zs_bipush (by decide) (by decide +kernel : decode cX2_sheet 6 = .ok (.bipush 8, 2)))) (zleaf_ok (zs_icmp_gt (t := 22) (by decide) (by decide +kernel : decode cX2_sheet 8 = .ok (.if_icmp .gt 14, 3))))))) (znode_ok (znode_ok (zleaf_ok (zs_iload_n (by decide +kernel : decode cX2_sheet 11 = .ok (.iload_n 2, 1)) rfl)) (znode_ok (zleaf_ok (zs_iconst (by decide) (by decide +kernel : decode cX2_sheet 12 = .ok (.iconst 1, 1)))) (zleaf_ok (zs_icmp_lt (t := 22) (by decide) (by decide +kernel : decode cX2_sheet 13 = .ok (.if_icmp .lt 9, 3)))))) (znode_ok (zleaf_ok (zs_iload_n (by decide +kernel : decode cX2_sheet 16 = .ok (.iload_n 2, 1)) rfl)) (znode_ok (zleaf_ok (zs_bipush (by decide) (by decide +kernel : decode cX2_sheet 17 = .ok (.bipush 8, 2)))) (zleaf_ok (zs_icmp_le (t := 32) (by decide) (by decide +kernel : decode cX2_sheet 19 = .ok (.if_icmp .le 13, 3)))))))) (znode_ok (znode_ok (znode_ok (zleaf_ok (zs_iload_n (by decide +kernel : decode cX2_sheet 32 = .ok (.iload_n 1, 1)) rfl)) (znode_ok (zleaf_ok (zs_iload_n (by decide +kernel : decode cX2_sheet 33 = .ok (.iload_n 2, 1)) rfl)) (zleaf_ok (zs_imul (by decide +kernel : decode cX2_sheet 34 = .ok (.imul, 1)))))) (znode_ok (zleaf_ok (zs_bipush (by decide) (by decide +kernel : decode cX2_sheet 35 = .ok (.bipush 32, 2)))) (znode_ok (zleaf_ok (zs_icmp_le (t := 50) (by decide) (by decide +kernel : decode cX2_sheet 37 = .ok (.if_icmp .le 13, 3)))) (zleaf_ok (zs_aload_n (by decide +kernel : decode cX2_sheet 50 = .ok (.aload_n 0, 1)) rfl))))) (znode_ok (znode_ok (zleaf_ok (zs_iload_n (by decide +kernel : decode cX2_sheet 51 = .ok (.iload_n 1, 1)) rfl)) (znode_ok (zleaf_ok (zs_iload_n (by decide +kernel : decode cX2_sheet 52 = .ok (.iload_n 2, 1)) rfl)) (zleaf_ok (⟨zcs0 (n := 2) z_good zw_124 zw_19 zw_125 zw_126 zw_127 (by decide +kernel) (by decide +kernel : decode cX2_sheet 53 = .ok (.invokevirtual 34, 3)), Nat.le_of_ble_eq_true rfl, by decide +kernel, (fun _ => ⟨TX2, 8, rfl⟩)⟩)))) (znode_ok (znode_ok (zleaf_ok (zs_aload_n (by decide +kernel : decode cX2_sheet 56 = .ok (.aload_n 0, 1)) rfl)) (zleaf_ok (zs_get (C := RX2) (Tc := TX2) (Nc := 8) rfl zinX2 (Nat.le_of_ble_eq_true rfl) zw_113 (by decide +kernel : decode cX2_sheet 57 = .ok (.getfield 10, 3))))) (znode_ok (zleaf_ok (zs_getN (C := RX1) (Tc := TX1) (Nc := 9) rfl zinX1 (Nat.le_of_ble_eq_true rfl) zw_128 (by decide +kernel : decode cX2_sheet 60 = .ok (.getfield 47, 3)))) (zleaf_ok (Or.inr (Or.inl ⟨rfl, rfl, (by decide +kernel : decode cX2_sheet 63 = .ok (.ireturn, 1))⟩)))))))
/-- Creasebook.fold(IIZZ)I -/
def zc_X2_fold (pc : Nat) : Option zI := znode 60 pc (znode 33 pc (znode 10 pc (znode 3 pc (znode 1 pc (zleaf 0 pc (.inl (zLd zIsA 1 0))) (znode 2 pc (zleaf 1 pc (.inl (zLd zIsI 2 1))) (zleaf 2 pc (.inl (zLd zIsI 3 2))))) (znode 6 pc (zleaf 3 pc (.inr (.inr (.inr (66, 3, 0))))) (znode 7 pc (zleaf 6 pc (.inl (zLd zIsA 7 0))) (zleaf 7 pc (.inl (zS2 (zGet 2 5 10))))))) (znode 26 pc (znode 12 pc (zleaf 10 pc (.inl (zS1 (zCst (.int 8) 12)))) (znode 25 pc (zleaf 12 pc (.inl (zS1 (zIcmp (fun x y => decide (x < y)) 25 15)))) (zleaf 25 pc (.inl (zLd zIsI 26 1))))) (znode 28 pc (znode 27 pc (zleaf 26 pc (.inl (zLd zIsI 27 2))) (zleaf 27 pc (.inl (zLd zIsI 28 3)))) (znode 30 pc (zleaf 28 pc (.inl (zLd zIsI 30 4))) (zleaf 30 pc (.inr (.inr (.inr (85, 4, 2))))))))) (znode 46 pc (znode 39 pc (znode 35 pc (zleaf 33 pc (.inl (zSt1 zIsI 35 5))) (znode 36 pc (zleaf 35 pc (.inl (zLd zIsA 36 0))) (zleaf 36 pc (.inl (zS2 (zGet 2 3 39)))))) (znode 43 pc (znode 40 pc (zleaf 39 pc (.inl (zLd zIsA 40 0))) (zleaf 40 pc (.inl (zS2 (zGet 2 5 43))))) (znode 44 pc (zleaf 43 pc (.inl (zS2 (zAldQ 4 44)))) (zleaf 44 pc (.inl (zSt1 zIsA 46 6)))))) (znode 52 pc (znode 48 pc (zleaf 46 pc (.inl (zLd zIsA 48 6))) (znode 49 pc (zleaf 48 pc (.inl (zLd zIsA 49 0))) (zleaf 49 pc (.inl (zS2 (zGet 2 1 52)))))) (znode 56 pc (znode 55 pc (zleaf 52 pc (.inr (.inr (.inr (2, 2, 1))))) (zleaf 55 pc (.inl (zLd zIsA 56 0)))) (znode 59 pc (zleaf 56 pc (.inl (zS2 (zGet 2 4 59)))) (zleaf 59 pc (.inl (zLd zIsA 60 0)))))))) (znode 84 pc (znode 72 pc (znode 66 pc (znode 63 pc (zleaf 60 pc (.inl (zS2 (zGet 2 5 63)))) (znode 65 pc (zleaf 63 pc (.inl (zLd zIsI 65 5))) (zleaf 65 pc (.inl (zAstI 0 66))))) (znode 68 pc (znode 67 pc (zleaf 66 pc (.inl (zLd zIsA 67 0))) (zleaf 67 pc (.inl (zS1 (zDup 68))))) (znode 71 pc (zleaf 68 pc (.inl (zS2 (zGet 2 5 71)))) (zleaf 71 pc (.inl (zS1 (zCst (.int 1) 72))))))) (znode 77 pc (znode 73 pc (zleaf 72 pc (.inl (zS1 (zII (fun x y => x + y) 73)))) (znode 76 pc (zleaf 73 pc (.inl (zPut zIsI 2 5 76))) (zleaf 76 pc (.inl (zLd zIsA 77 0))))) (znode 81 pc (znode 78 pc (zleaf 77 pc (.inl (zS1 (zDup 78)))) (zleaf 78 pc (.inl (zS2 (zGet 2 6 81))))) (znode 82 pc (zleaf 81 pc (.inl (zLd zIsA 82 0))) (zleaf 82 pc (.inl (zLd zIsI 84 5))))))) (znode 99 pc (znode 91 pc (znode 87 pc (zleaf 84 pc (.inr (.inr (.inr (72, 2, 0))))) (znode 88 pc (zleaf 87 pc (.inl (zS1 (zII (fun x y => x + y) 88)))) (zleaf 88 pc (.inl (zPut zIsI 2 6 91))))) (znode 94 pc (znode 92 pc (zleaf 91 pc (.inl (zLd zIsA 92 0))) (zleaf 92 pc (.inl (zLd zIsI 94 5)))) (znode 97 pc (zleaf 94 pc (.inr (.inr (.inr (70, 2, 0))))) (zleaf 97 pc (.inl (zSt1 zIsI 99 7)))))) (znode 105 pc (znode 100 pc (zleaf 99 pc (.inl (zLd zIsA 100 0))) (znode 103 pc (zleaf 100 pc (.inl (zS2 (zGet 2 1 103)))) (zleaf 103 pc (.inl (zLd zIsA 105 6))))) (znode 110 pc (znode 107 pc (zleaf 105 pc (.inl (zLd zIsI 107 5))) (zleaf 107 pc (.inr (.inr (.inr (3, 3, 1)))))) (znode 112 pc (zleaf 110 pc (.inl (zLd zIsI 112 7))) (zleaf 112 pc (.inr (.inl 1))))))))
theorem zk_X2_fold (O : Nat → State → Heap → Prop) (E : zE) (l : Launch) : ∀ pc i, zc_X2_fold pc = some i → zOK z_cl z_T z_G z_N O E z_yy z_bb z_nl z_cc z_rt z_hh l 45 pc i := fun pc => znode_ok (znode_ok (znode_ok (znode_ok (znode_ok (zleaf_ok (zs_aload_n (by decide +kernel : decode cX2_fold 0 = .ok (.aload_n 0, 1)) rfl)) (znode_ok (zleaf_ok (zs_iload_n (by decide +kernel : decode cX2_fold 1 = .ok (.iload_n 1, 1)) rfl)) (zleaf_ok (zs_iload_n (by decide +kernel : decode cX2_fold 2 = .ok (.iload_n 2, 1)) rfl)))) (znode_ok (zleaf_ok (⟨zcs0 (n := 2) z_good zw_129 zw_19 zw_130 zw_131 zw_132 (by decide +kernel) (by decide +kernel : decode cX2_fold 3 = .ok (.invokevirtual 51, 3)), Nat.le_of_ble_eq_true rfl, by decide +kernel, (fun _ => ⟨TX2, 8, rfl⟩)⟩)) (znode_ok (zleaf_ok (zs_aload_n (by decide +kernel : decode cX2_fold 6 = .ok (.aload_n 0, 1)) rfl)) (zleaf_ok (zs_get (C := RX2) (Tc := TX2) (Nc := 8) rfl zinX2 (Nat.le_of_ble_eq_true rfl) zw_133 (by decide +kernel : decode cX2_fold 7 = .ok (.getfield 54, 3))))))) (znode_ok (znode_ok (zleaf_ok (zs_bipush (by decide) (by decide +kernel : decode cX2_fold 10 = .ok (.bipush 8, 2)))) (znode_ok (zleaf_ok (zs_icmp_lt (t := 25) (by decide) (by decide +kernel : decode cX2_fold 12 = .ok (.if_icmp .lt 13, 3)))) (zleaf_ok (zs_iload_n (by decide +kernel : decode cX2_fold 25 = .ok (.iload_n 1, 1)) rfl)))) (znode_ok (znode_ok (zleaf_ok (zs_iload_n (by decide +kernel : decode cX2_fold 26 = .ok (.iload_n 2, 1)) rfl)) (zleaf_ok (zs_iload_n (by decide +kernel : decode cX2_fold 27 = .ok (.iload_n 3, 1)) rfl))) (znode_ok (zleaf_ok (zs_iload (by decide +kernel : decode cX2_fold 28 = .ok (.iload 4, 2)))) (zleaf_ok (⟨zcs2 (n := 4) z_good zw_134 zw_19 zw_135 zw_136 (by decide +kernel) (by decide +kernel : decode cX2_fold 30 = .ok (.invokestatic 62, 3)), Nat.le_of_ble_eq_true rfl, by decide +kernel, (fun h => absurd rfl (h.1))⟩)))))) (znode_ok (znode_ok (znode_ok (zleaf_ok (zs_istore (Nat.le_of_ble_eq_true rfl) (by decide +kernel : decode cX2_fold 33 = .ok (.istore 5, 2)))) (znode_ok (zleaf_ok (zs_aload_n (by decide +kernel : decode cX2_fold 35 = .ok (.aload_n 0, 1)) rfl)) (zleaf_ok (zs_get (C := RX2) (Tc := TX2) (Nc := 8) rfl zinX2 (Nat.le_of_ble_eq_true rfl) zw_122 (by decide +kernel : decode cX2_fold 36 = .ok (.getfield 26, 3)))))) (znode_ok (znode_ok (zleaf_ok (zs_aload_n (by decide +kernel : decode cX2_fold 39 = .ok (.aload_n 0, 1)) rfl)) (zleaf_ok (zs_get (C := RX2) (Tc := TX2) (Nc := 8) rfl zinX2 (Nat.le_of_ble_eq_true rfl) zw_133 (by decide +kernel : decode cX2_fold 40 = .ok (.getfield 54, 3))))) (znode_ok (zleaf_ok (zs_aldQ rfl (by decide +kernel : decode cX2_fold 43 = .ok (.aaload, 1)))) (zleaf_ok (zs_astore (Nat.le_of_ble_eq_true rfl) (by decide +kernel : decode cX2_fold 44 = .ok (.astore 6, 2))))))) (znode_ok (znode_ok (zleaf_ok (zs_aload (by decide +kernel : decode cX2_fold 46 = .ok (.aload 6, 2)))) (znode_ok (zleaf_ok (zs_aload_n (by decide +kernel : decode cX2_fold 48 = .ok (.aload_n 0, 1)) rfl)) (zleaf_ok (zs_get (C := RX2) (Tc := TX2) (Nc := 8) rfl zinX2 (Nat.le_of_ble_eq_true rfl) zw_119 (by decide +kernel : decode cX2_fold 49 = .ok (.getfield 19, 3)))))) (znode_ok (znode_ok (zleaf_ok (⟨zcs1 (n := 1) z_good zw_137 zw_14 zw_138 zw_139 zw_140 (by decide +kernel) (by decide +kernel : decode cX2_fold 52 = .ok (.invokevirtual 66, 3)), Nat.le_of_ble_eq_true rfl, by decide +kernel, (fun _ => ⟨TX0, 8, rfl⟩)⟩)) (zleaf_ok (zs_aload_n (by decide +kernel : decode cX2_fold 55 = .ok (.aload_n 0, 1)) rfl))) (znode_ok (zleaf_ok (zs_get (C := RX2) (Tc := TX2) (Nc := 8) rfl zinX2 (Nat.le_of_ble_eq_true rfl) zw_123 (by decide +kernel : decode cX2_fold 56 = .ok (.getfield 30, 3)))) (zleaf_ok (zs_aload_n (by decide +kernel : decode cX2_fold 59 = .ok (.aload_n 0, 1)) rfl))))))) (znode_ok (znode_ok (znode_ok (znode_ok (zleaf_ok (zs_get (C := RX2) (Tc := TX2) (Nc := 8) rfl zinX2 (Nat.le_of_ble_eq_true rfl) zw_133 (by decide +kernel : decode cX2_fold 60 = .ok (.getfield 54, 3)))) (znode_ok (zleaf_ok (zs_iload (by decide +kernel : decode cX2_fold 63 = .ok (.iload 5, 2)))) (zleaf_ok (zs_astI rfl (by decide +kernel : decode cX2_fold 65 = .ok (.iastore, 1)))))) (znode_ok (znode_ok (zleaf_ok (zs_aload_n (by decide +kernel : decode cX2_fold 66 = .ok (.aload_n 0, 1)) rfl)) (zleaf_ok (zs_dup (by decide +kernel : decode cX2_fold 67 = .ok (.dup, 1))))) (znode_ok (zleaf_ok (zs_get (C := RX2) (Tc := TX2) (Nc := 8) rfl zinX2 (Nat.le_of_ble_eq_true rfl) zw_133 (by decide +kernel : decode cX2_fold 68 = .ok (.getfield 54, 3)))) (zleaf_ok (zs_iconst (by decide) (by decide +kernel : decode cX2_fold 71 = .ok (.iconst 1, 1))))))) (znode_ok (znode_ok (zleaf_ok (zs_iadd (by decide +kernel : decode cX2_fold 72 = .ok (.iadd, 1)))) (znode_ok (zleaf_ok (zs_put (C := RX2) (Tc := TX2) (Nc := 8) (ty0 := tyX2) (ty := .int) rfl zinX2 (Nat.le_of_ble_eq_true rfl) tyX2_ok nmX2 zw_133 rfl (by decide +kernel) (zfI) (by decide +kernel : decode cX2_fold 73 = .ok (.putfield 54, 3)))) (zleaf_ok (zs_aload_n (by decide +kernel : decode cX2_fold 76 = .ok (.aload_n 0, 1)) rfl)))) (znode_ok (znode_ok (zleaf_ok (zs_dup (by decide +kernel : decode cX2_fold 77 = .ok (.dup, 1)))) (zleaf_ok (zs_get (C := RX2) (Tc := TX2) (Nc := 8) rfl zinX2 (Nat.le_of_ble_eq_true rfl) zw_141 (by decide +kernel : decode cX2_fold 78 = .ok (.getfield 70, 3))))) (znode_ok (zleaf_ok (zs_aload_n (by decide +kernel : decode cX2_fold 81 = .ok (.aload_n 0, 1)) rfl)) (zleaf_ok (zs_iload (by decide +kernel : decode cX2_fold 82 = .ok (.iload 5, 2)))))))) (znode_ok (znode_ok (znode_ok (zleaf_ok (⟨zcs0 (n := 1) z_good zw_142 zw_19 zw_143 zw_144 zw_145 (by decide +kernel) (by decide +kernel : decode cX2_fold 84 = .ok (.invokevirtual 73, 3)), Nat.le_of_ble_eq_true rfl, by decide +kernel, (fun _ => ⟨TX2, 8, rfl⟩)⟩)) (znode_ok (zleaf_ok (zs_iadd (by decide +kernel : decode cX2_fold 87 = .ok (.iadd, 1)))) (zleaf_ok (zs_put (C := RX2) (Tc := TX2) (Nc := 8) (ty0 := tyX2) (ty := .int) rfl zinX2 (Nat.le_of_ble_eq_true rfl) tyX2_ok nmX2 zw_141 rfl (by decide +kernel) (zfI) (by decide +kernel : decode cX2_fold 88 = .ok (.putfield 70, 3)))))) (znode_ok (znode_ok (zleaf_ok (zs_aload_n (by decide +kernel : decode cX2_fold 91 = .ok (.aload_n 0, 1)) rfl)) (zleaf_ok (zs_iload (by decide +kernel : decode cX2_fold 92 = .ok (.iload 5, 2))))) (znode_ok (zleaf_ok (⟨zcs0 (n := 1) z_good zw_146 zw_19 zw_147 zw_148 zw_149 (by decide +kernel) (by decide +kernel : decode cX2_fold 94 = .ok (.invokevirtual 77, 3)), Nat.le_of_ble_eq_true rfl, by decide +kernel, (fun _ => ⟨TX2, 8, rfl⟩)⟩)) (zleaf_ok (zs_istore (Nat.le_of_ble_eq_true rfl) (by decide +kernel : decode cX2_fold 97 = .ok (.istore 7, 2))))))) (znode_ok (znode_ok (zleaf_ok (zs_aload_n (by decide +kernel : decode cX2_fold 99 = .ok (.aload_n 0, 1)) rfl)) (znode_ok (zleaf_ok (zs_get (C := RX2) (Tc := TX2) (Nc := 8) rfl zinX2 (Nat.le_of_ble_eq_true rfl) zw_119 (by decide +kernel : decode cX2_fold 100 = .ok (.getfield 19, 3)))) (zleaf_ok (zs_aload (by decide +kernel : decode cX2_fold 103 = .ok (.aload 6, 2)))))) (znode_ok (znode_ok (zleaf_ok (zs_iload (by decide +kernel : decode cX2_fold 105 = .ok (.iload 5, 2)))) (zleaf_ok (⟨zcs1 (n := 2) z_good zw_150 zw_14 zw_151 zw_152 zw_153 (by decide +kernel) (by decide +kernel : decode cX2_fold 107 = .ok (.invokevirtual 80, 3)), Nat.le_of_ble_eq_true rfl, by decide +kernel, (fun _ => ⟨TX0, 8, rfl⟩)⟩))) (znode_ok (zleaf_ok (zs_iload (by decide +kernel : decode cX2_fold 110 = .ok (.iload 7, 2)))) (zleaf_ok (Or.inr (Or.inl ⟨rfl, rfl, (by decide +kernel : decode cX2_fold 112 = .ok (.ireturn, 1))⟩))))))))
/-- Creasebook.unfold()I -/
def zc_X2_unfold (pc : Nat) : Option zI := znode 32 pc (znode 17 pc (znode 8 pc (znode 4 pc (znode 1 pc (zleaf 0 pc (.inl (zLd zIsA 1 0))) (zleaf 1 pc (.inl (zS2 (zGet 2 5 4))))) (znode 5 pc (zleaf 4 pc (.inl (zS1 (zCst (.int 1) 5)))) (zleaf 5 pc (.inl (zS1 (zIcmp (fun x y => decide (x < y)) 15 8)))))) (znode 12 pc (znode 9 pc (zleaf 8 pc (.inl (zLd zIsA 9 0))) (zleaf 9 pc (.inr (.inr (.inr (77, 1, 0)))))) (znode 15 pc (zleaf 12 pc (.inl (zS1 (zIf (fun x => decide (x = 0)) 27 15)))) (znode 16 pc (zleaf 15 pc (.inl (zLd zIsA 16 0))) (zleaf 16 pc (.inl (zS1 (zDup 17)))))))) (znode 25 pc (znode 21 pc (znode 20 pc (zleaf 17 pc (.inl (zS2 (zGet 2 7 20)))) (zleaf 20 pc (.inl (zS1 (zCst (.int 1) 21))))) (znode 22 pc (zleaf 21 pc (.inl (zS1 (zII (fun x y => x + y) 22)))) (zleaf 22 pc (.inl (zPut zIsI 2 7 25))))) (znode 27 pc (znode 26 pc (zleaf 25 pc (.inl (zS1 (zCst (.int (-1)) 26)))) (zleaf 26 pc (.inr (.inl 1)))) (znode 28 pc (zleaf 27 pc (.inl (zLd zIsA 28 0))) (znode 31 pc (zleaf 28 pc (.inl (zS2 (zGet 2 0 31)))) (zleaf 31 pc (.inl (zLd zIsA 32 0)))))))) (znode 49 pc (znode 40 pc (znode 38 pc (znode 35 pc (zleaf 32 pc (.inl (zS2 (zGet 2 5 35)))) (zleaf 35 pc (.inr (.inr (.inr (31, 2, 1)))))) (znode 39 pc (zleaf 38 pc (.inl (zLd zIsA 39 0))) (zleaf 39 pc (.inl (zS1 (zDup 40)))))) (znode 44 pc (znode 43 pc (zleaf 40 pc (.inl (zS2 (zGet 2 5 43)))) (zleaf 43 pc (.inl (zS1 (zCst (.int 1) 44))))) (znode 45 pc (zleaf 44 pc (.inl (zS1 (zII (fun x y => x - y) 45)))) (znode 48 pc (zleaf 45 pc (.inl (zPut zIsI 2 5 48))) (zleaf 48 pc (.inl (zLd zIsA 49 0))))))) (znode 60 pc (znode 53 pc (znode 52 pc (zleaf 49 pc (.inl (zS2 (zGet 2 1 52)))) (zleaf 52 pc (.inl (zLd zIsA 53 0)))) (znode 56 pc (zleaf 53 pc (.inl (zS2 (zGet 2 3 56)))) (znode 57 pc (zleaf 56 pc (.inl (zLd zIsA 57 0))) (zleaf 57 pc (.inl (zS2 (zGet 2 5 60))))))) (znode 64 pc (znode 61 pc (zleaf 60 pc (.inl (zS2 (zAldQ 4 61)))) (zleaf 61 pc (.inr (.inr (.inr (2, 2, 1)))))) (znode 65 pc (zleaf 64 pc (.inl (zLd zIsA 65 0))) (znode 68 pc (zleaf 65 pc (.inl (zS2 (zGet 2 5 68)))) (zleaf 68 pc (.inr (.inl 1))))))))
theorem zk_X2_unfold (O : Nat → State → Heap → Prop) (E : zE) (l : Launch) : ∀ pc i, zc_X2_unfold pc = some i → zOK z_cl z_T z_G z_N O E z_yy z_bb z_nl z_cc z_rt z_hh l 46 pc i := fun pc => znode_ok (znode_ok (znode_ok (znode_ok (znode_ok (zleaf_ok (zs_aload_n (by decide +kernel : decode cX2_unfold 0 = .ok (.aload_n 0, 1)) rfl)) (zleaf_ok (zs_get (C := RX2) (Tc := TX2) (Nc := 8) rfl zinX2 (Nat.le_of_ble_eq_true rfl) zw_133 (by decide +kernel : decode cX2_unfold 1 = .ok (.getfield 54, 3))))) (znode_ok (zleaf_ok (zs_iconst (by decide) (by decide +kernel : decode cX2_unfold 4 = .ok (.iconst 1, 1)))) (zleaf_ok (zs_icmp_lt (t := 15) (by decide) (by decide +kernel : decode cX2_unfold 5 = .ok (.if_icmp .lt 10, 3)))))) (znode_ok (znode_ok (zleaf_ok (zs_aload_n (by decide +kernel : decode cX2_unfold 8 = .ok (.aload_n 0, 1)) rfl)) (zleaf_ok (⟨zcs0 (n := 0) z_good zw_154 zw_19 zw_155 zw_156 zw_157 (by decide +kernel) (by decide +kernel : decode cX2_unfold 9 = .ok (.invokevirtual 84, 3)), Nat.le_of_ble_eq_true rfl, by decide +kernel, (fun _ => ⟨TX2, 8, rfl⟩)⟩))) (znode_ok (zleaf_ok (zs_if_eq (t := 27) (by decide) (by decide +kernel : decode cX2_unfold 12 = .ok (.ifCond .eq 15, 3)))) (znode_ok (zleaf_ok (zs_aload_n (by decide +kernel : decode cX2_unfold 15 = .ok (.aload_n 0, 1)) rfl)) (zleaf_ok (zs_dup (by decide +kernel : decode cX2_unfold 16 = .ok (.dup, 1)))))))) (znode_ok (znode_ok (znode_ok (zleaf_ok (zs_get (C := RX2) (Tc := TX2) (Nc := 8) rfl zinX2 (Nat.le_of_ble_eq_true rfl) zw_158 (by decide +kernel : decode cX2_unfold 17 = .ok (.getfield 88, 3)))) (zleaf_ok (zs_iconst (by decide) (by decide +kernel : decode cX2_unfold 20 = .ok (.iconst 1, 1))))) (znode_ok (zleaf_ok (zs_iadd (by decide +kernel : decode cX2_unfold 21 = .ok (.iadd, 1)))) (zleaf_ok (zs_put (C := RX2) (Tc := TX2) (Nc := 8) (ty0 := tyX2) (ty := .int) rfl zinX2 (Nat.le_of_ble_eq_true rfl) tyX2_ok nmX2 zw_158 rfl (by decide +kernel) (zfI) (by decide +kernel : decode cX2_unfold 22 = .ok (.putfield 88, 3)))))) (znode_ok (znode_ok (zleaf_ok (zs_iconst (by decide) (by decide +kernel : decode cX2_unfold 25 = .ok (.iconst (-1), 1)))) (zleaf_ok (Or.inr (Or.inl ⟨rfl, rfl, (by decide +kernel : decode cX2_unfold 26 = .ok (.ireturn, 1))⟩)))) (znode_ok (zleaf_ok (zs_aload_n (by decide +kernel : decode cX2_unfold 27 = .ok (.aload_n 0, 1)) rfl)) (znode_ok (zleaf_ok (zs_get (C := RX2) (Tc := TX2) (Nc := 8) rfl zinX2 (Nat.le_of_ble_eq_true rfl) zw_113 (by decide +kernel : decode cX2_unfold 28 = .ok (.getfield 10, 3)))) (zleaf_ok (zs_aload_n (by decide +kernel : decode cX2_unfold 31 = .ok (.aload_n 0, 1)) rfl))))))) (znode_ok (znode_ok (znode_ok (znode_ok (zleaf_ok (zs_get (C := RX2) (Tc := TX2) (Nc := 8) rfl zinX2 (Nat.le_of_ble_eq_true rfl) zw_133 (by decide +kernel : decode cX2_unfold 32 = .ok (.getfield 54, 3)))) (zleaf_ok (⟨zcs1 (n := 1) z_good zw_159 zw_89 zw_160 zw_161 zw_162 (by decide +kernel) (by decide +kernel : decode cX2_unfold 35 = .ok (.invokevirtual 91, 3)), Nat.le_of_ble_eq_true rfl, by decide +kernel, (fun _ => ⟨TX1, 9, rfl⟩)⟩))) (znode_ok (zleaf_ok (zs_aload_n (by decide +kernel : decode cX2_unfold 38 = .ok (.aload_n 0, 1)) rfl)) (zleaf_ok (zs_dup (by decide +kernel : decode cX2_unfold 39 = .ok (.dup, 1)))))) (znode_ok (znode_ok (zleaf_ok (zs_get (C := RX2) (Tc := TX2) (Nc := 8) rfl zinX2 (Nat.le_of_ble_eq_true rfl) zw_133 (by decide +kernel : decode cX2_unfold 40 = .ok (.getfield 54, 3)))) (zleaf_ok (zs_iconst (by decide) (by decide +kernel : decode cX2_unfold 43 = .ok (.iconst 1, 1))))) (znode_ok (zleaf_ok (zs_isub (by decide +kernel : decode cX2_unfold 44 = .ok (.isub, 1)))) (znode_ok (zleaf_ok (zs_put (C := RX2) (Tc := TX2) (Nc := 8) (ty0 := tyX2) (ty := .int) rfl zinX2 (Nat.le_of_ble_eq_true rfl) tyX2_ok nmX2 zw_133 rfl (by decide +kernel) (zfI) (by decide +kernel : decode cX2_unfold 45 = .ok (.putfield 54, 3)))) (zleaf_ok (zs_aload_n (by decide +kernel : decode cX2_unfold 48 = .ok (.aload_n 0, 1)) rfl)))))) (znode_ok (znode_ok (znode_ok (zleaf_ok (zs_get (C := RX2) (Tc := TX2) (Nc := 8) rfl zinX2 (Nat.le_of_ble_eq_true rfl) zw_119 (by decide +kernel : decode cX2_unfold 49 = .ok (.getfield 19, 3)))) (zleaf_ok (zs_aload_n (by decide +kernel : decode cX2_unfold 52 = .ok (.aload_n 0, 1)) rfl))) (znode_ok (zleaf_ok (zs_get (C := RX2) (Tc := TX2) (Nc := 8) rfl zinX2 (Nat.le_of_ble_eq_true rfl) zw_122 (by decide +kernel : decode cX2_unfold 53 = .ok (.getfield 26, 3)))) (znode_ok (zleaf_ok (zs_aload_n (by decide +kernel : decode cX2_unfold 56 = .ok (.aload_n 0, 1)) rfl)) (zleaf_ok (zs_get (C := RX2) (Tc := TX2) (Nc := 8) rfl zinX2 (Nat.le_of_ble_eq_true rfl) zw_133 (by decide +kernel : decode cX2_unfold 57 = .ok (.getfield 54, 3))))))) (znode_ok (znode_ok (zleaf_ok (zs_aldQ rfl (by decide +kernel : decode cX2_unfold 60 = .ok (.aaload, 1)))) (zleaf_ok (⟨zcs1 (n := 1) z_good zw_137 zw_14 zw_138 zw_139 zw_140 (by decide +kernel) (by decide +kernel : decode cX2_unfold 61 = .ok (.invokevirtual 66, 3)), Nat.le_of_ble_eq_true rfl, by decide +kernel, (fun _ => ⟨TX0, 8, rfl⟩)⟩))) (znode_ok (zleaf_ok (zs_aload_n (by decide +kernel : decode cX2_unfold 64 = .ok (.aload_n 0, 1)) rfl)) (znode_ok (zleaf_ok (zs_get (C := RX2) (Tc := TX2) (Nc := 8) rfl zinX2 (Nat.le_of_ble_eq_true rfl) zw_133 (by decide +kernel : decode cX2_unfold 65 = .ok (.getfield 54, 3)))) (zleaf_ok (Or.inr (Or.inl ⟨rfl, rfl, (by decide +kernel : decode cX2_unfold 68 = .ok (.ireturn, 1))⟩))))))))
/-- Creasebook.turn()I -/
def zc_X2_turn (pc : Nat) : Option zI := znode 7 pc (znode 1 pc (zleaf 0 pc (.inl (zLd zIsA 1 0))) (znode 4 pc (zleaf 1 pc (.inl (zS2 (zGet 2 1 4)))) (zleaf 4 pc (.inr (.inr (.inr (5, 1, 1))))))) (znode 11 pc (znode 8 pc (zleaf 7 pc (.inl (zLd zIsA 8 0))) (zleaf 8 pc (.inl (zS2 (zGet 2 1 11))))) (znode 14 pc (zleaf 11 pc (.inr (.inr (.inr (24, 1, 1))))) (zleaf 14 pc (.inr (.inl 1)))))
theorem zk_X2_turn (O : Nat → State → Heap → Prop) (E : zE) (l : Launch) : ∀ pc i, zc_X2_turn pc = some i → zOK z_cl z_T z_G z_N O E z_yy z_bb z_nl z_cc z_rt z_hh l 47 pc i := fun pc => znode_ok (znode_ok (zleaf_ok (zs_aload_n (by decide +kernel : decode cX2_turn 0 = .ok (.aload_n 0, 1)) rfl)) (znode_ok (zleaf_ok (zs_get (C := RX2) (Tc := TX2) (Nc := 8) rfl zinX2 (Nat.le_of_ble_eq_true rfl) zw_119 (by decide +kernel : decode cX2_turn 1 = .ok (.getfield 19, 3)))) (zleaf_ok (⟨zcs1 (n := 0) z_good zw_163 zw_14 zw_164 zw_165 zw_166 (by decide +kernel) (by decide +kernel : decode cX2_turn 4 = .ok (.invokevirtual 95, 3)), Nat.le_of_ble_eq_true rfl, by decide +kernel, (fun _ => ⟨TX0, 8, rfl⟩)⟩)))) (znode_ok (znode_ok (zleaf_ok (zs_aload_n (by decide +kernel : decode cX2_turn 7 = .ok (.aload_n 0, 1)) rfl)) (zleaf_ok (zs_get (C := RX2) (Tc := TX2) (Nc := 8) rfl zinX2 (Nat.le_of_ble_eq_true rfl) zw_119 (by decide +kernel : decode cX2_turn 8 = .ok (.getfield 19, 3))))) (znode_ok (zleaf_ok (⟨zcs1 (n := 0) z_good zw_167 zw_14 zw_168 zw_169 zw_170 (by decide +kernel) (by decide +kernel : decode cX2_turn 11 = .ok (.invokevirtual 98, 3)), Nat.le_of_ble_eq_true rfl, by decide +kernel, (fun _ => ⟨TX0, 8, rfl⟩)⟩)) (zleaf_ok (Or.inr (Or.inl ⟨rfl, rfl, (by decide +kernel : decode cX2_turn 14 = .ok (.ireturn, 1))⟩)))))
/-- Creasebook.round()I -/
def zc_X2_round (pc : Nat) : Option zI := znode 8 pc (znode 4 pc (znode 1 pc (zleaf 0 pc (.inl (zLd zIsA 1 0))) (zleaf 1 pc (.inl (zS2 (zGet 2 1 4))))) (znode 7 pc (zleaf 4 pc (.inr (.inr (.inr (6, 1, 1))))) (zleaf 7 pc (.inl (zLd zIsA 8 0))))) (znode 12 pc (znode 11 pc (zleaf 8 pc (.inl (zS2 (zGet 2 1 11)))) (zleaf 11 pc (.inl (zS1 (zCst (.int 0) 12))))) (znode 13 pc (zleaf 12 pc (.inl (zS1 (zCst (.int 0) 13)))) (znode 16 pc (zleaf 13 pc (.inr (.inr (.inr (14, 3, 1))))) (zleaf 16 pc (.inr (.inl 1))))))
theorem zk_X2_round (O : Nat → State → Heap → Prop) (E : zE) (l : Launch) : ∀ pc i, zc_X2_round pc = some i → zOK z_cl z_T z_G z_N O E z_yy z_bb z_nl z_cc z_rt z_hh l 48 pc i := fun pc => znode_ok (znode_ok (znode_ok (zleaf_ok (zs_aload_n (by decide +kernel : decode cX2_round 0 = .ok (.aload_n 0, 1)) rfl)) (zleaf_ok (zs_get (C := RX2) (Tc := TX2) (Nc := 8) rfl zinX2 (Nat.le_of_ble_eq_true rfl) zw_119 (by decide +kernel : decode cX2_round 1 = .ok (.getfield 19, 3))))) (znode_ok (zleaf_ok (⟨zcs1 (n := 0) z_good zw_171 zw_14 zw_172 zw_173 zw_174 (by decide +kernel) (by decide +kernel : decode cX2_round 4 = .ok (.invokevirtual 102, 3)), Nat.le_of_ble_eq_true rfl, by decide +kernel, (fun _ => ⟨TX0, 8, rfl⟩)⟩)) (zleaf_ok (zs_aload_n (by decide +kernel : decode cX2_round 7 = .ok (.aload_n 0, 1)) rfl)))) (znode_ok (znode_ok (zleaf_ok (zs_get (C := RX2) (Tc := TX2) (Nc := 8) rfl zinX2 (Nat.le_of_ble_eq_true rfl) zw_119 (by decide +kernel : decode cX2_round 8 = .ok (.getfield 19, 3)))) (zleaf_ok (zs_iconst (by decide) (by decide +kernel : decode cX2_round 11 = .ok (.iconst 0, 1))))) (znode_ok (zleaf_ok (zs_iconst (by decide) (by decide +kernel : decode cX2_round 12 = .ok (.iconst 0, 1)))) (znode_ok (zleaf_ok (⟨zcs1 (n := 2) z_good zw_175 zw_14 zw_176 zw_177 zw_178 (by decide +kernel) (by decide +kernel : decode cX2_round 13 = .ok (.invokevirtual 105, 3)), Nat.le_of_ble_eq_true rfl, by decide +kernel, (fun _ => ⟨TX0, 8, rfl⟩)⟩)) (zleaf_ok (Or.inr (Or.inl ⟨rfl, rfl, (by decide +kernel : decode cX2_round 16 = .ok (.ireturn, 1))⟩))))))
/-- Creasebook.ink(II)Z -/
def zc_X2_ink (pc : Nat) : Option zI := znode 12 pc (znode 6 pc (znode 2 pc (znode 1 pc (zleaf 0 pc (.inl (zLd zIsA 1 0))) (zleaf 1 pc (.inl (zLd zIsI 2 1)))) (znode 3 pc (zleaf 2 pc (.inl (zLd zIsI 3 2))) (zleaf 3 pc (.inr (.inr (.inr (67, 3, 0))))))) (znode 10 pc (znode 7 pc (zleaf 6 pc (.inl (zLd zIsA 7 0))) (zleaf 7 pc (.inl (zS2 (zGet 2 0 10))))) (znode 11 pc (zleaf 10 pc (.inl (zLd zIsA 11 0))) (zleaf 11 pc (.inl (zLd zIsA 12 0)))))) (znode 20 pc (znode 16 pc (znode 15 pc (zleaf 12 pc (.inl (zS2 (zGet 2 1 15)))) (zleaf 15 pc (.inl (zLd zIsI 16 1)))) (znode 17 pc (zleaf 16 pc (.inl (zLd zIsI 17 2))) (zleaf 17 pc (.inr (.inr (.inr (14, 3, 1))))))) (znode 24 pc (znode 21 pc (zleaf 20 pc (.inl (zS1 (zCst (.int 1) 21)))) (zleaf 21 pc (.inr (.inr (.inr (76, 3, 0)))))) (znode 27 pc (zleaf 24 pc (.inr (.inr (.inr (37, 2, 1))))) (zleaf 27 pc (.inr (.inl 5))))))
theorem zk_X2_ink (O : Nat → State → Heap → Prop) (E : zE) (l : Launch) : ∀ pc i, zc_X2_ink pc = some i → zOK z_cl z_T z_G z_N O E z_yy z_bb z_nl z_cc z_rt z_hh l 49 pc i := fun pc => znode_ok (znode_ok (znode_ok (znode_ok (zleaf_ok (zs_aload_n (by decide +kernel : decode cX2_ink 0 = .ok (.aload_n 0, 1)) rfl)) (zleaf_ok (zs_iload_n (by decide +kernel : decode cX2_ink 1 = .ok (.iload_n 1, 1)) rfl))) (znode_ok (zleaf_ok (zs_iload_n (by decide +kernel : decode cX2_ink 2 = .ok (.iload_n 2, 1)) rfl)) (zleaf_ok (⟨zcs0 (n := 2) z_good zw_179 zw_19 zw_180 zw_181 zw_182 (by decide +kernel) (by decide +kernel : decode cX2_ink 3 = .ok (.invokevirtual 109, 3)), Nat.le_of_ble_eq_true rfl, by decide +kernel, (fun _ => ⟨TX2, 8, rfl⟩)⟩)))) (znode_ok (znode_ok (zleaf_ok (zs_aload_n (by decide +kernel : decode cX2_ink 6 = .ok (.aload_n 0, 1)) rfl)) (zleaf_ok (zs_get (C := RX2) (Tc := TX2) (Nc := 8) rfl zinX2 (Nat.le_of_ble_eq_true rfl) zw_113 (by decide +kernel : decode cX2_ink 7 = .ok (.getfield 10, 3))))) (znode_ok (zleaf_ok (zs_aload_n (by decide +kernel : decode cX2_ink 10 = .ok (.aload_n 0, 1)) rfl)) (zleaf_ok (zs_aload_n (by decide +kernel : decode cX2_ink 11 = .ok (.aload_n 0, 1)) rfl))))) (znode_ok (znode_ok (znode_ok (zleaf_ok (zs_get (C := RX2) (Tc := TX2) (Nc := 8) rfl zinX2 (Nat.le_of_ble_eq_true rfl) zw_119 (by decide +kernel : decode cX2_ink 12 = .ok (.getfield 19, 3)))) (zleaf_ok (zs_iload_n (by decide +kernel : decode cX2_ink 15 = .ok (.iload_n 1, 1)) rfl))) (znode_ok (zleaf_ok (zs_iload_n (by decide +kernel : decode cX2_ink 16 = .ok (.iload_n 2, 1)) rfl)) (zleaf_ok (⟨zcs1 (n := 2) z_good zw_175 zw_14 zw_176 zw_177 zw_178 (by decide +kernel) (by decide +kernel : decode cX2_ink 17 = .ok (.invokevirtual 105, 3)), Nat.le_of_ble_eq_true rfl, by decide +kernel, (fun _ => ⟨TX0, 8, rfl⟩)⟩)))) (znode_ok (znode_ok (zleaf_ok (zs_iconst (by decide) (by decide +kernel : decode cX2_ink 20 = .ok (.iconst 1, 1)))) (zleaf_ok (⟨zcs0 (n := 2) z_good zw_183 zw_19 zw_184 zw_185 zw_186 (by decide +kernel) (by decide +kernel : decode cX2_ink 21 = .ok (.invokevirtual 112, 3)), Nat.le_of_ble_eq_true rfl, by decide +kernel, (fun _ => ⟨TX2, 8, rfl⟩)⟩))) (znode_ok (zleaf_ok (⟨zcs1 (n := 1) z_good zw_187 zw_89 zw_188 zw_189 zw_190 (by decide +kernel) (by decide +kernel : decode cX2_ink 24 = .ok (.invokevirtual 116, 3)), Nat.le_of_ble_eq_true rfl, by decide +kernel, (fun _ => ⟨TX1, 9, rfl⟩)⟩)) (zleaf_ok (Or.inr (Or.inr (Or.inr (Or.inr (Or.inr ⟨rfl, rfl, (by decide +kernel : decode cX2_ink 27 = .ok (.ireturn, 1))⟩)))))))))
/-- Creasebook.dry()I -/
def zc_X2_dry (pc : Nat) : Option zI := znode 4 pc (znode 1 pc (zleaf 0 pc (.inl (zLd zIsA 1 0))) (zleaf 1 pc (.inl (zS2 (zGet 2 0 4))))) (znode 7 pc (zleaf 4 pc (.inr (.inr (.inr (38, 1, 1))))) (zleaf 7 pc (.inr (.inl 1))))
theorem zk_X2_dry (O : Nat → State → Heap → Prop) (E : zE) (l : Launch) : ∀ pc i, zc_X2_dry pc = some i → zOK z_cl z_T z_G z_N O E z_yy z_bb z_nl z_cc z_rt z_hh l 50 pc i := fun pc => znode_ok (znode_ok (zleaf_ok (zs_aload_n (by decide +kernel : decode cX2_dry 0 = .ok (.aload_n 0, 1)) rfl)) (zleaf_ok (zs_get (C := RX2) (Tc := TX2) (Nc := 8) rfl zinX2 (Nat.le_of_ble_eq_true rfl) zw_113 (by decide +kernel : decode cX2_dry 1 = .ok (.getfield 10, 3))))) (znode_ok (zleaf_ok (⟨zcs1 (n := 0) z_good zw_191 zw_89 zw_192 zw_193 zw_194 (by decide +kernel) (by decide +kernel : decode cX2_dry 4 = .ok (.invokevirtual 120, 3)), Nat.le_of_ble_eq_true rfl, by decide +kernel, (fun _ => ⟨TX1, 9, rfl⟩)⟩)) (zleaf_ok (Or.inr (Or.inl ⟨rfl, rfl, (by decide +kernel : decode cX2_dry 7 = .ok (.ireturn, 1))⟩))))
/-- Creasebook.punch(II)I -/
def zc_X2_punch (pc : Nat) : Option zI := znode 29 pc (znode 10 pc (znode 6 pc (znode 2 pc (znode 1 pc (zleaf 0 pc (.inl (zLd zIsA 1 0))) (zleaf 1 pc (.inl (zLd zIsI 2 1)))) (znode 3 pc (zleaf 2 pc (.inl (zLd zIsI 3 2))) (zleaf 3 pc (.inr (.inr (.inr (67, 3, 0))))))) (znode 8 pc (znode 7 pc (zleaf 6 pc (.inl (zS1 (zCst (.int 0) 7)))) (zleaf 7 pc (.inl (zSt1 zIsI 8 3)))) (znode 9 pc (zleaf 8 pc (.inl (zLd zIsI 9 3))) (zleaf 9 pc (.inl (zLd zIsA 10 0)))))) (znode 20 pc (znode 16 pc (znode 13 pc (zleaf 10 pc (.inl (zS2 (zGet 2 0 13)))) (zleaf 13 pc (.inl (zS2 (zGet 1 2 16))))) (znode 19 pc (zleaf 16 pc (.inl (zS1 (zIcmp (fun x y => decide (y ≤ x)) 51 19)))) (zleaf 19 pc (.inl (zLd zIsA 20 0))))) (znode 24 pc (znode 23 pc (zleaf 20 pc (.inl (zS2 (zGet 2 1 23)))) (zleaf 23 pc (.inl (zLd zIsI 24 3)))) (znode 25 pc (zleaf 24 pc (.inl (zLd zIsI 25 1))) (znode 26 pc (zleaf 25 pc (.inl (zLd zIsI 26 2))) (zleaf 26 pc (.inr (.inr (.inr (12, 4, 1)))))))))) (znode 44 pc (znode 39 pc (znode 33 pc (znode 32 pc (zleaf 29 pc (.inl (zS1 (zIf (fun x => decide (x = 0)) 45 32)))) (zleaf 32 pc (.inl (zLd zIsA 33 0)))) (znode 36 pc (zleaf 33 pc (.inl (zS2 (zGet 2 0 36)))) (zleaf 36 pc (.inl (zS2 (zGet 1 7 39)))))) (znode 41 pc (znode 40 pc (zleaf 39 pc (.inl (zLd zIsI 40 3))) (zleaf 40 pc (.inl (zS1 (zDup2 41))))) (znode 42 pc (zleaf 41 pc (.inl (zS2 (zAldI 0 42)))) (znode 43 pc (zleaf 42 pc (.inl (zS1 (zCst (.int 1) 43)))) (zleaf 43 pc (.inl (zS1 (zII (fun x y => x + y) 44)))))))) (znode 52 pc (znode 48 pc (znode 45 pc (zleaf 44 pc (.inl (zAstI 0 45))) (zleaf 45 pc (.inl (zIinc 48 3 1)))) (znode 51 pc (zleaf 48 pc (.inl (zS1 (zGo 8)))) (zleaf 51 pc (.inl (zLd zIsA 52 0))))) (znode 56 pc (znode 55 pc (zleaf 52 pc (.inl (zS2 (zGet 2 1 55)))) (zleaf 55 pc (.inl (zLd zIsI 56 1)))) (znode 57 pc (zleaf 56 pc (.inl (zLd zIsI 57 2))) (znode 60 pc (zleaf 57 pc (.inr (.inr (.inr (11, 3, 1))))) (zleaf 60 pc (.inr (.inl 1))))))))
theorem zk_X2_punch (O : Nat → State → Heap → Prop) (E : zE) (l : Launch) : ∀ pc i, zc_X2_punch pc = some i → zOK z_cl z_T z_G z_N O E z_yy z_bb z_nl z_cc z_rt z_hh l 51 pc i := fun pc => znode_ok (znode_ok (znode_ok (znode_ok (znode_ok (zleaf_ok (zs_aload_n (by decide +kernel : decode cX2_punch 0 = .ok (.aload_n 0, 1)) rfl)) (zleaf_ok (zs_iload_n (by decide +kernel : decode cX2_punch 1 = .ok (.iload_n 1, 1)) rfl))) (znode_ok (zleaf_ok (zs_iload_n (by decide +kernel : decode cX2_punch 2 = .ok (.iload_n 2, 1)) rfl)) (zleaf_ok (⟨zcs0 (n := 2) z_good zw_179 zw_19 zw_180 zw_181 zw_182 (by decide +kernel) (by decide +kernel : decode cX2_punch 3 = .ok (.invokevirtual 109, 3)), Nat.le_of_ble_eq_true rfl, by decide +kernel, (fun _ => ⟨TX2, 8, rfl⟩)⟩)))) (znode_ok (znode_ok (zleaf_ok (zs_iconst (by decide) (by decide +kernel : decode cX2_punch 6 = .ok (.iconst 0, 1)))) (zleaf_ok (zs_istore_n (Nat.le_of_ble_eq_true rfl) (by decide +kernel : decode cX2_punch 7 = .ok (.istore_n 3, 1)) rfl))) (znode_ok (zleaf_ok (zs_iload_n (by decide +kernel : decode cX2_punch 8 = .ok (.iload_n 3, 1)) rfl)) (zleaf_ok (zs_aload_n (by decide +kernel : decode cX2_punch 9 = .ok (.aload_n 0, 1)) rfl))))) (znode_ok (znode_ok (znode_ok (zleaf_ok (zs_get (C := RX2) (Tc := TX2) (Nc := 8) rfl zinX2 (Nat.le_of_ble_eq_true rfl) zw_113 (by decide +kernel : decode cX2_punch 10 = .ok (.getfield 10, 3)))) (zleaf_ok (zs_getN (C := RX1) (Tc := TX1) (Nc := 9) rfl zinX1 (Nat.le_of_ble_eq_true rfl) zw_128 (by decide +kernel : decode cX2_punch 13 = .ok (.getfield 47, 3))))) (znode_ok (zleaf_ok (zs_icmp_ge (t := 51) (by decide) (by decide +kernel : decode cX2_punch 16 = .ok (.if_icmp .ge 35, 3)))) (zleaf_ok (zs_aload_n (by decide +kernel : decode cX2_punch 19 = .ok (.aload_n 0, 1)) rfl)))) (znode_ok (znode_ok (zleaf_ok (zs_get (C := RX2) (Tc := TX2) (Nc := 8) rfl zinX2 (Nat.le_of_ble_eq_true rfl) zw_119 (by decide +kernel : decode cX2_punch 20 = .ok (.getfield 19, 3)))) (zleaf_ok (zs_iload_n (by decide +kernel : decode cX2_punch 23 = .ok (.iload_n 3, 1)) rfl))) (znode_ok (zleaf_ok (zs_iload_n (by decide +kernel : decode cX2_punch 24 = .ok (.iload_n 1, 1)) rfl)) (znode_ok (zleaf_ok (zs_iload_n (by decide +kernel : decode cX2_punch 25 = .ok (.iload_n 2, 1)) rfl)) (zleaf_ok (⟨zcs1 (n := 3) z_good zw_66 zw_14 zw_195 zw_68 zw_69 (by decide +kernel) (by decide +kernel : decode cX2_punch 26 = .ok (.invokevirtual 123, 3)), Nat.le_of_ble_eq_true rfl, by decide +kernel, (fun _ => ⟨TX0, 8, rfl⟩)⟩))))))) (znode_ok (znode_ok (znode_ok (znode_ok (zleaf_ok (zs_if_eq (t := 45) (by decide) (by decide +kernel : decode cX2_punch 29 = .ok (.ifCond .eq 16, 3)))) (zleaf_ok (zs_aload_n (by decide +kernel : decode cX2_punch 32 = .ok (.aload_n 0, 1)) rfl))) (znode_ok (zleaf_ok (zs_get (C := RX2) (Tc := TX2) (Nc := 8) rfl zinX2 (Nat.le_of_ble_eq_true rfl) zw_113 (by decide +kernel : decode cX2_punch 33 = .ok (.getfield 10, 3)))) (zleaf_ok (zs_getN (C := RX1) (Tc := TX1) (Nc := 9) rfl zinX1 (Nat.le_of_ble_eq_true rfl) zw_196 (by decide +kernel : decode cX2_punch 36 = .ok (.getfield 127, 3)))))) (znode_ok (znode_ok (zleaf_ok (zs_iload_n (by decide +kernel : decode cX2_punch 39 = .ok (.iload_n 3, 1)) rfl)) (zleaf_ok (zs_dup2 (by decide +kernel : decode cX2_punch 40 = .ok (.dup2, 1))))) (znode_ok (zleaf_ok (zs_aldI rfl (by decide +kernel : decode cX2_punch 41 = .ok (.iaload, 1)))) (znode_ok (zleaf_ok (zs_iconst (by decide) (by decide +kernel : decode cX2_punch 42 = .ok (.iconst 1, 1)))) (zleaf_ok (zs_iadd (by decide +kernel : decode cX2_punch 43 = .ok (.iadd, 1)))))))) (znode_ok (znode_ok (znode_ok (zleaf_ok (zs_astI rfl (by decide +kernel : decode cX2_punch 44 = .ok (.iastore, 1)))) (zleaf_ok (zs_iinc (Nat.le_of_ble_eq_true rfl) (by decide) (by decide +kernel : decode cX2_punch 45 = .ok (.iinc 3 1, 3))))) (znode_ok (zleaf_ok (zs_goto (t := 8) (by decide) (by decide +kernel : decode cX2_punch 48 = .ok (.goto (-40), 3)))) (zleaf_ok (zs_aload_n (by decide +kernel : decode cX2_punch 51 = .ok (.aload_n 0, 1)) rfl)))) (znode_ok (znode_ok (zleaf_ok (zs_get (C := RX2) (Tc := TX2) (Nc := 8) rfl zinX2 (Nat.le_of_ble_eq_true rfl) zw_119 (by decide +kernel : decode cX2_punch 52 = .ok (.getfield 19, 3)))) (zleaf_ok (zs_iload_n (by decide +kernel : decode cX2_punch 55 = .ok (.iload_n 1, 1)) rfl))) (znode_ok (zleaf_ok (zs_iload_n (by decide +kernel : decode cX2_punch 56 = .ok (.iload_n 2, 1)) rfl)) (znode_ok (zleaf_ok (⟨zcs1 (n := 2) z_good zw_58 zw_14 zw_197 zw_60 zw_61 (by decide +kernel) (by decide +kernel : decode cX2_punch 57 = .ok (.invokevirtual 130, 3)), Nat.le_of_ble_eq_true rfl, by decide +kernel, (fun _ => ⟨TX0, 8, rfl⟩)⟩)) (zleaf_ok (Or.inr (Or.inl ⟨rfl, rfl, (by decide +kernel : decode cX2_punch 60 = .ok (.ireturn, 1))⟩))))))))
/-- Creasebook.glue(II)I -/
def zc_X2_glue (pc : Nat) : Option zI := znode 38 pc (znode 17 pc (znode 7 pc (znode 2 pc (znode 1 pc (zleaf 0 pc (.inl (zLd zIsA 1 0))) (zleaf 1 pc (.inl (zLd zIsI 2 1)))) (znode 3 pc (zleaf 2 pc (.inl (zLd zIsI 3 2))) (znode 6 pc (zleaf 3 pc (.inr (.inr (.inr (67, 3, 0))))) (zleaf 6 pc (.inl (zS1 (zCst (.int 0) 7))))))) (znode 11 pc (znode 8 pc (zleaf 7 pc (.inl (zSt1 zIsI 8 3))) (znode 9 pc (zleaf 8 pc (.inl (zS1 (zCst (.int 1) 9)))) (zleaf 9 pc (.inl (zSt1 zIsI 11 4))))) (znode 13 pc (zleaf 11 pc (.inl (zLd zIsI 13 4))) (znode 14 pc (zleaf 13 pc (.inl (zLd zIsA 14 0))) (zleaf 14 pc (.inl (zS2 (zGet 2 1 17)))))))) (znode 29 pc (znode 22 pc (znode 18 pc (zleaf 17 pc (.inl (zLd zIsI 18 1))) (znode 19 pc (zleaf 18 pc (.inl (zLd zIsI 19 2))) (zleaf 19 pc (.inr (.inr (.inr (11, 3, 1))))))) (znode 25 pc (zleaf 22 pc (.inl (zS1 (zIcmp (fun x y => decide (y ≤ x)) 87 25)))) (znode 26 pc (zleaf 25 pc (.inl (zLd zIsA 26 0))) (zleaf 26 pc (.inl (zS2 (zGet 2 1 29))))))) (znode 33 pc (znode 30 pc (zleaf 29 pc (.inl (zLd zIsI 30 1))) (znode 31 pc (zleaf 30 pc (.inl (zLd zIsI 31 2))) (zleaf 31 pc (.inl (zLd zIsI 33 4))))) (znode 34 pc (zleaf 33 pc (.inl (zS1 (zCst (.int 1) 34)))) (znode 35 pc (zleaf 34 pc (.inl (zS1 (zII (fun x y => x - y) 35)))) (zleaf 35 pc (.inr (.inr (.inr (13, 4, 1)))))))))) (znode 61 pc (znode 48 pc (znode 44 pc (znode 40 pc (zleaf 38 pc (.inl (zSt1 zIsI 40 5))) (znode 41 pc (zleaf 40 pc (.inl (zLd zIsA 41 0))) (zleaf 41 pc (.inl (zS2 (zGet 2 1 44)))))) (znode 45 pc (zleaf 44 pc (.inl (zLd zIsI 45 1))) (znode 46 pc (zleaf 45 pc (.inl (zLd zIsI 46 2))) (zleaf 46 pc (.inl (zLd zIsI 48 4)))))) (znode 54 pc (znode 51 pc (zleaf 48 pc (.inr (.inr (.inr (13, 4, 1))))) (znode 53 pc (zleaf 51 pc (.inl (zSt1 zIsI 53 6))) (zleaf 53 pc (.inl (zLd zIsA 54 0))))) (znode 57 pc (zleaf 54 pc (.inl (zS2 (zGet 2 0 57)))) (znode 59 pc (zleaf 57 pc (.inl (zLd zIsI 59 5))) (zleaf 59 pc (.inl (zLd zIsI 61 6))))))) (znode 75 pc (znode 68 pc (znode 64 pc (zleaf 61 pc (.inr (.inr (.inr (41, 3, 1))))) (znode 67 pc (zleaf 64 pc (.inl (zS1 (zIf (fun x => decide (¬ x = 0)) 81 67)))) (zleaf 67 pc (.inl (zLd zIsA 68 0))))) (znode 71 pc (zleaf 68 pc (.inl (zS2 (zGet 2 0 71)))) (znode 73 pc (zleaf 71 pc (.inl (zLd zIsI 73 5))) (zleaf 73 pc (.inl (zLd zIsI 75 6)))))) (znode 84 pc (znode 78 pc (zleaf 75 pc (.inr (.inr (.inr (42, 3, 1))))) (znode 81 pc (zleaf 78 pc (.inl (zIinc 81 3 1))) (zleaf 81 pc (.inl (zIinc 84 4 1))))) (znode 87 pc (zleaf 84 pc (.inl (zS1 (zGo 11)))) (znode 88 pc (zleaf 87 pc (.inl (zLd zIsI 88 3))) (zleaf 88 pc (.inr (.inl 1))))))))
theorem zk_X2_glue (O : Nat → State → Heap → Prop) (E : zE) (l : Launch) : ∀ pc i, zc_X2_glue pc = some i → zOK z_cl z_T z_G z_N O E z_yy z_bb z_nl z_cc z_rt z_hh l 52 pc i := fun pc => znode_ok (znode_ok (znode_ok (znode_ok (znode_ok (zleaf_ok (zs_aload_n (by decide +kernel : decode cX2_glue 0 = .ok (.aload_n 0, 1)) rfl)) (zleaf_ok (zs_iload_n (by decide +kernel : decode cX2_glue 1 = .ok (.iload_n 1, 1)) rfl))) (znode_ok (zleaf_ok (zs_iload_n (by decide +kernel : decode cX2_glue 2 = .ok (.iload_n 2, 1)) rfl)) (znode_ok (zleaf_ok (⟨zcs0 (n := 2) z_good zw_179 zw_19 zw_180 zw_181 zw_182 (by decide +kernel) (by decide +kernel : decode cX2_glue 3 = .ok (.invokevirtual 109, 3)), Nat.le_of_ble_eq_true rfl, by decide +kernel, (fun _ => ⟨TX2, 8, rfl⟩)⟩)) (zleaf_ok (zs_iconst (by decide) (by decide +kernel : decode cX2_glue 6 = .ok (.iconst 0, 1))))))) (znode_ok (znode_ok (zleaf_ok (zs_istore_n (Nat.le_of_ble_eq_true rfl) (by decide +kernel : decode cX2_glue 7 = .ok (.istore_n 3, 1)) rfl)) (znode_ok (zleaf_ok (zs_iconst (by decide) (by decide +kernel : decode cX2_glue 8 = .ok (.iconst 1, 1)))) (zleaf_ok (zs_istore (Nat.le_of_ble_eq_true rfl) (by decide +kernel : decode cX2_glue 9 = .ok (.istore 4, 2)))))) (znode_ok (zleaf_ok (zs_iload (by decide +kernel : decode cX2_glue 11 = .ok (.iload 4, 2)))) (znode_ok (zleaf_ok (zs_aload_n (by decide +kernel : decode cX2_glue 13 = .ok (.aload_n 0, 1)) rfl)) (zleaf_ok (zs_get (C := RX2) (Tc := TX2) (Nc := 8) rfl zinX2 (Nat.le_of_ble_eq_true rfl) zw_119 (by decide +kernel : decode cX2_glue 14 = .ok (.getfield 19, 3)))))))) (znode_ok (znode_ok (znode_ok (zleaf_ok (zs_iload_n (by decide +kernel : decode cX2_glue 17 = .ok (.iload_n 1, 1)) rfl)) (znode_ok (zleaf_ok (zs_iload_n (by decide +kernel : decode cX2_glue 18 = .ok (.iload_n 2, 1)) rfl)) (zleaf_ok (⟨zcs1 (n := 2) z_good zw_58 zw_14 zw_197 zw_60 zw_61 (by decide +kernel) (by decide +kernel : decode cX2_glue 19 = .ok (.invokevirtual 130, 3)), Nat.le_of_ble_eq_true rfl, by decide +kernel, (fun _ => ⟨TX0, 8, rfl⟩)⟩)))) (znode_ok (zleaf_ok (zs_icmp_ge (t := 87) (by decide) (by decide +kernel : decode cX2_glue 22 = .ok (.if_icmp .ge 65, 3)))) (znode_ok (zleaf_ok (zs_aload_n (by decide +kernel : decode cX2_glue 25 = .ok (.aload_n 0, 1)) rfl)) (zleaf_ok (zs_get (C := RX2) (Tc := TX2) (Nc := 8) rfl zinX2 (Nat.le_of_ble_eq_true rfl) zw_119 (by decide +kernel : decode cX2_glue 26 = .ok (.getfield 19, 3))))))) (znode_ok (znode_ok (zleaf_ok (zs_iload_n (by decide +kernel : decode cX2_glue 29 = .ok (.iload_n 1, 1)) rfl)) (znode_ok (zleaf_ok (zs_iload_n (by decide +kernel : decode cX2_glue 30 = .ok (.iload_n 2, 1)) rfl)) (zleaf_ok (zs_iload (by decide +kernel : decode cX2_glue 31 = .ok (.iload 4, 2)))))) (znode_ok (zleaf_ok (zs_iconst (by decide) (by decide +kernel : decode cX2_glue 33 = .ok (.iconst 1, 1)))) (znode_ok (zleaf_ok (zs_isub (by decide +kernel : decode cX2_glue 34 = .ok (.isub, 1)))) (zleaf_ok (⟨zcs1 (n := 3) z_good zw_70 zw_14 zw_198 zw_72 zw_73 (by decide +kernel) (by decide +kernel : decode cX2_glue 35 = .ok (.invokevirtual 133, 3)), Nat.le_of_ble_eq_true rfl, by decide +kernel, (fun _ => ⟨TX0, 8, rfl⟩)⟩))))))) (znode_ok (znode_ok (znode_ok (znode_ok (zleaf_ok (zs_istore (Nat.le_of_ble_eq_true rfl) (by decide +kernel : decode cX2_glue 38 = .ok (.istore 5, 2)))) (znode_ok (zleaf_ok (zs_aload_n (by decide +kernel : decode cX2_glue 40 = .ok (.aload_n 0, 1)) rfl)) (zleaf_ok (zs_get (C := RX2) (Tc := TX2) (Nc := 8) rfl zinX2 (Nat.le_of_ble_eq_true rfl) zw_119 (by decide +kernel : decode cX2_glue 41 = .ok (.getfield 19, 3)))))) (znode_ok (zleaf_ok (zs_iload_n (by decide +kernel : decode cX2_glue 44 = .ok (.iload_n 1, 1)) rfl)) (znode_ok (zleaf_ok (zs_iload_n (by decide +kernel : decode cX2_glue 45 = .ok (.iload_n 2, 1)) rfl)) (zleaf_ok (zs_iload (by decide +kernel : decode cX2_glue 46 = .ok (.iload 4, 2))))))) (znode_ok (znode_ok (zleaf_ok (⟨zcs1 (n := 3) z_good zw_70 zw_14 zw_198 zw_72 zw_73 (by decide +kernel) (by decide +kernel : decode cX2_glue 48 = .ok (.invokevirtual 133, 3)), Nat.le_of_ble_eq_true rfl, by decide +kernel, (fun _ => ⟨TX0, 8, rfl⟩)⟩)) (znode_ok (zleaf_ok (zs_istore (Nat.le_of_ble_eq_true rfl) (by decide +kernel : decode cX2_glue 51 = .ok (.istore 6, 2)))) (zleaf_ok (zs_aload_n (by decide +kernel : decode cX2_glue 53 = .ok (.aload_n 0, 1)) rfl)))) (znode_ok (zleaf_ok (zs_get (C := RX2) (Tc := TX2) (Nc := 8) rfl zinX2 (Nat.le_of_ble_eq_true rfl) zw_113 (by decide +kernel : decode cX2_glue 54 = .ok (.getfield 10, 3)))) (znode_ok (zleaf_ok (zs_iload (by decide +kernel : decode cX2_glue 57 = .ok (.iload 5, 2)))) (zleaf_ok (zs_iload (by decide +kernel : decode cX2_glue 59 = .ok (.iload 6, 2)))))))) (znode_ok (znode_ok (znode_ok (zleaf_ok (⟨zcs1 (n := 2) z_good zw_199 zw_89 zw_200 zw_201 zw_202 (by decide +kernel) (by decide +kernel : decode cX2_glue 61 = .ok (.invokevirtual 137, 3)), Nat.le_of_ble_eq_true rfl, by decide +kernel, (fun _ => ⟨TX1, 9, rfl⟩)⟩)) (znode_ok (zleaf_ok (zs_if_ne (t := 81) (by decide) (by decide +kernel : decode cX2_glue 64 = .ok (.ifCond .ne 17, 3)))) (zleaf_ok (zs_aload_n (by decide +kernel : decode cX2_glue 67 = .ok (.aload_n 0, 1)) rfl)))) (znode_ok (zleaf_ok (zs_get (C := RX2) (Tc := TX2) (Nc := 8) rfl zinX2 (Nat.le_of_ble_eq_true rfl) zw_113 (by decide +kernel : decode cX2_glue 68 = .ok (.getfield 10, 3)))) (znode_ok (zleaf_ok (zs_iload (by decide +kernel : decode cX2_glue 71 = .ok (.iload 5, 2)))) (zleaf_ok (zs_iload (by decide +kernel : decode cX2_glue 73 = .ok (.iload 6, 2))))))) (znode_ok (znode_ok (zleaf_ok (⟨zcs1 (n := 2) z_good zw_203 zw_89 zw_204 zw_205 zw_206 (by decide +kernel) (by decide +kernel : decode cX2_glue 75 = .ok (.invokevirtual 141, 3)), Nat.le_of_ble_eq_true rfl, by decide +kernel, (fun _ => ⟨TX1, 9, rfl⟩)⟩)) (znode_ok (zleaf_ok (zs_iinc (Nat.le_of_ble_eq_true rfl) (by decide) (by decide +kernel : decode cX2_glue 78 = .ok (.iinc 3 1, 3)))) (zleaf_ok (zs_iinc (Nat.le_of_ble_eq_true rfl) (by decide) (by decide +kernel : decode cX2_glue 81 = .ok (.iinc 4 1, 3)))))) (znode_ok (zleaf_ok (zs_goto (t := 11) (by decide) (by decide +kernel : decode cX2_glue 84 = .ok (.goto (-73), 3)))) (znode_ok (zleaf_ok (zs_iload_n (by decide +kernel : decode cX2_glue 87 = .ok (.iload_n 3, 1)) rfl)) (zleaf_ok (Or.inr (Or.inl ⟨rfl, rfl, (by decide +kernel : decode cX2_glue 88 = .ok (.ireturn, 1))⟩))))))))
end
section
/-- Creasebook.ofPlace(III)I -/
def zc_X2_ofPlace (pc : Nat) : Option zI := znode 88 pc (znode 61 pc (znode 12 pc (znode 3 pc (znode 1 pc (zleaf 0 pc (.inl (zLd zIsA 1 0))) (znode 2 pc (zleaf 1 pc (.inl (zLd zIsI 2 1))) (zleaf 2 pc (.inl (zLd zIsI 3 2))))) (znode 7 pc (znode 6 pc (zleaf 3 pc (.inr (.inr (.inr (67, 3, 0))))) (zleaf 6 pc (.inl (zLd zIsI 7 3)))) (znode 9 pc (zleaf 7 pc (.inl (zS1 (zCst (.int 6) 9)))) (zleaf 9 pc (.inr (.inr (.inr (69, 2, 2)))))))) (znode 53 pc (znode 13 pc (zleaf 12 pc (.inl (zLd zIsI 13 3))) (znode 52 pc (zleaf 13 pc (.inl (zS1 (zTab 0 5 [52, 62, 72, 92, 103, 124] 131)))) (zleaf 52 pc (.inl (zLd zIsA 53 0))))) (znode 57 pc (znode 56 pc (zleaf 53 pc (.inl (zS2 (zGet 2 1 56)))) (zleaf 56 pc (.inl (zLd zIsI 57 1)))) (znode 58 pc (zleaf 57 pc (.inl (zLd zIsI 58 2))) (zleaf 58 pc (.inr (.inr (.inr (11, 3, 1))))))))) (znode 72 pc (znode 66 pc (znode 62 pc (zleaf 61 pc (.inr (.inl 1))) (znode 63 pc (zleaf 62 pc (.inl (zLd zIsA 63 0))) (zleaf 63 pc (.inl (zS2 (zGet 2 1 66)))))) (znode 68 pc (znode 67 pc (zleaf 66 pc (.inl (zLd zIsI 67 1))) (zleaf 67 pc (.inl (zLd zIsI 68 2)))) (znode 71 pc (zleaf 68 pc (.inr (.inr (.inr (14, 3, 1))))) (zleaf 71 pc (.inr (.inl 1)))))) (znode 80 pc (znode 76 pc (znode 73 pc (zleaf 72 pc (.inl (zLd zIsA 73 0))) (zleaf 73 pc (.inl (zS2 (zGet 2 1 76))))) (znode 77 pc (zleaf 76 pc (.inl (zLd zIsA 77 0))) (zleaf 77 pc (.inl (zS2 (zGet 2 1 80)))))) (znode 82 pc (znode 81 pc (zleaf 80 pc (.inl (zLd zIsI 81 1))) (zleaf 81 pc (.inl (zLd zIsI 82 2)))) (znode 85 pc (zleaf 82 pc (.inr (.inr (.inr (14, 3, 1))))) (zleaf 85 pc (.inr (.inr (.inr (17, 2, 1)))))))))) (znode 113 pc (znode 99 pc (znode 93 pc (znode 91 pc (zleaf 88 pc (.inr (.inr (.inr (84, 1, 2))))) (znode 92 pc (zleaf 91 pc (.inr (.inl 1))) (zleaf 92 pc (.inl (zLd zIsA 93 0))))) (znode 97 pc (znode 96 pc (zleaf 93 pc (.inl (zS2 (zGet 2 1 96)))) (zleaf 96 pc (.inl (zLd zIsI 97 1)))) (znode 98 pc (zleaf 97 pc (.inl (zLd zIsI 98 2))) (zleaf 98 pc (.inl (zS1 (zCst (.int 0) 99))))))) (znode 107 pc (znode 103 pc (znode 102 pc (zleaf 99 pc (.inr (.inr (.inr (13, 4, 1))))) (zleaf 102 pc (.inr (.inl 1)))) (znode 104 pc (zleaf 103 pc (.inl (zLd zIsA 104 0))) (zleaf 104 pc (.inl (zS2 (zGet 2 1 107)))))) (znode 111 pc (znode 108 pc (zleaf 107 pc (.inl (zLd zIsA 108 0))) (zleaf 108 pc (.inl (zS2 (zGet 2 1 111))))) (znode 112 pc (zleaf 111 pc (.inl (zLd zIsI 112 1))) (zleaf 112 pc (.inl (zLd zIsI 113 2))))))) (znode 126 pc (znode 120 pc (znode 114 pc (zleaf 113 pc (.inl (zS1 (zCst (.int 0) 114)))) (znode 117 pc (zleaf 114 pc (.inr (.inr (.inr (13, 4, 1))))) (zleaf 117 pc (.inr (.inr (.inr (17, 2, 1))))))) (znode 124 pc (znode 123 pc (zleaf 120 pc (.inr (.inr (.inr (84, 1, 2))))) (zleaf 123 pc (.inr (.inl 1)))) (znode 125 pc (zleaf 124 pc (.inl (zLd zIsA 125 0))) (zleaf 125 pc (.inl (zLd zIsI 126 1)))))) (znode 132 pc (znode 130 pc (znode 127 pc (zleaf 126 pc (.inl (zLd zIsI 127 2))) (zleaf 127 pc (.inr (.inr (.inr (78, 3, 0)))))) (znode 131 pc (zleaf 130 pc (.inr (.inl 1))) (zleaf 131 pc (.inl (zLd zIsA 132 0))))) (znode 134 pc (znode 133 pc (zleaf 132 pc (.inl (zLd zIsI 133 1))) (zleaf 133 pc (.inl (zLd zIsI 134 2)))) (znode 137 pc (zleaf 134 pc (.inr (.inr (.inr (79, 3, 0))))) (zleaf 137 pc (.inr (.inl 1))))))))
theorem zk_X2_ofPlace (O : Nat → State → Heap → Prop) (E : zE) (l : Launch) : ∀ pc i, zc_X2_ofPlace pc = some i → zOK z_cl z_T z_G z_N O E z_yy z_bb z_nl z_cc z_rt z_hh l 53 pc i := fun pc => znode_ok (znode_ok (znode_ok (znode_ok (znode_ok (zleaf_ok (zs_aload_n (by decide +kernel : decode cX2_ofPlace 0 = .ok (.aload_n 0, 1)) rfl)) (znode_ok (zleaf_ok (zs_iload_n (by decide +kernel : decode cX2_ofPlace 1 = .ok (.iload_n 1, 1)) rfl)) (zleaf_ok (zs_iload_n (by decide +kernel : decode cX2_ofPlace 2 = .ok (.iload_n 2, 1)) rfl)))) (znode_ok (znode_ok (zleaf_ok (⟨zcs0 (n := 2) z_good zw_179 zw_19 zw_180 zw_181 zw_182 (by decide +kernel) (by decide +kernel : decode cX2_ofPlace 3 = .ok (.invokevirtual 109, 3)), Nat.le_of_ble_eq_true rfl, by decide +kernel, (fun _ => ⟨TX2, 8, rfl⟩)⟩)) (zleaf_ok (zs_iload_n (by decide +kernel : decode cX2_ofPlace 6 = .ok (.iload_n 3, 1)) rfl))) (znode_ok (zleaf_ok (zs_bipush (by decide) (by decide +kernel : decode cX2_ofPlace 7 = .ok (.bipush 6, 2)))) (zleaf_ok (⟨zcs2 (n := 2) z_good zw_207 zw_19 zw_208 zw_209 (by decide +kernel) (by decide +kernel : decode cX2_ofPlace 9 = .ok (.invokestatic 144, 3)), Nat.le_of_ble_eq_true rfl, by decide +kernel, (fun h => absurd rfl (h.1))⟩))))) (znode_ok (znode_ok (zleaf_ok (zs_iload_n (by decide +kernel : decode cX2_ofPlace 12 = .ok (.iload_n 3, 1)) rfl)) (znode_ok (zleaf_ok (zs_tab (t := 131) (by decide) (by decide) (by decide +kernel : decode cX2_ofPlace 13 = .ok (.tableswitch 118 0 5 #[39, 49, 59, 79, 90, 111], 39)))) (zleaf_ok (zs_aload_n (by decide +kernel : decode cX2_ofPlace 52 = .ok (.aload_n 0, 1)) rfl)))) (znode_ok (znode_ok (zleaf_ok (zs_get (C := RX2) (Tc := TX2) (Nc := 8) rfl zinX2 (Nat.le_of_ble_eq_true rfl) zw_119 (by decide +kernel : decode cX2_ofPlace 53 = .ok (.getfield 19, 3)))) (zleaf_ok (zs_iload_n (by decide +kernel : decode cX2_ofPlace 56 = .ok (.iload_n 1, 1)) rfl))) (znode_ok (zleaf_ok (zs_iload_n (by decide +kernel : decode cX2_ofPlace 57 = .ok (.iload_n 2, 1)) rfl)) (zleaf_ok (⟨zcs1 (n := 2) z_good zw_58 zw_14 zw_197 zw_60 zw_61 (by decide +kernel) (by decide +kernel : decode cX2_ofPlace 58 = .ok (.invokevirtual 130, 3)), Nat.le_of_ble_eq_true rfl, by decide +kernel, (fun _ => ⟨TX0, 8, rfl⟩)⟩)))))) (znode_ok (znode_ok (znode_ok (zleaf_ok (Or.inr (Or.inl ⟨rfl, rfl, (by decide +kernel : decode cX2_ofPlace 61 = .ok (.ireturn, 1))⟩))) (znode_ok (zleaf_ok (zs_aload_n (by decide +kernel : decode cX2_ofPlace 62 = .ok (.aload_n 0, 1)) rfl)) (zleaf_ok (zs_get (C := RX2) (Tc := TX2) (Nc := 8) rfl zinX2 (Nat.le_of_ble_eq_true rfl) zw_119 (by decide +kernel : decode cX2_ofPlace 63 = .ok (.getfield 19, 3)))))) (znode_ok (znode_ok (zleaf_ok (zs_iload_n (by decide +kernel : decode cX2_ofPlace 66 = .ok (.iload_n 1, 1)) rfl)) (zleaf_ok (zs_iload_n (by decide +kernel : decode cX2_ofPlace 67 = .ok (.iload_n 2, 1)) rfl))) (znode_ok (zleaf_ok (⟨zcs1 (n := 2) z_good zw_175 zw_14 zw_176 zw_177 zw_178 (by decide +kernel) (by decide +kernel : decode cX2_ofPlace 68 = .ok (.invokevirtual 105, 3)), Nat.le_of_ble_eq_true rfl, by decide +kernel, (fun _ => ⟨TX0, 8, rfl⟩)⟩)) (zleaf_ok (Or.inr (Or.inl ⟨rfl, rfl, (by decide +kernel : decode cX2_ofPlace 71 = .ok (.ireturn, 1))⟩)))))) (znode_ok (znode_ok (znode_ok (zleaf_ok (zs_aload_n (by decide +kernel : decode cX2_ofPlace 72 = .ok (.aload_n 0, 1)) rfl)) (zleaf_ok (zs_get (C := RX2) (Tc := TX2) (Nc := 8) rfl zinX2 (Nat.le_of_ble_eq_true rfl) zw_119 (by decide +kernel : decode cX2_ofPlace 73 = .ok (.getfield 19, 3))))) (znode_ok (zleaf_ok (zs_aload_n (by decide +kernel : decode cX2_ofPlace 76 = .ok (.aload_n 0, 1)) rfl)) (zleaf_ok (zs_get (C := RX2) (Tc := TX2) (Nc := 8) rfl zinX2 (Nat.le_of_ble_eq_true rfl) zw_119 (by decide +kernel : decode cX2_ofPlace 77 = .ok (.getfield 19, 3)))))) (znode_ok (znode_ok (zleaf_ok (zs_iload_n (by decide +kernel : decode cX2_ofPlace 80 = .ok (.iload_n 1, 1)) rfl)) (zleaf_ok (zs_iload_n (by decide +kernel : decode cX2_ofPlace 81 = .ok (.iload_n 2, 1)) rfl))) (znode_ok (zleaf_ok (⟨zcs1 (n := 2) z_good zw_175 zw_14 zw_176 zw_177 zw_178 (by decide +kernel) (by decide +kernel : decode cX2_ofPlace 82 = .ok (.invokevirtual 105, 3)), Nat.le_of_ble_eq_true rfl, by decide +kernel, (fun _ => ⟨TX0, 8, rfl⟩)⟩)) (zleaf_ok (⟨zcs1 (n := 1) z_good zw_210 zw_14 zw_211 zw_212 zw_213 (by decide +kernel) (by decide +kernel : decode cX2_ofPlace 85 = .ok (.invokevirtual 147, 3)), Nat.le_of_ble_eq_true rfl, by decide +kernel, (fun _ => ⟨TX0, 8, rfl⟩)⟩))))))) (znode_ok (znode_ok (znode_ok (znode_ok (zleaf_ok (⟨zcs2 (n := 1) z_good zw_100 zw_19 zw_214 zw_102 (by decide +kernel) (by decide +kernel : decode cX2_ofPlace 88 = .ok (.invokestatic 150, 3)), Nat.le_of_ble_eq_true rfl, by decide +kernel, (fun h => absurd rfl (h.1))⟩)) (znode_ok (zleaf_ok (Or.inr (Or.inl ⟨rfl, rfl, (by decide +kernel : decode cX2_ofPlace 91 = .ok (.ireturn, 1))⟩))) (zleaf_ok (zs_aload_n (by decide +kernel : decode cX2_ofPlace 92 = .ok (.aload_n 0, 1)) rfl)))) (znode_ok (znode_ok (zleaf_ok (zs_get (C := RX2) (Tc := TX2) (Nc := 8) rfl zinX2 (Nat.le_of_ble_eq_true rfl) zw_119 (by decide +kernel : decode cX2_ofPlace 93 = .ok (.getfield 19, 3)))) (zleaf_ok (zs_iload_n (by decide +kernel : decode cX2_ofPlace 96 = .ok (.iload_n 1, 1)) rfl))) (znode_ok (zleaf_ok (zs_iload_n (by decide +kernel : decode cX2_ofPlace 97 = .ok (.iload_n 2, 1)) rfl)) (zleaf_ok (zs_iconst (by decide) (by decide +kernel : decode cX2_ofPlace 98 = .ok (.iconst 0, 1))))))) (znode_ok (znode_ok (znode_ok (zleaf_ok (⟨zcs1 (n := 3) z_good zw_70 zw_14 zw_198 zw_72 zw_73 (by decide +kernel) (by decide +kernel : decode cX2_ofPlace 99 = .ok (.invokevirtual 133, 3)), Nat.le_of_ble_eq_true rfl, by decide +kernel, (fun _ => ⟨TX0, 8, rfl⟩)⟩)) (zleaf_ok (Or.inr (Or.inl ⟨rfl, rfl, (by decide +kernel : decode cX2_ofPlace 102 = .ok (.ireturn, 1))⟩)))) (znode_ok (zleaf_ok (zs_aload_n (by decide +kernel : decode cX2_ofPlace 103 = .ok (.aload_n 0, 1)) rfl)) (zleaf_ok (zs_get (C := RX2) (Tc := TX2) (Nc := 8) rfl zinX2 (Nat.le_of_ble_eq_true rfl) zw_119 (by decide +kernel : decode cX2_ofPlace 104 = .ok (.getfield 19, 3)))))) (znode_ok (znode_ok (zleaf_ok (zs_aload_n (by decide +kernel : decode cX2_ofPlace 107 = .ok (.aload_n 0, 1)) rfl)) (zleaf_ok (zs_get (C := RX2) (Tc := TX2) (Nc := 8) rfl zinX2 (Nat.le_of_ble_eq_true rfl) zw_119 (by decide +kernel : decode cX2_ofPlace 108 = .ok (.getfield 19, 3))))) (znode_ok (zleaf_ok (zs_iload_n (by decide +kernel : decode cX2_ofPlace 111 = .ok (.iload_n 1, 1)) rfl)) (zleaf_ok (zs_iload_n (by decide +kernel : decode cX2_ofPlace 112 = .ok (.iload_n 2, 1)) rfl)))))) (znode_ok (znode_ok (znode_ok (zleaf_ok (zs_iconst (by decide) (by decide +kernel : decode cX2_ofPlace 113 = .ok (.iconst 0, 1)))) (znode_ok (zleaf_ok (⟨zcs1 (n := 3) z_good zw_70 zw_14 zw_198 zw_72 zw_73 (by decide +kernel) (by decide +kernel : decode cX2_ofPlace 114 = .ok (.invokevirtual 133, 3)), Nat.le_of_ble_eq_true rfl, by decide +kernel, (fun _ => ⟨TX0, 8, rfl⟩)⟩)) (zleaf_ok (⟨zcs1 (n := 1) z_good zw_210 zw_14 zw_211 zw_212 zw_213 (by decide +kernel) (by decide +kernel : decode cX2_ofPlace 117 = .ok (.invokevirtual 147, 3)), Nat.le_of_ble_eq_true rfl, by decide +kernel, (fun _ => ⟨TX0, 8, rfl⟩)⟩)))) (znode_ok (znode_ok (zleaf_ok (⟨zcs2 (n := 1) z_good zw_100 zw_19 zw_214 zw_102 (by decide +kernel) (by decide +kernel : decode cX2_ofPlace 120 = .ok (.invokestatic 150, 3)), Nat.le_of_ble_eq_true rfl, by decide +kernel, (fun h => absurd rfl (h.1))⟩)) (zleaf_ok (Or.inr (Or.inl ⟨rfl, rfl, (by decide +kernel : decode cX2_ofPlace 123 = .ok (.ireturn, 1))⟩)))) (znode_ok (zleaf_ok (zs_aload_n (by decide +kernel : decode cX2_ofPlace 124 = .ok (.aload_n 0, 1)) rfl)) (zleaf_ok (zs_iload_n (by decide +kernel : decode cX2_ofPlace 125 = .ok (.iload_n 1, 1)) rfl))))) (znode_ok (znode_ok (znode_ok (zleaf_ok (zs_iload_n (by decide +kernel : decode cX2_ofPlace 126 = .ok (.iload_n 2, 1)) rfl)) (zleaf_ok (⟨zcs0 (n := 2) z_good zw_215 zw_19 zw_216 zw_217 zw_218 (by decide +kernel) (by decide +kernel : decode cX2_ofPlace 127 = .ok (.invokevirtual 154, 3)), Nat.le_of_ble_eq_true rfl, by decide +kernel, (fun _ => ⟨TX2, 8, rfl⟩)⟩))) (znode_ok (zleaf_ok (Or.inr (Or.inl ⟨rfl, rfl, (by decide +kernel : decode cX2_ofPlace 130 = .ok (.ireturn, 1))⟩))) (zleaf_ok (zs_aload_n (by decide +kernel : decode cX2_ofPlace 131 = .ok (.aload_n 0, 1)) rfl)))) (znode_ok (znode_ok (zleaf_ok (zs_iload_n (by decide +kernel : decode cX2_ofPlace 132 = .ok (.iload_n 1, 1)) rfl)) (zleaf_ok (zs_iload_n (by decide +kernel : decode cX2_ofPlace 133 = .ok (.iload_n 2, 1)) rfl))) (znode_ok (zleaf_ok (⟨zcs0 (n := 2) z_good zw_219 zw_19 zw_220 zw_221 zw_222 (by decide +kernel) (by decide +kernel : decode cX2_ofPlace 134 = .ok (.invokevirtual 157, 3)), Nat.le_of_ble_eq_true rfl, by decide +kernel, (fun _ => ⟨TX2, 8, rfl⟩)⟩)) (zleaf_ok (Or.inr (Or.inl ⟨rfl, rfl, (by decide +kernel : decode cX2_ofPlace 137 = .ok (.ireturn, 1))⟩))))))))
/-- Creasebook.at(III)I -/
def zc_X2_at (pc : Nat) : Option zI := znode 16 pc (znode 7 pc (znode 2 pc (znode 1 pc (zleaf 0 pc (.inl (zLd zIsA 1 0))) (zleaf 1 pc (.inl (zLd zIsI 2 1)))) (znode 3 pc (zleaf 2 pc (.inl (zLd zIsI 3 2))) (znode 6 pc (zleaf 3 pc (.inr (.inr (.inr (67, 3, 0))))) (zleaf 6 pc (.inl (zLd zIsI 7 3)))))) (znode 11 pc (znode 10 pc (zleaf 7 pc (.inl (zS1 (zIf (fun x => decide (x < 0)) 23 10)))) (zleaf 10 pc (.inl (zLd zIsI 11 3)))) (znode 12 pc (zleaf 11 pc (.inl (zLd zIsA 12 0))) (znode 15 pc (zleaf 12 pc (.inl (zS2 (zGet 2 1 15)))) (zleaf 15 pc (.inl (zLd zIsI 16 1))))))) (znode 37 pc (znode 20 pc (znode 17 pc (zleaf 16 pc (.inl (zLd zIsI 17 2))) (zleaf 17 pc (.inr (.inr (.inr (11, 3, 1)))))) (znode 33 pc (zleaf 20 pc (.inl (zS1 (zIcmp (fun x y => decide (x < y)) 33 23)))) (znode 34 pc (zleaf 33 pc (.inl (zLd zIsA 34 0))) (zleaf 34 pc (.inl (zS2 (zGet 2 1 37))))))) (znode 39 pc (znode 38 pc (zleaf 37 pc (.inl (zLd zIsI 38 1))) (zleaf 38 pc (.inl (zLd zIsI 39 2)))) (znode 40 pc (zleaf 39 pc (.inl (zLd zIsI 40 3))) (znode 43 pc (zleaf 40 pc (.inr (.inr (.inr (13, 4, 1))))) (zleaf 43 pc (.inr (.inl 1)))))))
theorem zk_X2_at (O : Nat → State → Heap → Prop) (E : zE) (l : Launch) : ∀ pc i, zc_X2_at pc = some i → zOK z_cl z_T z_G z_N O E z_yy z_bb z_nl z_cc z_rt z_hh l 54 pc i := fun pc => znode_ok (znode_ok (znode_ok (znode_ok (zleaf_ok (zs_aload_n (by decide +kernel : decode cX2_at 0 = .ok (.aload_n 0, 1)) rfl)) (zleaf_ok (zs_iload_n (by decide +kernel : decode cX2_at 1 = .ok (.iload_n 1, 1)) rfl))) (znode_ok (zleaf_ok (zs_iload_n (by decide +kernel : decode cX2_at 2 = .ok (.iload_n 2, 1)) rfl)) (znode_ok (zleaf_ok (⟨zcs0 (n := 2) z_good zw_179 zw_19 zw_180 zw_181 zw_182 (by decide +kernel) (by decide +kernel : decode cX2_at 3 = .ok (.invokevirtual 109, 3)), Nat.le_of_ble_eq_true rfl, by decide +kernel, (fun _ => ⟨TX2, 8, rfl⟩)⟩)) (zleaf_ok (zs_iload_n (by decide +kernel : decode cX2_at 6 = .ok (.iload_n 3, 1)) rfl))))) (znode_ok (znode_ok (zleaf_ok (zs_if_lt (t := 23) (by decide) (by decide +kernel : decode cX2_at 7 = .ok (.ifCond .lt 16, 3)))) (zleaf_ok (zs_iload_n (by decide +kernel : decode cX2_at 10 = .ok (.iload_n 3, 1)) rfl))) (znode_ok (zleaf_ok (zs_aload_n (by decide +kernel : decode cX2_at 11 = .ok (.aload_n 0, 1)) rfl)) (znode_ok (zleaf_ok (zs_get (C := RX2) (Tc := TX2) (Nc := 8) rfl zinX2 (Nat.le_of_ble_eq_true rfl) zw_119 (by decide +kernel : decode cX2_at 12 = .ok (.getfield 19, 3)))) (zleaf_ok (zs_iload_n (by decide +kernel : decode cX2_at 15 = .ok (.iload_n 1, 1)) rfl)))))) (znode_ok (znode_ok (znode_ok (zleaf_ok (zs_iload_n (by decide +kernel : decode cX2_at 16 = .ok (.iload_n 2, 1)) rfl)) (zleaf_ok (⟨zcs1 (n := 2) z_good zw_58 zw_14 zw_197 zw_60 zw_61 (by decide +kernel) (by decide +kernel : decode cX2_at 17 = .ok (.invokevirtual 130, 3)), Nat.le_of_ble_eq_true rfl, by decide +kernel, (fun _ => ⟨TX0, 8, rfl⟩)⟩))) (znode_ok (zleaf_ok (zs_icmp_lt (t := 33) (by decide) (by decide +kernel : decode cX2_at 20 = .ok (.if_icmp .lt 13, 3)))) (znode_ok (zleaf_ok (zs_aload_n (by decide +kernel : decode cX2_at 33 = .ok (.aload_n 0, 1)) rfl)) (zleaf_ok (zs_get (C := RX2) (Tc := TX2) (Nc := 8) rfl zinX2 (Nat.le_of_ble_eq_true rfl) zw_119 (by decide +kernel : decode cX2_at 34 = .ok (.getfield 19, 3))))))) (znode_ok (znode_ok (zleaf_ok (zs_iload_n (by decide +kernel : decode cX2_at 37 = .ok (.iload_n 1, 1)) rfl)) (zleaf_ok (zs_iload_n (by decide +kernel : decode cX2_at 38 = .ok (.iload_n 2, 1)) rfl))) (znode_ok (zleaf_ok (zs_iload_n (by decide +kernel : decode cX2_at 39 = .ok (.iload_n 3, 1)) rfl)) (znode_ok (zleaf_ok (⟨zcs1 (n := 3) z_good zw_70 zw_14 zw_198 zw_72 zw_73 (by decide +kernel) (by decide +kernel : decode cX2_at 40 = .ok (.invokevirtual 133, 3)), Nat.le_of_ble_eq_true rfl, by decide +kernel, (fun _ => ⟨TX0, 8, rfl⟩)⟩)) (zleaf_ok (Or.inr (Or.inl ⟨rfl, rfl, (by decide +kernel : decode cX2_at 43 = .ok (.ireturn, 1))⟩)))))))
/-- Creasebook.ofCell(II)I -/
def zc_X2_ofCell (pc : Nat) : Option zI := znode 91 pc (znode 66 pc (znode 12 pc (znode 5 pc (znode 1 pc (zleaf 0 pc (.inl (zLd zIsA 1 0))) (znode 2 pc (zleaf 1 pc (.inl (zLd zIsI 2 1))) (zleaf 2 pc (.inr (.inr (.inr (68, 2, 0))))))) (znode 8 pc (znode 6 pc (zleaf 5 pc (.inl (zLd zIsI 6 2))) (zleaf 6 pc (.inl (zS1 (zCst (.int 7) 8))))) (znode 11 pc (zleaf 8 pc (.inr (.inr (.inr (69, 2, 2))))) (zleaf 11 pc (.inl (zLd zIsI 12 2)))))) (znode 60 pc (znode 56 pc (zleaf 12 pc (.inl (zS1 (zTab 0 6 [56, 66, 76, 86, 98, 108, 122] 136)))) (znode 57 pc (zleaf 56 pc (.inl (zLd zIsA 57 0))) (zleaf 57 pc (.inl (zS2 (zGet 2 1 60)))))) (znode 64 pc (znode 63 pc (zleaf 60 pc (.inl (zS2 (zGet 0 3 63)))) (zleaf 63 pc (.inl (zLd zIsI 64 1)))) (znode 65 pc (zleaf 64 pc (.inl (zS2 (zAldI 0 65)))) (zleaf 65 pc (.inr (.inl 1))))))) (znode 77 pc (znode 73 pc (znode 67 pc (zleaf 66 pc (.inl (zLd zIsA 67 0))) (znode 70 pc (zleaf 67 pc (.inl (zS2 (zGet 2 1 70)))) (zleaf 70 pc (.inl (zS2 (zGet 0 4 73)))))) (znode 75 pc (znode 74 pc (zleaf 73 pc (.inl (zLd zIsI 74 1))) (zleaf 74 pc (.inl (zS2 (zAldI 0 75))))) (znode 76 pc (zleaf 75 pc (.inr (.inl 1))) (zleaf 76 pc (.inl (zLd zIsA 77 0)))))) (znode 85 pc (znode 83 pc (znode 80 pc (zleaf 77 pc (.inl (zS2 (zGet 2 1 80)))) (zleaf 80 pc (.inl (zS2 (zGet 0 5 83))))) (znode 84 pc (zleaf 83 pc (.inl (zLd zIsI 84 1))) (zleaf 84 pc (.inl (zS2 (zAldI 0 85)))))) (znode 87 pc (znode 86 pc (zleaf 85 pc (.inr (.inl 1))) (zleaf 86 pc (.inl (zLd zIsA 87 0)))) (znode 90 pc (zleaf 87 pc (.inl (zS2 (zGet 2 1 90)))) (zleaf 90 pc (.inl (zLd zIsI 91 1)))))))) (znode 120 pc (znode 106 pc (znode 98 pc (znode 94 pc (zleaf 91 pc (.inr (.inr (.inr (17, 2, 1))))) (znode 97 pc (zleaf 94 pc (.inr (.inr (.inr (84, 1, 2))))) (zleaf 97 pc (.inr (.inl 1))))) (znode 102 pc (znode 99 pc (zleaf 98 pc (.inl (zLd zIsA 99 0))) (zleaf 99 pc (.inl (zS2 (zGet 2 0 102))))) (znode 105 pc (zleaf 102 pc (.inl (zS2 (zGet 1 7 105)))) (zleaf 105 pc (.inl (zLd zIsI 106 1)))))) (znode 112 pc (znode 108 pc (znode 107 pc (zleaf 106 pc (.inl (zS2 (zAldI 0 107)))) (zleaf 107 pc (.inr (.inl 1)))) (znode 109 pc (zleaf 108 pc (.inl (zLd zIsA 109 0))) (zleaf 109 pc (.inl (zS2 (zGet 2 0 112)))))) (znode 116 pc (znode 115 pc (zleaf 112 pc (.inl (zS2 (zGet 1 6 115)))) (zleaf 115 pc (.inl (zLd zIsI 116 1)))) (znode 117 pc (zleaf 116 pc (.inl (zS1 (zCst (.int 1) 117)))) (zleaf 117 pc (.inr (.inr (.inr (91, 2, 2))))))))) (znode 131 pc (znode 123 pc (znode 121 pc (zleaf 120 pc (.inl (zS2 (zAldI 0 121)))) (znode 122 pc (zleaf 121 pc (.inr (.inl 1))) (zleaf 122 pc (.inl (zLd zIsA 123 0))))) (znode 129 pc (znode 126 pc (zleaf 123 pc (.inl (zS2 (zGet 2 0 126)))) (zleaf 126 pc (.inl (zS2 (zGet 1 6 129))))) (znode 130 pc (zleaf 129 pc (.inl (zLd zIsI 130 1))) (zleaf 130 pc (.inl (zS1 (zCst (.int 0) 131))))))) (znode 137 pc (znode 135 pc (znode 134 pc (zleaf 131 pc (.inr (.inr (.inr (91, 2, 2))))) (zleaf 134 pc (.inl (zS2 (zAldI 0 135))))) (znode 136 pc (zleaf 135 pc (.inr (.inl 1))) (zleaf 136 pc (.inl (zLd zIsA 137 0))))) (znode 141 pc (znode 140 pc (zleaf 137 pc (.inl (zS2 (zGet 2 0 140)))) (zleaf 140 pc (.inl (zLd zIsI 141 1)))) (znode 144 pc (zleaf 141 pc (.inr (.inr (.inr (32, 2, 1))))) (zleaf 144 pc (.inr (.inl 1))))))))
theorem zk_X2_ofCell (O : Nat → State → Heap → Prop) (E : zE) (l : Launch) : ∀ pc i, zc_X2_ofCell pc = some i → zOK z_cl z_T z_G z_N O E z_yy z_bb z_nl z_cc z_rt z_hh l 55 pc i := fun pc => znode_ok (znode_ok (znode_ok (znode_ok (znode_ok (zleaf_ok (zs_aload_n (by decide +kernel : decode cX2_ofCell 0 = .ok (.aload_n 0, 1)) rfl)) (znode_ok (zleaf_ok (zs_iload_n (by decide +kernel : decode cX2_ofCell 1 = .ok (.iload_n 1, 1)) rfl)) (zleaf_ok (⟨zcs0 (n := 1) z_good zw_223 zw_19 zw_224 zw_225 zw_226 (by decide +kernel) (by decide +kernel : decode cX2_ofCell 2 = .ok (.invokevirtual 165, 3)), Nat.le_of_ble_eq_true rfl, by decide +kernel, (fun _ => ⟨TX2, 8, rfl⟩)⟩)))) (znode_ok (znode_ok (zleaf_ok (zs_iload_n (by decide +kernel : decode cX2_ofCell 5 = .ok (.iload_n 2, 1)) rfl)) (zleaf_ok (zs_bipush (by decide) (by decide +kernel : decode cX2_ofCell 6 = .ok (.bipush 7, 2))))) (znode_ok (zleaf_ok (⟨zcs2 (n := 2) z_good zw_207 zw_19 zw_208 zw_209 (by decide +kernel) (by decide +kernel : decode cX2_ofCell 8 = .ok (.invokestatic 144, 3)), Nat.le_of_ble_eq_true rfl, by decide +kernel, (fun h => absurd rfl (h.1))⟩)) (zleaf_ok (zs_iload_n (by decide +kernel : decode cX2_ofCell 11 = .ok (.iload_n 2, 1)) rfl))))) (znode_ok (znode_ok (zleaf_ok (zs_tab (t := 136) (by decide) (by decide) (by decide +kernel : decode cX2_ofCell 12 = .ok (.tableswitch 124 0 6 #[44, 54, 64, 74, 86, 96, 110], 44)))) (znode_ok (zleaf_ok (zs_aload_n (by decide +kernel : decode cX2_ofCell 56 = .ok (.aload_n 0, 1)) rfl)) (zleaf_ok (zs_get (C := RX2) (Tc := TX2) (Nc := 8) rfl zinX2 (Nat.le_of_ble_eq_true rfl) zw_119 (by decide +kernel : decode cX2_ofCell 57 = .ok (.getfield 19, 3)))))) (znode_ok (znode_ok (zleaf_ok (zs_getN (C := RX0) (Tc := TX0) (Nc := 8) rfl zinX0 (Nat.le_of_ble_eq_true rfl) zw_227 (by decide +kernel : decode cX2_ofCell 60 = .ok (.getfield 168, 3)))) (zleaf_ok (zs_iload_n (by decide +kernel : decode cX2_ofCell 63 = .ok (.iload_n 1, 1)) rfl))) (znode_ok (zleaf_ok (zs_aldI rfl (by decide +kernel : decode cX2_ofCell 64 = .ok (.iaload, 1)))) (zleaf_ok (Or.inr (Or.inl ⟨rfl, rfl, (by decide +kernel : decode cX2_ofCell 65 = .ok (.ireturn, 1))⟩))))))) (znode_ok (znode_ok (znode_ok (zleaf_ok (zs_aload_n (by decide +kernel : decode cX2_ofCell 66 = .ok (.aload_n 0, 1)) rfl)) (znode_ok (zleaf_ok (zs_get (C := RX2) (Tc := TX2) (Nc := 8) rfl zinX2 (Nat.le_of_ble_eq_true rfl) zw_119 (by decide +kernel : decode cX2_ofCell 67 = .ok (.getfield 19, 3)))) (zleaf_ok (zs_getN (C := RX0) (Tc := TX0) (Nc := 8) rfl zinX0 (Nat.le_of_ble_eq_true rfl) zw_228 (by decide +kernel : decode cX2_ofCell 70 = .ok (.getfield 171, 3)))))) (znode_ok (znode_ok (zleaf_ok (zs_iload_n (by decide +kernel : decode cX2_ofCell 73 = .ok (.iload_n 1, 1)) rfl)) (zleaf_ok (zs_aldI rfl (by decide +kernel : decode cX2_ofCell 74 = .ok (.iaload, 1))))) (znode_ok (zleaf_ok (Or.inr (Or.inl ⟨rfl, rfl, (by decide +kernel : decode cX2_ofCell 75 = .ok (.ireturn, 1))⟩))) (zleaf_ok (zs_aload_n (by decide +kernel : decode cX2_ofCell 76 = .ok (.aload_n 0, 1)) rfl))))) (znode_ok (znode_ok (znode_ok (zleaf_ok (zs_get (C := RX2) (Tc := TX2) (Nc := 8) rfl zinX2 (Nat.le_of_ble_eq_true rfl) zw_119 (by decide +kernel : decode cX2_ofCell 77 = .ok (.getfield 19, 3)))) (zleaf_ok (zs_getN (C := RX0) (Tc := TX0) (Nc := 8) rfl zinX0 (Nat.le_of_ble_eq_true rfl) zw_229 (by decide +kernel : decode cX2_ofCell 80 = .ok (.getfield 174, 3))))) (znode_ok (zleaf_ok (zs_iload_n (by decide +kernel : decode cX2_ofCell 83 = .ok (.iload_n 1, 1)) rfl)) (zleaf_ok (zs_aldI rfl (by decide +kernel : decode cX2_ofCell 84 = .ok (.iaload, 1)))))) (znode_ok (znode_ok (zleaf_ok (Or.inr (Or.inl ⟨rfl, rfl, (by decide +kernel : decode cX2_ofCell 85 = .ok (.ireturn, 1))⟩))) (zleaf_ok (zs_aload_n (by decide +kernel : decode cX2_ofCell 86 = .ok (.aload_n 0, 1)) rfl))) (znode_ok (zleaf_ok (zs_get (C := RX2) (Tc := TX2) (Nc := 8) rfl zinX2 (Nat.le_of_ble_eq_true rfl) zw_119 (by decide +kernel : decode cX2_ofCell 87 = .ok (.getfield 19, 3)))) (zleaf_ok (zs_iload_n (by decide +kernel : decode cX2_ofCell 90 = .ok (.iload_n 1, 1)) rfl))))))) (znode_ok (znode_ok (znode_ok (znode_ok (zleaf_ok (⟨zcs1 (n := 1) z_good zw_210 zw_14 zw_211 zw_212 zw_213 (by decide +kernel) (by decide +kernel : decode cX2_ofCell 91 = .ok (.invokevirtual 147, 3)), Nat.le_of_ble_eq_true rfl, by decide +kernel, (fun _ => ⟨TX0, 8, rfl⟩)⟩)) (znode_ok (zleaf_ok (⟨zcs2 (n := 1) z_good zw_100 zw_19 zw_214 zw_102 (by decide +kernel) (by decide +kernel : decode cX2_ofCell 94 = .ok (.invokestatic 150, 3)), Nat.le_of_ble_eq_true rfl, by decide +kernel, (fun h => absurd rfl (h.1))⟩)) (zleaf_ok (Or.inr (Or.inl ⟨rfl, rfl, (by decide +kernel : decode cX2_ofCell 97 = .ok (.ireturn, 1))⟩))))) (znode_ok (znode_ok (zleaf_ok (zs_aload_n (by decide +kernel : decode cX2_ofCell 98 = .ok (.aload_n 0, 1)) rfl)) (zleaf_ok (zs_get (C := RX2) (Tc := TX2) (Nc := 8) rfl zinX2 (Nat.le_of_ble_eq_true rfl) zw_113 (by decide +kernel : decode cX2_ofCell 99 = .ok (.getfield 10, 3))))) (znode_ok (zleaf_ok (zs_getN (C := RX1) (Tc := TX1) (Nc := 9) rfl zinX1 (Nat.le_of_ble_eq_true rfl) zw_196 (by decide +kernel : decode cX2_ofCell 102 = .ok (.getfield 127, 3)))) (zleaf_ok (zs_iload_n (by decide +kernel : decode cX2_ofCell 105 = .ok (.iload_n 1, 1)) rfl))))) (znode_ok (znode_ok (znode_ok (zleaf_ok (zs_aldI rfl (by decide +kernel : decode cX2_ofCell 106 = .ok (.iaload, 1)))) (zleaf_ok (Or.inr (Or.inl ⟨rfl, rfl, (by decide +kernel : decode cX2_ofCell 107 = .ok (.ireturn, 1))⟩)))) (znode_ok (zleaf_ok (zs_aload_n (by decide +kernel : decode cX2_ofCell 108 = .ok (.aload_n 0, 1)) rfl)) (zleaf_ok (zs_get (C := RX2) (Tc := TX2) (Nc := 8) rfl zinX2 (Nat.le_of_ble_eq_true rfl) zw_113 (by decide +kernel : decode cX2_ofCell 109 = .ok (.getfield 10, 3)))))) (znode_ok (znode_ok (zleaf_ok (zs_getN (C := RX1) (Tc := TX1) (Nc := 9) rfl zinX1 (Nat.le_of_ble_eq_true rfl) zw_230 (by decide +kernel : decode cX2_ofCell 112 = .ok (.getfield 177, 3)))) (zleaf_ok (zs_iload_n (by decide +kernel : decode cX2_ofCell 115 = .ok (.iload_n 1, 1)) rfl))) (znode_ok (zleaf_ok (zs_iconst (by decide) (by decide +kernel : decode cX2_ofCell 116 = .ok (.iconst 1, 1)))) (zleaf_ok (⟨zcs2 (n := 2) z_good zw_231 zw_19 zw_232 zw_233 (by decide +kernel) (by decide +kernel : decode cX2_ofCell 117 = .ok (.invokestatic 180, 3)), Nat.le_of_ble_eq_true rfl, by decide +kernel, (fun h => absurd rfl (h.1))⟩)))))) (znode_ok (znode_ok (znode_ok (zleaf_ok (zs_aldI rfl (by decide +kernel : decode cX2_ofCell 120 = .ok (.iaload, 1)))) (znode_ok (zleaf_ok (Or.inr (Or.inl ⟨rfl, rfl, (by decide +kernel : decode cX2_ofCell 121 = .ok (.ireturn, 1))⟩))) (zleaf_ok (zs_aload_n (by decide +kernel : decode cX2_ofCell 122 = .ok (.aload_n 0, 1)) rfl)))) (znode_ok (znode_ok (zleaf_ok (zs_get (C := RX2) (Tc := TX2) (Nc := 8) rfl zinX2 (Nat.le_of_ble_eq_true rfl) zw_113 (by decide +kernel : decode cX2_ofCell 123 = .ok (.getfield 10, 3)))) (zleaf_ok (zs_getN (C := RX1) (Tc := TX1) (Nc := 9) rfl zinX1 (Nat.le_of_ble_eq_true rfl) zw_230 (by decide +kernel : decode cX2_ofCell 126 = .ok (.getfield 177, 3))))) (znode_ok (zleaf_ok (zs_iload_n (by decide +kernel : decode cX2_ofCell 129 = .ok (.iload_n 1, 1)) rfl)) (zleaf_ok (zs_iconst (by decide) (by decide +kernel : decode cX2_ofCell 130 = .ok (.iconst 0, 1))))))) (znode_ok (znode_ok (znode_ok (zleaf_ok (⟨zcs2 (n := 2) z_good zw_231 zw_19 zw_232 zw_233 (by decide +kernel) (by decide +kernel : decode cX2_ofCell 131 = .ok (.invokestatic 180, 3)), Nat.le_of_ble_eq_true rfl, by decide +kernel, (fun h => absurd rfl (h.1))⟩)) (zleaf_ok (zs_aldI rfl (by decide +kernel : decode cX2_ofCell 134 = .ok (.iaload, 1))))) (znode_ok (zleaf_ok (Or.inr (Or.inl ⟨rfl, rfl, (by decide +kernel : decode cX2_ofCell 135 = .ok (.ireturn, 1))⟩))) (zleaf_ok (zs_aload_n (by decide +kernel : decode cX2_ofCell 136 = .ok (.aload_n 0, 1)) rfl)))) (znode_ok (znode_ok (zleaf_ok (zs_get (C := RX2) (Tc := TX2) (Nc := 8) rfl zinX2 (Nat.le_of_ble_eq_true rfl) zw_113 (by decide +kernel : decode cX2_ofCell 137 = .ok (.getfield 10, 3)))) (zleaf_ok (zs_iload_n (by decide +kernel : decode cX2_ofCell 140 = .ok (.iload_n 1, 1)) rfl))) (znode_ok (zleaf_ok (⟨zcs1 (n := 1) z_good zw_234 zw_89 zw_235 zw_236 zw_237 (by decide +kernel) (by decide +kernel : decode cX2_ofCell 141 = .ok (.invokevirtual 183, 3)), Nat.le_of_ble_eq_true rfl, by decide +kernel, (fun _ => ⟨TX1, 9, rfl⟩)⟩)) (zleaf_ok (Or.inr (Or.inl ⟨rfl, rfl, (by decide +kernel : decode cX2_ofCell 144 = .ok (.ireturn, 1))⟩))))))))
/-- Creasebook.ofPair(IZI)I -/
def zc_X2_ofPair (pc : Nat) : Option zI := znode 26 pc (znode 14 pc (znode 6 pc (znode 2 pc (znode 1 pc (zleaf 0 pc (.inl (zLd zIsA 1 0))) (zleaf 1 pc (.inl (zLd zIsI 2 1)))) (znode 5 pc (zleaf 2 pc (.inr (.inr (.inr (68, 2, 0))))) (zleaf 5 pc (.inl (zLd zIsI 6 3))))) (znode 10 pc (znode 7 pc (zleaf 6 pc (.inl (zS1 (zCst (.int 1) 7)))) (zleaf 7 pc (.inr (.inr (.inr (69, 2, 2)))))) (znode 11 pc (zleaf 10 pc (.inl (zLd zIsA 11 0))) (zleaf 11 pc (.inl (zS2 (zGet 2 0 14))))))) (znode 20 pc (znode 16 pc (znode 15 pc (zleaf 14 pc (.inl (zLd zIsI 15 1))) (zleaf 15 pc (.inl (zLd zIsI 16 2)))) (znode 19 pc (zleaf 16 pc (.inr (.inr (.inr (29, 3, 1))))) (zleaf 19 pc (.inl (zS1 (zCst (.int (-1)) 20)))))) (znode 24 pc (znode 23 pc (zleaf 20 pc (.inl (zS1 (zIcmp (fun x y => decide (¬ x = y)) 25 23)))) (zleaf 23 pc (.inl (zS1 (zCst (.int (-1)) 24))))) (znode 25 pc (zleaf 24 pc (.inr (.inl 1))) (zleaf 25 pc (.inl (zLd zIsI 26 1))))))) (znode 43 pc (znode 33 pc (znode 30 pc (znode 27 pc (zleaf 26 pc (.inl (zLd zIsI 27 2))) (zleaf 27 pc (.inr (.inr (.inr (90, 2, 2)))))) (znode 32 pc (zleaf 30 pc (.inl (zSt1 zIsI 32 4))) (zleaf 32 pc (.inl (zLd zIsI 33 3))))) (znode 37 pc (znode 36 pc (zleaf 33 pc (.inl (zS1 (zIf (fun x => decide (¬ x = 0)) 49 36)))) (zleaf 36 pc (.inl (zLd zIsA 37 0)))) (znode 40 pc (zleaf 37 pc (.inl (zS2 (zGet 2 0 40)))) (zleaf 40 pc (.inl (zS2 (zGet 1 3 43))))))) (znode 50 pc (znode 46 pc (znode 45 pc (zleaf 43 pc (.inl (zLd zIsI 45 4))) (zleaf 45 pc (.inl (zS2 (zAldI 0 46))))) (znode 49 pc (zleaf 46 pc (.inl (zS1 (zGo 59)))) (zleaf 49 pc (.inl (zLd zIsA 50 0))))) (znode 56 pc (znode 53 pc (zleaf 50 pc (.inl (zS2 (zGet 2 0 53)))) (zleaf 53 pc (.inl (zS2 (zGet 1 5 56))))) (znode 58 pc (zleaf 56 pc (.inl (zLd zIsI 58 4))) (znode 59 pc (zleaf 58 pc (.inl (zS2 (zAldI 0 59)))) (zleaf 59 pc (.inr (.inl 1))))))))
theorem zk_X2_ofPair (O : Nat → State → Heap → Prop) (E : zE) (l : Launch) : ∀ pc i, zc_X2_ofPair pc = some i → zOK z_cl z_T z_G z_N O E z_yy z_bb z_nl z_cc z_rt z_hh l 56 pc i := fun pc => znode_ok (znode_ok (znode_ok (znode_ok (znode_ok (zleaf_ok (zs_aload_n (by decide +kernel : decode cX2_ofPair 0 = .ok (.aload_n 0, 1)) rfl)) (zleaf_ok (zs_iload_n (by decide +kernel : decode cX2_ofPair 1 = .ok (.iload_n 1, 1)) rfl))) (znode_ok (zleaf_ok (⟨zcs0 (n := 1) z_good zw_223 zw_19 zw_224 zw_225 zw_226 (by decide +kernel) (by decide +kernel : decode cX2_ofPair 2 = .ok (.invokevirtual 165, 3)), Nat.le_of_ble_eq_true rfl, by decide +kernel, (fun _ => ⟨TX2, 8, rfl⟩)⟩)) (zleaf_ok (zs_iload_n (by decide +kernel : decode cX2_ofPair 5 = .ok (.iload_n 3, 1)) rfl)))) (znode_ok (znode_ok (zleaf_ok (zs_iconst (by decide) (by decide +kernel : decode cX2_ofPair 6 = .ok (.iconst 1, 1)))) (zleaf_ok (⟨zcs2 (n := 2) z_good zw_207 zw_19 zw_208 zw_209 (by decide +kernel) (by decide +kernel : decode cX2_ofPair 7 = .ok (.invokestatic 144, 3)), Nat.le_of_ble_eq_true rfl, by decide +kernel, (fun h => absurd rfl (h.1))⟩))) (znode_ok (zleaf_ok (zs_aload_n (by decide +kernel : decode cX2_ofPair 10 = .ok (.aload_n 0, 1)) rfl)) (zleaf_ok (zs_get (C := RX2) (Tc := TX2) (Nc := 8) rfl zinX2 (Nat.le_of_ble_eq_true rfl) zw_113 (by decide +kernel : decode cX2_ofPair 11 = .ok (.getfield 10, 3))))))) (znode_ok (znode_ok (znode_ok (zleaf_ok (zs_iload_n (by decide +kernel : decode cX2_ofPair 14 = .ok (.iload_n 1, 1)) rfl)) (zleaf_ok (zs_iload_n (by decide +kernel : decode cX2_ofPair 15 = .ok (.iload_n 2, 1)) rfl))) (znode_ok (zleaf_ok (⟨zcs1 (n := 2) z_good zw_96 zw_89 zw_238 zw_98 zw_99 (by decide +kernel) (by decide +kernel : decode cX2_ofPair 16 = .ok (.invokevirtual 186, 3)), Nat.le_of_ble_eq_true rfl, by decide +kernel, (fun _ => ⟨TX1, 9, rfl⟩)⟩)) (zleaf_ok (zs_iconst (by decide) (by decide +kernel : decode cX2_ofPair 19 = .ok (.iconst (-1), 1)))))) (znode_ok (znode_ok (zleaf_ok (zs_icmp_ne (t := 25) (by decide) (by decide +kernel : decode cX2_ofPair 20 = .ok (.if_icmp .ne 5, 3)))) (zleaf_ok (zs_iconst (by decide) (by decide +kernel : decode cX2_ofPair 23 = .ok (.iconst (-1), 1))))) (znode_ok (zleaf_ok (Or.inr (Or.inl ⟨rfl, rfl, (by decide +kernel : decode cX2_ofPair 24 = .ok (.ireturn, 1))⟩))) (zleaf_ok (zs_iload_n (by decide +kernel : decode cX2_ofPair 25 = .ok (.iload_n 1, 1)) rfl)))))) (znode_ok (znode_ok (znode_ok (znode_ok (zleaf_ok (zs_iload_n (by decide +kernel : decode cX2_ofPair 26 = .ok (.iload_n 2, 1)) rfl)) (zleaf_ok (⟨zcs2 (n := 2) z_good zw_93 zw_19 zw_239 zw_95 (by decide +kernel) (by decide +kernel : decode cX2_ofPair 27 = .ok (.invokestatic 189, 3)), Nat.le_of_ble_eq_true rfl, by decide +kernel, (fun h => absurd rfl (h.1))⟩))) (znode_ok (zleaf_ok (zs_istore (Nat.le_of_ble_eq_true rfl) (by decide +kernel : decode cX2_ofPair 30 = .ok (.istore 4, 2)))) (zleaf_ok (zs_iload_n (by decide +kernel : decode cX2_ofPair 32 = .ok (.iload_n 3, 1)) rfl)))) (znode_ok (znode_ok (zleaf_ok (zs_if_ne (t := 49) (by decide) (by decide +kernel : decode cX2_ofPair 33 = .ok (.ifCond .ne 16, 3)))) (zleaf_ok (zs_aload_n (by decide +kernel : decode cX2_ofPair 36 = .ok (.aload_n 0, 1)) rfl))) (znode_ok (zleaf_ok (zs_get (C := RX2) (Tc := TX2) (Nc := 8) rfl zinX2 (Nat.le_of_ble_eq_true rfl) zw_113 (by decide +kernel : decode cX2_ofPair 37 = .ok (.getfield 10, 3)))) (zleaf_ok (zs_getN (C := RX1) (Tc := TX1) (Nc := 9) rfl zinX1 (Nat.le_of_ble_eq_true rfl) zw_240 (by decide +kernel : decode cX2_ofPair 40 = .ok (.getfield 192, 3))))))) (znode_ok (znode_ok (znode_ok (zleaf_ok (zs_iload (by decide +kernel : decode cX2_ofPair 43 = .ok (.iload 4, 2)))) (zleaf_ok (zs_aldI rfl (by decide +kernel : decode cX2_ofPair 45 = .ok (.iaload, 1))))) (znode_ok (zleaf_ok (zs_goto (t := 59) (by decide) (by decide +kernel : decode cX2_ofPair 46 = .ok (.goto 13, 3)))) (zleaf_ok (zs_aload_n (by decide +kernel : decode cX2_ofPair 49 = .ok (.aload_n 0, 1)) rfl)))) (znode_ok (znode_ok (zleaf_ok (zs_get (C := RX2) (Tc := TX2) (Nc := 8) rfl zinX2 (Nat.le_of_ble_eq_true rfl) zw_113 (by decide +kernel : decode cX2_ofPair 50 = .ok (.getfield 10, 3)))) (zleaf_ok (zs_getN (C := RX1) (Tc := TX1) (Nc := 9) rfl zinX1 (Nat.le_of_ble_eq_true rfl) zw_241 (by decide +kernel : decode cX2_ofPair 53 = .ok (.getfield 195, 3))))) (znode_ok (zleaf_ok (zs_iload (by decide +kernel : decode cX2_ofPair 56 = .ok (.iload 4, 2)))) (znode_ok (zleaf_ok (zs_aldI rfl (by decide +kernel : decode cX2_ofPair 58 = .ok (.iaload, 1)))) (zleaf_ok (Or.inr (Or.inl ⟨rfl, rfl, (by decide +kernel : decode cX2_ofPair 59 = .ok (.ireturn, 1))⟩))))))))
/-- Creasebook.ofCorner(III)I -/
def zc_X2_ofCorner (pc : Nat) : Option zI := znode 70 pc (znode 43 pc (znode 16 pc (znode 6 pc (znode 2 pc (znode 1 pc (zleaf 0 pc (.inl (zLd zIsI 1 1))) (zleaf 1 pc (.inl (zS1 (zCst (.int 1) 2))))) (znode 5 pc (zleaf 2 pc (.inl (zS1 (zIcmp (fun x y => decide (x < y)) 32 5)))) (zleaf 5 pc (.inl (zLd zIsI 6 1))))) (znode 10 pc (znode 7 pc (zleaf 6 pc (.inl (zLd zIsA 7 0))) (zleaf 7 pc (.inl (zS2 (zGet 2 0 10))))) (znode 13 pc (zleaf 10 pc (.inl (zS2 (zGet 1 0 13)))) (zleaf 13 pc (.inl (zS1 (zIcmp (fun x y => decide (y ≤ x)) 32 16))))))) (znode 22 pc (znode 18 pc (znode 17 pc (zleaf 16 pc (.inl (zLd zIsI 17 2))) (zleaf 17 pc (.inl (zS1 (zCst (.int 1) 18))))) (znode 21 pc (zleaf 18 pc (.inl (zS1 (zIcmp (fun x y => decide (x < y)) 32 21)))) (zleaf 21 pc (.inl (zLd zIsI 22 2))))) (znode 26 pc (znode 23 pc (zleaf 22 pc (.inl (zLd zIsA 23 0))) (zleaf 23 pc (.inl (zS2 (zGet 2 0 26))))) (znode 29 pc (zleaf 26 pc (.inl (zS2 (zGet 1 1 29)))) (znode 42 pc (zleaf 29 pc (.inl (zS1 (zIcmp (fun x y => decide (x < y)) 42 32)))) (zleaf 42 pc (.inl (zLd zIsI 43 3)))))))) (znode 57 pc (znode 51 pc (znode 47 pc (znode 44 pc (zleaf 43 pc (.inl (zS1 (zCst (.int 2) 44)))) (zleaf 44 pc (.inr (.inr (.inr (69, 2, 2)))))) (znode 48 pc (zleaf 47 pc (.inl (zLd zIsA 48 0))) (zleaf 48 pc (.inl (zS2 (zGet 2 0 51)))))) (znode 55 pc (znode 54 pc (zleaf 51 pc (.inl (zS2 (zGet 1 0 54)))) (zleaf 54 pc (.inl (zLd zIsI 55 2)))) (znode 56 pc (zleaf 55 pc (.inl (zS1 (zCst (.int 1) 56)))) (zleaf 56 pc (.inl (zS1 (zII (fun x y => x - y) 57))))))) (znode 61 pc (znode 59 pc (znode 58 pc (zleaf 57 pc (.inl (zS1 (zII (fun x y => x * y) 58)))) (zleaf 58 pc (.inl (zLd zIsI 59 1)))) (znode 60 pc (zleaf 59 pc (.inl (zS1 (zII (fun x y => x + y) 60)))) (zleaf 60 pc (.inl (zS1 (zCst (.int 1) 61)))))) (znode 64 pc (znode 62 pc (zleaf 61 pc (.inl (zS1 (zII (fun x y => x - y) 62)))) (zleaf 62 pc (.inl (zSt1 zIsI 64 4)))) (znode 65 pc (zleaf 64 pc (.inl (zLd zIsA 65 0))) (znode 68 pc (zleaf 65 pc (.inl (zS2 (zGet 2 0 68)))) (zleaf 68 pc (.inl (zLd zIsI 70 4))))))))) (znode 102 pc (znode 85 pc (znode 78 pc (znode 74 pc (znode 71 pc (zleaf 70 pc (.inl (zS1 (zCst (.int 0) 71)))) (zleaf 71 pc (.inr (.inr (.inr (90, 2, 2)))))) (znode 75 pc (zleaf 74 pc (.inl (zLd zIsI 75 3))) (zleaf 75 pc (.inr (.inr (.inr (33, 3, 1))))))) (znode 82 pc (znode 79 pc (zleaf 78 pc (.inl (zLd zIsA 79 0))) (zleaf 79 pc (.inl (zS2 (zGet 2 0 82))))) (znode 84 pc (zleaf 82 pc (.inl (zLd zIsI 84 4))) (zleaf 84 pc (.inl (zLd zIsA 85 0)))))) (znode 93 pc (znode 91 pc (znode 88 pc (zleaf 85 pc (.inl (zS2 (zGet 2 0 88)))) (zleaf 88 pc (.inl (zS2 (zGet 1 0 91))))) (znode 92 pc (zleaf 91 pc (.inl (zS1 (zII (fun x y => x + y) 92)))) (zleaf 92 pc (.inl (zS1 (zCst (.int 0) 93)))))) (znode 97 pc (znode 96 pc (zleaf 93 pc (.inr (.inr (.inr (90, 2, 2))))) (zleaf 96 pc (.inl (zLd zIsI 97 3)))) (znode 100 pc (zleaf 97 pc (.inr (.inr (.inr (33, 3, 1))))) (znode 101 pc (zleaf 100 pc (.inl (zS1 (zII (fun x y => x + y) 101)))) (zleaf 101 pc (.inl (zLd zIsA 102 0)))))))) (znode 120 pc (znode 111 pc (znode 107 pc (znode 105 pc (zleaf 102 pc (.inl (zS2 (zGet 2 0 105)))) (zleaf 105 pc (.inl (zLd zIsI 107 4)))) (znode 108 pc (zleaf 107 pc (.inl (zS1 (zCst (.int 1) 108)))) (zleaf 108 pc (.inr (.inr (.inr (90, 2, 2))))))) (znode 115 pc (znode 112 pc (zleaf 111 pc (.inl (zLd zIsI 112 3))) (zleaf 112 pc (.inr (.inr (.inr (33, 3, 1)))))) (znode 116 pc (zleaf 115 pc (.inl (zS1 (zII (fun x y => x + y) 116)))) (znode 117 pc (zleaf 116 pc (.inl (zLd zIsA 117 0))) (zleaf 117 pc (.inl (zS2 (zGet 2 0 120)))))))) (znode 125 pc (znode 123 pc (znode 122 pc (zleaf 120 pc (.inl (zLd zIsI 122 4))) (zleaf 122 pc (.inl (zS1 (zCst (.int 1) 123))))) (znode 124 pc (zleaf 123 pc (.inl (zS1 (zII (fun x y => x + y) 124)))) (zleaf 124 pc (.inl (zS1 (zCst (.int 1) 125)))))) (znode 129 pc (znode 128 pc (zleaf 125 pc (.inr (.inr (.inr (90, 2, 2))))) (zleaf 128 pc (.inl (zLd zIsI 129 3)))) (znode 132 pc (zleaf 129 pc (.inr (.inr (.inr (33, 3, 1))))) (znode 133 pc (zleaf 132 pc (.inl (zS1 (zII (fun x y => x + y) 133)))) (zleaf 133 pc (.inr (.inl 1)))))))))
theorem zk_X2_ofCorner (O : Nat → State → Heap → Prop) (E : zE) (l : Launch) : ∀ pc i, zc_X2_ofCorner pc = some i → zOK z_cl z_T z_G z_N O E z_yy z_bb z_nl z_cc z_rt z_hh l 57 pc i := fun pc => znode_ok (znode_ok (znode_ok (znode_ok (znode_ok (znode_ok (zleaf_ok (zs_iload_n (by decide +kernel : decode cX2_ofCorner 0 = .ok (.iload_n 1, 1)) rfl)) (zleaf_ok (zs_iconst (by decide) (by decide +kernel : decode cX2_ofCorner 1 = .ok (.iconst 1, 1))))) (znode_ok (zleaf_ok (zs_icmp_lt (t := 32) (by decide) (by decide +kernel : decode cX2_ofCorner 2 = .ok (.if_icmp .lt 30, 3)))) (zleaf_ok (zs_iload_n (by decide +kernel : decode cX2_ofCorner 5 = .ok (.iload_n 1, 1)) rfl)))) (znode_ok (znode_ok (zleaf_ok (zs_aload_n (by decide +kernel : decode cX2_ofCorner 6 = .ok (.aload_n 0, 1)) rfl)) (zleaf_ok (zs_get (C := RX2) (Tc := TX2) (Nc := 8) rfl zinX2 (Nat.le_of_ble_eq_true rfl) zw_113 (by decide +kernel : decode cX2_ofCorner 7 = .ok (.getfield 10, 3))))) (znode_ok (zleaf_ok (zs_getN (C := RX1) (Tc := TX1) (Nc := 9) rfl zinX1 (Nat.le_of_ble_eq_true rfl) zw_242 (by decide +kernel : decode cX2_ofCorner 10 = .ok (.getfield 198, 3)))) (zleaf_ok (zs_icmp_ge (t := 32) (by decide) (by decide +kernel : decode cX2_ofCorner 13 = .ok (.if_icmp .ge 19, 3))))))) (znode_ok (znode_ok (znode_ok (zleaf_ok (zs_iload_n (by decide +kernel : decode cX2_ofCorner 16 = .ok (.iload_n 2, 1)) rfl)) (zleaf_ok (zs_iconst (by decide) (by decide +kernel : decode cX2_ofCorner 17 = .ok (.iconst 1, 1))))) (znode_ok (zleaf_ok (zs_icmp_lt (t := 32) (by decide) (by decide +kernel : decode cX2_ofCorner 18 = .ok (.if_icmp .lt 14, 3)))) (zleaf_ok (zs_iload_n (by decide +kernel : decode cX2_ofCorner 21 = .ok (.iload_n 2, 1)) rfl)))) (znode_ok (znode_ok (zleaf_ok (zs_aload_n (by decide +kernel : decode cX2_ofCorner 22 = .ok (.aload_n 0, 1)) rfl)) (zleaf_ok (zs_get (C := RX2) (Tc := TX2) (Nc := 8) rfl zinX2 (Nat.le_of_ble_eq_true rfl) zw_113 (by decide +kernel : decode cX2_ofCorner 23 = .ok (.getfield 10, 3))))) (znode_ok (zleaf_ok (zs_getN (C := RX1) (Tc := TX1) (Nc := 9) rfl zinX1 (Nat.le_of_ble_eq_true rfl) zw_243 (by decide +kernel : decode cX2_ofCorner 26 = .ok (.getfield 201, 3)))) (znode_ok (zleaf_ok (zs_icmp_lt (t := 42) (by decide) (by decide +kernel : decode cX2_ofCorner 29 = .ok (.if_icmp .lt 13, 3)))) (zleaf_ok (zs_iload_n (by decide +kernel : decode cX2_ofCorner 42 = .ok (.iload_n 3, 1)) rfl))))))) (znode_ok (znode_ok (znode_ok (znode_ok (zleaf_ok (zs_iconst (by decide) (by decide +kernel : decode cX2_ofCorner 43 = .ok (.iconst 2, 1)))) (zleaf_ok (⟨zcs2 (n := 2) z_good zw_207 zw_19 zw_208 zw_209 (by decide +kernel) (by decide +kernel : decode cX2_ofCorner 44 = .ok (.invokestatic 144, 3)), Nat.le_of_ble_eq_true rfl, by decide +kernel, (fun h => absurd rfl (h.1))⟩))) (znode_ok (zleaf_ok (zs_aload_n (by decide +kernel : decode cX2_ofCorner 47 = .ok (.aload_n 0, 1)) rfl)) (zleaf_ok (zs_get (C := RX2) (Tc := TX2) (Nc := 8) rfl zinX2 (Nat.le_of_ble_eq_true rfl) zw_113 (by decide +kernel : decode cX2_ofCorner 48 = .ok (.getfield 10, 3)))))) (znode_ok (znode_ok (zleaf_ok (zs_getN (C := RX1) (Tc := TX1) (Nc := 9) rfl zinX1 (Nat.le_of_ble_eq_true rfl) zw_242 (by decide +kernel : decode cX2_ofCorner 51 = .ok (.getfield 198, 3)))) (zleaf_ok (zs_iload_n (by decide +kernel : decode cX2_ofCorner 54 = .ok (.iload_n 2, 1)) rfl))) (znode_ok (zleaf_ok (zs_iconst (by decide) (by decide +kernel : decode cX2_ofCorner 55 = .ok (.iconst 1, 1)))) (zleaf_ok (zs_isub (by decide +kernel : decode cX2_ofCorner 56 = .ok (.isub, 1))))))) (znode_ok (znode_ok (znode_ok (zleaf_ok (zs_imul (by decide +kernel : decode cX2_ofCorner 57 = .ok (.imul, 1)))) (zleaf_ok (zs_iload_n (by decide +kernel : decode cX2_ofCorner 58 = .ok (.iload_n 1, 1)) rfl))) (znode_ok (zleaf_ok (zs_iadd (by decide +kernel : decode cX2_ofCorner 59 = .ok (.iadd, 1)))) (zleaf_ok (zs_iconst (by decide) (by decide +kernel : decode cX2_ofCorner 60 = .ok (.iconst 1, 1)))))) (znode_ok (znode_ok (zleaf_ok (zs_isub (by decide +kernel : decode cX2_ofCorner 61 = .ok (.isub, 1)))) (zleaf_ok (zs_istore (Nat.le_of_ble_eq_true rfl) (by decide +kernel : decode cX2_ofCorner 62 = .ok (.istore 4, 2))))) (znode_ok (zleaf_ok (zs_aload_n (by decide +kernel : decode cX2_ofCorner 64 = .ok (.aload_n 0, 1)) rfl)) (znode_ok (zleaf_ok (zs_get (C := RX2) (Tc := TX2) (Nc := 8) rfl zinX2 (Nat.le_of_ble_eq_true rfl) zw_113 (by decide +kernel : decode cX2_ofCorner 65 = .ok (.getfield 10, 3)))) (zleaf_ok (zs_iload (by decide +kernel : decode cX2_ofCorner 68 = .ok (.iload 4, 2)))))))))) (znode_ok (znode_ok (znode_ok (znode_ok (znode_ok (zleaf_ok (zs_iconst (by decide) (by decide +kernel : decode cX2_ofCorner 70 = .ok (.iconst 0, 1)))) (zleaf_ok (⟨zcs2 (n := 2) z_good zw_93 zw_19 zw_239 zw_95 (by decide +kernel) (by decide +kernel : decode cX2_ofCorner 71 = .ok (.invokestatic 189, 3)), Nat.le_of_ble_eq_true rfl, by decide +kernel, (fun h => absurd rfl (h.1))⟩))) (znode_ok (zleaf_ok (zs_iload_n (by decide +kernel : decode cX2_ofCorner 74 = .ok (.iload_n 3, 1)) rfl)) (zleaf_ok (⟨zcs1 (n := 2) z_good zw_244 zw_89 zw_245 zw_246 zw_247 (by decide +kernel) (by decide +kernel : decode cX2_ofCorner 75 = .ok (.invokevirtual 206, 3)), Nat.le_of_ble_eq_true rfl, by decide +kernel, (fun _ => ⟨TX1, 9, rfl⟩)⟩)))) (znode_ok (znode_ok (zleaf_ok (zs_aload_n (by decide +kernel : decode cX2_ofCorner 78 = .ok (.aload_n 0, 1)) rfl)) (zleaf_ok (zs_get (C := RX2) (Tc := TX2) (Nc := 8) rfl zinX2 (Nat.le_of_ble_eq_true rfl) zw_113 (by decide +kernel : decode cX2_ofCorner 79 = .ok (.getfield 10, 3))))) (znode_ok (zleaf_ok (zs_iload (by decide +kernel : decode cX2_ofCorner 82 = .ok (.iload 4, 2)))) (zleaf_ok (zs_aload_n (by decide +kernel : decode cX2_ofCorner 84 = .ok (.aload_n 0, 1)) rfl))))) (znode_ok (znode_ok (znode_ok (zleaf_ok (zs_get (C := RX2) (Tc := TX2) (Nc := 8) rfl zinX2 (Nat.le_of_ble_eq_true rfl) zw_113 (by decide +kernel : decode cX2_ofCorner 85 = .ok (.getfield 10, 3)))) (zleaf_ok (zs_getN (C := RX1) (Tc := TX1) (Nc := 9) rfl zinX1 (Nat.le_of_ble_eq_true rfl) zw_242 (by decide +kernel : decode cX2_ofCorner 88 = .ok (.getfield 198, 3))))) (znode_ok (zleaf_ok (zs_iadd (by decide +kernel : decode cX2_ofCorner 91 = .ok (.iadd, 1)))) (zleaf_ok (zs_iconst (by decide) (by decide +kernel : decode cX2_ofCorner 92 = .ok (.iconst 0, 1)))))) (znode_ok (znode_ok (zleaf_ok (⟨zcs2 (n := 2) z_good zw_93 zw_19 zw_239 zw_95 (by decide +kernel) (by decide +kernel : decode cX2_ofCorner 93 = .ok (.invokestatic 189, 3)), Nat.le_of_ble_eq_true rfl, by decide +kernel, (fun h => absurd rfl (h.1))⟩)) (zleaf_ok (zs_iload_n (by decide +kernel : decode cX2_ofCorner 96 = .ok (.iload_n 3, 1)) rfl))) (znode_ok (zleaf_ok (⟨zcs1 (n := 2) z_good zw_244 zw_89 zw_245 zw_246 zw_247 (by decide +kernel) (by decide +kernel : decode cX2_ofCorner 97 = .ok (.invokevirtual 206, 3)), Nat.le_of_ble_eq_true rfl, by decide +kernel, (fun _ => ⟨TX1, 9, rfl⟩)⟩)) (znode_ok (zleaf_ok (zs_iadd (by decide +kernel : decode cX2_ofCorner 100 = .ok (.iadd, 1)))) (zleaf_ok (zs_aload_n (by decide +kernel : decode cX2_ofCorner 101 = .ok (.aload_n 0, 1)) rfl))))))) (znode_ok (znode_ok (znode_ok (znode_ok (zleaf_ok (zs_get (C := RX2) (Tc := TX2) (Nc := 8) rfl zinX2 (Nat.le_of_ble_eq_true rfl) zw_113 (by decide +kernel : decode cX2_ofCorner 102 = .ok (.getfield 10, 3)))) (zleaf_ok (zs_iload (by decide +kernel : decode cX2_ofCorner 105 = .ok (.iload 4, 2))))) (znode_ok (zleaf_ok (zs_iconst (by decide) (by decide +kernel : decode cX2_ofCorner 107 = .ok (.iconst 1, 1)))) (zleaf_ok (⟨zcs2 (n := 2) z_good zw_93 zw_19 zw_239 zw_95 (by decide +kernel) (by decide +kernel : decode cX2_ofCorner 108 = .ok (.invokestatic 189, 3)), Nat.le_of_ble_eq_true rfl, by decide +kernel, (fun h => absurd rfl (h.1))⟩)))) (znode_ok (znode_ok (zleaf_ok (zs_iload_n (by decide +kernel : decode cX2_ofCorner 111 = .ok (.iload_n 3, 1)) rfl)) (zleaf_ok (⟨zcs1 (n := 2) z_good zw_244 zw_89 zw_245 zw_246 zw_247 (by decide +kernel) (by decide +kernel : decode cX2_ofCorner 112 = .ok (.invokevirtual 206, 3)), Nat.le_of_ble_eq_true rfl, by decide +kernel, (fun _ => ⟨TX1, 9, rfl⟩)⟩))) (znode_ok (zleaf_ok (zs_iadd (by decide +kernel : decode cX2_ofCorner 115 = .ok (.iadd, 1)))) (znode_ok (zleaf_ok (zs_aload_n (by decide +kernel : decode cX2_ofCorner 116 = .ok (.aload_n 0, 1)) rfl)) (zleaf_ok (zs_get (C := RX2) (Tc := TX2) (Nc := 8) rfl zinX2 (Nat.le_of_ble_eq_true rfl) zw_113 (by decide +kernel : decode cX2_ofCorner 117 = .ok (.getfield 10, 3)))))))) (znode_ok (znode_ok (znode_ok (zleaf_ok (zs_iload (by decide +kernel : decode cX2_ofCorner 120 = .ok (.iload 4, 2)))) (zleaf_ok (zs_iconst (by decide) (by decide +kernel : decode cX2_ofCorner 122 = .ok (.iconst 1, 1))))) (znode_ok (zleaf_ok (zs_iadd (by decide +kernel : decode cX2_ofCorner 123 = .ok (.iadd, 1)))) (zleaf_ok (zs_iconst (by decide) (by decide +kernel : decode cX2_ofCorner 124 = .ok (.iconst 1, 1)))))) (znode_ok (znode_ok (zleaf_ok (⟨zcs2 (n := 2) z_good zw_93 zw_19 zw_239 zw_95 (by decide +kernel) (by decide +kernel : decode cX2_ofCorner 125 = .ok (.invokestatic 189, 3)), Nat.le_of_ble_eq_true rfl, by decide +kernel, (fun h => absurd rfl (h.1))⟩)) (zleaf_ok (zs_iload_n (by decide +kernel : decode cX2_ofCorner 128 = .ok (.iload_n 3, 1)) rfl))) (znode_ok (zleaf_ok (⟨zcs1 (n := 2) z_good zw_244 zw_89 zw_245 zw_246 zw_247 (by decide +kernel) (by decide +kernel : decode cX2_ofCorner 129 = .ok (.invokevirtual 206, 3)), Nat.le_of_ble_eq_true rfl, by decide +kernel, (fun _ => ⟨TX1, 9, rfl⟩)⟩)) (znode_ok (zleaf_ok (zs_iadd (by decide +kernel : decode cX2_ofCorner 132 = .ok (.iadd, 1)))) (zleaf_ok (Or.inr (Or.inl ⟨rfl, rfl, (by decide +kernel : decode cX2_ofCorner 133 = .ok (.ireturn, 1))⟩)))))))))
/-- Creasebook.many(I)I -/
def zc_X2_many (pc : Nat) : Option zI := znode 136 pc (znode 104 pc (znode 87 pc (znode 7 pc (znode 3 pc (znode 1 pc (zleaf 0 pc (.inl (zLd zIsI 1 1))) (zleaf 1 pc (.inl (zS1 (zCst (.int 15) 3))))) (znode 6 pc (zleaf 3 pc (.inr (.inr (.inr (69, 2, 2))))) (zleaf 6 pc (.inl (zLd zIsI 7 1))))) (znode 81 pc (znode 80 pc (zleaf 7 pc (.inl (zS1 (zTab 0 14 [80, 88, 96, 104, 112, 117, 126, 135, 143, 152, 161, 169, 177, 185, 193] 198)))) (zleaf 80 pc (.inl (zLd zIsA 81 0)))) (znode 84 pc (zleaf 81 pc (.inl (zS2 (zGet 2 0 84)))) (zleaf 84 pc (.inl (zS2 (zGet 1 0 87))))))) (znode 95 pc (znode 89 pc (znode 88 pc (zleaf 87 pc (.inr (.inl 1))) (zleaf 88 pc (.inl (zLd zIsA 89 0)))) (znode 92 pc (zleaf 89 pc (.inl (zS2 (zGet 2 0 92)))) (zleaf 92 pc (.inl (zS2 (zGet 1 1 95)))))) (znode 97 pc (znode 96 pc (zleaf 95 pc (.inr (.inl 1))) (zleaf 96 pc (.inl (zLd zIsA 97 0)))) (znode 100 pc (zleaf 97 pc (.inl (zS2 (zGet 2 1 100)))) (znode 103 pc (zleaf 100 pc (.inl (zS2 (zGet 0 1 103)))) (zleaf 103 pc (.inr (.inl 1)))))))) (znode 121 pc (znode 112 pc (znode 108 pc (znode 105 pc (zleaf 104 pc (.inl (zLd zIsA 105 0))) (zleaf 105 pc (.inl (zS2 (zGet 2 1 108))))) (znode 111 pc (zleaf 108 pc (.inl (zS2 (zGet 0 2 111)))) (zleaf 111 pc (.inr (.inl 1))))) (znode 116 pc (znode 113 pc (zleaf 112 pc (.inl (zLd zIsA 113 0))) (zleaf 113 pc (.inl (zS2 (zGet 2 5 116))))) (znode 117 pc (zleaf 116 pc (.inr (.inl 1))) (znode 118 pc (zleaf 117 pc (.inl (zLd zIsA 118 0))) (zleaf 118 pc (.inl (zS2 (zGet 2 0 121)))))))) (znode 127 pc (znode 125 pc (znode 122 pc (zleaf 121 pc (.inl (zS1 (zCst (.int 1) 122)))) (zleaf 122 pc (.inr (.inr (.inr (34, 2, 1)))))) (znode 126 pc (zleaf 125 pc (.inr (.inl 1))) (zleaf 126 pc (.inl (zLd zIsA 127 0))))) (znode 131 pc (znode 130 pc (zleaf 127 pc (.inl (zS2 (zGet 2 0 130)))) (zleaf 130 pc (.inl (zS1 (zCst (.int 2) 131))))) (znode 134 pc (zleaf 131 pc (.inr (.inr (.inr (34, 2, 1))))) (znode 135 pc (zleaf 134 pc (.inr (.inl 1))) (zleaf 135 pc (.inl (zLd zIsA 136 0))))))))) (znode 169 pc (znode 152 pc (znode 144 pc (znode 142 pc (znode 139 pc (zleaf 136 pc (.inl (zS2 (zGet 2 0 139)))) (zleaf 139 pc (.inr (.inr (.inr (35, 1, 1)))))) (znode 143 pc (zleaf 142 pc (.inr (.inl 1))) (zleaf 143 pc (.inl (zLd zIsA 144 0))))) (znode 148 pc (znode 147 pc (zleaf 144 pc (.inl (zS2 (zGet 2 0 147)))) (zleaf 147 pc (.inl (zS1 (zCst (.int 2) 148))))) (znode 151 pc (zleaf 148 pc (.inr (.inr (.inr (39, 2, 1))))) (zleaf 151 pc (.inr (.inl 1)))))) (znode 160 pc (znode 156 pc (znode 153 pc (zleaf 152 pc (.inl (zLd zIsA 153 0))) (zleaf 153 pc (.inl (zS2 (zGet 2 0 156))))) (znode 157 pc (zleaf 156 pc (.inl (zS1 (zCst (.int 1) 157)))) (zleaf 157 pc (.inr (.inr (.inr (39, 2, 1))))))) (znode 162 pc (znode 161 pc (zleaf 160 pc (.inr (.inl 1))) (zleaf 161 pc (.inl (zLd zIsA 162 0)))) (znode 165 pc (zleaf 162 pc (.inl (zS2 (zGet 2 0 165)))) (znode 168 pc (zleaf 165 pc (.inr (.inr (.inr (40, 1, 1))))) (zleaf 168 pc (.inr (.inl 1)))))))) (znode 186 pc (znode 177 pc (znode 173 pc (znode 170 pc (zleaf 169 pc (.inl (zLd zIsA 170 0))) (zleaf 170 pc (.inl (zS2 (zGet 2 1 173))))) (znode 176 pc (zleaf 173 pc (.inr (.inr (.inr (23, 1, 1))))) (zleaf 176 pc (.inr (.inl 1))))) (znode 181 pc (znode 178 pc (zleaf 177 pc (.inl (zLd zIsA 178 0))) (zleaf 178 pc (.inl (zS2 (zGet 2 1 181))))) (znode 184 pc (zleaf 181 pc (.inr (.inr (.inr (24, 1, 1))))) (znode 185 pc (zleaf 184 pc (.inr (.inl 1))) (zleaf 185 pc (.inl (zLd zIsA 186 0))))))) (znode 194 pc (znode 192 pc (znode 189 pc (zleaf 186 pc (.inl (zS2 (zGet 2 1 189)))) (zleaf 189 pc (.inr (.inr (.inr (25, 1, 1)))))) (znode 193 pc (zleaf 192 pc (.inr (.inl 1))) (zleaf 193 pc (.inl (zLd zIsA 194 0))))) (znode 198 pc (znode 197 pc (zleaf 194 pc (.inl (zS2 (zGet 2 6 197)))) (zleaf 197 pc (.inr (.inl 1)))) (znode 199 pc (zleaf 198 pc (.inl (zLd zIsA 199 0))) (znode 202 pc (zleaf 199 pc (.inl (zS2 (zGet 2 7 202)))) (zleaf 202 pc (.inr (.inl 1)))))))))
theorem zk_X2_many (O : Nat → State → Heap → Prop) (E : zE) (l : Launch) : ∀ pc i, zc_X2_many pc = some i → zOK z_cl z_T z_G z_N O E z_yy z_bb z_nl z_cc z_rt z_hh l 58 pc i := fun pc => znode_ok (znode_ok (znode_ok (znode_ok (znode_ok (znode_ok (zleaf_ok (zs_iload_n (by decide +kernel : decode cX2_many 0 = .ok (.iload_n 1, 1)) rfl)) (zleaf_ok (zs_bipush (by decide) (by decide +kernel : decode cX2_many 1 = .ok (.bipush 15, 2))))) (znode_ok (zleaf_ok (⟨zcs2 (n := 2) z_good zw_207 zw_19 zw_208 zw_209 (by decide +kernel) (by decide +kernel : decode cX2_many 3 = .ok (.invokestatic 144, 3)), Nat.le_of_ble_eq_true rfl, by decide +kernel, (fun h => absurd rfl (h.1))⟩)) (zleaf_ok (zs_iload_n (by decide +kernel : decode cX2_many 6 = .ok (.iload_n 1, 1)) rfl)))) (znode_ok (znode_ok (zleaf_ok (zs_tab (t := 198) (by decide) (by decide) (by decide +kernel : decode cX2_many 7 = .ok (.tableswitch 191 0 14 #[73, 81, 89, 97, 105, 110, 119, 128, 136, 145, 154, 162, 170, 178, 186], 73)))) (zleaf_ok (zs_aload_n (by decide +kernel : decode cX2_many 80 = .ok (.aload_n 0, 1)) rfl))) (znode_ok (zleaf_ok (zs_get (C := RX2) (Tc := TX2) (Nc := 8) rfl zinX2 (Nat.le_of_ble_eq_true rfl) zw_113 (by decide +kernel : decode cX2_many 81 = .ok (.getfield 10, 3)))) (zleaf_ok (zs_getN (C := RX1) (Tc := TX1) (Nc := 9) rfl zinX1 (Nat.le_of_ble_eq_true rfl) zw_242 (by decide +kernel : decode cX2_many 84 = .ok (.getfield 198, 3))))))) (znode_ok (znode_ok (znode_ok (zleaf_ok (Or.inr (Or.inl ⟨rfl, rfl, (by decide +kernel : decode cX2_many 87 = .ok (.ireturn, 1))⟩))) (zleaf_ok (zs_aload_n (by decide +kernel : decode cX2_many 88 = .ok (.aload_n 0, 1)) rfl))) (znode_ok (zleaf_ok (zs_get (C := RX2) (Tc := TX2) (Nc := 8) rfl zinX2 (Nat.le_of_ble_eq_true rfl) zw_113 (by decide +kernel : decode cX2_many 89 = .ok (.getfield 10, 3)))) (zleaf_ok (zs_getN (C := RX1) (Tc := TX1) (Nc := 9) rfl zinX1 (Nat.le_of_ble_eq_true rfl) zw_243 (by decide +kernel : decode cX2_many 92 = .ok (.getfield 201, 3)))))) (znode_ok (znode_ok (zleaf_ok (Or.inr (Or.inl ⟨rfl, rfl, (by decide +kernel : decode cX2_many 95 = .ok (.ireturn, 1))⟩))) (zleaf_ok (zs_aload_n (by decide +kernel : decode cX2_many 96 = .ok (.aload_n 0, 1)) rfl))) (znode_ok (zleaf_ok (zs_get (C := RX2) (Tc := TX2) (Nc := 8) rfl zinX2 (Nat.le_of_ble_eq_true rfl) zw_119 (by decide +kernel : decode cX2_many 97 = .ok (.getfield 19, 3)))) (znode_ok (zleaf_ok (zs_getN (C := RX0) (Tc := TX0) (Nc := 8) rfl zinX0 (Nat.le_of_ble_eq_true rfl) zw_248 (by decide +kernel : decode cX2_many 100 = .ok (.getfield 209, 3)))) (zleaf_ok (Or.inr (Or.inl ⟨rfl, rfl, (by decide +kernel : decode cX2_many 103 = .ok (.ireturn, 1))⟩)))))))) (znode_ok (znode_ok (znode_ok (znode_ok (zleaf_ok (zs_aload_n (by decide +kernel : decode cX2_many 104 = .ok (.aload_n 0, 1)) rfl)) (zleaf_ok (zs_get (C := RX2) (Tc := TX2) (Nc := 8) rfl zinX2 (Nat.le_of_ble_eq_true rfl) zw_119 (by decide +kernel : decode cX2_many 105 = .ok (.getfield 19, 3))))) (znode_ok (zleaf_ok (zs_getN (C := RX0) (Tc := TX0) (Nc := 8) rfl zinX0 (Nat.le_of_ble_eq_true rfl) zw_249 (by decide +kernel : decode cX2_many 108 = .ok (.getfield 212, 3)))) (zleaf_ok (Or.inr (Or.inl ⟨rfl, rfl, (by decide +kernel : decode cX2_many 111 = .ok (.ireturn, 1))⟩))))) (znode_ok (znode_ok (zleaf_ok (zs_aload_n (by decide +kernel : decode cX2_many 112 = .ok (.aload_n 0, 1)) rfl)) (zleaf_ok (zs_get (C := RX2) (Tc := TX2) (Nc := 8) rfl zinX2 (Nat.le_of_ble_eq_true rfl) zw_133 (by decide +kernel : decode cX2_many 113 = .ok (.getfield 54, 3))))) (znode_ok (zleaf_ok (Or.inr (Or.inl ⟨rfl, rfl, (by decide +kernel : decode cX2_many 116 = .ok (.ireturn, 1))⟩))) (znode_ok (zleaf_ok (zs_aload_n (by decide +kernel : decode cX2_many 117 = .ok (.aload_n 0, 1)) rfl)) (zleaf_ok (zs_get (C := RX2) (Tc := TX2) (Nc := 8) rfl zinX2 (Nat.le_of_ble_eq_true rfl) zw_113 (by decide +kernel : decode cX2_many 118 = .ok (.getfield 10, 3)))))))) (znode_ok (znode_ok (znode_ok (zleaf_ok (zs_iconst (by decide) (by decide +kernel : decode cX2_many 121 = .ok (.iconst 1, 1)))) (zleaf_ok (⟨zcs1 (n := 1) z_good zw_250 zw_89 zw_251 zw_252 zw_253 (by decide +kernel) (by decide +kernel : decode cX2_many 122 = .ok (.invokevirtual 215, 3)), Nat.le_of_ble_eq_true rfl, by decide +kernel, (fun _ => ⟨TX1, 9, rfl⟩)⟩))) (znode_ok (zleaf_ok (Or.inr (Or.inl ⟨rfl, rfl, (by decide +kernel : decode cX2_many 125 = .ok (.ireturn, 1))⟩))) (zleaf_ok (zs_aload_n (by decide +kernel : decode cX2_many 126 = .ok (.aload_n 0, 1)) rfl)))) (znode_ok (znode_ok (zleaf_ok (zs_get (C := RX2) (Tc := TX2) (Nc := 8) rfl zinX2 (Nat.le_of_ble_eq_true rfl) zw_113 (by decide +kernel : decode cX2_many 127 = .ok (.getfield 10, 3)))) (zleaf_ok (zs_iconst (by decide) (by decide +kernel : decode cX2_many 130 = .ok (.iconst 2, 1))))) (znode_ok (zleaf_ok (⟨zcs1 (n := 1) z_good zw_250 zw_89 zw_251 zw_252 zw_253 (by decide +kernel) (by decide +kernel : decode cX2_many 131 = .ok (.invokevirtual 215, 3)), Nat.le_of_ble_eq_true rfl, by decide +kernel, (fun _ => ⟨TX1, 9, rfl⟩)⟩)) (znode_ok (zleaf_ok (Or.inr (Or.inl ⟨rfl, rfl, (by decide +kernel : decode cX2_many 134 = .ok (.ireturn, 1))⟩))) (zleaf_ok (zs_aload_n (by decide +kernel : decode cX2_many 135 = .ok (.aload_n 0, 1)) rfl)))))))) (znode_ok (znode_ok (znode_ok (znode_ok (znode_ok (zleaf_ok (zs_get (C := RX2) (Tc := TX2) (Nc := 8) rfl zinX2 (Nat.le_of_ble_eq_true rfl) zw_113 (by decide +kernel : decode cX2_many 136 = .ok (.getfield 10, 3)))) (zleaf_ok (⟨zcs1 (n := 0) z_good zw_254 zw_89 zw_255 zw_256 zw_257 (by decide +kernel) (by decide +kernel : decode cX2_many 139 = .ok (.invokevirtual 218, 3)), Nat.le_of_ble_eq_true rfl, by decide +kernel, (fun _ => ⟨TX1, 9, rfl⟩)⟩))) (znode_ok (zleaf_ok (Or.inr (Or.inl ⟨rfl, rfl, (by decide +kernel : decode cX2_many 142 = .ok (.ireturn, 1))⟩))) (zleaf_ok (zs_aload_n (by decide +kernel : decode cX2_many 143 = .ok (.aload_n 0, 1)) rfl)))) (znode_ok (znode_ok (zleaf_ok (zs_get (C := RX2) (Tc := TX2) (Nc := 8) rfl zinX2 (Nat.le_of_ble_eq_true rfl) zw_113 (by decide +kernel : decode cX2_many 144 = .ok (.getfield 10, 3)))) (zleaf_ok (zs_iconst (by decide) (by decide +kernel : decode cX2_many 147 = .ok (.iconst 2, 1))))) (znode_ok (zleaf_ok (⟨zcs1 (n := 1) z_good zw_258 zw_89 zw_259 zw_260 zw_261 (by decide +kernel) (by decide +kernel : decode cX2_many 148 = .ok (.invokevirtual 221, 3)), Nat.le_of_ble_eq_true rfl, by decide +kernel, (fun _ => ⟨TX1, 9, rfl⟩)⟩)) (zleaf_ok (Or.inr (Or.inl ⟨rfl, rfl, (by decide +kernel : decode cX2_many 151 = .ok (.ireturn, 1))⟩)))))) (znode_ok (znode_ok (znode_ok (zleaf_ok (zs_aload_n (by decide +kernel : decode cX2_many 152 = .ok (.aload_n 0, 1)) rfl)) (zleaf_ok (zs_get (C := RX2) (Tc := TX2) (Nc := 8) rfl zinX2 (Nat.le_of_ble_eq_true rfl) zw_113 (by decide +kernel : decode cX2_many 153 = .ok (.getfield 10, 3))))) (znode_ok (zleaf_ok (zs_iconst (by decide) (by decide +kernel : decode cX2_many 156 = .ok (.iconst 1, 1)))) (zleaf_ok (⟨zcs1 (n := 1) z_good zw_258 zw_89 zw_259 zw_260 zw_261 (by decide +kernel) (by decide +kernel : decode cX2_many 157 = .ok (.invokevirtual 221, 3)), Nat.le_of_ble_eq_true rfl, by decide +kernel, (fun _ => ⟨TX1, 9, rfl⟩)⟩)))) (znode_ok (znode_ok (zleaf_ok (Or.inr (Or.inl ⟨rfl, rfl, (by decide +kernel : decode cX2_many 160 = .ok (.ireturn, 1))⟩))) (zleaf_ok (zs_aload_n (by decide +kernel : decode cX2_many 161 = .ok (.aload_n 0, 1)) rfl))) (znode_ok (zleaf_ok (zs_get (C := RX2) (Tc := TX2) (Nc := 8) rfl zinX2 (Nat.le_of_ble_eq_true rfl) zw_113 (by decide +kernel : decode cX2_many 162 = .ok (.getfield 10, 3)))) (znode_ok (zleaf_ok (⟨zcs1 (n := 0) z_good zw_262 zw_89 zw_263 zw_264 zw_265 (by decide +kernel) (by decide +kernel : decode cX2_many 165 = .ok (.invokevirtual 224, 3)), Nat.le_of_ble_eq_true rfl, by decide +kernel, (fun _ => ⟨TX1, 9, rfl⟩)⟩)) (zleaf_ok (Or.inr (Or.inl ⟨rfl, rfl, (by decide +kernel : decode cX2_many 168 = .ok (.ireturn, 1))⟩)))))))) (znode_ok (znode_ok (znode_ok (znode_ok (zleaf_ok (zs_aload_n (by decide +kernel : decode cX2_many 169 = .ok (.aload_n 0, 1)) rfl)) (zleaf_ok (zs_get (C := RX2) (Tc := TX2) (Nc := 8) rfl zinX2 (Nat.le_of_ble_eq_true rfl) zw_119 (by decide +kernel : decode cX2_many 170 = .ok (.getfield 19, 3))))) (znode_ok (zleaf_ok (⟨zcs1 (n := 0) z_good zw_266 zw_14 zw_267 zw_268 zw_269 (by decide +kernel) (by decide +kernel : decode cX2_many 173 = .ok (.invokevirtual 227, 3)), Nat.le_of_ble_eq_true rfl, by decide +kernel, (fun _ => ⟨TX0, 8, rfl⟩)⟩)) (zleaf_ok (Or.inr (Or.inl ⟨rfl, rfl, (by decide +kernel : decode cX2_many 176 = .ok (.ireturn, 1))⟩))))) (znode_ok (znode_ok (zleaf_ok (zs_aload_n (by decide +kernel : decode cX2_many 177 = .ok (.aload_n 0, 1)) rfl)) (zleaf_ok (zs_get (C := RX2) (Tc := TX2) (Nc := 8) rfl zinX2 (Nat.le_of_ble_eq_true rfl) zw_119 (by decide +kernel : decode cX2_many 178 = .ok (.getfield 19, 3))))) (znode_ok (zleaf_ok (⟨zcs1 (n := 0) z_good zw_167 zw_14 zw_168 zw_169 zw_170 (by decide +kernel) (by decide +kernel : decode cX2_many 181 = .ok (.invokevirtual 98, 3)), Nat.le_of_ble_eq_true rfl, by decide +kernel, (fun _ => ⟨TX0, 8, rfl⟩)⟩)) (znode_ok (zleaf_ok (Or.inr (Or.inl ⟨rfl, rfl, (by decide +kernel : decode cX2_many 184 = .ok (.ireturn, 1))⟩))) (zleaf_ok (zs_aload_n (by decide +kernel : decode cX2_many 185 = .ok (.aload_n 0, 1)) rfl)))))) (znode_ok (znode_ok (znode_ok (zleaf_ok (zs_get (C := RX2) (Tc := TX2) (Nc := 8) rfl zinX2 (Nat.le_of_ble_eq_true rfl) zw_119 (by decide +kernel : decode cX2_many 186 = .ok (.getfield 19, 3)))) (zleaf_ok (⟨zcs1 (n := 0) z_good zw_270 zw_14 zw_271 zw_272 zw_273 (by decide +kernel) (by decide +kernel : decode cX2_many 189 = .ok (.invokevirtual 230, 3)), Nat.le_of_ble_eq_true rfl, by decide +kernel, (fun _ => ⟨TX0, 8, rfl⟩)⟩))) (znode_ok (zleaf_ok (Or.inr (Or.inl ⟨rfl, rfl, (by decide +kernel : decode cX2_many 192 = .ok (.ireturn, 1))⟩))) (zleaf_ok (zs_aload_n (by decide +kernel : decode cX2_many 193 = .ok (.aload_n 0, 1)) rfl)))) (znode_ok (znode_ok (zleaf_ok (zs_get (C := RX2) (Tc := TX2) (Nc := 8) rfl zinX2 (Nat.le_of_ble_eq_true rfl) zw_141 (by decide +kernel : decode cX2_many 194 = .ok (.getfield 70, 3)))) (zleaf_ok (Or.inr (Or.inl ⟨rfl, rfl, (by decide +kernel : decode cX2_many 197 = .ok (.ireturn, 1))⟩)))) (znode_ok (zleaf_ok (zs_aload_n (by decide +kernel : decode cX2_many 198 = .ok (.aload_n 0, 1)) rfl)) (znode_ok (zleaf_ok (zs_get (C := RX2) (Tc := TX2) (Nc := 8) rfl zinX2 (Nat.le_of_ble_eq_true rfl) zw_158 (by decide +kernel : decode cX2_many 199 = .ok (.getfield 88, 3)))) (zleaf_ok (Or.inr (Or.inl ⟨rfl, rfl, (by decide +kernel : decode cX2_many 202 = .ok (.ireturn, 1))⟩)))))))))
/-- Creasebook.weight(I)D -/
def zc_X2_weight (pc : Nat) : Option zI := znode 47 pc (znode 24 pc (znode 19 pc (znode 4 pc (znode 1 pc (zleaf 0 pc (.inl (zLd zIsI 1 1))) (zleaf 1 pc (.inl (zS1 (zIf (fun x => decide (x = 0)) 19 4))))) (znode 5 pc (zleaf 4 pc (.inl (zLd zIsI 5 1))) (znode 6 pc (zleaf 5 pc (.inl (zS1 (zCst (.int 1) 6)))) (zleaf 6 pc (.inl (zS1 (zIcmp (fun x y => decide (x = y)) 19 9))))))) (znode 21 pc (znode 20 pc (zleaf 19 pc (.inl (zS1 (zCst (.int 0) 20)))) (zleaf 20 pc (.inl (zSt1 zIsI 21 2)))) (znode 22 pc (zleaf 21 pc (.inl (zS1 (zCst (.int 0) 22)))) (znode 23 pc (zleaf 22 pc (.inl (zSt1 zIsI 23 3))) (zleaf 23 pc (.inl (zLd zIsI 24 3))))))) (znode 35 pc (znode 28 pc (znode 25 pc (zleaf 24 pc (.inl (zLd zIsA 25 0))) (zleaf 25 pc (.inl (zS2 (zGet 2 0 28))))) (znode 31 pc (zleaf 28 pc (.inl (zS2 (zGet 1 2 31)))) (znode 34 pc (zleaf 31 pc (.inl (zS1 (zIcmp (fun x y => decide (y ≤ x)) 68 34)))) (zleaf 34 pc (.inl (zLd zIsI 35 2)))))) (znode 40 pc (znode 36 pc (zleaf 35 pc (.inl (zLd zIsI 36 1))) (znode 39 pc (zleaf 36 pc (.inl (zS1 (zIf (fun x => decide (¬ x = 0)) 51 39)))) (zleaf 39 pc (.inl (zLd zIsA 40 0))))) (znode 43 pc (zleaf 40 pc (.inl (zS2 (zGet 2 1 43)))) (znode 46 pc (zleaf 43 pc (.inl (zS2 (zGet 0 3 46)))) (zleaf 46 pc (.inl (zLd zIsI 47 3)))))))) (znode 68 pc (znode 58 pc (znode 51 pc (znode 48 pc (zleaf 47 pc (.inl (zS2 (zAldI 0 48)))) (zleaf 48 pc (.inl (zS1 (zGo 60))))) (znode 52 pc (zleaf 51 pc (.inl (zLd zIsA 52 0))) (znode 55 pc (zleaf 52 pc (.inl (zS2 (zGet 2 1 55)))) (zleaf 55 pc (.inl (zS2 (zGet 0 4 58))))))) (znode 61 pc (znode 59 pc (zleaf 58 pc (.inl (zLd zIsI 59 3))) (znode 60 pc (zleaf 59 pc (.inl (zS2 (zAldI 0 60)))) (zleaf 60 pc (.inl (zS1 (zII (fun x y => x + y) 61)))))) (znode 62 pc (zleaf 61 pc (.inl (zSt1 zIsI 62 2))) (znode 65 pc (zleaf 62 pc (.inl (zIinc 65 3 1))) (zleaf 65 pc (.inl (zS1 (zGo 23)))))))) (znode 75 pc (znode 70 pc (znode 69 pc (zleaf 68 pc (.inl (zS1 (zCst (.int 4) 69)))) (zleaf 69 pc (.inl (zLd zIsI 70 2)))) (znode 71 pc (zleaf 70 pc (.inl (zS1 (zII (fun x y => x * y) 71)))) (znode 72 pc (zleaf 71 pc (.inl (zLd zIsA 72 0))) (zleaf 72 pc (.inl (zS2 (zGet 2 0 75))))))) (znode 82 pc (znode 78 pc (zleaf 75 pc (.inl (zS2 (zGet 1 2 78)))) (znode 81 pc (zleaf 78 pc (.inr (.inr (.inr (82, 2, 2))))) (zleaf 81 pc (.inl (zS1 (zID (fun x => FP.i2d x) 82)))))) (znode 85 pc (zleaf 82 pc (.inl (zS1 (zCst (.double 4616189618054758400) 85)))) (znode 86 pc (zleaf 85 pc (.inl (zS1 (zDDg (fun x y => FP.ddiv x y) 86)))) (zleaf 86 pc (.inr (.inl 3))))))))
theorem zk_X2_weight (O : Nat → State → Heap → Prop) (E : zE) (l : Launch) : ∀ pc i, zc_X2_weight pc = some i → zOK z_cl z_T z_G z_N O E z_yy z_bb z_nl z_cc z_rt z_hh l 59 pc i := fun pc => znode_ok (znode_ok (znode_ok (znode_ok (znode_ok (zleaf_ok (zs_iload_n (by decide +kernel : decode cX2_weight 0 = .ok (.iload_n 1, 1)) rfl)) (zleaf_ok (zs_if_eq (t := 19) (by decide) (by decide +kernel : decode cX2_weight 1 = .ok (.ifCond .eq 18, 3))))) (znode_ok (zleaf_ok (zs_iload_n (by decide +kernel : decode cX2_weight 4 = .ok (.iload_n 1, 1)) rfl)) (znode_ok (zleaf_ok (zs_iconst (by decide) (by decide +kernel : decode cX2_weight 5 = .ok (.iconst 1, 1)))) (zleaf_ok (zs_icmp_eq (t := 19) (by decide) (by decide +kernel : decode cX2_weight 6 = .ok (.if_icmp .eq 13, 3))))))) (znode_ok (znode_ok (zleaf_ok (zs_iconst (by decide) (by decide +kernel : decode cX2_weight 19 = .ok (.iconst 0, 1)))) (zleaf_ok (zs_istore_n (Nat.le_of_ble_eq_true rfl) (by decide +kernel : decode cX2_weight 20 = .ok (.istore_n 2, 1)) rfl))) (znode_ok (zleaf_ok (zs_iconst (by decide) (by decide +kernel : decode cX2_weight 21 = .ok (.iconst 0, 1)))) (znode_ok (zleaf_ok (zs_istore_n (Nat.le_of_ble_eq_true rfl) (by decide +kernel : decode cX2_weight 22 = .ok (.istore_n 3, 1)) rfl)) (zleaf_ok (zs_iload_n (by decide +kernel : decode cX2_weight 23 = .ok (.iload_n 3, 1)) rfl)))))) (znode_ok (znode_ok (znode_ok (zleaf_ok (zs_aload_n (by decide +kernel : decode cX2_weight 24 = .ok (.aload_n 0, 1)) rfl)) (zleaf_ok (zs_get (C := RX2) (Tc := TX2) (Nc := 8) rfl zinX2 (Nat.le_of_ble_eq_true rfl) zw_113 (by decide +kernel : decode cX2_weight 25 = .ok (.getfield 10, 3))))) (znode_ok (zleaf_ok (zs_getN (C := RX1) (Tc := TX1) (Nc := 9) rfl zinX1 (Nat.le_of_ble_eq_true rfl) zw_128 (by decide +kernel : decode cX2_weight 28 = .ok (.getfield 47, 3)))) (znode_ok (zleaf_ok (zs_icmp_ge (t := 68) (by decide) (by decide +kernel : decode cX2_weight 31 = .ok (.if_icmp .ge 37, 3)))) (zleaf_ok (zs_iload_n (by decide +kernel : decode cX2_weight 34 = .ok (.iload_n 2, 1)) rfl))))) (znode_ok (znode_ok (zleaf_ok (zs_iload_n (by decide +kernel : decode cX2_weight 35 = .ok (.iload_n 1, 1)) rfl)) (znode_ok (zleaf_ok (zs_if_ne (t := 51) (by decide) (by decide +kernel : decode cX2_weight 36 = .ok (.ifCond .ne 15, 3)))) (zleaf_ok (zs_aload_n (by decide +kernel : decode cX2_weight 39 = .ok (.aload_n 0, 1)) rfl)))) (znode_ok (zleaf_ok (zs_get (C := RX2) (Tc := TX2) (Nc := 8) rfl zinX2 (Nat.le_of_ble_eq_true rfl) zw_119 (by decide +kernel : decode cX2_weight 40 = .ok (.getfield 19, 3)))) (znode_ok (zleaf_ok (zs_getN (C := RX0) (Tc := TX0) (Nc := 8) rfl zinX0 (Nat.le_of_ble_eq_true rfl) zw_227 (by decide +kernel : decode cX2_weight 43 = .ok (.getfield 168, 3)))) (zleaf_ok (zs_iload_n (by decide +kernel : decode cX2_weight 46 = .ok (.iload_n 3, 1)) rfl))))))) (znode_ok (znode_ok (znode_ok (znode_ok (zleaf_ok (zs_aldI rfl (by decide +kernel : decode cX2_weight 47 = .ok (.iaload, 1)))) (zleaf_ok (zs_goto (t := 60) (by decide) (by decide +kernel : decode cX2_weight 48 = .ok (.goto 12, 3))))) (znode_ok (zleaf_ok (zs_aload_n (by decide +kernel : decode cX2_weight 51 = .ok (.aload_n 0, 1)) rfl)) (znode_ok (zleaf_ok (zs_get (C := RX2) (Tc := TX2) (Nc := 8) rfl zinX2 (Nat.le_of_ble_eq_true rfl) zw_119 (by decide +kernel : decode cX2_weight 52 = .ok (.getfield 19, 3)))) (zleaf_ok (zs_getN (C := RX0) (Tc := TX0) (Nc := 8) rfl zinX0 (Nat.le_of_ble_eq_true rfl) zw_228 (by decide +kernel : decode cX2_weight 55 = .ok (.getfield 171, 3))))))) (znode_ok (znode_ok (zleaf_ok (zs_iload_n (by decide +kernel : decode cX2_weight 58 = .ok (.iload_n 3, 1)) rfl)) (znode_ok (zleaf_ok (zs_aldI rfl (by decide +kernel : decode cX2_weight 59 = .ok (.iaload, 1)))) (zleaf_ok (zs_iadd (by decide +kernel : decode cX2_weight 60 = .ok (.iadd, 1)))))) (znode_ok (zleaf_ok (zs_istore_n (Nat.le_of_ble_eq_true rfl) (by decide +kernel : decode cX2_weight 61 = .ok (.istore_n 2, 1)) rfl)) (znode_ok (zleaf_ok (zs_iinc (Nat.le_of_ble_eq_true rfl) (by decide) (by decide +kernel : decode cX2_weight 62 = .ok (.iinc 3 1, 3)))) (zleaf_ok (zs_goto (t := 23) (by decide) (by decide +kernel : decode cX2_weight 65 = .ok (.goto (-42), 3)))))))) (znode_ok (znode_ok (znode_ok (zleaf_ok (zs_iconst (by decide) (by decide +kernel : decode cX2_weight 68 = .ok (.iconst 4, 1)))) (zleaf_ok (zs_iload_n (by decide +kernel : decode cX2_weight 69 = .ok (.iload_n 2, 1)) rfl))) (znode_ok (zleaf_ok (zs_imul (by decide +kernel : decode cX2_weight 70 = .ok (.imul, 1)))) (znode_ok (zleaf_ok (zs_aload_n (by decide +kernel : decode cX2_weight 71 = .ok (.aload_n 0, 1)) rfl)) (zleaf_ok (zs_get (C := RX2) (Tc := TX2) (Nc := 8) rfl zinX2 (Nat.le_of_ble_eq_true rfl) zw_113 (by decide +kernel : decode cX2_weight 72 = .ok (.getfield 10, 3))))))) (znode_ok (znode_ok (zleaf_ok (zs_getN (C := RX1) (Tc := TX1) (Nc := 9) rfl zinX1 (Nat.le_of_ble_eq_true rfl) zw_128 (by decide +kernel : decode cX2_weight 75 = .ok (.getfield 47, 3)))) (znode_ok (zleaf_ok (⟨zcs2 (n := 2) z_good zw_274 zw_19 zw_275 zw_276 (by decide +kernel) (by decide +kernel : decode cX2_weight 78 = .ok (.invokestatic 235, 3)), Nat.le_of_ble_eq_true rfl, by decide +kernel, (fun h => absurd rfl (h.1))⟩)) (zleaf_ok (zs_i2d (by decide +kernel : decode cX2_weight 81 = .ok (.i2d, 1)))))) (znode_ok (zleaf_ok (zs_ldc2d zw_277 (by decide +kernel : decode cX2_weight 82 = .ok (.ldc2_w 238, 3)))) (znode_ok (zleaf_ok (zs_ddiv (by decide +kernel : decode cX2_weight 85 = .ok (.ddiv, 1)))) (zleaf_ok (Or.inr (Or.inr (Or.inr (Or.inl ⟨rfl, rfl, (by decide +kernel : decode cX2_weight 86 = .ok (.dreturn, 1))⟩))))))))))
/-- Creasebook.would(IIZZI)I -/
def zc_X2_would (pc : Nat) : Option zI := znode 36 pc (znode 15 pc (znode 8 pc (znode 2 pc (znode 1 pc (zleaf 0 pc (.inl (zLd zIsA 1 0))) (zleaf 1 pc (.inl (zLd zIsI 2 1)))) (znode 3 pc (zleaf 2 pc (.inl (zLd zIsI 3 2))) (znode 6 pc (zleaf 3 pc (.inr (.inr (.inr (66, 3, 0))))) (zleaf 6 pc (.inl (zLd zIsI 8 5)))))) (znode 12 pc (znode 9 pc (zleaf 8 pc (.inl (zS1 (zCst (.int 3) 9)))) (zleaf 9 pc (.inr (.inr (.inr (69, 2, 2)))))) (znode 13 pc (zleaf 12 pc (.inl (zLd zIsI 13 1))) (znode 14 pc (zleaf 13 pc (.inl (zLd zIsI 14 2))) (zleaf 14 pc (.inl (zLd zIsI 15 3))))))) (znode 25 pc (znode 20 pc (znode 17 pc (zleaf 15 pc (.inl (zLd zIsI 17 4))) (zleaf 17 pc (.inr (.inr (.inr (85, 4, 2)))))) (znode 22 pc (zleaf 20 pc (.inl (zSt1 zIsI 22 6))) (znode 24 pc (zleaf 22 pc (.inl (zLd zIsI 24 5))) (zleaf 24 pc (.inl (zS1 (zCst (.int 3) 25))))))) (znode 31 pc (znode 28 pc (zleaf 25 pc (.inl (zS1 (zIcmp (fun x y => decide (¬ x = y)) 35 28)))) (znode 29 pc (zleaf 28 pc (.inl (zLd zIsA 29 0))) (zleaf 29 pc (.inl (zLd zIsI 31 6))))) (znode 34 pc (zleaf 31 pc (.inr (.inr (.inr (73, 2, 0))))) (znode 35 pc (zleaf 34 pc (.inr (.inl 1))) (zleaf 35 pc (.inl (zLd zIsA 36 0)))))))) (znode 61 pc (znode 48 pc (znode 40 pc (znode 39 pc (zleaf 36 pc (.inl (zS2 (zGet 2 2 39)))) (zleaf 39 pc (.inl (zLd zIsA 40 0)))) (znode 43 pc (zleaf 40 pc (.inl (zS2 (zGet 2 1 43)))) (znode 45 pc (zleaf 43 pc (.inl (zLd zIsI 45 6))) (zleaf 45 pc (.inr (.inr (.inr (3, 3, 1)))))))) (znode 54 pc (znode 50 pc (zleaf 48 pc (.inl (zLd zIsI 50 5))) (znode 53 pc (zleaf 50 pc (.inl (zS1 (zIf (fun x => decide (¬ x = 0)) 61 53)))) (zleaf 53 pc (.inl (zLd zIsA 54 0))))) (znode 57 pc (zleaf 54 pc (.inl (zS2 (zGet 2 2 57)))) (znode 60 pc (zleaf 57 pc (.inr (.inr (.inr (23, 1, 1))))) (zleaf 60 pc (.inr (.inl 1))))))) (znode 71 pc (znode 64 pc (znode 63 pc (zleaf 61 pc (.inl (zLd zIsI 63 5))) (zleaf 63 pc (.inl (zS1 (zCst (.int 1) 64))))) (znode 67 pc (zleaf 64 pc (.inl (zS1 (zIcmp (fun x y => decide (¬ x = y)) 77 67)))) (znode 68 pc (zleaf 67 pc (.inl (zLd zIsA 68 0))) (zleaf 68 pc (.inl (zS2 (zGet 2 2 71))))))) (znode 78 pc (znode 74 pc (zleaf 71 pc (.inr (.inr (.inr (8, 1, 1))))) (znode 77 pc (zleaf 74 pc (.inl (zS1 (zGo 84)))) (zleaf 77 pc (.inl (zLd zIsA 78 0))))) (znode 81 pc (zleaf 78 pc (.inl (zS2 (zGet 2 2 81)))) (znode 84 pc (zleaf 81 pc (.inr (.inr (.inr (24, 1, 1))))) (zleaf 84 pc (.inr (.inl 1))))))))
theorem zk_X2_would (O : Nat → State → Heap → Prop) (E : zE) (l : Launch) : ∀ pc i, zc_X2_would pc = some i → zOK z_cl z_T z_G z_N O E z_yy z_bb z_nl z_cc z_rt z_hh l 60 pc i := fun pc => znode_ok (znode_ok (znode_ok (znode_ok (znode_ok (zleaf_ok (zs_aload_n (by decide +kernel : decode cX2_would 0 = .ok (.aload_n 0, 1)) rfl)) (zleaf_ok (zs_iload_n (by decide +kernel : decode cX2_would 1 = .ok (.iload_n 1, 1)) rfl))) (znode_ok (zleaf_ok (zs_iload_n (by decide +kernel : decode cX2_would 2 = .ok (.iload_n 2, 1)) rfl)) (znode_ok (zleaf_ok (⟨zcs0 (n := 2) z_good zw_129 zw_19 zw_130 zw_131 zw_132 (by decide +kernel) (by decide +kernel : decode cX2_would 3 = .ok (.invokevirtual 51, 3)), Nat.le_of_ble_eq_true rfl, by decide +kernel, (fun _ => ⟨TX2, 8, rfl⟩)⟩)) (zleaf_ok (zs_iload (by decide +kernel : decode cX2_would 6 = .ok (.iload 5, 2))))))) (znode_ok (znode_ok (zleaf_ok (zs_iconst (by decide) (by decide +kernel : decode cX2_would 8 = .ok (.iconst 3, 1)))) (zleaf_ok (⟨zcs2 (n := 2) z_good zw_207 zw_19 zw_208 zw_209 (by decide +kernel) (by decide +kernel : decode cX2_would 9 = .ok (.invokestatic 144, 3)), Nat.le_of_ble_eq_true rfl, by decide +kernel, (fun h => absurd rfl (h.1))⟩))) (znode_ok (zleaf_ok (zs_iload_n (by decide +kernel : decode cX2_would 12 = .ok (.iload_n 1, 1)) rfl)) (znode_ok (zleaf_ok (zs_iload_n (by decide +kernel : decode cX2_would 13 = .ok (.iload_n 2, 1)) rfl)) (zleaf_ok (zs_iload_n (by decide +kernel : decode cX2_would 14 = .ok (.iload_n 3, 1)) rfl)))))) (znode_ok (znode_ok (znode_ok (zleaf_ok (zs_iload (by decide +kernel : decode cX2_would 15 = .ok (.iload 4, 2)))) (zleaf_ok (⟨zcs2 (n := 4) z_good zw_134 zw_19 zw_135 zw_136 (by decide +kernel) (by decide +kernel : decode cX2_would 17 = .ok (.invokestatic 62, 3)), Nat.le_of_ble_eq_true rfl, by decide +kernel, (fun h => absurd rfl (h.1))⟩))) (znode_ok (zleaf_ok (zs_istore (Nat.le_of_ble_eq_true rfl) (by decide +kernel : decode cX2_would 20 = .ok (.istore 6, 2)))) (znode_ok (zleaf_ok (zs_iload (by decide +kernel : decode cX2_would 22 = .ok (.iload 5, 2)))) (zleaf_ok (zs_iconst (by decide) (by decide +kernel : decode cX2_would 24 = .ok (.iconst 3, 1))))))) (znode_ok (znode_ok (zleaf_ok (zs_icmp_ne (t := 35) (by decide) (by decide +kernel : decode cX2_would 25 = .ok (.if_icmp .ne 10, 3)))) (znode_ok (zleaf_ok (zs_aload_n (by decide +kernel : decode cX2_would 28 = .ok (.aload_n 0, 1)) rfl)) (zleaf_ok (zs_iload (by decide +kernel : decode cX2_would 29 = .ok (.iload 6, 2)))))) (znode_ok (zleaf_ok (⟨zcs0 (n := 1) z_good zw_278 zw_19 zw_279 zw_280 zw_281 (by decide +kernel) (by decide +kernel : decode cX2_would 31 = .ok (.invokevirtual 240, 3)), Nat.le_of_ble_eq_true rfl, by decide +kernel, (fun _ => ⟨TX2, 8, rfl⟩)⟩)) (znode_ok (zleaf_ok (Or.inr (Or.inl ⟨rfl, rfl, (by decide +kernel : decode cX2_would 34 = .ok (.ireturn, 1))⟩))) (zleaf_ok (zs_aload_n (by decide +kernel : decode cX2_would 35 = .ok (.aload_n 0, 1)) rfl))))))) (znode_ok (znode_ok (znode_ok (znode_ok (zleaf_ok (zs_get (C := RX2) (Tc := TX2) (Nc := 8) rfl zinX2 (Nat.le_of_ble_eq_true rfl) zw_120 (by decide +kernel : decode cX2_would 36 = .ok (.getfield 23, 3)))) (zleaf_ok (zs_aload_n (by decide +kernel : decode cX2_would 39 = .ok (.aload_n 0, 1)) rfl))) (znode_ok (zleaf_ok (zs_get (C := RX2) (Tc := TX2) (Nc := 8) rfl zinX2 (Nat.le_of_ble_eq_true rfl) zw_119 (by decide +kernel : decode cX2_would 40 = .ok (.getfield 19, 3)))) (znode_ok (zleaf_ok (zs_iload (by decide +kernel : decode cX2_would 43 = .ok (.iload 6, 2)))) (zleaf_ok (⟨zcs1 (n := 2) z_good zw_150 zw_14 zw_151 zw_152 zw_153 (by decide +kernel) (by decide +kernel : decode cX2_would 45 = .ok (.invokevirtual 80, 3)), Nat.le_of_ble_eq_true rfl, by decide +kernel, (fun _ => ⟨TX0, 8, rfl⟩)⟩))))) (znode_ok (znode_ok (zleaf_ok (zs_iload (by decide +kernel : decode cX2_would 48 = .ok (.iload 5, 2)))) (znode_ok (zleaf_ok (zs_if_ne (t := 61) (by decide) (by decide +kernel : decode cX2_would 50 = .ok (.ifCond .ne 11, 3)))) (zleaf_ok (zs_aload_n (by decide +kernel : decode cX2_would 53 = .ok (.aload_n 0, 1)) rfl)))) (znode_ok (zleaf_ok (zs_get (C := RX2) (Tc := TX2) (Nc := 8) rfl zinX2 (Nat.le_of_ble_eq_true rfl) zw_120 (by decide +kernel : decode cX2_would 54 = .ok (.getfield 23, 3)))) (znode_ok (zleaf_ok (⟨zcs1 (n := 0) z_good zw_266 zw_14 zw_267 zw_268 zw_269 (by decide +kernel) (by decide +kernel : decode cX2_would 57 = .ok (.invokevirtual 227, 3)), Nat.le_of_ble_eq_true rfl, by decide +kernel, (fun _ => ⟨TX0, 8, rfl⟩)⟩)) (zleaf_ok (Or.inr (Or.inl ⟨rfl, rfl, (by decide +kernel : decode cX2_would 60 = .ok (.ireturn, 1))⟩))))))) (znode_ok (znode_ok (znode_ok (zleaf_ok (zs_iload (by decide +kernel : decode cX2_would 61 = .ok (.iload 5, 2)))) (zleaf_ok (zs_iconst (by decide) (by decide +kernel : decode cX2_would 63 = .ok (.iconst 1, 1))))) (znode_ok (zleaf_ok (zs_icmp_ne (t := 77) (by decide) (by decide +kernel : decode cX2_would 64 = .ok (.if_icmp .ne 13, 3)))) (znode_ok (zleaf_ok (zs_aload_n (by decide +kernel : decode cX2_would 67 = .ok (.aload_n 0, 1)) rfl)) (zleaf_ok (zs_get (C := RX2) (Tc := TX2) (Nc := 8) rfl zinX2 (Nat.le_of_ble_eq_true rfl) zw_120 (by decide +kernel : decode cX2_would 68 = .ok (.getfield 23, 3))))))) (znode_ok (znode_ok (zleaf_ok (⟨zcs1 (n := 0) z_good zw_282 zw_14 zw_283 zw_284 zw_285 (by decide +kernel) (by decide +kernel : decode cX2_would 71 = .ok (.invokevirtual 243, 3)), Nat.le_of_ble_eq_true rfl, by decide +kernel, (fun _ => ⟨TX0, 8, rfl⟩)⟩)) (znode_ok (zleaf_ok (zs_goto (t := 84) (by decide) (by decide +kernel : decode cX2_would 74 = .ok (.goto 10, 3)))) (zleaf_ok (zs_aload_n (by decide +kernel : decode cX2_would 77 = .ok (.aload_n 0, 1)) rfl)))) (znode_ok (zleaf_ok (zs_get (C := RX2) (Tc := TX2) (Nc := 8) rfl zinX2 (Nat.le_of_ble_eq_true rfl) zw_120 (by decide +kernel : decode cX2_would 78 = .ok (.getfield 23, 3)))) (znode_ok (zleaf_ok (⟨zcs1 (n := 0) z_good zw_167 zw_14 zw_168 zw_169 zw_170 (by decide +kernel) (by decide +kernel : decode cX2_would 81 = .ok (.invokevirtual 98, 3)), Nat.le_of_ble_eq_true rfl, by decide +kernel, (fun _ => ⟨TX0, 8, rfl⟩)⟩)) (zleaf_ok (Or.inr (Or.inl ⟨rfl, rfl, (by decide +kernel : decode cX2_would 84 = .ok (.ireturn, 1))⟩))))))))
/-- Creasebook.bestFold()I -/
def zc_X2_bestFold (pc : Nat) : Option zI := znode 54 pc (znode 21 pc (znode 6 pc (znode 3 pc (znode 1 pc (zleaf 0 pc (.inl (zS1 (zCst (.int (-1)) 1)))) (znode 2 pc (zleaf 1 pc (.inl (zSt1 zIsI 2 1))) (zleaf 2 pc (.inl (zS1 (zCst (.int 0) 3)))))) (znode 4 pc (zleaf 3 pc (.inl (zSt1 zIsI 4 2))) (znode 5 pc (zleaf 4 pc (.inl (zS1 (zCst (.int 0) 5)))) (zleaf 5 pc (.inl (zSt1 zIsI 6 3)))))) (znode 12 pc (znode 8 pc (zleaf 6 pc (.inl (zS1 (zCst (.int 8) 8)))) (znode 10 pc (zleaf 8 pc (.inl (zSt1 zIsI 10 4))) (zleaf 10 pc (.inl (zLd zIsI 12 4))))) (znode 17 pc (znode 14 pc (zleaf 12 pc (.inl (zS1 (zCst (.int 63) 14)))) (zleaf 14 pc (.inl (zS1 (zIcmp (fun x y => decide (y < x)) 106 17))))) (znode 18 pc (zleaf 17 pc (.inl (zLd zIsA 18 0))) (zleaf 18 pc (.inl (zS2 (zGet 2 1 21)))))))) (znode 38 pc (znode 28 pc (znode 23 pc (zleaf 21 pc (.inl (zLd zIsI 23 4))) (znode 26 pc (zleaf 23 pc (.inr (.inr (.inr (87, 1, 2))))) (zleaf 26 pc (.inl (zLd zIsI 28 4))))) (znode 34 pc (znode 31 pc (zleaf 28 pc (.inr (.inr (.inr (86, 1, 2))))) (zleaf 31 pc (.inr (.inr (.inr (10, 3, 1)))))) (znode 37 pc (zleaf 34 pc (.inl (zS1 (zIf (fun x => decide (x = 0)) 100 37)))) (zleaf 37 pc (.inl (zLd zIsA 38 0)))))) (znode 45 pc (znode 41 pc (zleaf 38 pc (.inl (zS2 (zGet 2 2 41)))) (znode 42 pc (zleaf 41 pc (.inl (zLd zIsA 42 0))) (zleaf 42 pc (.inl (zS2 (zGet 2 1 45)))))) (znode 50 pc (znode 47 pc (zleaf 45 pc (.inl (zLd zIsI 47 4))) (zleaf 47 pc (.inr (.inr (.inr (3, 3, 1)))))) (znode 51 pc (zleaf 50 pc (.inl (zLd zIsA 51 0))) (zleaf 51 pc (.inl (zS2 (zGet 2 2 54))))))))) (znode 82 pc (znode 69 pc (znode 60 pc (znode 57 pc (zleaf 54 pc (.inr (.inr (.inr (8, 1, 1))))) (znode 59 pc (zleaf 57 pc (.inl (zSt1 zIsI 59 5))) (zleaf 59 pc (.inl (zLd zIsA 60 0))))) (znode 66 pc (znode 63 pc (zleaf 60 pc (.inl (zS2 (zGet 2 2 63)))) (zleaf 63 pc (.inr (.inr (.inr (24, 1, 1)))))) (znode 68 pc (zleaf 66 pc (.inl (zSt1 zIsI 68 6))) (zleaf 68 pc (.inl (zLd zIsI 69 1)))))) (znode 75 pc (znode 70 pc (zleaf 69 pc (.inl (zS1 (zCst (.int (-1)) 70)))) (znode 73 pc (zleaf 70 pc (.inl (zS1 (zIcmp (fun x y => decide (x = y)) 91 73)))) (zleaf 73 pc (.inl (zLd zIsI 75 5))))) (znode 79 pc (znode 76 pc (zleaf 75 pc (.inl (zLd zIsI 76 2))) (zleaf 76 pc (.inl (zS1 (zIcmp (fun x y => decide (x < y)) 91 79))))) (znode 81 pc (zleaf 79 pc (.inl (zLd zIsI 81 5))) (zleaf 81 pc (.inl (zLd zIsI 82 2))))))) (znode 96 pc (znode 88 pc (znode 85 pc (zleaf 82 pc (.inl (zS1 (zIcmp (fun x y => decide (¬ x = y)) 100 85)))) (znode 87 pc (zleaf 85 pc (.inl (zLd zIsI 87 6))) (zleaf 87 pc (.inl (zLd zIsI 88 3))))) (znode 93 pc (znode 91 pc (zleaf 88 pc (.inl (zS1 (zIcmp (fun x y => decide (x ≤ y)) 100 91)))) (zleaf 91 pc (.inl (zLd zIsI 93 4)))) (znode 94 pc (zleaf 93 pc (.inl (zSt1 zIsI 94 1))) (zleaf 94 pc (.inl (zLd zIsI 96 5)))))) (znode 100 pc (znode 97 pc (zleaf 96 pc (.inl (zSt1 zIsI 97 2))) (znode 99 pc (zleaf 97 pc (.inl (zLd zIsI 99 6))) (zleaf 99 pc (.inl (zSt1 zIsI 100 3))))) (znode 106 pc (znode 103 pc (zleaf 100 pc (.inl (zIinc 103 4 1))) (zleaf 103 pc (.inl (zS1 (zGo 10))))) (znode 107 pc (zleaf 106 pc (.inl (zLd zIsI 107 1))) (zleaf 107 pc (.inr (.inl 1))))))))
theorem zk_X2_bestFold (O : Nat → State → Heap → Prop) (E : zE) (l : Launch) : ∀ pc i, zc_X2_bestFold pc = some i → zOK z_cl z_T z_G z_N O E z_yy z_bb z_nl z_cc z_rt z_hh l 61 pc i := fun pc => znode_ok (znode_ok (znode_ok (znode_ok (znode_ok (zleaf_ok (zs_iconst (by decide) (by decide +kernel : decode cX2_bestFold 0 = .ok (.iconst (-1), 1)))) (znode_ok (zleaf_ok (zs_istore_n (Nat.le_of_ble_eq_true rfl) (by decide +kernel : decode cX2_bestFold 1 = .ok (.istore_n 1, 1)) rfl)) (zleaf_ok (zs_iconst (by decide) (by decide +kernel : decode cX2_bestFold 2 = .ok (.iconst 0, 1)))))) (znode_ok (zleaf_ok (zs_istore_n (Nat.le_of_ble_eq_true rfl) (by decide +kernel : decode cX2_bestFold 3 = .ok (.istore_n 2, 1)) rfl)) (znode_ok (zleaf_ok (zs_iconst (by decide) (by decide +kernel : decode cX2_bestFold 4 = .ok (.iconst 0, 1)))) (zleaf_ok (zs_istore_n (Nat.le_of_ble_eq_true rfl) (by decide +kernel : decode cX2_bestFold 5 = .ok (.istore_n 3, 1)) rfl))))) (znode_ok (znode_ok (zleaf_ok (zs_bipush (by decide) (by decide +kernel : decode cX2_bestFold 6 = .ok (.bipush 8, 2)))) (znode_ok (zleaf_ok (zs_istore (Nat.le_of_ble_eq_true rfl) (by decide +kernel : decode cX2_bestFold 8 = .ok (.istore 4, 2)))) (zleaf_ok (zs_iload (by decide +kernel : decode cX2_bestFold 10 = .ok (.iload 4, 2)))))) (znode_ok (znode_ok (zleaf_ok (zs_bipush (by decide) (by decide +kernel : decode cX2_bestFold 12 = .ok (.bipush 63, 2)))) (zleaf_ok (zs_icmp_gt (t := 106) (by decide) (by decide +kernel : decode cX2_bestFold 14 = .ok (.if_icmp .gt 92, 3))))) (znode_ok (zleaf_ok (zs_aload_n (by decide +kernel : decode cX2_bestFold 17 = .ok (.aload_n 0, 1)) rfl)) (zleaf_ok (zs_get (C := RX2) (Tc := TX2) (Nc := 8) rfl zinX2 (Nat.le_of_ble_eq_true rfl) zw_119 (by decide +kernel : decode cX2_bestFold 18 = .ok (.getfield 19, 3)))))))) (znode_ok (znode_ok (znode_ok (zleaf_ok (zs_iload (by decide +kernel : decode cX2_bestFold 21 = .ok (.iload 4, 2)))) (znode_ok (zleaf_ok (⟨zcs2 (n := 1) z_good zw_18 zw_19 zw_286 zw_21 (by decide +kernel) (by decide +kernel : decode cX2_bestFold 23 = .ok (.invokestatic 246, 3)), Nat.le_of_ble_eq_true rfl, by decide +kernel, (fun h => absurd rfl (h.1))⟩)) (zleaf_ok (zs_iload (by decide +kernel : decode cX2_bestFold 26 = .ok (.iload 4, 2)))))) (znode_ok (znode_ok (zleaf_ok (⟨zcs2 (n := 1) z_good zw_22 zw_19 zw_287 zw_24 (by decide +kernel) (by decide +kernel : decode cX2_bestFold 28 = .ok (.invokestatic 249, 3)), Nat.le_of_ble_eq_true rfl, by decide +kernel, (fun h => absurd rfl (h.1))⟩)) (zleaf_ok (⟨zcs1 (n := 2) z_good zw_288 zw_14 zw_289 zw_290 zw_291 (by decide +kernel) (by decide +kernel : decode cX2_bestFold 31 = .ok (.invokevirtual 252, 3)), Nat.le_of_ble_eq_true rfl, by decide +kernel, (fun _ => ⟨TX0, 8, rfl⟩)⟩))) (znode_ok (zleaf_ok (zs_if_eq (t := 100) (by decide) (by decide +kernel : decode cX2_bestFold 34 = .ok (.ifCond .eq 66, 3)))) (zleaf_ok (zs_aload_n (by decide +kernel : decode cX2_bestFold 37 = .ok (.aload_n 0, 1)) rfl))))) (znode_ok (znode_ok (zleaf_ok (zs_get (C := RX2) (Tc := TX2) (Nc := 8) rfl zinX2 (Nat.le_of_ble_eq_true rfl) zw_120 (by decide +kernel : decode cX2_bestFold 38 = .ok (.getfield 23, 3)))) (znode_ok (zleaf_ok (zs_aload_n (by decide +kernel : decode cX2_bestFold 41 = .ok (.aload_n 0, 1)) rfl)) (zleaf_ok (zs_get (C := RX2) (Tc := TX2) (Nc := 8) rfl zinX2 (Nat.le_of_ble_eq_true rfl) zw_119 (by decide +kernel : decode cX2_bestFold 42 = .ok (.getfield 19, 3)))))) (znode_ok (znode_ok (zleaf_ok (zs_iload (by decide +kernel : decode cX2_bestFold 45 = .ok (.iload 4, 2)))) (zleaf_ok (⟨zcs1 (n := 2) z_good zw_150 zw_14 zw_151 zw_152 zw_153 (by decide +kernel) (by decide +kernel : decode cX2_bestFold 47 = .ok (.invokevirtual 80, 3)), Nat.le_of_ble_eq_true rfl, by decide +kernel, (fun _ => ⟨TX0, 8, rfl⟩)⟩))) (znode_ok (zleaf_ok (zs_aload_n (by decide +kernel : decode cX2_bestFold 50 = .ok (.aload_n 0, 1)) rfl)) (zleaf_ok (zs_get (C := RX2) (Tc := TX2) (Nc := 8) rfl zinX2 (Nat.le_of_ble_eq_true rfl) zw_120 (by decide +kernel : decode cX2_bestFold 51 = .ok (.getfield 23, 3))))))))) (znode_ok (znode_ok (znode_ok (znode_ok (zleaf_ok (⟨zcs1 (n := 0) z_good zw_282 zw_14 zw_283 zw_284 zw_285 (by decide +kernel) (by decide +kernel : decode cX2_bestFold 54 = .ok (.invokevirtual 243, 3)), Nat.le_of_ble_eq_true rfl, by decide +kernel, (fun _ => ⟨TX0, 8, rfl⟩)⟩)) (znode_ok (zleaf_ok (zs_istore (Nat.le_of_ble_eq_true rfl) (by decide +kernel : decode cX2_bestFold 57 = .ok (.istore 5, 2)))) (zleaf_ok (zs_aload_n (by decide +kernel : decode cX2_bestFold 59 = .ok (.aload_n 0, 1)) rfl)))) (znode_ok (znode_ok (zleaf_ok (zs_get (C := RX2) (Tc := TX2) (Nc := 8) rfl zinX2 (Nat.le_of_ble_eq_true rfl) zw_120 (by decide +kernel : decode cX2_bestFold 60 = .ok (.getfield 23, 3)))) (zleaf_ok (⟨zcs1 (n := 0) z_good zw_167 zw_14 zw_168 zw_169 zw_170 (by decide +kernel) (by decide +kernel : decode cX2_bestFold 63 = .ok (.invokevirtual 98, 3)), Nat.le_of_ble_eq_true rfl, by decide +kernel, (fun _ => ⟨TX0, 8, rfl⟩)⟩))) (znode_ok (zleaf_ok (zs_istore (Nat.le_of_ble_eq_true rfl) (by decide +kernel : decode cX2_bestFold 66 = .ok (.istore 6, 2)))) (zleaf_ok (zs_iload_n (by decide +kernel : decode cX2_bestFold 68 = .ok (.iload_n 1, 1)) rfl))))) (znode_ok (znode_ok (zleaf_ok (zs_iconst (by decide) (by decide +kernel : decode cX2_bestFold 69 = .ok (.iconst (-1), 1)))) (znode_ok (zleaf_ok (zs_icmp_eq (t := 91) (by decide) (by decide +kernel : decode cX2_bestFold 70 = .ok (.if_icmp .eq 21, 3)))) (zleaf_ok (zs_iload (by decide +kernel : decode cX2_bestFold 73 = .ok (.iload 5, 2)))))) (znode_ok (znode_ok (zleaf_ok (zs_iload_n (by decide +kernel : decode cX2_bestFold 75 = .ok (.iload_n 2, 1)) rfl)) (zleaf_ok (zs_icmp_lt (t := 91) (by decide) (by decide +kernel : decode cX2_bestFold 76 = .ok (.if_icmp .lt 15, 3))))) (znode_ok (zleaf_ok (zs_iload (by decide +kernel : decode cX2_bestFold 79 = .ok (.iload 5, 2)))) (zleaf_ok (zs_iload_n (by decide +kernel : decode cX2_bestFold 81 = .ok (.iload_n 2, 1)) rfl)))))) (znode_ok (znode_ok (znode_ok (zleaf_ok (zs_icmp_ne (t := 100) (by decide) (by decide +kernel : decode cX2_bestFold 82 = .ok (.if_icmp .ne 18, 3)))) (znode_ok (zleaf_ok (zs_iload (by decide +kernel : decode cX2_bestFold 85 = .ok (.iload 6, 2)))) (zleaf_ok (zs_iload_n (by decide +kernel : decode cX2_bestFold 87 = .ok (.iload_n 3, 1)) rfl)))) (znode_ok (znode_ok (zleaf_ok (zs_icmp_le (t := 100) (by decide) (by decide +kernel : decode cX2_bestFold 88 = .ok (.if_icmp .le 12, 3)))) (zleaf_ok (zs_iload (by decide +kernel : decode cX2_bestFold 91 = .ok (.iload 4, 2))))) (znode_ok (zleaf_ok (zs_istore_n (Nat.le_of_ble_eq_true rfl) (by decide +kernel : decode cX2_bestFold 93 = .ok (.istore_n 1, 1)) rfl)) (zleaf_ok (zs_iload (by decide +kernel : decode cX2_bestFold 94 = .ok (.iload 5, 2))))))) (znode_ok (znode_ok (zleaf_ok (zs_istore_n (Nat.le_of_ble_eq_true rfl) (by decide +kernel : decode cX2_bestFold 96 = .ok (.istore_n 2, 1)) rfl)) (znode_ok (zleaf_ok (zs_iload (by decide +kernel : decode cX2_bestFold 97 = .ok (.iload 6, 2)))) (zleaf_ok (zs_istore_n (Nat.le_of_ble_eq_true rfl) (by decide +kernel : decode cX2_bestFold 99 = .ok (.istore_n 3, 1)) rfl)))) (znode_ok (znode_ok (zleaf_ok (zs_iinc (Nat.le_of_ble_eq_true rfl) (by decide) (by decide +kernel : decode cX2_bestFold 100 = .ok (.iinc 4 1, 3)))) (zleaf_ok (zs_goto (t := 10) (by decide) (by decide +kernel : decode cX2_bestFold 103 = .ok (.goto (-93), 3))))) (znode_ok (zleaf_ok (zs_iload_n (by decide +kernel : decode cX2_bestFold 106 = .ok (.iload_n 1, 1)) rfl)) (zleaf_ok (Or.inr (Or.inl ⟨rfl, rfl, (by decide +kernel : decode cX2_bestFold 107 = .ok (.ireturn, 1))⟩))))))))
/-- Creasebook.bring(II)I -/
def zc_X2_bring (pc : Nat) : Option zI := znode 52 pc (znode 30 pc (znode 10 pc (znode 5 pc (znode 1 pc (zleaf 0 pc (.inl (zLd zIsA 1 0))) (znode 2 pc (zleaf 1 pc (.inl (zLd zIsI 2 1))) (zleaf 2 pc (.inr (.inr (.inr (68, 2, 0))))))) (znode 6 pc (zleaf 5 pc (.inl (zLd zIsA 6 0))) (znode 7 pc (zleaf 6 pc (.inl (zLd zIsI 7 2))) (zleaf 7 pc (.inr (.inr (.inr (68, 2, 0)))))))) (znode 25 pc (znode 11 pc (zleaf 10 pc (.inl (zLd zIsI 11 1))) (znode 12 pc (zleaf 11 pc (.inl (zLd zIsI 12 2))) (zleaf 12 pc (.inl (zS1 (zIcmp (fun x y => decide (¬ x = y)) 25 15)))))) (znode 26 pc (zleaf 25 pc (.inl (zLd zIsA 26 0))) (znode 29 pc (zleaf 26 pc (.inl (zS2 (zGet 2 1 29)))) (zleaf 29 pc (.inl (zLd zIsI 30 1))))))) (znode 41 pc (znode 37 pc (znode 31 pc (zleaf 30 pc (.inl (zLd zIsI 31 2))) (znode 34 pc (zleaf 31 pc (.inr (.inr (.inr (18, 3, 1))))) (zleaf 34 pc (.inl (zS1 (zIf (fun x => decide (x = 0)) 39 37)))))) (znode 38 pc (zleaf 37 pc (.inl (zS1 (zCst (.int 0) 38)))) (znode 39 pc (zleaf 38 pc (.inr (.inl 1))) (zleaf 39 pc (.inl (zS1 (zCst (.int 8) 41))))))) (znode 45 pc (znode 42 pc (zleaf 41 pc (.inl (zSt1 zIsI 42 3))) (znode 43 pc (zleaf 42 pc (.inl (zLd zIsI 43 3))) (zleaf 43 pc (.inl (zS1 (zCst (.int 63) 45)))))) (znode 48 pc (zleaf 45 pc (.inl (zS1 (zIcmp (fun x y => decide (y < x)) 98 48)))) (znode 49 pc (zleaf 48 pc (.inl (zLd zIsA 49 0))) (zleaf 49 pc (.inl (zS2 (zGet 2 1 52))))))))) (znode 78 pc (znode 66 pc (znode 57 pc (znode 53 pc (zleaf 52 pc (.inl (zLd zIsI 53 3))) (znode 56 pc (zleaf 53 pc (.inr (.inr (.inr (87, 1, 2))))) (zleaf 56 pc (.inl (zLd zIsI 57 3))))) (znode 60 pc (zleaf 57 pc (.inr (.inr (.inr (86, 1, 2))))) (znode 63 pc (zleaf 60 pc (.inr (.inr (.inr (10, 3, 1))))) (zleaf 63 pc (.inl (zS1 (zIf (fun x => decide (x = 0)) 92 66))))))) (znode 71 pc (znode 67 pc (zleaf 66 pc (.inl (zLd zIsA 67 0))) (znode 70 pc (zleaf 67 pc (.inl (zS2 (zGet 2 2 70)))) (zleaf 70 pc (.inl (zLd zIsA 71 0))))) (znode 74 pc (zleaf 71 pc (.inl (zS2 (zGet 2 1 74)))) (znode 75 pc (zleaf 74 pc (.inl (zLd zIsI 75 3))) (zleaf 75 pc (.inr (.inr (.inr (3, 3, 1))))))))) (znode 90 pc (znode 83 pc (znode 79 pc (zleaf 78 pc (.inl (zLd zIsA 79 0))) (znode 82 pc (zleaf 79 pc (.inl (zS2 (zGet 2 2 82)))) (zleaf 82 pc (.inl (zLd zIsI 83 1))))) (znode 84 pc (zleaf 83 pc (.inl (zLd zIsI 84 2))) (znode 87 pc (zleaf 84 pc (.inr (.inr (.inr (18, 3, 1))))) (zleaf 87 pc (.inl (zS1 (zIf (fun x => decide (x = 0)) 92 90))))))) (znode 95 pc (znode 91 pc (zleaf 90 pc (.inl (zLd zIsI 91 3))) (znode 92 pc (zleaf 91 pc (.inr (.inl 1))) (zleaf 92 pc (.inl (zIinc 95 3 1))))) (znode 98 pc (zleaf 95 pc (.inl (zS1 (zGo 42)))) (znode 99 pc (zleaf 98 pc (.inl (zS1 (zCst (.int (-1)) 99)))) (zleaf 99 pc (.inr (.inl 1))))))))
theorem zk_X2_bring (O : Nat → State → Heap → Prop) (E : zE) (l : Launch) : ∀ pc i, zc_X2_bring pc = some i → zOK z_cl z_T z_G z_N O E z_yy z_bb z_nl z_cc z_rt z_hh l 62 pc i := fun pc => znode_ok (znode_ok (znode_ok (znode_ok (znode_ok (zleaf_ok (zs_aload_n (by decide +kernel : decode cX2_bring 0 = .ok (.aload_n 0, 1)) rfl)) (znode_ok (zleaf_ok (zs_iload_n (by decide +kernel : decode cX2_bring 1 = .ok (.iload_n 1, 1)) rfl)) (zleaf_ok (⟨zcs0 (n := 1) z_good zw_223 zw_19 zw_224 zw_225 zw_226 (by decide +kernel) (by decide +kernel : decode cX2_bring 2 = .ok (.invokevirtual 165, 3)), Nat.le_of_ble_eq_true rfl, by decide +kernel, (fun _ => ⟨TX2, 8, rfl⟩)⟩)))) (znode_ok (zleaf_ok (zs_aload_n (by decide +kernel : decode cX2_bring 5 = .ok (.aload_n 0, 1)) rfl)) (znode_ok (zleaf_ok (zs_iload_n (by decide +kernel : decode cX2_bring 6 = .ok (.iload_n 2, 1)) rfl)) (zleaf_ok (⟨zcs0 (n := 1) z_good zw_223 zw_19 zw_224 zw_225 zw_226 (by decide +kernel) (by decide +kernel : decode cX2_bring 7 = .ok (.invokevirtual 165, 3)), Nat.le_of_ble_eq_true rfl, by decide +kernel, (fun _ => ⟨TX2, 8, rfl⟩)⟩))))) (znode_ok (znode_ok (zleaf_ok (zs_iload_n (by decide +kernel : decode cX2_bring 10 = .ok (.iload_n 1, 1)) rfl)) (znode_ok (zleaf_ok (zs_iload_n (by decide +kernel : decode cX2_bring 11 = .ok (.iload_n 2, 1)) rfl)) (zleaf_ok (zs_icmp_ne (t := 25) (by decide) (by decide +kernel : decode cX2_bring 12 = .ok (.if_icmp .ne 13, 3)))))) (znode_ok (zleaf_ok (zs_aload_n (by decide +kernel : decode cX2_bring 25 = .ok (.aload_n 0, 1)) rfl)) (znode_ok (zleaf_ok (zs_get (C := RX2) (Tc := TX2) (Nc := 8) rfl zinX2 (Nat.le_of_ble_eq_true rfl) zw_119 (by decide +kernel : decode cX2_bring 26 = .ok (.getfield 19, 3)))) (zleaf_ok (zs_iload_n (by decide +kernel : decode cX2_bring 29 = .ok (.iload_n 1, 1)) rfl)))))) (znode_ok (znode_ok (znode_ok (zleaf_ok (zs_iload_n (by decide +kernel : decode cX2_bring 30 = .ok (.iload_n 2, 1)) rfl)) (znode_ok (zleaf_ok (⟨zcs1 (n := 2) z_good zw_292 zw_14 zw_293 zw_294 zw_295 (by decide +kernel) (by decide +kernel : decode cX2_bring 31 = .ok (.invokevirtual 257, 3)), Nat.le_of_ble_eq_true rfl, by decide +kernel, (fun _ => ⟨TX0, 8, rfl⟩)⟩)) (zleaf_ok (zs_if_eq (t := 39) (by decide) (by decide +kernel : decode cX2_bring 34 = .ok (.ifCond .eq 5, 3)))))) (znode_ok (zleaf_ok (zs_iconst (by decide) (by decide +kernel : decode cX2_bring 37 = .ok (.iconst 0, 1)))) (znode_ok (zleaf_ok (Or.inr (Or.inl ⟨rfl, rfl, (by decide +kernel : decode cX2_bring 38 = .ok (.ireturn, 1))⟩))) (zleaf_ok (zs_bipush (by decide) (by decide +kernel : decode cX2_bring 39 = .ok (.bipush 8, 2))))))) (znode_ok (znode_ok (zleaf_ok (zs_istore_n (Nat.le_of_ble_eq_true rfl) (by decide +kernel : decode cX2_bring 41 = .ok (.istore_n 3, 1)) rfl)) (znode_ok (zleaf_ok (zs_iload_n (by decide +kernel : decode cX2_bring 42 = .ok (.iload_n 3, 1)) rfl)) (zleaf_ok (zs_bipush (by decide) (by decide +kernel : decode cX2_bring 43 = .ok (.bipush 63, 2)))))) (znode_ok (zleaf_ok (zs_icmp_gt (t := 98) (by decide) (by decide +kernel : decode cX2_bring 45 = .ok (.if_icmp .gt 53, 3)))) (znode_ok (zleaf_ok (zs_aload_n (by decide +kernel : decode cX2_bring 48 = .ok (.aload_n 0, 1)) rfl)) (zleaf_ok (zs_get (C := RX2) (Tc := TX2) (Nc := 8) rfl zinX2 (Nat.le_of_ble_eq_true rfl) zw_119 (by decide +kernel : decode cX2_bring 49 = .ok (.getfield 19, 3))))))))) (znode_ok (znode_ok (znode_ok (znode_ok (zleaf_ok (zs_iload_n (by decide +kernel : decode cX2_bring 52 = .ok (.iload_n 3, 1)) rfl)) (znode_ok (zleaf_ok (⟨zcs2 (n := 1) z_good zw_18 zw_19 zw_286 zw_21 (by decide +kernel) (by decide +kernel : decode cX2_bring 53 = .ok (.invokestatic 246, 3)), Nat.le_of_ble_eq_true rfl, by decide +kernel, (fun h => absurd rfl (h.1))⟩)) (zleaf_ok (zs_iload_n (by decide +kernel : decode cX2_bring 56 = .ok (.iload_n 3, 1)) rfl)))) (znode_ok (zleaf_ok (⟨zcs2 (n := 1) z_good zw_22 zw_19 zw_287 zw_24 (by decide +kernel) (by decide +kernel : decode cX2_bring 57 = .ok (.invokestatic 249, 3)), Nat.le_of_ble_eq_true rfl, by decide +kernel, (fun h => absurd rfl (h.1))⟩)) (znode_ok (zleaf_ok (⟨zcs1 (n := 2) z_good zw_288 zw_14 zw_289 zw_290 zw_291 (by decide +kernel) (by decide +kernel : decode cX2_bring 60 = .ok (.invokevirtual 252, 3)), Nat.le_of_ble_eq_true rfl, by decide +kernel, (fun _ => ⟨TX0, 8, rfl⟩)⟩)) (zleaf_ok (zs_if_eq (t := 92) (by decide) (by decide +kernel : decode cX2_bring 63 = .ok (.ifCond .eq 29, 3))))))) (znode_ok (znode_ok (zleaf_ok (zs_aload_n (by decide +kernel : decode cX2_bring 66 = .ok (.aload_n 0, 1)) rfl)) (znode_ok (zleaf_ok (zs_get (C := RX2) (Tc := TX2) (Nc := 8) rfl zinX2 (Nat.le_of_ble_eq_true rfl) zw_120 (by decide +kernel : decode cX2_bring 67 = .ok (.getfield 23, 3)))) (zleaf_ok (zs_aload_n (by decide +kernel : decode cX2_bring 70 = .ok (.aload_n 0, 1)) rfl)))) (znode_ok (zleaf_ok (zs_get (C := RX2) (Tc := TX2) (Nc := 8) rfl zinX2 (Nat.le_of_ble_eq_true rfl) zw_119 (by decide +kernel : decode cX2_bring 71 = .ok (.getfield 19, 3)))) (znode_ok (zleaf_ok (zs_iload_n (by decide +kernel : decode cX2_bring 74 = .ok (.iload_n 3, 1)) rfl)) (zleaf_ok (⟨zcs1 (n := 2) z_good zw_150 zw_14 zw_151 zw_152 zw_153 (by decide +kernel) (by decide +kernel : decode cX2_bring 75 = .ok (.invokevirtual 80, 3)), Nat.le_of_ble_eq_true rfl, by decide +kernel, (fun _ => ⟨TX0, 8, rfl⟩)⟩)))))) (znode_ok (znode_ok (znode_ok (zleaf_ok (zs_aload_n (by decide +kernel : decode cX2_bring 78 = .ok (.aload_n 0, 1)) rfl)) (znode_ok (zleaf_ok (zs_get (C := RX2) (Tc := TX2) (Nc := 8) rfl zinX2 (Nat.le_of_ble_eq_true rfl) zw_120 (by decide +kernel : decode cX2_bring 79 = .ok (.getfield 23, 3)))) (zleaf_ok (zs_iload_n (by decide +kernel : decode cX2_bring 82 = .ok (.iload_n 1, 1)) rfl)))) (znode_ok (zleaf_ok (zs_iload_n (by decide +kernel : decode cX2_bring 83 = .ok (.iload_n 2, 1)) rfl)) (znode_ok (zleaf_ok (⟨zcs1 (n := 2) z_good zw_292 zw_14 zw_293 zw_294 zw_295 (by decide +kernel) (by decide +kernel : decode cX2_bring 84 = .ok (.invokevirtual 257, 3)), Nat.le_of_ble_eq_true rfl, by decide +kernel, (fun _ => ⟨TX0, 8, rfl⟩)⟩)) (zleaf_ok (zs_if_eq (t := 92) (by decide) (by decide +kernel : decode cX2_bring 87 = .ok (.ifCond .eq 5, 3))))))) (znode_ok (znode_ok (zleaf_ok (zs_iload_n (by decide +kernel : decode cX2_bring 90 = .ok (.iload_n 3, 1)) rfl)) (znode_ok (zleaf_ok (Or.inr (Or.inl ⟨rfl, rfl, (by decide +kernel : decode cX2_bring 91 = .ok (.ireturn, 1))⟩))) (zleaf_ok (zs_iinc (Nat.le_of_ble_eq_true rfl) (by decide) (by decide +kernel : decode cX2_bring 92 = .ok (.iinc 3 1, 3)))))) (znode_ok (zleaf_ok (zs_goto (t := 42) (by decide) (by decide +kernel : decode cX2_bring 95 = .ok (.goto (-53), 3)))) (znode_ok (zleaf_ok (zs_iconst (by decide) (by decide +kernel : decode cX2_bring 98 = .ok (.iconst (-1), 1)))) (zleaf_ok (Or.inr (Or.inl ⟨rfl, rfl, (by decide +kernel : decode cX2_bring 99 = .ok (.ireturn, 1))⟩))))))))
/-- Creasebook.fewest()I -/
def zc_X2_fewest (pc : Nat) : Option zI := znode 11 pc (znode 4 pc (znode 1 pc (zleaf 0 pc (.inl (zLd zIsA 1 0))) (zleaf 1 pc (.inl (zS2 (zGet 2 1 4))))) (znode 7 pc (zleaf 4 pc (.inl (zS2 (zGet 0 1 7)))) (znode 10 pc (zleaf 7 pc (.inr (.inr (.inr (83, 1, 2))))) (zleaf 10 pc (.inl (zLd zIsA 11 0)))))) (znode 17 pc (znode 14 pc (zleaf 11 pc (.inl (zS2 (zGet 2 1 14)))) (zleaf 14 pc (.inl (zS2 (zGet 0 2 17))))) (znode 20 pc (zleaf 17 pc (.inr (.inr (.inr (83, 1, 2))))) (znode 21 pc (zleaf 20 pc (.inl (zS1 (zII (fun x y => x + y) 21)))) (zleaf 21 pc (.inr (.inl 1))))))
theorem zk_X2_fewest (O : Nat → State → Heap → Prop) (E : zE) (l : Launch) : ∀ pc i, zc_X2_fewest pc = some i → zOK z_cl z_T z_G z_N O E z_yy z_bb z_nl z_cc z_rt z_hh l 63 pc i := fun pc => znode_ok (znode_ok (znode_ok (zleaf_ok (zs_aload_n (by decide +kernel : decode cX2_fewest 0 = .ok (.aload_n 0, 1)) rfl)) (zleaf_ok (zs_get (C := RX2) (Tc := TX2) (Nc := 8) rfl zinX2 (Nat.le_of_ble_eq_true rfl) zw_119 (by decide +kernel : decode cX2_fewest 1 = .ok (.getfield 19, 3))))) (znode_ok (zleaf_ok (zs_getN (C := RX0) (Tc := TX0) (Nc := 8) rfl zinX0 (Nat.le_of_ble_eq_true rfl) zw_248 (by decide +kernel : decode cX2_fewest 4 = .ok (.getfield 209, 3)))) (znode_ok (zleaf_ok (⟨zcs2 (n := 1) z_good zw_296 zw_19 zw_297 zw_298 (by decide +kernel) (by decide +kernel : decode cX2_fewest 7 = .ok (.invokestatic 260, 3)), Nat.le_of_ble_eq_true rfl, by decide +kernel, (fun h => absurd rfl (h.1))⟩)) (zleaf_ok (zs_aload_n (by decide +kernel : decode cX2_fewest 10 = .ok (.aload_n 0, 1)) rfl))))) (znode_ok (znode_ok (zleaf_ok (zs_get (C := RX2) (Tc := TX2) (Nc := 8) rfl zinX2 (Nat.le_of_ble_eq_true rfl) zw_119 (by decide +kernel : decode cX2_fewest 11 = .ok (.getfield 19, 3)))) (zleaf_ok (zs_getN (C := RX0) (Tc := TX0) (Nc := 8) rfl zinX0 (Nat.le_of_ble_eq_true rfl) zw_249 (by decide +kernel : decode cX2_fewest 14 = .ok (.getfield 212, 3))))) (znode_ok (zleaf_ok (⟨zcs2 (n := 1) z_good zw_296 zw_19 zw_297 zw_298 (by decide +kernel) (by decide +kernel : decode cX2_fewest 17 = .ok (.invokestatic 260, 3)), Nat.le_of_ble_eq_true rfl, by decide +kernel, (fun h => absurd rfl (h.1))⟩)) (znode_ok (zleaf_ok (zs_iadd (by decide +kernel : decode cX2_fewest 20 = .ok (.iadd, 1)))) (zleaf_ok (Or.inr (Or.inl ⟨rfl, rfl, (by decide +kernel : decode cX2_fewest 21 = .ok (.ireturn, 1))⟩))))))
end
section
/-- Creasebook.digest()J -/
def zc_X2_digest (pc : Nat) : Option zI := znode 79 pc (znode 35 pc (znode 18 pc (znode 7 pc (znode 4 pc (znode 3 pc (zleaf 0 pc (.inl (zS1 (zCst (.long 58302) 3)))) (zleaf 3 pc (.inl (zSt2 zIsL 4 1)))) (znode 5 pc (zleaf 4 pc (.inl (zS1 (zCst (.int 0) 5)))) (znode 6 pc (zleaf 5 pc (.inl (zSt1 zIsI 6 3))) (zleaf 6 pc (.inl (zLd zIsI 7 3)))))) (znode 13 pc (znode 9 pc (zleaf 7 pc (.inl (zS1 (zCst (.int 15) 9)))) (znode 12 pc (zleaf 9 pc (.inl (zS1 (zIcmp (fun x y => decide (y < x)) 31 12)))) (zleaf 12 pc (.inl (zLd zIsL 13 1))))) (znode 16 pc (zleaf 13 pc (.inl (zS1 (zCst (.long 31) 16)))) (znode 17 pc (zleaf 16 pc (.inl (zS1 (zLL (fun x y => x * y) 17)))) (zleaf 17 pc (.inl (zLd zIsA 18 0))))))) (znode 25 pc (znode 22 pc (znode 19 pc (zleaf 18 pc (.inl (zLd zIsI 19 3))) (zleaf 19 pc (.inr (.inr (.inr (58, 2, 0)))))) (znode 23 pc (zleaf 22 pc (.inl (zS1 (zIL (fun x => x.toInt64) 23)))) (znode 24 pc (zleaf 23 pc (.inl (zS1 (zLL (fun x y => x + y) 24)))) (zleaf 24 pc (.inl (zSt2 zIsL 25 1)))))) (znode 32 pc (znode 28 pc (zleaf 25 pc (.inl (zIinc 28 3 1))) (znode 31 pc (zleaf 28 pc (.inl (zS1 (zGo 6)))) (zleaf 31 pc (.inl (zS1 (zCst (.int 0) 32)))))) (znode 33 pc (zleaf 32 pc (.inl (zSt1 zIsI 33 3))) (znode 34 pc (zleaf 33 pc (.inl (zLd zIsI 34 3))) (zleaf 34 pc (.inl (zLd zIsA 35 0)))))))) (znode 58 pc (znode 46 pc (znode 41 pc (znode 38 pc (zleaf 35 pc (.inl (zS2 (zGet 2 0 38)))) (zleaf 38 pc (.inl (zS2 (zGet 1 2 41))))) (znode 44 pc (zleaf 41 pc (.inl (zS1 (zIcmp (fun x y => decide (y ≤ x)) 57 44)))) (znode 45 pc (zleaf 44 pc (.inl (zLd zIsA 45 0))) (zleaf 45 pc (.inl (zLd zIsL 46 1)))))) (znode 51 pc (znode 47 pc (zleaf 46 pc (.inl (zLd zIsI 47 3))) (znode 50 pc (zleaf 47 pc (.inr (.inr (.inr (80, 3, 0))))) (zleaf 50 pc (.inl (zSt2 zIsL 51 1))))) (znode 54 pc (zleaf 51 pc (.inl (zIinc 54 3 1))) (znode 57 pc (zleaf 54 pc (.inl (zS1 (zGo 33)))) (zleaf 57 pc (.inl (zS1 (zCst (.int 0) 58)))))))) (znode 67 pc (znode 60 pc (znode 59 pc (zleaf 58 pc (.inl (zSt1 zIsI 59 3))) (zleaf 59 pc (.inl (zLd zIsI 60 3)))) (znode 61 pc (zleaf 60 pc (.inl (zLd zIsA 61 0))) (znode 64 pc (zleaf 61 pc (.inl (zS2 (zGet 2 1 64)))) (zleaf 64 pc (.inl (zS2 (zGet 0 2 67))))))) (znode 73 pc (znode 70 pc (zleaf 67 pc (.inl (zS1 (zIcmp (fun x y => decide (y ≤ x)) 106 70)))) (znode 71 pc (zleaf 70 pc (.inl (zS1 (zCst (.int 0) 71)))) (zleaf 71 pc (.inl (zSt1 zIsI 73 4))))) (znode 75 pc (zleaf 73 pc (.inl (zLd zIsI 75 4))) (znode 76 pc (zleaf 75 pc (.inl (zLd zIsA 76 0))) (zleaf 76 pc (.inl (zS2 (zGet 2 1 79)))))))))) (znode 122 pc (znode 103 pc (znode 89 pc (znode 85 pc (znode 82 pc (zleaf 79 pc (.inl (zS2 (zGet 0 1 82)))) (zleaf 82 pc (.inl (zS1 (zIcmp (fun x y => decide (y ≤ x)) 100 85))))) (znode 86 pc (zleaf 85 pc (.inl (zLd zIsA 86 0))) (znode 87 pc (zleaf 86 pc (.inl (zLd zIsL 87 1))) (zleaf 87 pc (.inl (zLd zIsI 89 4)))))) (znode 94 pc (znode 90 pc (zleaf 89 pc (.inl (zLd zIsI 90 3))) (znode 93 pc (zleaf 90 pc (.inr (.inr (.inr (81, 4, 0))))) (zleaf 93 pc (.inl (zSt2 zIsL 94 1))))) (znode 97 pc (zleaf 94 pc (.inl (zIinc 97 4 1))) (znode 100 pc (zleaf 97 pc (.inl (zS1 (zGo 73)))) (zleaf 100 pc (.inl (zIinc 103 3 1))))))) (znode 112 pc (znode 107 pc (znode 106 pc (zleaf 103 pc (.inl (zS1 (zGo 59)))) (zleaf 106 pc (.inl (zLd zIsL 107 1)))) (znode 110 pc (zleaf 107 pc (.inl (zS1 (zCst (.long 31) 110)))) (znode 111 pc (zleaf 110 pc (.inl (zS1 (zLL (fun x y => x * y) 111)))) (zleaf 111 pc (.inl (zLd zIsA 112 0)))))) (znode 117 pc (znode 115 pc (zleaf 112 pc (.inr (.inr (.inr (61, 1, 0))))) (znode 116 pc (zleaf 115 pc (.inl (zS1 (zIL (fun x => x.toInt64) 116)))) (zleaf 116 pc (.inl (zS1 (zLL (fun x y => x + y) 117)))))) (znode 118 pc (zleaf 117 pc (.inl (zSt2 zIsL 118 1))) (znode 119 pc (zleaf 118 pc (.inl (zLd zIsL 119 1))) (zleaf 119 pc (.inl (zS1 (zCst (.long 31) 122))))))))) (znode 141 pc (znode 129 pc (znode 124 pc (znode 123 pc (zleaf 122 pc (.inl (zS1 (zLL (fun x y => x * y) 123)))) (zleaf 123 pc (.inl (zLd zIsA 124 0)))) (znode 127 pc (zleaf 124 pc (.inr (.inr (.inr (63, 1, 0))))) (znode 128 pc (zleaf 127 pc (.inl (zS1 (zIL (fun x => x.toInt64) 128)))) (zleaf 128 pc (.inl (zS1 (zLL (fun x y => x + y) 129))))))) (znode 134 pc (znode 130 pc (zleaf 129 pc (.inl (zSt2 zIsL 130 1))) (znode 131 pc (zleaf 130 pc (.inl (zLd zIsA 131 0))) (zleaf 131 pc (.inl (zS2 (zGet 2 0 134)))))) (znode 137 pc (zleaf 134 pc (.inl (zS2 (zGet 1 2 137)))) (znode 138 pc (zleaf 137 pc (.inl (zS1 (zCst (.int 1) 138)))) (zleaf 138 pc (.inl (zS1 (zIcmp (fun x y => decide (x ≤ y)) 157 141)))))))) (znode 149 pc (znode 146 pc (znode 142 pc (zleaf 141 pc (.inl (zLd zIsL 142 1))) (znode 145 pc (zleaf 142 pc (.inl (zS1 (zCst (.long 31) 145)))) (zleaf 145 pc (.inl (zS1 (zLL (fun x y => x * y) 146)))))) (znode 147 pc (zleaf 146 pc (.inl (zLd zIsA 147 0))) (znode 148 pc (zleaf 147 pc (.inl (zS1 (zCst (.int 0) 148)))) (zleaf 148 pc (.inl (zS1 (zCst (.int 1) 149))))))) (znode 154 pc (znode 152 pc (zleaf 149 pc (.inr (.inr (.inr (62, 3, 0))))) (znode 153 pc (zleaf 152 pc (.inl (zS1 (zIL (fun x => x.toInt64) 153)))) (zleaf 153 pc (.inl (zS1 (zLL (fun x y => x + y) 154)))))) (znode 157 pc (zleaf 154 pc (.inl (zS1 (zGo 158)))) (znode 158 pc (zleaf 157 pc (.inl (zLd zIsL 158 1))) (zleaf 158 pc (.inr (.inl 2)))))))))
theorem zk_X2_digest (O : Nat → State → Heap → Prop) (E : zE) (l : Launch) : ∀ pc i, zc_X2_digest pc = some i → zOK z_cl z_T z_G z_N O E z_yy z_bb z_nl z_cc z_rt z_hh l 64 pc i := fun pc => znode_ok (znode_ok (znode_ok (znode_ok (znode_ok (znode_ok (zleaf_ok (zs_ldc2l zw_299 (by decide +kernel : decode cX2_digest 0 = .ok (.ldc2_w 263, 3)))) (zleaf_ok (zs_lstore_n (Nat.le_of_ble_eq_true rfl) (by decide +kernel : decode cX2_digest 3 = .ok (.lstore_n 1, 1)) rfl))) (znode_ok (zleaf_ok (zs_iconst (by decide) (by decide +kernel : decode cX2_digest 4 = .ok (.iconst 0, 1)))) (znode_ok (zleaf_ok (zs_istore_n (Nat.le_of_ble_eq_true rfl) (by decide +kernel : decode cX2_digest 5 = .ok (.istore_n 3, 1)) rfl)) (zleaf_ok (zs_iload_n (by decide +kernel : decode cX2_digest 6 = .ok (.iload_n 3, 1)) rfl))))) (znode_ok (znode_ok (zleaf_ok (zs_bipush (by decide) (by decide +kernel : decode cX2_digest 7 = .ok (.bipush 15, 2)))) (znode_ok (zleaf_ok (zs_icmp_gt (t := 31) (by decide) (by decide +kernel : decode cX2_digest 9 = .ok (.if_icmp .gt 22, 3)))) (zleaf_ok (zs_lload_n (by decide +kernel : decode cX2_digest 12 = .ok (.lload_n 1, 1)) rfl)))) (znode_ok (zleaf_ok (zs_ldc2l zw_300 (by decide +kernel : decode cX2_digest 13 = .ok (.ldc2_w 265, 3)))) (znode_ok (zleaf_ok (zs_lmul (by decide +kernel : decode cX2_digest 16 = .ok (.lmul, 1)))) (zleaf_ok (zs_aload_n (by decide +kernel : decode cX2_digest 17 = .ok (.aload_n 0, 1)) rfl)))))) (znode_ok (znode_ok (znode_ok (zleaf_ok (zs_iload_n (by decide +kernel : decode cX2_digest 18 = .ok (.iload_n 3, 1)) rfl)) (zleaf_ok (⟨zcs0 (n := 1) z_good zw_301 zw_19 zw_302 zw_303 zw_304 (by decide +kernel) (by decide +kernel : decode cX2_digest 19 = .ok (.invokevirtual 267, 3)), Nat.le_of_ble_eq_true rfl, by decide +kernel, (fun _ => ⟨TX2, 8, rfl⟩)⟩))) (znode_ok (zleaf_ok (zs_i2l (by decide +kernel : decode cX2_digest 22 = .ok (.i2l, 1)))) (znode_ok (zleaf_ok (zs_ladd (by decide +kernel : decode cX2_digest 23 = .ok (.ladd, 1)))) (zleaf_ok (zs_lstore_n (Nat.le_of_ble_eq_true rfl) (by decide +kernel : decode cX2_digest 24 = .ok (.lstore_n 1, 1)) rfl))))) (znode_ok (znode_ok (zleaf_ok (zs_iinc (Nat.le_of_ble_eq_true rfl) (by decide) (by decide +kernel : decode cX2_digest 25 = .ok (.iinc 3 1, 3)))) (znode_ok (zleaf_ok (zs_goto (t := 6) (by decide) (by decide +kernel : decode cX2_digest 28 = .ok (.goto (-22), 3)))) (zleaf_ok (zs_iconst (by decide) (by decide +kernel : decode cX2_digest 31 = .ok (.iconst 0, 1)))))) (znode_ok (zleaf_ok (zs_istore_n (Nat.le_of_ble_eq_true rfl) (by decide +kernel : decode cX2_digest 32 = .ok (.istore_n 3, 1)) rfl)) (znode_ok (zleaf_ok (zs_iload_n (by decide +kernel : decode cX2_digest 33 = .ok (.iload_n 3, 1)) rfl)) (zleaf_ok (zs_aload_n (by decide +kernel : decode cX2_digest 34 = .ok (.aload_n 0, 1)) rfl))))))) (znode_ok (znode_ok (znode_ok (znode_ok (zleaf_ok (zs_get (C := RX2) (Tc := TX2) (Nc := 8) rfl zinX2 (Nat.le_of_ble_eq_true rfl) zw_113 (by decide +kernel : decode cX2_digest 35 = .ok (.getfield 10, 3)))) (zleaf_ok (zs_getN (C := RX1) (Tc := TX1) (Nc := 9) rfl zinX1 (Nat.le_of_ble_eq_true rfl) zw_128 (by decide +kernel : decode cX2_digest 38 = .ok (.getfield 47, 3))))) (znode_ok (zleaf_ok (zs_icmp_ge (t := 57) (by decide) (by decide +kernel : decode cX2_digest 41 = .ok (.if_icmp .ge 16, 3)))) (znode_ok (zleaf_ok (zs_aload_n (by decide +kernel : decode cX2_digest 44 = .ok (.aload_n 0, 1)) rfl)) (zleaf_ok (zs_lload_n (by decide +kernel : decode cX2_digest 45 = .ok (.lload_n 1, 1)) rfl))))) (znode_ok (znode_ok (zleaf_ok (zs_iload_n (by decide +kernel : decode cX2_digest 46 = .ok (.iload_n 3, 1)) rfl)) (znode_ok (zleaf_ok (⟨zcs0 (n := 2) z_good zw_305 zw_19 zw_306 zw_307 zw_308 (by decide +kernel) (by decide +kernel : decode cX2_digest 47 = .ok (.invokevirtual 270, 3)), Nat.le_of_ble_eq_true rfl, by decide +kernel, (fun _ => ⟨TX2, 8, rfl⟩)⟩)) (zleaf_ok (zs_lstore_n (Nat.le_of_ble_eq_true rfl) (by decide +kernel : decode cX2_digest 50 = .ok (.lstore_n 1, 1)) rfl)))) (znode_ok (zleaf_ok (zs_iinc (Nat.le_of_ble_eq_true rfl) (by decide) (by decide +kernel : decode cX2_digest 51 = .ok (.iinc 3 1, 3)))) (znode_ok (zleaf_ok (zs_goto (t := 33) (by decide) (by decide +kernel : decode cX2_digest 54 = .ok (.goto (-21), 3)))) (zleaf_ok (zs_iconst (by decide) (by decide +kernel : decode cX2_digest 57 = .ok (.iconst 0, 1)))))))) (znode_ok (znode_ok (znode_ok (zleaf_ok (zs_istore_n (Nat.le_of_ble_eq_true rfl) (by decide +kernel : decode cX2_digest 58 = .ok (.istore_n 3, 1)) rfl)) (zleaf_ok (zs_iload_n (by decide +kernel : decode cX2_digest 59 = .ok (.iload_n 3, 1)) rfl))) (znode_ok (zleaf_ok (zs_aload_n (by decide +kernel : decode cX2_digest 60 = .ok (.aload_n 0, 1)) rfl)) (znode_ok (zleaf_ok (zs_get (C := RX2) (Tc := TX2) (Nc := 8) rfl zinX2 (Nat.le_of_ble_eq_true rfl) zw_119 (by decide +kernel : decode cX2_digest 61 = .ok (.getfield 19, 3)))) (zleaf_ok (zs_getN (C := RX0) (Tc := TX0) (Nc := 8) rfl zinX0 (Nat.le_of_ble_eq_true rfl) zw_249 (by decide +kernel : decode cX2_digest 64 = .ok (.getfield 212, 3))))))) (znode_ok (znode_ok (zleaf_ok (zs_icmp_ge (t := 106) (by decide) (by decide +kernel : decode cX2_digest 67 = .ok (.if_icmp .ge 39, 3)))) (znode_ok (zleaf_ok (zs_iconst (by decide) (by decide +kernel : decode cX2_digest 70 = .ok (.iconst 0, 1)))) (zleaf_ok (zs_istore (Nat.le_of_ble_eq_true rfl) (by decide +kernel : decode cX2_digest 71 = .ok (.istore 4, 2)))))) (znode_ok (zleaf_ok (zs_iload (by decide +kernel : decode cX2_digest 73 = .ok (.iload 4, 2)))) (znode_ok (zleaf_ok (zs_aload_n (by decide +kernel : decode cX2_digest 75 = .ok (.aload_n 0, 1)) rfl)) (zleaf_ok (zs_get (C := RX2) (Tc := TX2) (Nc := 8) rfl zinX2 (Nat.le_of_ble_eq_true rfl) zw_119 (by decide +kernel : decode cX2_digest 76 = .ok (.getfield 19, 3)))))))))) (znode_ok (znode_ok (znode_ok (znode_ok (znode_ok (zleaf_ok (zs_getN (C := RX0) (Tc := TX0) (Nc := 8) rfl zinX0 (Nat.le_of_ble_eq_true rfl) zw_248 (by decide +kernel : decode cX2_digest 79 = .ok (.getfield 209, 3)))) (zleaf_ok (zs_icmp_ge (t := 100) (by decide) (by decide +kernel : decode cX2_digest 82 = .ok (.if_icmp .ge 18, 3))))) (znode_ok (zleaf_ok (zs_aload_n (by decide +kernel : decode cX2_digest 85 = .ok (.aload_n 0, 1)) rfl)) (znode_ok (zleaf_ok (zs_lload_n (by decide +kernel : decode cX2_digest 86 = .ok (.lload_n 1, 1)) rfl)) (zleaf_ok (zs_iload (by decide +kernel : decode cX2_digest 87 = .ok (.iload 4, 2))))))) (znode_ok (znode_ok (zleaf_ok (zs_iload_n (by decide +kernel : decode cX2_digest 89 = .ok (.iload_n 3, 1)) rfl)) (znode_ok (zleaf_ok (⟨zcs0 (n := 3) z_good zw_309 zw_19 zw_310 zw_311 zw_312 (by decide +kernel) (by decide +kernel : decode cX2_digest 90 = .ok (.invokevirtual 274, 3)), Nat.le_of_ble_eq_true rfl, by decide +kernel, (fun _ => ⟨TX2, 8, rfl⟩)⟩)) (zleaf_ok (zs_lstore_n (Nat.le_of_ble_eq_true rfl) (by decide +kernel : decode cX2_digest 93 = .ok (.lstore_n 1, 1)) rfl)))) (znode_ok (zleaf_ok (zs_iinc (Nat.le_of_ble_eq_true rfl) (by decide) (by decide +kernel : decode cX2_digest 94 = .ok (.iinc 4 1, 3)))) (znode_ok (zleaf_ok (zs_goto (t := 73) (by decide) (by decide +kernel : decode cX2_digest 97 = .ok (.goto (-24), 3)))) (zleaf_ok (zs_iinc (Nat.le_of_ble_eq_true rfl) (by decide) (by decide +kernel : decode cX2_digest 100 = .ok (.iinc 3 1, 3)))))))) (znode_ok (znode_ok (znode_ok (zleaf_ok (zs_goto (t := 59) (by decide) (by decide +kernel : decode cX2_digest 103 = .ok (.goto (-44), 3)))) (zleaf_ok (zs_lload_n (by decide +kernel : decode cX2_digest 106 = .ok (.lload_n 1, 1)) rfl))) (znode_ok (zleaf_ok (zs_ldc2l zw_300 (by decide +kernel : decode cX2_digest 107 = .ok (.ldc2_w 265, 3)))) (znode_ok (zleaf_ok (zs_lmul (by decide +kernel : decode cX2_digest 110 = .ok (.lmul, 1)))) (zleaf_ok (zs_aload_n (by decide +kernel : decode cX2_digest 111 = .ok (.aload_n 0, 1)) rfl))))) (znode_ok (znode_ok (zleaf_ok (⟨zcs0 (n := 0) z_good zw_313 zw_19 zw_314 zw_315 zw_316 (by decide +kernel) (by decide +kernel : decode cX2_digest 112 = .ok (.invokevirtual 278, 3)), Nat.le_of_ble_eq_true rfl, by decide +kernel, (fun _ => ⟨TX2, 8, rfl⟩)⟩)) (znode_ok (zleaf_ok (zs_i2l (by decide +kernel : decode cX2_digest 115 = .ok (.i2l, 1)))) (zleaf_ok (zs_ladd (by decide +kernel : decode cX2_digest 116 = .ok (.ladd, 1)))))) (znode_ok (zleaf_ok (zs_lstore_n (Nat.le_of_ble_eq_true rfl) (by decide +kernel : decode cX2_digest 117 = .ok (.lstore_n 1, 1)) rfl)) (znode_ok (zleaf_ok (zs_lload_n (by decide +kernel : decode cX2_digest 118 = .ok (.lload_n 1, 1)) rfl)) (zleaf_ok (zs_ldc2l zw_300 (by decide +kernel : decode cX2_digest 119 = .ok (.ldc2_w 265, 3))))))))) (znode_ok (znode_ok (znode_ok (znode_ok (zleaf_ok (zs_lmul (by decide +kernel : decode cX2_digest 122 = .ok (.lmul, 1)))) (zleaf_ok (zs_aload_n (by decide +kernel : decode cX2_digest 123 = .ok (.aload_n 0, 1)) rfl))) (znode_ok (zleaf_ok (⟨zcs0 (n := 0) z_good zw_317 zw_19 zw_318 zw_319 zw_320 (by decide +kernel) (by decide +kernel : decode cX2_digest 124 = .ok (.invokevirtual 281, 3)), Nat.le_of_ble_eq_true rfl, by decide +kernel, (fun _ => ⟨TX2, 8, rfl⟩)⟩)) (znode_ok (zleaf_ok (zs_i2l (by decide +kernel : decode cX2_digest 127 = .ok (.i2l, 1)))) (zleaf_ok (zs_ladd (by decide +kernel : decode cX2_digest 128 = .ok (.ladd, 1))))))) (znode_ok (znode_ok (zleaf_ok (zs_lstore_n (Nat.le_of_ble_eq_true rfl) (by decide +kernel : decode cX2_digest 129 = .ok (.lstore_n 1, 1)) rfl)) (znode_ok (zleaf_ok (zs_aload_n (by decide +kernel : decode cX2_digest 130 = .ok (.aload_n 0, 1)) rfl)) (zleaf_ok (zs_get (C := RX2) (Tc := TX2) (Nc := 8) rfl zinX2 (Nat.le_of_ble_eq_true rfl) zw_113 (by decide +kernel : decode cX2_digest 131 = .ok (.getfield 10, 3)))))) (znode_ok (zleaf_ok (zs_getN (C := RX1) (Tc := TX1) (Nc := 9) rfl zinX1 (Nat.le_of_ble_eq_true rfl) zw_128 (by decide +kernel : decode cX2_digest 134 = .ok (.getfield 47, 3)))) (znode_ok (zleaf_ok (zs_iconst (by decide) (by decide +kernel : decode cX2_digest 137 = .ok (.iconst 1, 1)))) (zleaf_ok (zs_icmp_le (t := 157) (by decide) (by decide +kernel : decode cX2_digest 138 = .ok (.if_icmp .le 19, 3)))))))) (znode_ok (znode_ok (znode_ok (zleaf_ok (zs_lload_n (by decide +kernel : decode cX2_digest 141 = .ok (.lload_n 1, 1)) rfl)) (znode_ok (zleaf_ok (zs_ldc2l zw_300 (by decide +kernel : decode cX2_digest 142 = .ok (.ldc2_w 265, 3)))) (zleaf_ok (zs_lmul (by decide +kernel : decode cX2_digest 145 = .ok (.lmul, 1)))))) (znode_ok (zleaf_ok (zs_aload_n (by decide +kernel : decode cX2_digest 146 = .ok (.aload_n 0, 1)) rfl)) (znode_ok (zleaf_ok (zs_iconst (by decide) (by decide +kernel : decode cX2_digest 147 = .ok (.iconst 0, 1)))) (zleaf_ok (zs_iconst (by decide) (by decide +kernel : decode cX2_digest 148 = .ok (.iconst 1, 1))))))) (znode_ok (znode_ok (zleaf_ok (⟨zcs0 (n := 2) z_good zw_321 zw_19 zw_322 zw_323 zw_324 (by decide +kernel) (by decide +kernel : decode cX2_digest 149 = .ok (.invokevirtual 284, 3)), Nat.le_of_ble_eq_true rfl, by decide +kernel, (fun _ => ⟨TX2, 8, rfl⟩)⟩)) (znode_ok (zleaf_ok (zs_i2l (by decide +kernel : decode cX2_digest 152 = .ok (.i2l, 1)))) (zleaf_ok (zs_ladd (by decide +kernel : decode cX2_digest 153 = .ok (.ladd, 1)))))) (znode_ok (zleaf_ok (zs_goto (t := 158) (by decide) (by decide +kernel : decode cX2_digest 154 = .ok (.goto 4, 3)))) (znode_ok (zleaf_ok (zs_lload_n (by decide +kernel : decode cX2_digest 157 = .ok (.lload_n 1, 1)) rfl)) (zleaf_ok (Or.inr (Or.inr (Or.inl ⟨rfl, rfl, (by decide +kernel : decode cX2_digest 158 = .ok (.lreturn, 1))⟩))))))))))
/-- Creasebook.begin(II)V -/
def zc_X2_begin (pc : Nat) : Option zI := znode 18 pc (znode 9 pc (znode 4 pc (znode 1 pc (zleaf 0 pc (.inl (zLd zIsA 1 0))) (zleaf 1 pc (.inl (zS2 (zGet 2 0 4))))) (znode 5 pc (zleaf 4 pc (.inl (zLd zIsI 5 1))) (znode 6 pc (zleaf 5 pc (.inl (zLd zIsI 6 2))) (zleaf 6 pc (.inr (.inr (.inr (27, 3, 1)))))))) (znode 13 pc (znode 10 pc (zleaf 9 pc (.inl (zLd zIsA 10 0))) (zleaf 10 pc (.inl (zS2 (zGet 2 1 13))))) (znode 14 pc (zleaf 13 pc (.inl (zLd zIsI 14 1))) (znode 15 pc (zleaf 14 pc (.inl (zLd zIsI 15 2))) (zleaf 15 pc (.inr (.inr (.inr (1, 3, 1))))))))) (znode 25 pc (znode 20 pc (znode 19 pc (zleaf 18 pc (.inl (zLd zIsA 19 0))) (zleaf 19 pc (.inl (zS1 (zCst (.int 0) 20))))) (znode 23 pc (zleaf 20 pc (.inl (zPut zIsI 2 5 23))) (znode 24 pc (zleaf 23 pc (.inl (zLd zIsA 24 0))) (zleaf 24 pc (.inl (zS1 (zCst (.int 0) 25))))))) (znode 29 pc (znode 28 pc (zleaf 25 pc (.inl (zPut zIsI 2 6 28))) (zleaf 28 pc (.inl (zLd zIsA 29 0)))) (znode 30 pc (zleaf 29 pc (.inl (zS1 (zCst (.int 0) 30)))) (znode 33 pc (zleaf 30 pc (.inl (zPut zIsI 2 7 33))) (zleaf 33 pc (.inr (.inl 0)))))))
theorem zk_X2_begin (O : Nat → State → Heap → Prop) (E : zE) (l : Launch) : ∀ pc i, zc_X2_begin pc = some i → zOK z_cl z_T z_G z_N O E z_yy z_bb z_nl z_cc z_rt z_hh l 65 pc i := fun pc => znode_ok (znode_ok (znode_ok (znode_ok (zleaf_ok (zs_aload_n (by decide +kernel : decode cX2_begin 0 = .ok (.aload_n 0, 1)) rfl)) (zleaf_ok (zs_get (C := RX2) (Tc := TX2) (Nc := 8) rfl zinX2 (Nat.le_of_ble_eq_true rfl) zw_113 (by decide +kernel : decode cX2_begin 1 = .ok (.getfield 10, 3))))) (znode_ok (zleaf_ok (zs_iload_n (by decide +kernel : decode cX2_begin 4 = .ok (.iload_n 1, 1)) rfl)) (znode_ok (zleaf_ok (zs_iload_n (by decide +kernel : decode cX2_begin 5 = .ok (.iload_n 2, 1)) rfl)) (zleaf_ok (⟨zcs1 (n := 2) z_good zw_325 zw_89 zw_326 zw_327 zw_328 (by decide +kernel) (by decide +kernel : decode cX2_begin 6 = .ok (.invokevirtual 287, 3)), Nat.le_of_ble_eq_true rfl, by decide +kernel, (fun _ => ⟨TX1, 9, rfl⟩)⟩))))) (znode_ok (znode_ok (zleaf_ok (zs_aload_n (by decide +kernel : decode cX2_begin 9 = .ok (.aload_n 0, 1)) rfl)) (zleaf_ok (zs_get (C := RX2) (Tc := TX2) (Nc := 8) rfl zinX2 (Nat.le_of_ble_eq_true rfl) zw_119 (by decide +kernel : decode cX2_begin 10 = .ok (.getfield 19, 3))))) (znode_ok (zleaf_ok (zs_iload_n (by decide +kernel : decode cX2_begin 13 = .ok (.iload_n 1, 1)) rfl)) (znode_ok (zleaf_ok (zs_iload_n (by decide +kernel : decode cX2_begin 14 = .ok (.iload_n 2, 1)) rfl)) (zleaf_ok (⟨zcs1 (n := 2) z_good zw_329 zw_14 zw_330 zw_331 zw_332 (by decide +kernel) (by decide +kernel : decode cX2_begin 15 = .ok (.invokevirtual 290, 3)), Nat.le_of_ble_eq_true rfl, by decide +kernel, (fun _ => ⟨TX0, 8, rfl⟩)⟩)))))) (znode_ok (znode_ok (znode_ok (zleaf_ok (zs_aload_n (by decide +kernel : decode cX2_begin 18 = .ok (.aload_n 0, 1)) rfl)) (zleaf_ok (zs_iconst (by decide) (by decide +kernel : decode cX2_begin 19 = .ok (.iconst 0, 1))))) (znode_ok (zleaf_ok (zs_put (C := RX2) (Tc := TX2) (Nc := 8) (ty0 := tyX2) (ty := .int) rfl zinX2 (Nat.le_of_ble_eq_true rfl) tyX2_ok nmX2 zw_133 rfl (by decide +kernel) (zfI) (by decide +kernel : decode cX2_begin 20 = .ok (.putfield 54, 3)))) (znode_ok (zleaf_ok (zs_aload_n (by decide +kernel : decode cX2_begin 23 = .ok (.aload_n 0, 1)) rfl)) (zleaf_ok (zs_iconst (by decide) (by decide +kernel : decode cX2_begin 24 = .ok (.iconst 0, 1))))))) (znode_ok (znode_ok (zleaf_ok (zs_put (C := RX2) (Tc := TX2) (Nc := 8) (ty0 := tyX2) (ty := .int) rfl zinX2 (Nat.le_of_ble_eq_true rfl) tyX2_ok nmX2 zw_141 rfl (by decide +kernel) (zfI) (by decide +kernel : decode cX2_begin 25 = .ok (.putfield 70, 3)))) (zleaf_ok (zs_aload_n (by decide +kernel : decode cX2_begin 28 = .ok (.aload_n 0, 1)) rfl))) (znode_ok (zleaf_ok (zs_iconst (by decide) (by decide +kernel : decode cX2_begin 29 = .ok (.iconst 0, 1)))) (znode_ok (zleaf_ok (zs_put (C := RX2) (Tc := TX2) (Nc := 8) (ty0 := tyX2) (ty := .int) rfl zinX2 (Nat.le_of_ble_eq_true rfl) tyX2_ok nmX2 zw_158 rfl (by decide +kernel) (zfI) (by decide +kernel : decode cX2_begin 30 = .ok (.putfield 88, 3)))) (zleaf_ok (Or.inl ⟨rfl, rfl, (by decide +kernel : decode cX2_begin 33 = .ok (.return_, 1))⟩))))))
/-- Creasebook.requireLine(II)V -/
def zc_X2_requireLine (pc : Nat) : Option zI := znode 5 pc (znode 1 pc (zleaf 0 pc (.inl (zLd zIsA 1 0))) (znode 4 pc (zleaf 1 pc (.inl (zS2 (zGet 2 1 4)))) (zleaf 4 pc (.inl (zLd zIsI 5 1))))) (znode 9 pc (znode 6 pc (zleaf 5 pc (.inl (zLd zIsI 6 2))) (zleaf 6 pc (.inr (.inr (.inr (10, 3, 1)))))) (znode 23 pc (zleaf 9 pc (.inl (zS1 (zIf (fun x => decide (¬ x = 0)) 23 12)))) (zleaf 23 pc (.inr (.inl 0)))))
theorem zk_X2_requireLine (O : Nat → State → Heap → Prop) (E : zE) (l : Launch) : ∀ pc i, zc_X2_requireLine pc = some i → zOK z_cl z_T z_G z_N O E z_yy z_bb z_nl z_cc z_rt z_hh l 66 pc i := fun pc => znode_ok (znode_ok (zleaf_ok (zs_aload_n (by decide +kernel : decode cX2_requireLine 0 = .ok (.aload_n 0, 1)) rfl)) (znode_ok (zleaf_ok (zs_get (C := RX2) (Tc := TX2) (Nc := 8) rfl zinX2 (Nat.le_of_ble_eq_true rfl) zw_119 (by decide +kernel : decode cX2_requireLine 1 = .ok (.getfield 19, 3)))) (zleaf_ok (zs_iload_n (by decide +kernel : decode cX2_requireLine 4 = .ok (.iload_n 1, 1)) rfl)))) (znode_ok (znode_ok (zleaf_ok (zs_iload_n (by decide +kernel : decode cX2_requireLine 5 = .ok (.iload_n 2, 1)) rfl)) (zleaf_ok (⟨zcs1 (n := 2) z_good zw_288 zw_14 zw_289 zw_290 zw_291 (by decide +kernel) (by decide +kernel : decode cX2_requireLine 6 = .ok (.invokevirtual 252, 3)), Nat.le_of_ble_eq_true rfl, by decide +kernel, (fun _ => ⟨TX0, 8, rfl⟩)⟩))) (znode_ok (zleaf_ok (zs_if_ne (t := 23) (by decide) (by decide +kernel : decode cX2_requireLine 9 = .ok (.ifCond .ne 14, 3)))) (zleaf_ok (Or.inl ⟨rfl, rfl, (by decide +kernel : decode cX2_requireLine 23 = .ok (.return_, 1))⟩))))
/-- Creasebook.requirePlace(II)V -/
def zc_X2_requirePlace (pc : Nat) : Option zI := znode 5 pc (znode 1 pc (zleaf 0 pc (.inl (zLd zIsA 1 0))) (znode 4 pc (zleaf 1 pc (.inl (zS2 (zGet 2 1 4)))) (zleaf 4 pc (.inl (zLd zIsI 5 1))))) (znode 9 pc (znode 6 pc (zleaf 5 pc (.inl (zLd zIsI 6 2))) (zleaf 6 pc (.inr (.inr (.inr (9, 3, 1)))))) (znode 23 pc (zleaf 9 pc (.inl (zS1 (zIf (fun x => decide (¬ x = 0)) 23 12)))) (zleaf 23 pc (.inr (.inl 0)))))
theorem zk_X2_requirePlace (O : Nat → State → Heap → Prop) (E : zE) (l : Launch) : ∀ pc i, zc_X2_requirePlace pc = some i → zOK z_cl z_T z_G z_N O E z_yy z_bb z_nl z_cc z_rt z_hh l 67 pc i := fun pc => znode_ok (znode_ok (zleaf_ok (zs_aload_n (by decide +kernel : decode cX2_requirePlace 0 = .ok (.aload_n 0, 1)) rfl)) (znode_ok (zleaf_ok (zs_get (C := RX2) (Tc := TX2) (Nc := 8) rfl zinX2 (Nat.le_of_ble_eq_true rfl) zw_119 (by decide +kernel : decode cX2_requirePlace 1 = .ok (.getfield 19, 3)))) (zleaf_ok (zs_iload_n (by decide +kernel : decode cX2_requirePlace 4 = .ok (.iload_n 1, 1)) rfl)))) (znode_ok (znode_ok (zleaf_ok (zs_iload_n (by decide +kernel : decode cX2_requirePlace 5 = .ok (.iload_n 2, 1)) rfl)) (zleaf_ok (⟨zcs1 (n := 2) z_good zw_62 zw_14 zw_333 zw_64 zw_65 (by decide +kernel) (by decide +kernel : decode cX2_requirePlace 6 = .ok (.invokevirtual 295, 3)), Nat.le_of_ble_eq_true rfl, by decide +kernel, (fun _ => ⟨TX0, 8, rfl⟩)⟩))) (znode_ok (zleaf_ok (zs_if_ne (t := 23) (by decide) (by decide +kernel : decode cX2_requirePlace 9 = .ok (.ifCond .ne 14, 3)))) (zleaf_ok (Or.inl ⟨rfl, rfl, (by decide +kernel : decode cX2_requirePlace 23 = .ok (.return_, 1))⟩))))
/-- Creasebook.requireCell(I)V -/
def zc_X2_requireCell (pc : Nat) : Option zI := znode 5 pc (znode 1 pc (zleaf 0 pc (.inl (zLd zIsA 1 0))) (znode 4 pc (zleaf 1 pc (.inl (zS2 (zGet 2 0 4)))) (zleaf 4 pc (.inl (zLd zIsI 5 1))))) (znode 8 pc (zleaf 5 pc (.inr (.inr (.inr (28, 2, 1))))) (znode 22 pc (zleaf 8 pc (.inl (zS1 (zIf (fun x => decide (¬ x = 0)) 22 11)))) (zleaf 22 pc (.inr (.inl 0)))))
theorem zk_X2_requireCell (O : Nat → State → Heap → Prop) (E : zE) (l : Launch) : ∀ pc i, zc_X2_requireCell pc = some i → zOK z_cl z_T z_G z_N O E z_yy z_bb z_nl z_cc z_rt z_hh l 68 pc i := fun pc => znode_ok (znode_ok (zleaf_ok (zs_aload_n (by decide +kernel : decode cX2_requireCell 0 = .ok (.aload_n 0, 1)) rfl)) (znode_ok (zleaf_ok (zs_get (C := RX2) (Tc := TX2) (Nc := 8) rfl zinX2 (Nat.le_of_ble_eq_true rfl) zw_113 (by decide +kernel : decode cX2_requireCell 1 = .ok (.getfield 10, 3)))) (zleaf_ok (zs_iload_n (by decide +kernel : decode cX2_requireCell 4 = .ok (.iload_n 1, 1)) rfl)))) (znode_ok (zleaf_ok (⟨zcs1 (n := 1) z_good zw_88 zw_89 zw_334 zw_91 zw_92 (by decide +kernel) (by decide +kernel : decode cX2_requireCell 5 = .ok (.invokevirtual 300, 3)), Nat.le_of_ble_eq_true rfl, by decide +kernel, (fun _ => ⟨TX1, 9, rfl⟩)⟩)) (znode_ok (zleaf_ok (zs_if_ne (t := 22) (by decide) (by decide +kernel : decode cX2_requireCell 8 = .ok (.ifCond .ne 14, 3)))) (zleaf_ok (Or.inl ⟨rfl, rfl, (by decide +kernel : decode cX2_requireCell 22 = .ok (.return_, 1))⟩))))
/-- Creasebook.requireWhat(II)V -/
def zc_X2_requireWhat (pc : Nat) : Option zI := znode 5 pc (znode 1 pc (zleaf 0 pc (.inl (zLd zIsI 1 0))) (znode 4 pc (zleaf 1 pc (.inl (zS1 (zIf (fun x => decide (x < 0)) 9 4)))) (zleaf 4 pc (.inl (zLd zIsI 5 0))))) (znode 6 pc (zleaf 5 pc (.inl (zLd zIsI 6 1))) (znode 20 pc (zleaf 6 pc (.inl (zS1 (zIcmp (fun x y => decide (x ≤ y)) 20 9)))) (zleaf 20 pc (.inr (.inl 0)))))
theorem zk_X2_requireWhat (O : Nat → State → Heap → Prop) (E : zE) (l : Launch) : ∀ pc i, zc_X2_requireWhat pc = some i → zOK z_cl z_T z_G z_N O E z_yy z_bb z_nl z_cc z_rt z_hh l 69 pc i := fun pc => znode_ok (znode_ok (zleaf_ok (zs_iload_n (by decide +kernel : decode cX2_requireWhat 0 = .ok (.iload_n 0, 1)) rfl)) (znode_ok (zleaf_ok (zs_if_lt (t := 9) (by decide) (by decide +kernel : decode cX2_requireWhat 1 = .ok (.ifCond .lt 8, 3)))) (zleaf_ok (zs_iload_n (by decide +kernel : decode cX2_requireWhat 4 = .ok (.iload_n 0, 1)) rfl)))) (znode_ok (zleaf_ok (zs_iload_n (by decide +kernel : decode cX2_requireWhat 5 = .ok (.iload_n 1, 1)) rfl)) (znode_ok (zleaf_ok (zs_icmp_le (t := 20) (by decide) (by decide +kernel : decode cX2_requireWhat 6 = .ok (.if_icmp .le 14, 3)))) (zleaf_ok (Or.inl ⟨rfl, rfl, (by decide +kernel : decode cX2_requireWhat 20 = .ok (.return_, 1))⟩))))
/-- Creasebook.creaseAlong(I)I -/
def zc_X2_creaseAlong (pc : Nat) : Option zI := znode 19 pc (znode 6 pc (znode 3 pc (znode 1 pc (zleaf 0 pc (.inl (zS1 (zCst (.int 0) 1)))) (znode 2 pc (zleaf 1 pc (.inl (zSt1 zIsI 2 2))) (zleaf 2 pc (.inl (zS1 (zCst (.int 0) 3)))))) (znode 4 pc (zleaf 3 pc (.inl (zSt1 zIsI 4 3))) (znode 5 pc (zleaf 4 pc (.inl (zLd zIsI 5 3))) (zleaf 5 pc (.inl (zLd zIsA 6 0)))))) (znode 15 pc (znode 9 pc (zleaf 6 pc (.inl (zS2 (zGet 2 0 9)))) (znode 12 pc (zleaf 9 pc (.inl (zS2 (zGet 1 2 12)))) (zleaf 12 pc (.inl (zS1 (zIcmp (fun x y => decide (y ≤ x)) 47 15)))))) (znode 17 pc (znode 16 pc (zleaf 15 pc (.inl (zLd zIsA 16 0))) (zleaf 16 pc (.inl (zLd zIsI 17 3)))) (znode 18 pc (zleaf 17 pc (.inl (zS1 (zCst (.int 0) 18)))) (zleaf 18 pc (.inl (zLd zIsI 19 1))))))) (znode 32 pc (znode 28 pc (znode 22 pc (zleaf 19 pc (.inr (.inr (.inr (71, 4, 0))))) (znode 25 pc (zleaf 22 pc (.inl (zS1 (zIf (fun x => decide (x = 0)) 28 25)))) (zleaf 25 pc (.inl (zIinc 28 2 1))))) (znode 30 pc (znode 29 pc (zleaf 28 pc (.inl (zLd zIsA 29 0))) (zleaf 29 pc (.inl (zLd zIsI 30 3)))) (znode 31 pc (zleaf 30 pc (.inl (zS1 (zCst (.int 1) 31)))) (zleaf 31 pc (.inl (zLd zIsI 32 1)))))) (znode 41 pc (znode 35 pc (zleaf 32 pc (.inr (.inr (.inr (71, 4, 0))))) (znode 38 pc (zleaf 35 pc (.inl (zS1 (zIf (fun x => decide (x = 0)) 41 38)))) (zleaf 38 pc (.inl (zIinc 41 2 1))))) (znode 47 pc (znode 44 pc (zleaf 41 pc (.inl (zIinc 44 3 1))) (zleaf 44 pc (.inl (zS1 (zGo 4))))) (znode 48 pc (zleaf 47 pc (.inl (zLd zIsI 48 2))) (zleaf 48 pc (.inr (.inl 1)))))))
theorem zk_X2_creaseAlong (O : Nat → State → Heap → Prop) (E : zE) (l : Launch) : ∀ pc i, zc_X2_creaseAlong pc = some i → zOK z_cl z_T z_G z_N O E z_yy z_bb z_nl z_cc z_rt z_hh l 70 pc i := fun pc => znode_ok (znode_ok (znode_ok (znode_ok (zleaf_ok (zs_iconst (by decide) (by decide +kernel : decode cX2_creaseAlong 0 = .ok (.iconst 0, 1)))) (znode_ok (zleaf_ok (zs_istore_n (Nat.le_of_ble_eq_true rfl) (by decide +kernel : decode cX2_creaseAlong 1 = .ok (.istore_n 2, 1)) rfl)) (zleaf_ok (zs_iconst (by decide) (by decide +kernel : decode cX2_creaseAlong 2 = .ok (.iconst 0, 1)))))) (znode_ok (zleaf_ok (zs_istore_n (Nat.le_of_ble_eq_true rfl) (by decide +kernel : decode cX2_creaseAlong 3 = .ok (.istore_n 3, 1)) rfl)) (znode_ok (zleaf_ok (zs_iload_n (by decide +kernel : decode cX2_creaseAlong 4 = .ok (.iload_n 3, 1)) rfl)) (zleaf_ok (zs_aload_n (by decide +kernel : decode cX2_creaseAlong 5 = .ok (.aload_n 0, 1)) rfl))))) (znode_ok (znode_ok (zleaf_ok (zs_get (C := RX2) (Tc := TX2) (Nc := 8) rfl zinX2 (Nat.le_of_ble_eq_true rfl) zw_113 (by decide +kernel : decode cX2_creaseAlong 6 = .ok (.getfield 10, 3)))) (znode_ok (zleaf_ok (zs_getN (C := RX1) (Tc := TX1) (Nc := 9) rfl zinX1 (Nat.le_of_ble_eq_true rfl) zw_128 (by decide +kernel : decode cX2_creaseAlong 9 = .ok (.getfield 47, 3)))) (zleaf_ok (zs_icmp_ge (t := 47) (by decide) (by decide +kernel : decode cX2_creaseAlong 12 = .ok (.if_icmp .ge 35, 3)))))) (znode_ok (znode_ok (zleaf_ok (zs_aload_n (by decide +kernel : decode cX2_creaseAlong 15 = .ok (.aload_n 0, 1)) rfl)) (zleaf_ok (zs_iload_n (by decide +kernel : decode cX2_creaseAlong 16 = .ok (.iload_n 3, 1)) rfl))) (znode_ok (zleaf_ok (zs_iconst (by decide) (by decide +kernel : decode cX2_creaseAlong 17 = .ok (.iconst 0, 1)))) (zleaf_ok (zs_iload_n (by decide +kernel : decode cX2_creaseAlong 18 = .ok (.iload_n 1, 1)) rfl)))))) (znode_ok (znode_ok (znode_ok (zleaf_ok (⟨zcs0 (n := 3) z_good zw_335 zw_19 zw_336 zw_337 zw_338 (by decide +kernel) (by decide +kernel : decode cX2_creaseAlong 19 = .ok (.invokevirtual 307, 3)), Nat.le_of_ble_eq_true rfl, by decide +kernel, (fun _ => ⟨TX2, 8, rfl⟩)⟩)) (znode_ok (zleaf_ok (zs_if_eq (t := 28) (by decide) (by decide +kernel : decode cX2_creaseAlong 22 = .ok (.ifCond .eq 6, 3)))) (zleaf_ok (zs_iinc (Nat.le_of_ble_eq_true rfl) (by decide) (by decide +kernel : decode cX2_creaseAlong 25 = .ok (.iinc 2 1, 3)))))) (znode_ok (znode_ok (zleaf_ok (zs_aload_n (by decide +kernel : decode cX2_creaseAlong 28 = .ok (.aload_n 0, 1)) rfl)) (zleaf_ok (zs_iload_n (by decide +kernel : decode cX2_creaseAlong 29 = .ok (.iload_n 3, 1)) rfl))) (znode_ok (zleaf_ok (zs_iconst (by decide) (by decide +kernel : decode cX2_creaseAlong 30 = .ok (.iconst 1, 1)))) (zleaf_ok (zs_iload_n (by decide +kernel : decode cX2_creaseAlong 31 = .ok (.iload_n 1, 1)) rfl))))) (znode_ok (znode_ok (zleaf_ok (⟨zcs0 (n := 3) z_good zw_335 zw_19 zw_336 zw_337 zw_338 (by decide +kernel) (by decide +kernel : decode cX2_creaseAlong 32 = .ok (.invokevirtual 307, 3)), Nat.le_of_ble_eq_true rfl, by decide +kernel, (fun _ => ⟨TX2, 8, rfl⟩)⟩)) (znode_ok (zleaf_ok (zs_if_eq (t := 41) (by decide) (by decide +kernel : decode cX2_creaseAlong 35 = .ok (.ifCond .eq 6, 3)))) (zleaf_ok (zs_iinc (Nat.le_of_ble_eq_true rfl) (by decide) (by decide +kernel : decode cX2_creaseAlong 38 = .ok (.iinc 2 1, 3)))))) (znode_ok (znode_ok (zleaf_ok (zs_iinc (Nat.le_of_ble_eq_true rfl) (by decide) (by decide +kernel : decode cX2_creaseAlong 41 = .ok (.iinc 3 1, 3)))) (zleaf_ok (zs_goto (t := 4) (by decide) (by decide +kernel : decode cX2_creaseAlong 44 = .ok (.goto (-40), 3))))) (znode_ok (zleaf_ok (zs_iload_n (by decide +kernel : decode cX2_creaseAlong 47 = .ok (.iload_n 2, 1)) rfl)) (zleaf_ok (Or.inr (Or.inl ⟨rfl, rfl, (by decide +kernel : decode cX2_creaseAlong 48 = .ok (.ireturn, 1))⟩)))))))
/-- Creasebook.creasePair(IZI)Z -/
def zc_X2_creasePair (pc : Nat) : Option zI := znode 54 pc (znode 25 pc (znode 12 pc (znode 5 pc (znode 1 pc (zleaf 0 pc (.inl (zLd zIsA 1 0))) (znode 4 pc (zleaf 1 pc (.inl (zS2 (zGet 2 0 4)))) (zleaf 4 pc (.inl (zLd zIsI 5 1))))) (znode 9 pc (znode 6 pc (zleaf 5 pc (.inl (zLd zIsI 6 2))) (zleaf 6 pc (.inr (.inr (.inr (29, 3, 1)))))) (znode 11 pc (zleaf 9 pc (.inl (zSt1 zIsI 11 4))) (zleaf 11 pc (.inl (zLd zIsI 12 1)))))) (znode 18 pc (znode 13 pc (zleaf 12 pc (.inl (zLd zIsI 13 2))) (znode 16 pc (zleaf 13 pc (.inr (.inr (.inr (90, 2, 2))))) (zleaf 16 pc (.inl (zSt1 zIsI 18 5))))) (znode 21 pc (znode 20 pc (zleaf 18 pc (.inl (zLd zIsI 20 4))) (zleaf 20 pc (.inl (zS1 (zCst (.int (-1)) 21))))) (znode 24 pc (zleaf 21 pc (.inl (zS1 (zIcmp (fun x y => decide (x = y)) 51 24)))) (zleaf 24 pc (.inl (zLd zIsA 25 0))))))) (znode 41 pc (znode 33 pc (znode 28 pc (zleaf 25 pc (.inl (zS2 (zGet 2 0 28)))) (znode 31 pc (zleaf 28 pc (.inl (zS2 (zGet 1 3 31)))) (zleaf 31 pc (.inl (zLd zIsI 33 5))))) (znode 37 pc (znode 34 pc (zleaf 33 pc (.inl (zS2 (zAldI 0 34)))) (zleaf 34 pc (.inl (zS1 (zIf (fun x => decide (¬ x = 0)) 51 37))))) (znode 38 pc (zleaf 37 pc (.inl (zLd zIsA 38 0))) (zleaf 38 pc (.inl (zS2 (zGet 2 1 41))))))) (znode 48 pc (znode 44 pc (znode 42 pc (zleaf 41 pc (.inl (zLd zIsI 42 1))) (zleaf 42 pc (.inl (zLd zIsI 44 4)))) (znode 45 pc (zleaf 44 pc (.inl (zLd zIsI 45 3))) (zleaf 45 pc (.inr (.inr (.inr (22, 4, 1))))))) (znode 52 pc (znode 51 pc (zleaf 48 pc (.inl (zS1 (zIf (fun x => decide (¬ x = 0)) 53 51)))) (zleaf 51 pc (.inl (zS1 (zCst (.int 0) 52))))) (znode 53 pc (zleaf 52 pc (.inr (.inl 5))) (zleaf 53 pc (.inl (zLd zIsA 54 0)))))))) (znode 83 pc (znode 69 pc (znode 59 pc (znode 57 pc (zleaf 54 pc (.inl (zS2 (zGet 2 1 57)))) (znode 58 pc (zleaf 57 pc (.inl (zLd zIsI 58 1))) (zleaf 58 pc (.inl (zLd zIsI 59 3))))) (znode 65 pc (znode 62 pc (zleaf 59 pc (.inr (.inr (.inr (19, 3, 1))))) (zleaf 62 pc (.inl (zS1 (zIf (fun x => decide (x = 0)) 69 65))))) (znode 66 pc (zleaf 65 pc (.inl (zLd zIsI 66 1))) (zleaf 66 pc (.inl (zS1 (zGo 71))))))) (znode 74 pc (znode 71 pc (zleaf 69 pc (.inl (zLd zIsI 71 4))) (znode 73 pc (zleaf 71 pc (.inl (zSt1 zIsI 73 6))) (zleaf 73 pc (.inl (zLd zIsA 74 0))))) (znode 79 pc (znode 77 pc (zleaf 74 pc (.inl (zS2 (zGet 2 1 77)))) (zleaf 77 pc (.inl (zLd zIsI 79 6)))) (znode 82 pc (zleaf 79 pc (.inr (.inr (.inr (17, 2, 1))))) (zleaf 82 pc (.inl (zLd zIsI 83 3))))))) (znode 97 pc (znode 90 pc (znode 86 pc (zleaf 83 pc (.inr (.inr (.inr (89, 1, 2))))) (znode 89 pc (zleaf 86 pc (.inl (zS1 (zIcmp (fun x y => decide (¬ x = y)) 93 89)))) (zleaf 89 pc (.inl (zS1 (zCst (.int 1) 90)))))) (znode 94 pc (znode 93 pc (zleaf 90 pc (.inl (zS1 (zGo 94)))) (zleaf 93 pc (.inl (zS1 (zCst (.int 2) 94))))) (znode 96 pc (zleaf 94 pc (.inl (zSt1 zIsI 96 7))) (zleaf 96 pc (.inl (zLd zIsA 97 0)))))) (znode 105 pc (znode 102 pc (znode 100 pc (zleaf 97 pc (.inl (zS2 (zGet 2 0 100)))) (zleaf 100 pc (.inl (zLd zIsI 102 5)))) (znode 104 pc (zleaf 102 pc (.inl (zLd zIsI 104 7))) (zleaf 104 pc (.inl (zLd zIsA 105 0))))) (znode 111 pc (znode 108 pc (zleaf 105 pc (.inl (zS2 (zGet 2 5 108)))) (zleaf 108 pc (.inr (.inr (.inr (30, 4, 1)))))) (znode 112 pc (zleaf 111 pc (.inl (zS1 (zCst (.int 1) 112)))) (zleaf 112 pc (.inr (.inl 5))))))))
theorem zk_X2_creasePair (O : Nat → State → Heap → Prop) (E : zE) (l : Launch) : ∀ pc i, zc_X2_creasePair pc = some i → zOK z_cl z_T z_G z_N O E z_yy z_bb z_nl z_cc z_rt z_hh l 71 pc i := fun pc => znode_ok (znode_ok (znode_ok (znode_ok (znode_ok (zleaf_ok (zs_aload_n (by decide +kernel : decode cX2_creasePair 0 = .ok (.aload_n 0, 1)) rfl)) (znode_ok (zleaf_ok (zs_get (C := RX2) (Tc := TX2) (Nc := 8) rfl zinX2 (Nat.le_of_ble_eq_true rfl) zw_113 (by decide +kernel : decode cX2_creasePair 1 = .ok (.getfield 10, 3)))) (zleaf_ok (zs_iload_n (by decide +kernel : decode cX2_creasePair 4 = .ok (.iload_n 1, 1)) rfl)))) (znode_ok (znode_ok (zleaf_ok (zs_iload_n (by decide +kernel : decode cX2_creasePair 5 = .ok (.iload_n 2, 1)) rfl)) (zleaf_ok (⟨zcs1 (n := 2) z_good zw_96 zw_89 zw_238 zw_98 zw_99 (by decide +kernel) (by decide +kernel : decode cX2_creasePair 6 = .ok (.invokevirtual 186, 3)), Nat.le_of_ble_eq_true rfl, by decide +kernel, (fun _ => ⟨TX1, 9, rfl⟩)⟩))) (znode_ok (zleaf_ok (zs_istore (Nat.le_of_ble_eq_true rfl) (by decide +kernel : decode cX2_creasePair 9 = .ok (.istore 4, 2)))) (zleaf_ok (zs_iload_n (by decide +kernel : decode cX2_creasePair 11 = .ok (.iload_n 1, 1)) rfl))))) (znode_ok (znode_ok (zleaf_ok (zs_iload_n (by decide +kernel : decode cX2_creasePair 12 = .ok (.iload_n 2, 1)) rfl)) (znode_ok (zleaf_ok (⟨zcs2 (n := 2) z_good zw_93 zw_19 zw_239 zw_95 (by decide +kernel) (by decide +kernel : decode cX2_creasePair 13 = .ok (.invokestatic 189, 3)), Nat.le_of_ble_eq_true rfl, by decide +kernel, (fun h => absurd rfl (h.1))⟩)) (zleaf_ok (zs_istore (Nat.le_of_ble_eq_true rfl) (by decide +kernel : decode cX2_creasePair 16 = .ok (.istore 5, 2)))))) (znode_ok (znode_ok (zleaf_ok (zs_iload (by decide +kernel : decode cX2_creasePair 18 = .ok (.iload 4, 2)))) (zleaf_ok (zs_iconst (by decide) (by decide +kernel : decode cX2_creasePair 20 = .ok (.iconst (-1), 1))))) (znode_ok (zleaf_ok (zs_icmp_eq (t := 51) (by decide) (by decide +kernel : decode cX2_creasePair 21 = .ok (.if_icmp .eq 30, 3)))) (zleaf_ok (zs_aload_n (by decide +kernel : decode cX2_creasePair 24 = .ok (.aload_n 0, 1)) rfl)))))) (znode_ok (znode_ok (znode_ok (zleaf_ok (zs_get (C := RX2) (Tc := TX2) (Nc := 8) rfl zinX2 (Nat.le_of_ble_eq_true rfl) zw_113 (by decide +kernel : decode cX2_creasePair 25 = .ok (.getfield 10, 3)))) (znode_ok (zleaf_ok (zs_getN (C := RX1) (Tc := TX1) (Nc := 9) rfl zinX1 (Nat.le_of_ble_eq_true rfl) zw_240 (by decide +kernel : decode cX2_creasePair 28 = .ok (.getfield 192, 3)))) (zleaf_ok (zs_iload (by decide +kernel : decode cX2_creasePair 31 = .ok (.iload 5, 2)))))) (znode_ok (znode_ok (zleaf_ok (zs_aldI rfl (by decide +kernel : decode cX2_creasePair 33 = .ok (.iaload, 1)))) (zleaf_ok (zs_if_ne (t := 51) (by decide) (by decide +kernel : decode cX2_creasePair 34 = .ok (.ifCond .ne 17, 3))))) (znode_ok (zleaf_ok (zs_aload_n (by decide +kernel : decode cX2_creasePair 37 = .ok (.aload_n 0, 1)) rfl)) (zleaf_ok (zs_get (C := RX2) (Tc := TX2) (Nc := 8) rfl zinX2 (Nat.le_of_ble_eq_true rfl) zw_119 (by decide +kernel : decode cX2_creasePair 38 = .ok (.getfield 19, 3))))))) (znode_ok (znode_ok (znode_ok (zleaf_ok (zs_iload_n (by decide +kernel : decode cX2_creasePair 41 = .ok (.iload_n 1, 1)) rfl)) (zleaf_ok (zs_iload (by decide +kernel : decode cX2_creasePair 42 = .ok (.iload 4, 2))))) (znode_ok (zleaf_ok (zs_iload_n (by decide +kernel : decode cX2_creasePair 44 = .ok (.iload_n 3, 1)) rfl)) (zleaf_ok (⟨zcs1 (n := 3) z_good zw_339 zw_14 zw_340 zw_341 zw_342 (by decide +kernel) (by decide +kernel : decode cX2_creasePair 45 = .ok (.invokevirtual 311, 3)), Nat.le_of_ble_eq_true rfl, by decide +kernel, (fun _ => ⟨TX0, 8, rfl⟩)⟩)))) (znode_ok (znode_ok (zleaf_ok (zs_if_ne (t := 53) (by decide) (by decide +kernel : decode cX2_creasePair 48 = .ok (.ifCond .ne 5, 3)))) (zleaf_ok (zs_iconst (by decide) (by decide +kernel : decode cX2_creasePair 51 = .ok (.iconst 0, 1))))) (znode_ok (zleaf_ok (Or.inr (Or.inr (Or.inr (Or.inr (Or.inr ⟨rfl, rfl, (by decide +kernel : decode cX2_creasePair 52 = .ok (.ireturn, 1))⟩)))))) (zleaf_ok (zs_aload_n (by decide +kernel : decode cX2_creasePair 53 = .ok (.aload_n 0, 1)) rfl))))))) (znode_ok (znode_ok (znode_ok (znode_ok (zleaf_ok (zs_get (C := RX2) (Tc := TX2) (Nc := 8) rfl zinX2 (Nat.le_of_ble_eq_true rfl) zw_119 (by decide +kernel : decode cX2_creasePair 54 = .ok (.getfield 19, 3)))) (znode_ok (zleaf_ok (zs_iload_n (by decide +kernel : decode cX2_creasePair 57 = .ok (.iload_n 1, 1)) rfl)) (zleaf_ok (zs_iload_n (by decide +kernel : decode cX2_creasePair 58 = .ok (.iload_n 3, 1)) rfl)))) (znode_ok (znode_ok (zleaf_ok (⟨zcs1 (n := 2) z_good zw_35 zw_14 zw_343 zw_37 zw_38 (by decide +kernel) (by decide +kernel : decode cX2_creasePair 59 = .ok (.invokevirtual 314, 3)), Nat.le_of_ble_eq_true rfl, by decide +kernel, (fun _ => ⟨TX0, 8, rfl⟩)⟩)) (zleaf_ok (zs_if_eq (t := 69) (by decide) (by decide +kernel : decode cX2_creasePair 62 = .ok (.ifCond .eq 7, 3))))) (znode_ok (zleaf_ok (zs_iload_n (by decide +kernel : decode cX2_creasePair 65 = .ok (.iload_n 1, 1)) rfl)) (zleaf_ok (zs_goto (t := 71) (by decide) (by decide +kernel : decode cX2_creasePair 66 = .ok (.goto 5, 3))))))) (znode_ok (znode_ok (zleaf_ok (zs_iload (by decide +kernel : decode cX2_creasePair 69 = .ok (.iload 4, 2)))) (znode_ok (zleaf_ok (zs_istore (Nat.le_of_ble_eq_true rfl) (by decide +kernel : decode cX2_creasePair 71 = .ok (.istore 6, 2)))) (zleaf_ok (zs_aload_n (by decide +kernel : decode cX2_creasePair 73 = .ok (.aload_n 0, 1)) rfl)))) (znode_ok (znode_ok (zleaf_ok (zs_get (C := RX2) (Tc := TX2) (Nc := 8) rfl zinX2 (Nat.le_of_ble_eq_true rfl) zw_119 (by decide +kernel : decode cX2_creasePair 74 = .ok (.getfield 19, 3)))) (zleaf_ok (zs_iload (by decide +kernel : decode cX2_creasePair 77 = .ok (.iload 6, 2))))) (znode_ok (zleaf_ok (⟨zcs1 (n := 1) z_good zw_210 zw_14 zw_211 zw_212 zw_213 (by decide +kernel) (by decide +kernel : decode cX2_creasePair 79 = .ok (.invokevirtual 147, 3)), Nat.le_of_ble_eq_true rfl, by decide +kernel, (fun _ => ⟨TX0, 8, rfl⟩)⟩)) (zleaf_ok (zs_iload_n (by decide +kernel : decode cX2_creasePair 82 = .ok (.iload_n 3, 1)) rfl)))))) (znode_ok (znode_ok (znode_ok (zleaf_ok (⟨zcs2 (n := 1) z_good zw_55 zw_19 zw_344 zw_57 (by decide +kernel) (by decide +kernel : decode cX2_creasePair 83 = .ok (.invokestatic 317, 3)), Nat.le_of_ble_eq_true rfl, by decide +kernel, (fun h => absurd rfl (h.1))⟩)) (znode_ok (zleaf_ok (zs_icmp_ne (t := 93) (by decide) (by decide +kernel : decode cX2_creasePair 86 = .ok (.if_icmp .ne 7, 3)))) (zleaf_ok (zs_iconst (by decide) (by decide +kernel : decode cX2_creasePair 89 = .ok (.iconst 1, 1)))))) (znode_ok (znode_ok (zleaf_ok (zs_goto (t := 94) (by decide) (by decide +kernel : decode cX2_creasePair 90 = .ok (.goto 4, 3)))) (zleaf_ok (zs_iconst (by decide) (by decide +kernel : decode cX2_creasePair 93 = .ok (.iconst 2, 1))))) (znode_ok (zleaf_ok (zs_istore (Nat.le_of_ble_eq_true rfl) (by decide +kernel : decode cX2_creasePair 94 = .ok (.istore 7, 2)))) (zleaf_ok (zs_aload_n (by decide +kernel : decode cX2_creasePair 96 = .ok (.aload_n 0, 1)) rfl))))) (znode_ok (znode_ok (znode_ok (zleaf_ok (zs_get (C := RX2) (Tc := TX2) (Nc := 8) rfl zinX2 (Nat.le_of_ble_eq_true rfl) zw_113 (by decide +kernel : decode cX2_creasePair 97 = .ok (.getfield 10, 3)))) (zleaf_ok (zs_iload (by decide +kernel : decode cX2_creasePair 100 = .ok (.iload 5, 2))))) (znode_ok (zleaf_ok (zs_iload (by decide +kernel : decode cX2_creasePair 102 = .ok (.iload 7, 2)))) (zleaf_ok (zs_aload_n (by decide +kernel : decode cX2_creasePair 104 = .ok (.aload_n 0, 1)) rfl)))) (znode_ok (znode_ok (zleaf_ok (zs_get (C := RX2) (Tc := TX2) (Nc := 8) rfl zinX2 (Nat.le_of_ble_eq_true rfl) zw_133 (by decide +kernel : decode cX2_creasePair 105 = .ok (.getfield 54, 3)))) (zleaf_ok (⟨zcs1 (n := 3) z_good zw_345 zw_89 zw_346 zw_347 zw_348 (by decide +kernel) (by decide +kernel : decode cX2_creasePair 108 = .ok (.invokevirtual 320, 3)), Nat.le_of_ble_eq_true rfl, by decide +kernel, (fun _ => ⟨TX1, 9, rfl⟩)⟩))) (znode_ok (zleaf_ok (zs_iconst (by decide) (by decide +kernel : decode cX2_creasePair 111 = .ok (.iconst 1, 1)))) (zleaf_ok (Or.inr (Or.inr (Or.inr (Or.inr (Or.inr ⟨rfl, rfl, (by decide +kernel : decode cX2_creasePair 112 = .ok (.ireturn, 1))⟩)))))))))))
/-- Creasebook.spreadInk(I)I -/
def zc_X2_spreadInk (pc : Nat) : Option zI := znode 35 pc (znode 16 pc (znode 5 pc (znode 2 pc (znode 1 pc (zleaf 0 pc (.inl (zS1 (zCst (.int 0) 1)))) (zleaf 1 pc (.inl (zSt1 zIsI 2 2)))) (znode 3 pc (zleaf 2 pc (.inl (zS1 (zCst (.int 0) 3)))) (znode 4 pc (zleaf 3 pc (.inl (zSt1 zIsI 4 3))) (zleaf 4 pc (.inl (zLd zIsI 5 3)))))) (znode 9 pc (znode 6 pc (zleaf 5 pc (.inl (zLd zIsA 6 0))) (zleaf 6 pc (.inl (zS2 (zGet 2 0 9))))) (znode 12 pc (zleaf 9 pc (.inl (zS2 (zGet 1 2 12)))) (znode 15 pc (zleaf 12 pc (.inl (zS1 (zIcmp (fun x y => decide (y ≤ x)) 78 15)))) (zleaf 15 pc (.inl (zLd zIsA 16 0))))))) (znode 24 pc (znode 18 pc (znode 17 pc (zleaf 16 pc (.inl (zLd zIsI 17 3))) (zleaf 17 pc (.inl (zLd zIsI 18 1)))) (znode 21 pc (zleaf 18 pc (.inr (.inr (.inr (74, 3, 0))))) (znode 23 pc (zleaf 21 pc (.inl (zSt1 zIsI 23 4))) (zleaf 23 pc (.inl (zLd zIsA 24 0)))))) (znode 28 pc (znode 25 pc (zleaf 24 pc (.inl (zLd zIsI 25 3))) (znode 27 pc (zleaf 25 pc (.inl (zLd zIsI 27 4))) (zleaf 27 pc (.inl (zLd zIsI 28 1))))) (znode 31 pc (zleaf 28 pc (.inr (.inr (.inr (75, 4, 0))))) (znode 34 pc (zleaf 31 pc (.inl (zS1 (zIf (fun x => decide (x = 0)) 72 34)))) (zleaf 34 pc (.inl (zLd zIsA 35 0)))))))) (znode 56 pc (znode 44 pc (znode 39 pc (znode 38 pc (zleaf 35 pc (.inl (zS2 (zGet 2 0 38)))) (zleaf 38 pc (.inl (zLd zIsA 39 0)))) (znode 40 pc (zleaf 39 pc (.inl (zLd zIsI 40 3))) (znode 41 pc (zleaf 40 pc (.inl (zLd zIsI 41 1))) (zleaf 41 pc (.inr (.inr (.inr (89, 1, 2)))))))) (znode 51 pc (znode 47 pc (zleaf 44 pc (.inr (.inr (.inr (76, 3, 0))))) (znode 50 pc (zleaf 47 pc (.inr (.inr (.inr (37, 2, 1))))) (zleaf 50 pc (.inl (zS1 (zPop 51)))))) (znode 52 pc (zleaf 51 pc (.inl (zLd zIsA 52 0))) (znode 55 pc (zleaf 52 pc (.inl (zS2 (zGet 2 0 55)))) (zleaf 55 pc (.inl (zLd zIsA 56 0))))))) (znode 68 pc (znode 59 pc (znode 58 pc (zleaf 56 pc (.inl (zLd zIsI 58 4))) (zleaf 58 pc (.inl (zLd zIsI 59 1)))) (znode 62 pc (zleaf 59 pc (.inr (.inr (.inr (89, 1, 2))))) (znode 65 pc (zleaf 62 pc (.inr (.inr (.inr (76, 3, 0))))) (zleaf 65 pc (.inr (.inr (.inr (37, 2, 1)))))))) (znode 75 pc (znode 69 pc (zleaf 68 pc (.inl (zS1 (zPop 69)))) (znode 72 pc (zleaf 69 pc (.inl (zIinc 72 2 1))) (zleaf 72 pc (.inl (zIinc 75 3 1))))) (znode 78 pc (zleaf 75 pc (.inl (zS1 (zGo 4)))) (znode 79 pc (zleaf 78 pc (.inl (zLd zIsI 79 2))) (zleaf 79 pc (.inr (.inl 1))))))))
theorem zk_X2_spreadInk (O : Nat → State → Heap → Prop) (E : zE) (l : Launch) : ∀ pc i, zc_X2_spreadInk pc = some i → zOK z_cl z_T z_G z_N O E z_yy z_bb z_nl z_cc z_rt z_hh l 72 pc i := fun pc => znode_ok (znode_ok (znode_ok (znode_ok (znode_ok (zleaf_ok (zs_iconst (by decide) (by decide +kernel : decode cX2_spreadInk 0 = .ok (.iconst 0, 1)))) (zleaf_ok (zs_istore_n (Nat.le_of_ble_eq_true rfl) (by decide +kernel : decode cX2_spreadInk 1 = .ok (.istore_n 2, 1)) rfl))) (znode_ok (zleaf_ok (zs_iconst (by decide) (by decide +kernel : decode cX2_spreadInk 2 = .ok (.iconst 0, 1)))) (znode_ok (zleaf_ok (zs_istore_n (Nat.le_of_ble_eq_true rfl) (by decide +kernel : decode cX2_spreadInk 3 = .ok (.istore_n 3, 1)) rfl)) (zleaf_ok (zs_iload_n (by decide +kernel : decode cX2_spreadInk 4 = .ok (.iload_n 3, 1)) rfl))))) (znode_ok (znode_ok (zleaf_ok (zs_aload_n (by decide +kernel : decode cX2_spreadInk 5 = .ok (.aload_n 0, 1)) rfl)) (zleaf_ok (zs_get (C := RX2) (Tc := TX2) (Nc := 8) rfl zinX2 (Nat.le_of_ble_eq_true rfl) zw_113 (by decide +kernel : decode cX2_spreadInk 6 = .ok (.getfield 10, 3))))) (znode_ok (zleaf_ok (zs_getN (C := RX1) (Tc := TX1) (Nc := 9) rfl zinX1 (Nat.le_of_ble_eq_true rfl) zw_128 (by decide +kernel : decode cX2_spreadInk 9 = .ok (.getfield 47, 3)))) (znode_ok (zleaf_ok (zs_icmp_ge (t := 78) (by decide) (by decide +kernel : decode cX2_spreadInk 12 = .ok (.if_icmp .ge 66, 3)))) (zleaf_ok (zs_aload_n (by decide +kernel : decode cX2_spreadInk 15 = .ok (.aload_n 0, 1)) rfl)))))) (znode_ok (znode_ok (znode_ok (zleaf_ok (zs_iload_n (by decide +kernel : decode cX2_spreadInk 16 = .ok (.iload_n 3, 1)) rfl)) (zleaf_ok (zs_iload_n (by decide +kernel : decode cX2_spreadInk 17 = .ok (.iload_n 1, 1)) rfl))) (znode_ok (zleaf_ok (⟨zcs0 (n := 2) z_good zw_349 zw_19 zw_350 zw_351 zw_352 (by decide +kernel) (by decide +kernel : decode cX2_spreadInk 18 = .ok (.invokevirtual 324, 3)), Nat.le_of_ble_eq_true rfl, by decide +kernel, (fun _ => ⟨TX2, 8, rfl⟩)⟩)) (znode_ok (zleaf_ok (zs_istore (Nat.le_of_ble_eq_true rfl) (by decide +kernel : decode cX2_spreadInk 21 = .ok (.istore 4, 2)))) (zleaf_ok (zs_aload_n (by decide +kernel : decode cX2_spreadInk 23 = .ok (.aload_n 0, 1)) rfl))))) (znode_ok (znode_ok (zleaf_ok (zs_iload_n (by decide +kernel : decode cX2_spreadInk 24 = .ok (.iload_n 3, 1)) rfl)) (znode_ok (zleaf_ok (zs_iload (by decide +kernel : decode cX2_spreadInk 25 = .ok (.iload 4, 2)))) (zleaf_ok (zs_iload_n (by decide +kernel : decode cX2_spreadInk 27 = .ok (.iload_n 1, 1)) rfl)))) (znode_ok (zleaf_ok (⟨zcs0 (n := 3) z_good zw_353 zw_19 zw_354 zw_355 zw_356 (by decide +kernel) (by decide +kernel : decode cX2_spreadInk 28 = .ok (.invokevirtual 327, 3)), Nat.le_of_ble_eq_true rfl, by decide +kernel, (fun _ => ⟨TX2, 8, rfl⟩)⟩)) (znode_ok (zleaf_ok (zs_if_eq (t := 72) (by decide) (by decide +kernel : decode cX2_spreadInk 31 = .ok (.ifCond .eq 41, 3)))) (zleaf_ok (zs_aload_n (by decide +kernel : decode cX2_spreadInk 34 = .ok (.aload_n 0, 1)) rfl))))))) (znode_ok (znode_ok (znode_ok (znode_ok (zleaf_ok (zs_get (C := RX2) (Tc := TX2) (Nc := 8) rfl zinX2 (Nat.le_of_ble_eq_true rfl) zw_113 (by decide +kernel : decode cX2_spreadInk 35 = .ok (.getfield 10, 3)))) (zleaf_ok (zs_aload_n (by decide +kernel : decode cX2_spreadInk 38 = .ok (.aload_n 0, 1)) rfl))) (znode_ok (zleaf_ok (zs_iload_n (by decide +kernel : decode cX2_spreadInk 39 = .ok (.iload_n 3, 1)) rfl)) (znode_ok (zleaf_ok (zs_iload_n (by decide +kernel : decode cX2_spreadInk 40 = .ok (.iload_n 1, 1)) rfl)) (zleaf_ok (⟨zcs2 (n := 1) z_good zw_55 zw_19 zw_344 zw_57 (by decide +kernel) (by decide +kernel : decode cX2_spreadInk 41 = .ok (.invokestatic 317, 3)), Nat.le_of_ble_eq_true rfl, by decide +kernel, (fun h => absurd rfl (h.1))⟩))))) (znode_ok (znode_ok (zleaf_ok (⟨zcs0 (n := 2) z_good zw_183 zw_19 zw_184 zw_185 zw_186 (by decide +kernel) (by decide +kernel : decode cX2_spreadInk 44 = .ok (.invokevirtual 112, 3)), Nat.le_of_ble_eq_true rfl, by decide +kernel, (fun _ => ⟨TX2, 8, rfl⟩)⟩)) (znode_ok (zleaf_ok (⟨zcs1 (n := 1) z_good zw_187 zw_89 zw_188 zw_189 zw_190 (by decide +kernel) (by decide +kernel : decode cX2_spreadInk 47 = .ok (.invokevirtual 116, 3)), Nat.le_of_ble_eq_true rfl, by decide +kernel, (fun _ => ⟨TX1, 9, rfl⟩)⟩)) (zleaf_ok (zs_pop (by decide +kernel : decode cX2_spreadInk 50 = .ok (.pop, 1)))))) (znode_ok (zleaf_ok (zs_aload_n (by decide +kernel : decode cX2_spreadInk 51 = .ok (.aload_n 0, 1)) rfl)) (znode_ok (zleaf_ok (zs_get (C := RX2) (Tc := TX2) (Nc := 8) rfl zinX2 (Nat.le_of_ble_eq_true rfl) zw_113 (by decide +kernel : decode cX2_spreadInk 52 = .ok (.getfield 10, 3)))) (zleaf_ok (zs_aload_n (by decide +kernel : decode cX2_spreadInk 55 = .ok (.aload_n 0, 1)) rfl)))))) (znode_ok (znode_ok (znode_ok (zleaf_ok (zs_iload (by decide +kernel : decode cX2_spreadInk 56 = .ok (.iload 4, 2)))) (zleaf_ok (zs_iload_n (by decide +kernel : decode cX2_spreadInk 58 = .ok (.iload_n 1, 1)) rfl))) (znode_ok (zleaf_ok (⟨zcs2 (n := 1) z_good zw_55 zw_19 zw_344 zw_57 (by decide +kernel) (by decide +kernel : decode cX2_spreadInk 59 = .ok (.invokestatic 317, 3)), Nat.le_of_ble_eq_true rfl, by decide +kernel, (fun h => absurd rfl (h.1))⟩)) (znode_ok (zleaf_ok (⟨zcs0 (n := 2) z_good zw_183 zw_19 zw_184 zw_185 zw_186 (by decide +kernel) (by decide +kernel : decode cX2_spreadInk 62 = .ok (.invokevirtual 112, 3)), Nat.le_of_ble_eq_true rfl, by decide +kernel, (fun _ => ⟨TX2, 8, rfl⟩)⟩)) (zleaf_ok (⟨zcs1 (n := 1) z_good zw_187 zw_89 zw_188 zw_189 zw_190 (by decide +kernel) (by decide +kernel : decode cX2_spreadInk 65 = .ok (.invokevirtual 116, 3)), Nat.le_of_ble_eq_true rfl, by decide +kernel, (fun _ => ⟨TX1, 9, rfl⟩)⟩))))) (znode_ok (znode_ok (zleaf_ok (zs_pop (by decide +kernel : decode cX2_spreadInk 68 = .ok (.pop, 1)))) (znode_ok (zleaf_ok (zs_iinc (Nat.le_of_ble_eq_true rfl) (by decide) (by decide +kernel : decode cX2_spreadInk 69 = .ok (.iinc 2 1, 3)))) (zleaf_ok (zs_iinc (Nat.le_of_ble_eq_true rfl) (by decide) (by decide +kernel : decode cX2_spreadInk 72 = .ok (.iinc 3 1, 3)))))) (znode_ok (zleaf_ok (zs_goto (t := 4) (by decide) (by decide +kernel : decode cX2_spreadInk 75 = .ok (.goto (-71), 3)))) (znode_ok (zleaf_ok (zs_iload_n (by decide +kernel : decode cX2_spreadInk 78 = .ok (.iload_n 2, 1)) rfl)) (zleaf_ok (Or.inr (Or.inl ⟨rfl, rfl, (by decide +kernel : decode cX2_spreadInk 79 = .ok (.ireturn, 1))⟩))))))))
/-- Creasebook.countBlots(I)I -/
def zc_X2_countBlots (pc : Nat) : Option zI := znode 17 pc (znode 5 pc (znode 2 pc (znode 1 pc (zleaf 0 pc (.inl (zS1 (zCst (.int 0) 1)))) (zleaf 1 pc (.inl (zSt1 zIsI 2 2)))) (znode 3 pc (zleaf 2 pc (.inl (zS1 (zCst (.int 0) 3)))) (znode 4 pc (zleaf 3 pc (.inl (zSt1 zIsI 4 3))) (zleaf 4 pc (.inl (zLd zIsI 5 3)))))) (znode 12 pc (znode 6 pc (zleaf 5 pc (.inl (zLd zIsA 6 0))) (znode 9 pc (zleaf 6 pc (.inl (zS2 (zGet 2 0 9)))) (zleaf 9 pc (.inl (zS2 (zGet 1 2 12)))))) (znode 15 pc (zleaf 12 pc (.inl (zS1 (zIcmp (fun x y => decide (y ≤ x)) 39 15)))) (znode 16 pc (zleaf 15 pc (.inl (zLd zIsA 16 0))) (zleaf 16 pc (.inl (zLd zIsI 17 3))))))) (znode 27 pc (znode 20 pc (znode 18 pc (zleaf 17 pc (.inl (zLd zIsA 18 0))) (znode 19 pc (zleaf 18 pc (.inl (zLd zIsI 19 3))) (zleaf 19 pc (.inl (zLd zIsI 20 1))))) (znode 23 pc (zleaf 20 pc (.inr (.inr (.inr (74, 3, 0))))) (znode 24 pc (zleaf 23 pc (.inl (zLd zIsI 24 1))) (zleaf 24 pc (.inr (.inr (.inr (75, 4, 0)))))))) (znode 36 pc (znode 30 pc (zleaf 27 pc (.inl (zS1 (zIf (fun x => decide (x = 0)) 33 30)))) (znode 33 pc (zleaf 30 pc (.inl (zIinc 33 2 1))) (zleaf 33 pc (.inl (zIinc 36 3 1))))) (znode 39 pc (zleaf 36 pc (.inl (zS1 (zGo 4)))) (znode 40 pc (zleaf 39 pc (.inl (zLd zIsI 40 2))) (zleaf 40 pc (.inr (.inl 1)))))))
theorem zk_X2_countBlots (O : Nat → State → Heap → Prop) (E : zE) (l : Launch) : ∀ pc i, zc_X2_countBlots pc = some i → zOK z_cl z_T z_G z_N O E z_yy z_bb z_nl z_cc z_rt z_hh l 73 pc i := fun pc => znode_ok (znode_ok (znode_ok (znode_ok (zleaf_ok (zs_iconst (by decide) (by decide +kernel : decode cX2_countBlots 0 = .ok (.iconst 0, 1)))) (zleaf_ok (zs_istore_n (Nat.le_of_ble_eq_true rfl) (by decide +kernel : decode cX2_countBlots 1 = .ok (.istore_n 2, 1)) rfl))) (znode_ok (zleaf_ok (zs_iconst (by decide) (by decide +kernel : decode cX2_countBlots 2 = .ok (.iconst 0, 1)))) (znode_ok (zleaf_ok (zs_istore_n (Nat.le_of_ble_eq_true rfl) (by decide +kernel : decode cX2_countBlots 3 = .ok (.istore_n 3, 1)) rfl)) (zleaf_ok (zs_iload_n (by decide +kernel : decode cX2_countBlots 4 = .ok (.iload_n 3, 1)) rfl))))) (znode_ok (znode_ok (zleaf_ok (zs_aload_n (by decide +kernel : decode cX2_countBlots 5 = .ok (.aload_n 0, 1)) rfl)) (znode_ok (zleaf_ok (zs_get (C := RX2) (Tc := TX2) (Nc := 8) rfl zinX2 (Nat.le_of_ble_eq_true rfl) zw_113 (by decide +kernel : decode cX2_countBlots 6 = .ok (.getfield 10, 3)))) (zleaf_ok (zs_getN (C := RX1) (Tc := TX1) (Nc := 9) rfl zinX1 (Nat.le_of_ble_eq_true rfl) zw_128 (by decide +kernel : decode cX2_countBlots 9 = .ok (.getfield 47, 3)))))) (znode_ok (zleaf_ok (zs_icmp_ge (t := 39) (by decide) (by decide +kernel : decode cX2_countBlots 12 = .ok (.if_icmp .ge 27, 3)))) (znode_ok (zleaf_ok (zs_aload_n (by decide +kernel : decode cX2_countBlots 15 = .ok (.aload_n 0, 1)) rfl)) (zleaf_ok (zs_iload_n (by decide +kernel : decode cX2_countBlots 16 = .ok (.iload_n 3, 1)) rfl)))))) (znode_ok (znode_ok (znode_ok (zleaf_ok (zs_aload_n (by decide +kernel : decode cX2_countBlots 17 = .ok (.aload_n 0, 1)) rfl)) (znode_ok (zleaf_ok (zs_iload_n (by decide +kernel : decode cX2_countBlots 18 = .ok (.iload_n 3, 1)) rfl)) (zleaf_ok (zs_iload_n (by decide +kernel : decode cX2_countBlots 19 = .ok (.iload_n 1, 1)) rfl)))) (znode_ok (zleaf_ok (⟨zcs0 (n := 2) z_good zw_349 zw_19 zw_350 zw_351 zw_352 (by decide +kernel) (by decide +kernel : decode cX2_countBlots 20 = .ok (.invokevirtual 324, 3)), Nat.le_of_ble_eq_true rfl, by decide +kernel, (fun _ => ⟨TX2, 8, rfl⟩)⟩)) (znode_ok (zleaf_ok (zs_iload_n (by decide +kernel : decode cX2_countBlots 23 = .ok (.iload_n 1, 1)) rfl)) (zleaf_ok (⟨zcs0 (n := 3) z_good zw_353 zw_19 zw_354 zw_355 zw_356 (by decide +kernel) (by decide +kernel : decode cX2_countBlots 24 = .ok (.invokevirtual 327, 3)), Nat.le_of_ble_eq_true rfl, by decide +kernel, (fun _ => ⟨TX2, 8, rfl⟩)⟩))))) (znode_ok (znode_ok (zleaf_ok (zs_if_eq (t := 33) (by decide) (by decide +kernel : decode cX2_countBlots 27 = .ok (.ifCond .eq 6, 3)))) (znode_ok (zleaf_ok (zs_iinc (Nat.le_of_ble_eq_true rfl) (by decide) (by decide +kernel : decode cX2_countBlots 30 = .ok (.iinc 2 1, 3)))) (zleaf_ok (zs_iinc (Nat.le_of_ble_eq_true rfl) (by decide) (by decide +kernel : decode cX2_countBlots 33 = .ok (.iinc 3 1, 3)))))) (znode_ok (zleaf_ok (zs_goto (t := 4) (by decide) (by decide +kernel : decode cX2_countBlots 36 = .ok (.goto (-32), 3)))) (znode_ok (zleaf_ok (zs_iload_n (by decide +kernel : decode cX2_countBlots 39 = .ok (.iload_n 2, 1)) rfl)) (zleaf_ok (Or.inr (Or.inl ⟨rfl, rfl, (by decide +kernel : decode cX2_countBlots 40 = .ok (.ireturn, 1))⟩)))))))
/-- Creasebook.cellThatMeets(II)I -/
def zc_X2_cellThatMeets (pc : Nat) : Option zI := znode 40 pc (znode 21 pc (znode 9 pc (znode 4 pc (znode 1 pc (zleaf 0 pc (.inl (zLd zIsI 1 2))) (zleaf 1 pc (.inr (.inr (.inr (89, 1, 2)))))) (znode 5 pc (zleaf 4 pc (.inl (zSt1 zIsI 5 3))) (znode 6 pc (zleaf 5 pc (.inl (zLd zIsA 6 0))) (zleaf 6 pc (.inl (zS2 (zGet 2 1 9))))))) (znode 14 pc (znode 10 pc (zleaf 9 pc (.inl (zLd zIsI 10 1))) (znode 11 pc (zleaf 10 pc (.inl (zLd zIsI 11 2))) (zleaf 11 pc (.inr (.inr (.inr (19, 3, 1))))))) (znode 17 pc (zleaf 14 pc (.inl (zS1 (zIf (fun x => decide (x = 0)) 29 17)))) (znode 18 pc (zleaf 17 pc (.inl (zLd zIsA 18 0))) (zleaf 18 pc (.inl (zS2 (zGet 2 1 21)))))))) (znode 30 pc (znode 23 pc (znode 22 pc (zleaf 21 pc (.inl (zLd zIsI 22 1))) (zleaf 22 pc (.inl (zLd zIsI 23 3)))) (znode 26 pc (zleaf 23 pc (.inr (.inr (.inr (16, 3, 1))))) (znode 29 pc (zleaf 26 pc (.inl (zS1 (zIf (fun x => decide (¬ x = 0)) 31 29)))) (zleaf 29 pc (.inl (zS1 (zCst (.int (-1)) 30))))))) (znode 35 pc (znode 31 pc (zleaf 30 pc (.inr (.inl 1))) (znode 32 pc (zleaf 31 pc (.inl (zLd zIsA 32 0))) (zleaf 32 pc (.inl (zS2 (zGet 2 1 35)))))) (znode 36 pc (zleaf 35 pc (.inl (zLd zIsI 36 1))) (znode 37 pc (zleaf 36 pc (.inl (zLd zIsI 37 2))) (zleaf 37 pc (.inr (.inr (.inr (20, 3, 1)))))))))) (znode 61 pc (znode 48 pc (znode 43 pc (znode 42 pc (zleaf 40 pc (.inl (zSt1 zIsI 42 4))) (zleaf 42 pc (.inl (zLd zIsA 43 0)))) (znode 46 pc (zleaf 43 pc (.inl (zS2 (zGet 2 1 46)))) (znode 47 pc (zleaf 46 pc (.inl (zLd zIsI 47 1))) (zleaf 47 pc (.inl (zLd zIsI 48 2)))))) (znode 54 pc (znode 51 pc (zleaf 48 pc (.inr (.inr (.inr (21, 3, 1))))) (znode 53 pc (zleaf 51 pc (.inl (zSt1 zIsI 53 5))) (zleaf 53 pc (.inl (zLd zIsI 54 3))))) (znode 57 pc (zleaf 54 pc (.inl (zS1 (zIf (fun x => decide (x = 0)) 71 57)))) (znode 58 pc (zleaf 57 pc (.inl (zLd zIsA 58 0))) (zleaf 58 pc (.inl (zS2 (zGet 2 1 61)))))))) (znode 72 pc (znode 65 pc (znode 63 pc (zleaf 61 pc (.inl (zLd zIsI 63 4))) (zleaf 63 pc (.inl (zLd zIsI 65 5)))) (znode 68 pc (zleaf 65 pc (.inr (.inr (.inr (14, 3, 1))))) (znode 71 pc (zleaf 68 pc (.inl (zS1 (zGo 83)))) (zleaf 71 pc (.inl (zLd zIsA 72 0)))))) (znode 79 pc (znode 75 pc (zleaf 72 pc (.inl (zS2 (zGet 2 1 75)))) (znode 77 pc (zleaf 75 pc (.inl (zLd zIsI 77 4))) (zleaf 77 pc (.inl (zLd zIsI 79 5))))) (znode 80 pc (zleaf 79 pc (.inl (zS1 (zCst (.int 0) 80)))) (znode 83 pc (zleaf 80 pc (.inr (.inr (.inr (13, 4, 1))))) (zleaf 83 pc (.inr (.inl 1))))))))
theorem zk_X2_cellThatMeets (O : Nat → State → Heap → Prop) (E : zE) (l : Launch) : ∀ pc i, zc_X2_cellThatMeets pc = some i → zOK z_cl z_T z_G z_N O E z_yy z_bb z_nl z_cc z_rt z_hh l 74 pc i := fun pc => znode_ok (znode_ok (znode_ok (znode_ok (znode_ok (zleaf_ok (zs_iload_n (by decide +kernel : decode cX2_cellThatMeets 0 = .ok (.iload_n 2, 1)) rfl)) (zleaf_ok (⟨zcs2 (n := 1) z_good zw_55 zw_19 zw_344 zw_57 (by decide +kernel) (by decide +kernel : decode cX2_cellThatMeets 1 = .ok (.invokestatic 317, 3)), Nat.le_of_ble_eq_true rfl, by decide +kernel, (fun h => absurd rfl (h.1))⟩))) (znode_ok (zleaf_ok (zs_istore_n (Nat.le_of_ble_eq_true rfl) (by decide +kernel : decode cX2_cellThatMeets 4 = .ok (.istore_n 3, 1)) rfl)) (znode_ok (zleaf_ok (zs_aload_n (by decide +kernel : decode cX2_cellThatMeets 5 = .ok (.aload_n 0, 1)) rfl)) (zleaf_ok (zs_get (C := RX2) (Tc := TX2) (Nc := 8) rfl zinX2 (Nat.le_of_ble_eq_true rfl) zw_119 (by decide +kernel : decode cX2_cellThatMeets 6 = .ok (.getfield 19, 3))))))) (znode_ok (znode_ok (zleaf_ok (zs_iload_n (by decide +kernel : decode cX2_cellThatMeets 9 = .ok (.iload_n 1, 1)) rfl)) (znode_ok (zleaf_ok (zs_iload_n (by decide +kernel : decode cX2_cellThatMeets 10 = .ok (.iload_n 2, 1)) rfl)) (zleaf_ok (⟨zcs1 (n := 2) z_good zw_35 zw_14 zw_343 zw_37 zw_38 (by decide +kernel) (by decide +kernel : decode cX2_cellThatMeets 11 = .ok (.invokevirtual 314, 3)), Nat.le_of_ble_eq_true rfl, by decide +kernel, (fun _ => ⟨TX0, 8, rfl⟩)⟩)))) (znode_ok (zleaf_ok (zs_if_eq (t := 29) (by decide) (by decide +kernel : decode cX2_cellThatMeets 14 = .ok (.ifCond .eq 15, 3)))) (znode_ok (zleaf_ok (zs_aload_n (by decide +kernel : decode cX2_cellThatMeets 17 = .ok (.aload_n 0, 1)) rfl)) (zleaf_ok (zs_get (C := RX2) (Tc := TX2) (Nc := 8) rfl zinX2 (Nat.le_of_ble_eq_true rfl) zw_119 (by decide +kernel : decode cX2_cellThatMeets 18 = .ok (.getfield 19, 3)))))))) (znode_ok (znode_ok (znode_ok (zleaf_ok (zs_iload_n (by decide +kernel : decode cX2_cellThatMeets 21 = .ok (.iload_n 1, 1)) rfl)) (zleaf_ok (zs_iload_n (by decide +kernel : decode cX2_cellThatMeets 22 = .ok (.iload_n 3, 1)) rfl))) (znode_ok (zleaf_ok (⟨zcs1 (n := 2) z_good zw_74 zw_14 zw_357 zw_76 zw_77 (by decide +kernel) (by decide +kernel : decode cX2_cellThatMeets 23 = .ok (.invokevirtual 330, 3)), Nat.le_of_ble_eq_true rfl, by decide +kernel, (fun _ => ⟨TX0, 8, rfl⟩)⟩)) (znode_ok (zleaf_ok (zs_if_ne (t := 31) (by decide) (by decide +kernel : decode cX2_cellThatMeets 26 = .ok (.ifCond .ne 5, 3)))) (zleaf_ok (zs_iconst (by decide) (by decide +kernel : decode cX2_cellThatMeets 29 = .ok (.iconst (-1), 1))))))) (znode_ok (znode_ok (zleaf_ok (Or.inr (Or.inl ⟨rfl, rfl, (by decide +kernel : decode cX2_cellThatMeets 30 = .ok (.ireturn, 1))⟩))) (znode_ok (zleaf_ok (zs_aload_n (by decide +kernel : decode cX2_cellThatMeets 31 = .ok (.aload_n 0, 1)) rfl)) (zleaf_ok (zs_get (C := RX2) (Tc := TX2) (Nc := 8) rfl zinX2 (Nat.le_of_ble_eq_true rfl) zw_119 (by decide +kernel : decode cX2_cellThatMeets 32 = .ok (.getfield 19, 3)))))) (znode_ok (zleaf_ok (zs_iload_n (by decide +kernel : decode cX2_cellThatMeets 35 = .ok (.iload_n 1, 1)) rfl)) (znode_ok (zleaf_ok (zs_iload_n (by decide +kernel : decode cX2_cellThatMeets 36 = .ok (.iload_n 2, 1)) rfl)) (zleaf_ok (⟨zcs1 (n := 2) z_good zw_39 zw_14 zw_358 zw_41 zw_42 (by decide +kernel) (by decide +kernel : decode cX2_cellThatMeets 37 = .ok (.invokevirtual 334, 3)), Nat.le_of_ble_eq_true rfl, by decide +kernel, (fun _ => ⟨TX0, 8, rfl⟩)⟩))))))) (znode_ok (znode_ok (znode_ok (znode_ok (zleaf_ok (zs_istore (Nat.le_of_ble_eq_true rfl) (by decide +kernel : decode cX2_cellThatMeets 40 = .ok (.istore 4, 2)))) (zleaf_ok (zs_aload_n (by decide +kernel : decode cX2_cellThatMeets 42 = .ok (.aload_n 0, 1)) rfl))) (znode_ok (zleaf_ok (zs_get (C := RX2) (Tc := TX2) (Nc := 8) rfl zinX2 (Nat.le_of_ble_eq_true rfl) zw_119 (by decide +kernel : decode cX2_cellThatMeets 43 = .ok (.getfield 19, 3)))) (znode_ok (zleaf_ok (zs_iload_n (by decide +kernel : decode cX2_cellThatMeets 46 = .ok (.iload_n 1, 1)) rfl)) (zleaf_ok (zs_iload_n (by decide +kernel : decode cX2_cellThatMeets 47 = .ok (.iload_n 2, 1)) rfl))))) (znode_ok (znode_ok (zleaf_ok (⟨zcs1 (n := 2) z_good zw_43 zw_14 zw_359 zw_45 zw_46 (by decide +kernel) (by decide +kernel : decode cX2_cellThatMeets 48 = .ok (.invokevirtual 337, 3)), Nat.le_of_ble_eq_true rfl, by decide +kernel, (fun _ => ⟨TX0, 8, rfl⟩)⟩)) (znode_ok (zleaf_ok (zs_istore (Nat.le_of_ble_eq_true rfl) (by decide +kernel : decode cX2_cellThatMeets 51 = .ok (.istore 5, 2)))) (zleaf_ok (zs_iload_n (by decide +kernel : decode cX2_cellThatMeets 53 = .ok (.iload_n 3, 1)) rfl)))) (znode_ok (zleaf_ok (zs_if_eq (t := 71) (by decide) (by decide +kernel : decode cX2_cellThatMeets 54 = .ok (.ifCond .eq 17, 3)))) (znode_ok (zleaf_ok (zs_aload_n (by decide +kernel : decode cX2_cellThatMeets 57 = .ok (.aload_n 0, 1)) rfl)) (zleaf_ok (zs_get (C := RX2) (Tc := TX2) (Nc := 8) rfl zinX2 (Nat.le_of_ble_eq_true rfl) zw_119 (by decide +kernel : decode cX2_cellThatMeets 58 = .ok (.getfield 19, 3)))))))) (znode_ok (znode_ok (znode_ok (zleaf_ok (zs_iload (by decide +kernel : decode cX2_cellThatMeets 61 = .ok (.iload 4, 2)))) (zleaf_ok (zs_iload (by decide +kernel : decode cX2_cellThatMeets 63 = .ok (.iload 5, 2))))) (znode_ok (zleaf_ok (⟨zcs1 (n := 2) z_good zw_175 zw_14 zw_176 zw_177 zw_178 (by decide +kernel) (by decide +kernel : decode cX2_cellThatMeets 65 = .ok (.invokevirtual 105, 3)), Nat.le_of_ble_eq_true rfl, by decide +kernel, (fun _ => ⟨TX0, 8, rfl⟩)⟩)) (znode_ok (zleaf_ok (zs_goto (t := 83) (by decide) (by decide +kernel : decode cX2_cellThatMeets 68 = .ok (.goto 15, 3)))) (zleaf_ok (zs_aload_n (by decide +kernel : decode cX2_cellThatMeets 71 = .ok (.aload_n 0, 1)) rfl))))) (znode_ok (znode_ok (zleaf_ok (zs_get (C := RX2) (Tc := TX2) (Nc := 8) rfl zinX2 (Nat.le_of_ble_eq_true rfl) zw_119 (by decide +kernel : decode cX2_cellThatMeets 72 = .ok (.getfield 19, 3)))) (znode_ok (zleaf_ok (zs_iload (by decide +kernel : decode cX2_cellThatMeets 75 = .ok (.iload 4, 2)))) (zleaf_ok (zs_iload (by decide +kernel : decode cX2_cellThatMeets 77 = .ok (.iload 5, 2)))))) (znode_ok (zleaf_ok (zs_iconst (by decide) (by decide +kernel : decode cX2_cellThatMeets 79 = .ok (.iconst 0, 1)))) (znode_ok (zleaf_ok (⟨zcs1 (n := 3) z_good zw_70 zw_14 zw_198 zw_72 zw_73 (by decide +kernel) (by decide +kernel : decode cX2_cellThatMeets 80 = .ok (.invokevirtual 133, 3)), Nat.le_of_ble_eq_true rfl, by decide +kernel, (fun _ => ⟨TX0, 8, rfl⟩)⟩)) (zleaf_ok (Or.inr (Or.inl ⟨rfl, rfl, (by decide +kernel : decode cX2_cellThatMeets 83 = .ok (.ireturn, 1))⟩))))))))
/-- Creasebook.isBlot(III)Z -/
def zc_X2_isBlot (pc : Nat) : Option zI := znode 21 pc (znode 8 pc (znode 5 pc (znode 1 pc (zleaf 0 pc (.inl (zLd zIsI 1 2))) (znode 2 pc (zleaf 1 pc (.inl (zS1 (zCst (.int (-1)) 2)))) (zleaf 2 pc (.inl (zS1 (zIcmp (fun x y => decide (¬ x = y)) 7 5)))))) (znode 6 pc (zleaf 5 pc (.inl (zS1 (zCst (.int 0) 6)))) (znode 7 pc (zleaf 6 pc (.inr (.inl 5))) (zleaf 7 pc (.inl (zLd zIsI 8 3)))))) (znode 14 pc (znode 11 pc (zleaf 8 pc (.inr (.inr (.inr (89, 1, 2))))) (znode 13 pc (zleaf 11 pc (.inl (zSt1 zIsI 13 4))) (zleaf 13 pc (.inl (zLd zIsA 14 0))))) (znode 18 pc (znode 17 pc (zleaf 14 pc (.inl (zS2 (zGet 2 0 17)))) (zleaf 17 pc (.inl (zLd zIsA 18 0)))) (znode 19 pc (zleaf 18 pc (.inl (zLd zIsI 19 1))) (zleaf 19 pc (.inl (zLd zIsI 21 4))))))) (znode 35 pc (znode 28 pc (znode 24 pc (zleaf 21 pc (.inr (.inr (.inr (76, 3, 0))))) (znode 27 pc (zleaf 24 pc (.inr (.inr (.inr (36, 2, 1))))) (zleaf 27 pc (.inl (zLd zIsA 28 0))))) (znode 32 pc (znode 31 pc (zleaf 28 pc (.inl (zS2 (zGet 2 0 31)))) (zleaf 31 pc (.inl (zLd zIsA 32 0)))) (znode 33 pc (zleaf 32 pc (.inl (zLd zIsI 33 2))) (zleaf 33 pc (.inl (zLd zIsI 35 4)))))) (znode 44 pc (znode 38 pc (zleaf 35 pc (.inr (.inr (.inr (76, 3, 0))))) (znode 41 pc (zleaf 38 pc (.inr (.inr (.inr (36, 2, 1))))) (zleaf 41 pc (.inl (zS1 (zIcmp (fun x y => decide (x = y)) 48 44)))))) (znode 48 pc (znode 45 pc (zleaf 44 pc (.inl (zS1 (zCst (.int 1) 45)))) (zleaf 45 pc (.inl (zS1 (zGo 49))))) (znode 49 pc (zleaf 48 pc (.inl (zS1 (zCst (.int 0) 49)))) (zleaf 49 pc (.inr (.inl 5)))))))
theorem zk_X2_isBlot (O : Nat → State → Heap → Prop) (E : zE) (l : Launch) : ∀ pc i, zc_X2_isBlot pc = some i → zOK z_cl z_T z_G z_N O E z_yy z_bb z_nl z_cc z_rt z_hh l 75 pc i := fun pc => znode_ok (znode_ok (znode_ok (znode_ok (zleaf_ok (zs_iload_n (by decide +kernel : decode cX2_isBlot 0 = .ok (.iload_n 2, 1)) rfl)) (znode_ok (zleaf_ok (zs_iconst (by decide) (by decide +kernel : decode cX2_isBlot 1 = .ok (.iconst (-1), 1)))) (zleaf_ok (zs_icmp_ne (t := 7) (by decide) (by decide +kernel : decode cX2_isBlot 2 = .ok (.if_icmp .ne 5, 3)))))) (znode_ok (zleaf_ok (zs_iconst (by decide) (by decide +kernel : decode cX2_isBlot 5 = .ok (.iconst 0, 1)))) (znode_ok (zleaf_ok (Or.inr (Or.inr (Or.inr (Or.inr (Or.inr ⟨rfl, rfl, (by decide +kernel : decode cX2_isBlot 6 = .ok (.ireturn, 1))⟩)))))) (zleaf_ok (zs_iload_n (by decide +kernel : decode cX2_isBlot 7 = .ok (.iload_n 3, 1)) rfl))))) (znode_ok (znode_ok (zleaf_ok (⟨zcs2 (n := 1) z_good zw_55 zw_19 zw_344 zw_57 (by decide +kernel) (by decide +kernel : decode cX2_isBlot 8 = .ok (.invokestatic 317, 3)), Nat.le_of_ble_eq_true rfl, by decide +kernel, (fun h => absurd rfl (h.1))⟩)) (znode_ok (zleaf_ok (zs_istore (Nat.le_of_ble_eq_true rfl) (by decide +kernel : decode cX2_isBlot 11 = .ok (.istore 4, 2)))) (zleaf_ok (zs_aload_n (by decide +kernel : decode cX2_isBlot 13 = .ok (.aload_n 0, 1)) rfl)))) (znode_ok (znode_ok (zleaf_ok (zs_get (C := RX2) (Tc := TX2) (Nc := 8) rfl zinX2 (Nat.le_of_ble_eq_true rfl) zw_113 (by decide +kernel : decode cX2_isBlot 14 = .ok (.getfield 10, 3)))) (zleaf_ok (zs_aload_n (by decide +kernel : decode cX2_isBlot 17 = .ok (.aload_n 0, 1)) rfl))) (znode_ok (zleaf_ok (zs_iload_n (by decide +kernel : decode cX2_isBlot 18 = .ok (.iload_n 1, 1)) rfl)) (zleaf_ok (zs_iload (by decide +kernel : decode cX2_isBlot 19 = .ok (.iload 4, 2)))))))) (znode_ok (znode_ok (znode_ok (zleaf_ok (⟨zcs0 (n := 2) z_good zw_183 zw_19 zw_184 zw_185 zw_186 (by decide +kernel) (by decide +kernel : decode cX2_isBlot 21 = .ok (.invokevirtual 112, 3)), Nat.le_of_ble_eq_true rfl, by decide +kernel, (fun _ => ⟨TX2, 8, rfl⟩)⟩)) (znode_ok (zleaf_ok (⟨zcs1 (n := 1) z_good zw_103 zw_89 zw_360 zw_105 zw_106 (by decide +kernel) (by decide +kernel : decode cX2_isBlot 24 = .ok (.invokevirtual 340, 3)), Nat.le_of_ble_eq_true rfl, by decide +kernel, (fun _ => ⟨TX1, 9, rfl⟩)⟩)) (zleaf_ok (zs_aload_n (by decide +kernel : decode cX2_isBlot 27 = .ok (.aload_n 0, 1)) rfl)))) (znode_ok (znode_ok (zleaf_ok (zs_get (C := RX2) (Tc := TX2) (Nc := 8) rfl zinX2 (Nat.le_of_ble_eq_true rfl) zw_113 (by decide +kernel : decode cX2_isBlot 28 = .ok (.getfield 10, 3)))) (zleaf_ok (zs_aload_n (by decide +kernel : decode cX2_isBlot 31 = .ok (.aload_n 0, 1)) rfl))) (znode_ok (zleaf_ok (zs_iload_n (by decide +kernel : decode cX2_isBlot 32 = .ok (.iload_n 2, 1)) rfl)) (zleaf_ok (zs_iload (by decide +kernel : decode cX2_isBlot 33 = .ok (.iload 4, 2))))))) (znode_ok (znode_ok (zleaf_ok (⟨zcs0 (n := 2) z_good zw_183 zw_19 zw_184 zw_185 zw_186 (by decide +kernel) (by decide +kernel : decode cX2_isBlot 35 = .ok (.invokevirtual 112, 3)), Nat.le_of_ble_eq_true rfl, by decide +kernel, (fun _ => ⟨TX2, 8, rfl⟩)⟩)) (znode_ok (zleaf_ok (⟨zcs1 (n := 1) z_good zw_103 zw_89 zw_360 zw_105 zw_106 (by decide +kernel) (by decide +kernel : decode cX2_isBlot 38 = .ok (.invokevirtual 340, 3)), Nat.le_of_ble_eq_true rfl, by decide +kernel, (fun _ => ⟨TX1, 9, rfl⟩)⟩)) (zleaf_ok (zs_icmp_eq (t := 48) (by decide) (by decide +kernel : decode cX2_isBlot 41 = .ok (.if_icmp .eq 7, 3)))))) (znode_ok (znode_ok (zleaf_ok (zs_iconst (by decide) (by decide +kernel : decode cX2_isBlot 44 = .ok (.iconst 1, 1)))) (zleaf_ok (zs_goto (t := 49) (by decide) (by decide +kernel : decode cX2_isBlot 45 = .ok (.goto 4, 3))))) (znode_ok (zleaf_ok (zs_iconst (by decide) (by decide +kernel : decode cX2_isBlot 48 = .ok (.iconst 0, 1)))) (zleaf_ok (Or.inr (Or.inr (Or.inr (Or.inr (Or.inr ⟨rfl, rfl, (by decide +kernel : decode cX2_isBlot 49 = .ok (.ireturn, 1))⟩))))))))))
/-- Creasebook.outerSide(IZ)I -/
def zc_X2_outerSide (pc : Nat) : Option zI := znode 10 pc (znode 5 pc (znode 1 pc (zleaf 0 pc (.inl (zLd zIsI 1 1))) (znode 2 pc (zleaf 1 pc (.inl (zLd zIsA 2 0))) (zleaf 2 pc (.inl (zS2 (zGet 2 1 5)))))) (znode 6 pc (zleaf 5 pc (.inl (zLd zIsI 6 1))) (znode 9 pc (zleaf 6 pc (.inr (.inr (.inr (17, 2, 1))))) (zleaf 9 pc (.inl (zLd zIsI 10 2)))))) (znode 17 pc (znode 13 pc (zleaf 10 pc (.inl (zS1 (zIcmp (fun x y => decide (¬ x = y)) 17 13)))) (znode 14 pc (zleaf 13 pc (.inl (zS1 (zCst (.int 1) 14)))) (zleaf 14 pc (.inl (zS1 (zGo 18)))))) (znode 18 pc (zleaf 17 pc (.inl (zS1 (zCst (.int 0) 18)))) (znode 21 pc (zleaf 18 pc (.inr (.inr (.inr (91, 2, 2))))) (zleaf 21 pc (.inr (.inl 1))))))
theorem zk_X2_outerSide (O : Nat → State → Heap → Prop) (E : zE) (l : Launch) : ∀ pc i, zc_X2_outerSide pc = some i → zOK z_cl z_T z_G z_N O E z_yy z_bb z_nl z_cc z_rt z_hh l 76 pc i := fun pc => znode_ok (znode_ok (znode_ok (zleaf_ok (zs_iload_n (by decide +kernel : decode cX2_outerSide 0 = .ok (.iload_n 1, 1)) rfl)) (znode_ok (zleaf_ok (zs_aload_n (by decide +kernel : decode cX2_outerSide 1 = .ok (.aload_n 0, 1)) rfl)) (zleaf_ok (zs_get (C := RX2) (Tc := TX2) (Nc := 8) rfl zinX2 (Nat.le_of_ble_eq_true rfl) zw_119 (by decide +kernel : decode cX2_outerSide 2 = .ok (.getfield 19, 3)))))) (znode_ok (zleaf_ok (zs_iload_n (by decide +kernel : decode cX2_outerSide 5 = .ok (.iload_n 1, 1)) rfl)) (znode_ok (zleaf_ok (⟨zcs1 (n := 1) z_good zw_210 zw_14 zw_211 zw_212 zw_213 (by decide +kernel) (by decide +kernel : decode cX2_outerSide 6 = .ok (.invokevirtual 147, 3)), Nat.le_of_ble_eq_true rfl, by decide +kernel, (fun _ => ⟨TX0, 8, rfl⟩)⟩)) (zleaf_ok (zs_iload_n (by decide +kernel : decode cX2_outerSide 9 = .ok (.iload_n 2, 1)) rfl))))) (znode_ok (znode_ok (zleaf_ok (zs_icmp_ne (t := 17) (by decide) (by decide +kernel : decode cX2_outerSide 10 = .ok (.if_icmp .ne 7, 3)))) (znode_ok (zleaf_ok (zs_iconst (by decide) (by decide +kernel : decode cX2_outerSide 13 = .ok (.iconst 1, 1)))) (zleaf_ok (zs_goto (t := 18) (by decide) (by decide +kernel : decode cX2_outerSide 14 = .ok (.goto 4, 3)))))) (znode_ok (zleaf_ok (zs_iconst (by decide) (by decide +kernel : decode cX2_outerSide 17 = .ok (.iconst 0, 1)))) (znode_ok (zleaf_ok (⟨zcs2 (n := 2) z_good zw_231 zw_19 zw_232 zw_233 (by decide +kernel) (by decide +kernel : decode cX2_outerSide 18 = .ok (.invokestatic 180, 3)), Nat.le_of_ble_eq_true rfl, by decide +kernel, (fun h => absurd rfl (h.1))⟩)) (zleaf_ok (Or.inr (Or.inl ⟨rfl, rfl, (by decide +kernel : decode cX2_outerSide 21 = .ok (.ireturn, 1))⟩))))))
/-- Creasebook.isHeldByGlue()Z -/
def zc_X2_isHeldByGlue (pc : Nat) : Option zI := znode 43 pc (znode 21 pc (znode 10 pc (znode 5 pc (znode 1 pc (zleaf 0 pc (.inl (zLd zIsA 1 0))) (znode 4 pc (zleaf 1 pc (.inl (zS2 (zGet 2 3 4)))) (zleaf 4 pc (.inl (zLd zIsA 5 0))))) (znode 8 pc (zleaf 5 pc (.inl (zS2 (zGet 2 5 8)))) (znode 9 pc (zleaf 8 pc (.inl (zS1 (zCst (.int 1) 9)))) (zleaf 9 pc (.inl (zS1 (zII (fun x y => x - y) 10))))))) (znode 13 pc (znode 11 pc (zleaf 10 pc (.inl (zS2 (zAldQ 4 11)))) (znode 12 pc (zleaf 11 pc (.inl (zSt1 zIsA 12 1))) (zleaf 12 pc (.inl (zLd zIsA 13 0))))) (znode 17 pc (znode 16 pc (zleaf 13 pc (.inl (zS2 (zGet 2 4 16)))) (zleaf 16 pc (.inl (zLd zIsA 17 0)))) (znode 20 pc (zleaf 17 pc (.inl (zS2 (zGet 2 5 20)))) (zleaf 20 pc (.inl (zS1 (zCst (.int 1) 21)))))))) (znode 28 pc (znode 24 pc (znode 22 pc (zleaf 21 pc (.inl (zS1 (zII (fun x y => x - y) 22)))) (znode 23 pc (zleaf 22 pc (.inl (zS2 (zAldI 0 23)))) (zleaf 23 pc (.inl (zSt1 zIsI 24 2))))) (znode 26 pc (znode 25 pc (zleaf 24 pc (.inl (zS1 (zCst (.int 0) 25)))) (zleaf 25 pc (.inl (zSt1 zIsI 26 3)))) (znode 27 pc (zleaf 26 pc (.inl (zLd zIsI 27 3))) (zleaf 27 pc (.inl (zLd zIsA 28 0)))))) (znode 37 pc (znode 31 pc (zleaf 28 pc (.inl (zS2 (zGet 2 0 31)))) (znode 34 pc (zleaf 31 pc (.inl (zS2 (zGet 1 2 34)))) (zleaf 34 pc (.inl (zS1 (zIcmp (fun x y => decide (y ≤ x)) 98 37)))))) (znode 40 pc (znode 38 pc (zleaf 37 pc (.inl (zS1 (zCst (.int 0) 38)))) (zleaf 38 pc (.inl (zSt1 zIsI 40 4)))) (znode 42 pc (zleaf 40 pc (.inl (zLd zIsI 42 4))) (zleaf 42 pc (.inl (zLd zIsA 43 0)))))))) (znode 71 pc (znode 57 pc (znode 52 pc (znode 46 pc (zleaf 43 pc (.inl (zS2 (zGet 2 0 46)))) (znode 49 pc (zleaf 46 pc (.inl (zS2 (zGet 1 2 49)))) (zleaf 49 pc (.inl (zS1 (zIcmp (fun x y => decide (y ≤ x)) 92 52)))))) (znode 53 pc (zleaf 52 pc (.inl (zLd zIsA 53 0))) (znode 56 pc (zleaf 53 pc (.inl (zS2 (zGet 2 0 56)))) (zleaf 56 pc (.inl (zLd zIsI 57 3)))))) (znode 65 pc (znode 59 pc (zleaf 57 pc (.inl (zLd zIsI 59 4))) (znode 62 pc (zleaf 59 pc (.inr (.inr (.inr (41, 3, 1))))) (zleaf 62 pc (.inl (zS1 (zIf (fun x => decide (x = 0)) 86 65)))))) (znode 67 pc (znode 66 pc (zleaf 65 pc (.inl (zLd zIsA 66 1))) (zleaf 66 pc (.inl (zLd zIsI 67 3)))) (znode 68 pc (zleaf 67 pc (.inl (zLd zIsI 68 2))) (zleaf 68 pc (.inr (.inr (.inr (19, 3, 1))))))))) (znode 85 pc (znode 77 pc (znode 74 pc (zleaf 71 pc (.inl (zS1 (zIf (fun x => decide (x = 0)) 86 74)))) (znode 75 pc (zleaf 74 pc (.inl (zLd zIsA 75 1))) (zleaf 75 pc (.inl (zLd zIsI 77 4))))) (znode 81 pc (znode 78 pc (zleaf 77 pc (.inl (zLd zIsI 78 2))) (zleaf 78 pc (.inr (.inr (.inr (19, 3, 1)))))) (znode 84 pc (zleaf 81 pc (.inl (zS1 (zIf (fun x => decide (¬ x = 0)) 86 84)))) (zleaf 84 pc (.inl (zS1 (zCst (.int 1) 85))))))) (znode 92 pc (znode 86 pc (zleaf 85 pc (.inr (.inl 5))) (znode 89 pc (zleaf 86 pc (.inl (zIinc 89 4 1))) (zleaf 89 pc (.inl (zS1 (zGo 40)))))) (znode 98 pc (znode 95 pc (zleaf 92 pc (.inl (zIinc 95 3 1))) (zleaf 95 pc (.inl (zS1 (zGo 26))))) (znode 99 pc (zleaf 98 pc (.inl (zS1 (zCst (.int 0) 99)))) (zleaf 99 pc (.inr (.inl 5))))))))
theorem zk_X2_isHeldByGlue (O : Nat → State → Heap → Prop) (E : zE) (l : Launch) : ∀ pc i, zc_X2_isHeldByGlue pc = some i → zOK z_cl z_T z_G z_N O E z_yy z_bb z_nl z_cc z_rt z_hh l 77 pc i := fun pc => znode_ok (znode_ok (znode_ok (znode_ok (znode_ok (zleaf_ok (zs_aload_n (by decide +kernel : decode cX2_isHeldByGlue 0 = .ok (.aload_n 0, 1)) rfl)) (znode_ok (zleaf_ok (zs_get (C := RX2) (Tc := TX2) (Nc := 8) rfl zinX2 (Nat.le_of_ble_eq_true rfl) zw_122 (by decide +kernel : decode cX2_isHeldByGlue 1 = .ok (.getfield 26, 3)))) (zleaf_ok (zs_aload_n (by decide +kernel : decode cX2_isHeldByGlue 4 = .ok (.aload_n 0, 1)) rfl)))) (znode_ok (zleaf_ok (zs_get (C := RX2) (Tc := TX2) (Nc := 8) rfl zinX2 (Nat.le_of_ble_eq_true rfl) zw_133 (by decide +kernel : decode cX2_isHeldByGlue 5 = .ok (.getfield 54, 3)))) (znode_ok (zleaf_ok (zs_iconst (by decide) (by decide +kernel : decode cX2_isHeldByGlue 8 = .ok (.iconst 1, 1)))) (zleaf_ok (zs_isub (by decide +kernel : decode cX2_isHeldByGlue 9 = .ok (.isub, 1))))))) (znode_ok (znode_ok (zleaf_ok (zs_aldQ rfl (by decide +kernel : decode cX2_isHeldByGlue 10 = .ok (.aaload, 1)))) (znode_ok (zleaf_ok (zs_astore_n (Nat.le_of_ble_eq_true rfl) (by decide +kernel : decode cX2_isHeldByGlue 11 = .ok (.astore_n 1, 1)) rfl)) (zleaf_ok (zs_aload_n (by decide +kernel : decode cX2_isHeldByGlue 12 = .ok (.aload_n 0, 1)) rfl)))) (znode_ok (znode_ok (zleaf_ok (zs_get (C := RX2) (Tc := TX2) (Nc := 8) rfl zinX2 (Nat.le_of_ble_eq_true rfl) zw_123 (by decide +kernel : decode cX2_isHeldByGlue 13 = .ok (.getfield 30, 3)))) (zleaf_ok (zs_aload_n (by decide +kernel : decode cX2_isHeldByGlue 16 = .ok (.aload_n 0, 1)) rfl))) (znode_ok (zleaf_ok (zs_get (C := RX2) (Tc := TX2) (Nc := 8) rfl zinX2 (Nat.le_of_ble_eq_true rfl) zw_133 (by decide +kernel : decode cX2_isHeldByGlue 17 = .ok (.getfield 54, 3)))) (zleaf_ok (zs_iconst (by decide) (by decide +kernel : decode cX2_isHeldByGlue 20 = .ok (.iconst 1, 1)))))))) (znode_ok (znode_ok (znode_ok (zleaf_ok (zs_isub (by decide +kernel : decode cX2_isHeldByGlue 21 = .ok (.isub, 1)))) (znode_ok (zleaf_ok (zs_aldI rfl (by decide +kernel : decode cX2_isHeldByGlue 22 = .ok (.iaload, 1)))) (zleaf_ok (zs_istore_n (Nat.le_of_ble_eq_true rfl) (by decide +kernel : decode cX2_isHeldByGlue 23 = .ok (.istore_n 2, 1)) rfl)))) (znode_ok (znode_ok (zleaf_ok (zs_iconst (by decide) (by decide +kernel : decode cX2_isHeldByGlue 24 = .ok (.iconst 0, 1)))) (zleaf_ok (zs_istore_n (Nat.le_of_ble_eq_true rfl) (by decide +kernel : decode cX2_isHeldByGlue 25 = .ok (.istore_n 3, 1)) rfl))) (znode_ok (zleaf_ok (zs_iload_n (by decide +kernel : decode cX2_isHeldByGlue 26 = .ok (.iload_n 3, 1)) rfl)) (zleaf_ok (zs_aload_n (by decide +kernel : decode cX2_isHeldByGlue 27 = .ok (.aload_n 0, 1)) rfl))))) (znode_ok (znode_ok (zleaf_ok (zs_get (C := RX2) (Tc := TX2) (Nc := 8) rfl zinX2 (Nat.le_of_ble_eq_true rfl) zw_113 (by decide +kernel : decode cX2_isHeldByGlue 28 = .ok (.getfield 10, 3)))) (znode_ok (zleaf_ok (zs_getN (C := RX1) (Tc := TX1) (Nc := 9) rfl zinX1 (Nat.le_of_ble_eq_true rfl) zw_128 (by decide +kernel : decode cX2_isHeldByGlue 31 = .ok (.getfield 47, 3)))) (zleaf_ok (zs_icmp_ge (t := 98) (by decide) (by decide +kernel : decode cX2_isHeldByGlue 34 = .ok (.if_icmp .ge 64, 3)))))) (znode_ok (znode_ok (zleaf_ok (zs_iconst (by decide) (by decide +kernel : decode cX2_isHeldByGlue 37 = .ok (.iconst 0, 1)))) (zleaf_ok (zs_istore (Nat.le_of_ble_eq_true rfl) (by decide +kernel : decode cX2_isHeldByGlue 38 = .ok (.istore 4, 2))))) (znode_ok (zleaf_ok (zs_iload (by decide +kernel : decode cX2_isHeldByGlue 40 = .ok (.iload 4, 2)))) (zleaf_ok (zs_aload_n (by decide +kernel : decode cX2_isHeldByGlue 42 = .ok (.aload_n 0, 1)) rfl))))))) (znode_ok (znode_ok (znode_ok (znode_ok (zleaf_ok (zs_get (C := RX2) (Tc := TX2) (Nc := 8) rfl zinX2 (Nat.le_of_ble_eq_true rfl) zw_113 (by decide +kernel : decode cX2_isHeldByGlue 43 = .ok (.getfield 10, 3)))) (znode_ok (zleaf_ok (zs_getN (C := RX1) (Tc := TX1) (Nc := 9) rfl zinX1 (Nat.le_of_ble_eq_true rfl) zw_128 (by decide +kernel : decode cX2_isHeldByGlue 46 = .ok (.getfield 47, 3)))) (zleaf_ok (zs_icmp_ge (t := 92) (by decide) (by decide +kernel : decode cX2_isHeldByGlue 49 = .ok (.if_icmp .ge 43, 3)))))) (znode_ok (zleaf_ok (zs_aload_n (by decide +kernel : decode cX2_isHeldByGlue 52 = .ok (.aload_n 0, 1)) rfl)) (znode_ok (zleaf_ok (zs_get (C := RX2) (Tc := TX2) (Nc := 8) rfl zinX2 (Nat.le_of_ble_eq_true rfl) zw_113 (by decide +kernel : decode cX2_isHeldByGlue 53 = .ok (.getfield 10, 3)))) (zleaf_ok (zs_iload_n (by decide +kernel : decode cX2_isHeldByGlue 56 = .ok (.iload_n 3, 1)) rfl))))) (znode_ok (znode_ok (zleaf_ok (zs_iload (by decide +kernel : decode cX2_isHeldByGlue 57 = .ok (.iload 4, 2)))) (znode_ok (zleaf_ok (⟨zcs1 (n := 2) z_good zw_199 zw_89 zw_200 zw_201 zw_202 (by decide +kernel) (by decide +kernel : decode cX2_isHeldByGlue 59 = .ok (.invokevirtual 137, 3)), Nat.le_of_ble_eq_true rfl, by decide +kernel, (fun _ => ⟨TX1, 9, rfl⟩)⟩)) (zleaf_ok (zs_if_eq (t := 86) (by decide) (by decide +kernel : decode cX2_isHeldByGlue 62 = .ok (.ifCond .eq 24, 3)))))) (znode_ok (znode_ok (zleaf_ok (zs_aload_n (by decide +kernel : decode cX2_isHeldByGlue 65 = .ok (.aload_n 1, 1)) rfl)) (zleaf_ok (zs_iload_n (by decide +kernel : decode cX2_isHeldByGlue 66 = .ok (.iload_n 3, 1)) rfl))) (znode_ok (zleaf_ok (zs_iload_n (by decide +kernel : decode cX2_isHeldByGlue 67 = .ok (.iload_n 2, 1)) rfl)) (zleaf_ok (⟨zcs1 (n := 2) z_good zw_35 zw_14 zw_343 zw_37 zw_38 (by decide +kernel) (by decide +kernel : decode cX2_isHeldByGlue 68 = .ok (.invokevirtual 314, 3)), Nat.le_of_ble_eq_true rfl, by decide +kernel, (fun _ => ⟨TX0, 8, rfl⟩)⟩)))))) (znode_ok (znode_ok (znode_ok (zleaf_ok (zs_if_eq (t := 86) (by decide) (by decide +kernel : decode cX2_isHeldByGlue 71 = .ok (.ifCond .eq 15, 3)))) (znode_ok (zleaf_ok (zs_aload_n (by decide +kernel : decode cX2_isHeldByGlue 74 = .ok (.aload_n 1, 1)) rfl)) (zleaf_ok (zs_iload (by decide +kernel : decode cX2_isHeldByGlue 75 = .ok (.iload 4, 2)))))) (znode_ok (znode_ok (zleaf_ok (zs_iload_n (by decide +kernel : decode cX2_isHeldByGlue 77 = .ok (.iload_n 2, 1)) rfl)) (zleaf_ok (⟨zcs1 (n := 2) z_good zw_35 zw_14 zw_343 zw_37 zw_38 (by decide +kernel) (by decide +kernel : decode cX2_isHeldByGlue 78 = .ok (.invokevirtual 314, 3)), Nat.le_of_ble_eq_true rfl, by decide +kernel, (fun _ => ⟨TX0, 8, rfl⟩)⟩))) (znode_ok (zleaf_ok (zs_if_ne (t := 86) (by decide) (by decide +kernel : decode cX2_isHeldByGlue 81 = .ok (.ifCond .ne 5, 3)))) (zleaf_ok (zs_iconst (by decide) (by decide +kernel : decode cX2_isHeldByGlue 84 = .ok (.iconst 1, 1))))))) (znode_ok (znode_ok (zleaf_ok (Or.inr (Or.inr (Or.inr (Or.inr (Or.inr ⟨rfl, rfl, (by decide +kernel : decode cX2_isHeldByGlue 85 = .ok (.ireturn, 1))⟩)))))) (znode_ok (zleaf_ok (zs_iinc (Nat.le_of_ble_eq_true rfl) (by decide) (by decide +kernel : decode cX2_isHeldByGlue 86 = .ok (.iinc 4 1, 3)))) (zleaf_ok (zs_goto (t := 40) (by decide) (by decide +kernel : decode cX2_isHeldByGlue 89 = .ok (.goto (-49), 3)))))) (znode_ok (znode_ok (zleaf_ok (zs_iinc (Nat.le_of_ble_eq_true rfl) (by decide) (by decide +kernel : decode cX2_isHeldByGlue 92 = .ok (.iinc 3 1, 3)))) (zleaf_ok (zs_goto (t := 26) (by decide) (by decide +kernel : decode cX2_isHeldByGlue 95 = .ok (.goto (-69), 3))))) (znode_ok (zleaf_ok (zs_iconst (by decide) (by decide +kernel : decode cX2_isHeldByGlue 98 = .ok (.iconst 0, 1)))) (zleaf_ok (Or.inr (Or.inr (Or.inr (Or.inr (Or.inr ⟨rfl, rfl, (by decide +kernel : decode cX2_isHeldByGlue 99 = .ok (.ireturn, 1))⟩)))))))))))
/-- Creasebook.holesAt(II)I -/
def zc_X2_holesAt (pc : Nat) : Option zI := znode 25 pc (znode 11 pc (znode 3 pc (znode 1 pc (zleaf 0 pc (.inl (zS1 (zCst (.int 0) 1)))) (znode 2 pc (zleaf 1 pc (.inl (zSt1 zIsI 2 3))) (zleaf 2 pc (.inl (zS1 (zCst (.int 0) 3)))))) (znode 7 pc (znode 5 pc (zleaf 3 pc (.inl (zSt1 zIsI 5 4))) (zleaf 5 pc (.inl (zLd zIsI 7 4)))) (znode 8 pc (zleaf 7 pc (.inl (zLd zIsA 8 0))) (zleaf 8 pc (.inl (zS2 (zGet 2 0 11))))))) (znode 18 pc (znode 14 pc (zleaf 11 pc (.inl (zS2 (zGet 1 2 14)))) (znode 17 pc (zleaf 14 pc (.inl (zS1 (zIcmp (fun x y => decide (y ≤ x)) 50 17)))) (zleaf 17 pc (.inl (zLd zIsA 18 0))))) (znode 23 pc (znode 21 pc (zleaf 18 pc (.inl (zS2 (zGet 2 1 21)))) (zleaf 21 pc (.inl (zLd zIsI 23 4)))) (znode 24 pc (zleaf 23 pc (.inl (zLd zIsI 24 1))) (zleaf 24 pc (.inl (zLd zIsI 25 2))))))) (znode 41 pc (znode 32 pc (znode 28 pc (zleaf 25 pc (.inr (.inr (.inr (12, 4, 1))))) (znode 31 pc (zleaf 28 pc (.inl (zS1 (zIf (fun x => decide (x = 0)) 44 31)))) (zleaf 31 pc (.inl (zLd zIsI 32 3))))) (znode 36 pc (znode 33 pc (zleaf 32 pc (.inl (zLd zIsA 33 0))) (zleaf 33 pc (.inl (zS2 (zGet 2 0 36))))) (znode 39 pc (zleaf 36 pc (.inl (zS2 (zGet 1 7 39)))) (zleaf 39 pc (.inl (zLd zIsI 41 4)))))) (znode 44 pc (znode 42 pc (zleaf 41 pc (.inl (zS2 (zAldI 0 42)))) (znode 43 pc (zleaf 42 pc (.inl (zS1 (zII (fun x y => x + y) 43)))) (zleaf 43 pc (.inl (zSt1 zIsI 44 3))))) (znode 50 pc (znode 47 pc (zleaf 44 pc (.inl (zIinc 47 4 1))) (zleaf 47 pc (.inl (zS1 (zGo 5))))) (znode 51 pc (zleaf 50 pc (.inl (zLd zIsI 51 3))) (zleaf 51 pc (.inr (.inl 1)))))))
theorem zk_X2_holesAt (O : Nat → State → Heap → Prop) (E : zE) (l : Launch) : ∀ pc i, zc_X2_holesAt pc = some i → zOK z_cl z_T z_G z_N O E z_yy z_bb z_nl z_cc z_rt z_hh l 78 pc i := fun pc => znode_ok (znode_ok (znode_ok (znode_ok (zleaf_ok (zs_iconst (by decide) (by decide +kernel : decode cX2_holesAt 0 = .ok (.iconst 0, 1)))) (znode_ok (zleaf_ok (zs_istore_n (Nat.le_of_ble_eq_true rfl) (by decide +kernel : decode cX2_holesAt 1 = .ok (.istore_n 3, 1)) rfl)) (zleaf_ok (zs_iconst (by decide) (by decide +kernel : decode cX2_holesAt 2 = .ok (.iconst 0, 1)))))) (znode_ok (znode_ok (zleaf_ok (zs_istore (Nat.le_of_ble_eq_true rfl) (by decide +kernel : decode cX2_holesAt 3 = .ok (.istore 4, 2)))) (zleaf_ok (zs_iload (by decide +kernel : decode cX2_holesAt 5 = .ok (.iload 4, 2))))) (znode_ok (zleaf_ok (zs_aload_n (by decide +kernel : decode cX2_holesAt 7 = .ok (.aload_n 0, 1)) rfl)) (zleaf_ok (zs_get (C := RX2) (Tc := TX2) (Nc := 8) rfl zinX2 (Nat.le_of_ble_eq_true rfl) zw_113 (by decide +kernel : decode cX2_holesAt 8 = .ok (.getfield 10, 3))))))) (znode_ok (znode_ok (zleaf_ok (zs_getN (C := RX1) (Tc := TX1) (Nc := 9) rfl zinX1 (Nat.le_of_ble_eq_true rfl) zw_128 (by decide +kernel : decode cX2_holesAt 11 = .ok (.getfield 47, 3)))) (znode_ok (zleaf_ok (zs_icmp_ge (t := 50) (by decide) (by decide +kernel : decode cX2_holesAt 14 = .ok (.if_icmp .ge 36, 3)))) (zleaf_ok (zs_aload_n (by decide +kernel : decode cX2_holesAt 17 = .ok (.aload_n 0, 1)) rfl)))) (znode_ok (znode_ok (zleaf_ok (zs_get (C := RX2) (Tc := TX2) (Nc := 8) rfl zinX2 (Nat.le_of_ble_eq_true rfl) zw_119 (by decide +kernel : decode cX2_holesAt 18 = .ok (.getfield 19, 3)))) (zleaf_ok (zs_iload (by decide +kernel : decode cX2_holesAt 21 = .ok (.iload 4, 2))))) (znode_ok (zleaf_ok (zs_iload_n (by decide +kernel : decode cX2_holesAt 23 = .ok (.iload_n 1, 1)) rfl)) (zleaf_ok (zs_iload_n (by decide +kernel : decode cX2_holesAt 24 = .ok (.iload_n 2, 1)) rfl)))))) (znode_ok (znode_ok (znode_ok (zleaf_ok (⟨zcs1 (n := 3) z_good zw_66 zw_14 zw_195 zw_68 zw_69 (by decide +kernel) (by decide +kernel : decode cX2_holesAt 25 = .ok (.invokevirtual 123, 3)), Nat.le_of_ble_eq_true rfl, by decide +kernel, (fun _ => ⟨TX0, 8, rfl⟩)⟩)) (znode_ok (zleaf_ok (zs_if_eq (t := 44) (by decide) (by decide +kernel : decode cX2_holesAt 28 = .ok (.ifCond .eq 16, 3)))) (zleaf_ok (zs_iload_n (by decide +kernel : decode cX2_holesAt 31 = .ok (.iload_n 3, 1)) rfl)))) (znode_ok (znode_ok (zleaf_ok (zs_aload_n (by decide +kernel : decode cX2_holesAt 32 = .ok (.aload_n 0, 1)) rfl)) (zleaf_ok (zs_get (C := RX2) (Tc := TX2) (Nc := 8) rfl zinX2 (Nat.le_of_ble_eq_true rfl) zw_113 (by decide +kernel : decode cX2_holesAt 33 = .ok (.getfield 10, 3))))) (znode_ok (zleaf_ok (zs_getN (C := RX1) (Tc := TX1) (Nc := 9) rfl zinX1 (Nat.le_of_ble_eq_true rfl) zw_196 (by decide +kernel : decode cX2_holesAt 36 = .ok (.getfield 127, 3)))) (zleaf_ok (zs_iload (by decide +kernel : decode cX2_holesAt 39 = .ok (.iload 4, 2))))))) (znode_ok (znode_ok (zleaf_ok (zs_aldI rfl (by decide +kernel : decode cX2_holesAt 41 = .ok (.iaload, 1)))) (znode_ok (zleaf_ok (zs_iadd (by decide +kernel : decode cX2_holesAt 42 = .ok (.iadd, 1)))) (zleaf_ok (zs_istore_n (Nat.le_of_ble_eq_true rfl) (by decide +kernel : decode cX2_holesAt 43 = .ok (.istore_n 3, 1)) rfl)))) (znode_ok (znode_ok (zleaf_ok (zs_iinc (Nat.le_of_ble_eq_true rfl) (by decide) (by decide +kernel : decode cX2_holesAt 44 = .ok (.iinc 4 1, 3)))) (zleaf_ok (zs_goto (t := 5) (by decide) (by decide +kernel : decode cX2_holesAt 47 = .ok (.goto (-42), 3))))) (znode_ok (zleaf_ok (zs_iload_n (by decide +kernel : decode cX2_holesAt 50 = .ok (.iload_n 3, 1)) rfl)) (zleaf_ok (Or.inr (Or.inl ⟨rfl, rfl, (by decide +kernel : decode cX2_holesAt 51 = .ok (.ireturn, 1))⟩)))))))
/-- Creasebook.gluedAt(II)I -/
def zc_X2_gluedAt (pc : Nat) : Option zI := znode 29 pc (znode 12 pc (znode 5 pc (znode 2 pc (znode 1 pc (zleaf 0 pc (.inl (zS1 (zCst (.int 0) 1)))) (zleaf 1 pc (.inl (zSt1 zIsI 2 3)))) (znode 3 pc (zleaf 2 pc (.inl (zS1 (zCst (.int 1) 3)))) (zleaf 3 pc (.inl (zSt1 zIsI 5 4))))) (znode 8 pc (znode 7 pc (zleaf 5 pc (.inl (zLd zIsI 7 4))) (zleaf 7 pc (.inl (zLd zIsA 8 0)))) (znode 11 pc (zleaf 8 pc (.inl (zS2 (zGet 2 1 11)))) (zleaf 11 pc (.inl (zLd zIsI 12 1)))))) (znode 20 pc (znode 16 pc (znode 13 pc (zleaf 12 pc (.inl (zLd zIsI 13 2))) (zleaf 13 pc (.inr (.inr (.inr (11, 3, 1)))))) (znode 19 pc (zleaf 16 pc (.inl (zS1 (zIcmp (fun x y => decide (y ≤ x)) 62 19)))) (zleaf 19 pc (.inl (zLd zIsA 20 0))))) (znode 24 pc (znode 23 pc (zleaf 20 pc (.inl (zS2 (zGet 2 0 23)))) (zleaf 23 pc (.inl (zLd zIsA 24 0)))) (znode 27 pc (zleaf 24 pc (.inl (zS2 (zGet 2 1 27)))) (znode 28 pc (zleaf 27 pc (.inl (zLd zIsI 28 1))) (zleaf 28 pc (.inl (zLd zIsI 29 2)))))))) (znode 42 pc (znode 36 pc (znode 32 pc (znode 31 pc (zleaf 29 pc (.inl (zLd zIsI 31 4))) (zleaf 31 pc (.inl (zS1 (zCst (.int 1) 32))))) (znode 33 pc (zleaf 32 pc (.inl (zS1 (zII (fun x y => x - y) 33)))) (zleaf 33 pc (.inr (.inr (.inr (13, 4, 1))))))) (znode 40 pc (znode 37 pc (zleaf 36 pc (.inl (zLd zIsA 37 0))) (zleaf 37 pc (.inl (zS2 (zGet 2 1 40))))) (znode 41 pc (zleaf 40 pc (.inl (zLd zIsI 41 1))) (zleaf 41 pc (.inl (zLd zIsI 42 2)))))) (znode 53 pc (znode 47 pc (znode 44 pc (zleaf 42 pc (.inl (zLd zIsI 44 4))) (zleaf 44 pc (.inr (.inr (.inr (13, 4, 1)))))) (znode 50 pc (zleaf 47 pc (.inr (.inr (.inr (41, 3, 1))))) (zleaf 50 pc (.inl (zS1 (zIf (fun x => decide (x = 0)) 56 53)))))) (znode 59 pc (znode 56 pc (zleaf 53 pc (.inl (zIinc 56 3 1))) (zleaf 56 pc (.inl (zIinc 59 4 1)))) (znode 62 pc (zleaf 59 pc (.inl (zS1 (zGo 5)))) (znode 63 pc (zleaf 62 pc (.inl (zLd zIsI 63 3))) (zleaf 63 pc (.inr (.inl 1))))))))
theorem zk_X2_gluedAt (O : Nat → State → Heap → Prop) (E : zE) (l : Launch) : ∀ pc i, zc_X2_gluedAt pc = some i → zOK z_cl z_T z_G z_N O E z_yy z_bb z_nl z_cc z_rt z_hh l 79 pc i := fun pc => znode_ok (znode_ok (znode_ok (znode_ok (znode_ok (zleaf_ok (zs_iconst (by decide) (by decide +kernel : decode cX2_gluedAt 0 = .ok (.iconst 0, 1)))) (zleaf_ok (zs_istore_n (Nat.le_of_ble_eq_true rfl) (by decide +kernel : decode cX2_gluedAt 1 = .ok (.istore_n 3, 1)) rfl))) (znode_ok (zleaf_ok (zs_iconst (by decide) (by decide +kernel : decode cX2_gluedAt 2 = .ok (.iconst 1, 1)))) (zleaf_ok (zs_istore (Nat.le_of_ble_eq_true rfl) (by decide +kernel : decode cX2_gluedAt 3 = .ok (.istore 4, 2)))))) (znode_ok (znode_ok (zleaf_ok (zs_iload (by decide +kernel : decode cX2_gluedAt 5 = .ok (.iload 4, 2)))) (zleaf_ok (zs_aload_n (by decide +kernel : decode cX2_gluedAt 7 = .ok (.aload_n 0, 1)) rfl))) (znode_ok (zleaf_ok (zs_get (C := RX2) (Tc := TX2) (Nc := 8) rfl zinX2 (Nat.le_of_ble_eq_true rfl) zw_119 (by decide +kernel : decode cX2_gluedAt 8 = .ok (.getfield 19, 3)))) (zleaf_ok (zs_iload_n (by decide +kernel : decode cX2_gluedAt 11 = .ok (.iload_n 1, 1)) rfl))))) (znode_ok (znode_ok (znode_ok (zleaf_ok (zs_iload_n (by decide +kernel : decode cX2_gluedAt 12 = .ok (.iload_n 2, 1)) rfl)) (zleaf_ok (⟨zcs1 (n := 2) z_good zw_58 zw_14 zw_197 zw_60 zw_61 (by decide +kernel) (by decide +kernel : decode cX2_gluedAt 13 = .ok (.invokevirtual 130, 3)), Nat.le_of_ble_eq_true rfl, by decide +kernel, (fun _ => ⟨TX0, 8, rfl⟩)⟩))) (znode_ok (zleaf_ok (zs_icmp_ge (t := 62) (by decide) (by decide +kernel : decode cX2_gluedAt 16 = .ok (.if_icmp .ge 46, 3)))) (zleaf_ok (zs_aload_n (by decide +kernel : decode cX2_gluedAt 19 = .ok (.aload_n 0, 1)) rfl)))) (znode_ok (znode_ok (zleaf_ok (zs_get (C := RX2) (Tc := TX2) (Nc := 8) rfl zinX2 (Nat.le_of_ble_eq_true rfl) zw_113 (by decide +kernel : decode cX2_gluedAt 20 = .ok (.getfield 10, 3)))) (zleaf_ok (zs_aload_n (by decide +kernel : decode cX2_gluedAt 23 = .ok (.aload_n 0, 1)) rfl))) (znode_ok (zleaf_ok (zs_get (C := RX2) (Tc := TX2) (Nc := 8) rfl zinX2 (Nat.le_of_ble_eq_true rfl) zw_119 (by decide +kernel : decode cX2_gluedAt 24 = .ok (.getfield 19, 3)))) (znode_ok (zleaf_ok (zs_iload_n (by decide +kernel : decode cX2_gluedAt 27 = .ok (.iload_n 1, 1)) rfl)) (zleaf_ok (zs_iload_n (by decide +kernel : decode cX2_gluedAt 28 = .ok (.iload_n 2, 1)) rfl))))))) (znode_ok (znode_ok (znode_ok (znode_ok (zleaf_ok (zs_iload (by decide +kernel : decode cX2_gluedAt 29 = .ok (.iload 4, 2)))) (zleaf_ok (zs_iconst (by decide) (by decide +kernel : decode cX2_gluedAt 31 = .ok (.iconst 1, 1))))) (znode_ok (zleaf_ok (zs_isub (by decide +kernel : decode cX2_gluedAt 32 = .ok (.isub, 1)))) (zleaf_ok (⟨zcs1 (n := 3) z_good zw_70 zw_14 zw_198 zw_72 zw_73 (by decide +kernel) (by decide +kernel : decode cX2_gluedAt 33 = .ok (.invokevirtual 133, 3)), Nat.le_of_ble_eq_true rfl, by decide +kernel, (fun _ => ⟨TX0, 8, rfl⟩)⟩)))) (znode_ok (znode_ok (zleaf_ok (zs_aload_n (by decide +kernel : decode cX2_gluedAt 36 = .ok (.aload_n 0, 1)) rfl)) (zleaf_ok (zs_get (C := RX2) (Tc := TX2) (Nc := 8) rfl zinX2 (Nat.le_of_ble_eq_true rfl) zw_119 (by decide +kernel : decode cX2_gluedAt 37 = .ok (.getfield 19, 3))))) (znode_ok (zleaf_ok (zs_iload_n (by decide +kernel : decode cX2_gluedAt 40 = .ok (.iload_n 1, 1)) rfl)) (zleaf_ok (zs_iload_n (by decide +kernel : decode cX2_gluedAt 41 = .ok (.iload_n 2, 1)) rfl))))) (znode_ok (znode_ok (znode_ok (zleaf_ok (zs_iload (by decide +kernel : decode cX2_gluedAt 42 = .ok (.iload 4, 2)))) (zleaf_ok (⟨zcs1 (n := 3) z_good zw_70 zw_14 zw_198 zw_72 zw_73 (by decide +kernel) (by decide +kernel : decode cX2_gluedAt 44 = .ok (.invokevirtual 133, 3)), Nat.le_of_ble_eq_true rfl, by decide +kernel, (fun _ => ⟨TX0, 8, rfl⟩)⟩))) (znode_ok (zleaf_ok (⟨zcs1 (n := 2) z_good zw_199 zw_89 zw_200 zw_201 zw_202 (by decide +kernel) (by decide +kernel : decode cX2_gluedAt 47 = .ok (.invokevirtual 137, 3)), Nat.le_of_ble_eq_true rfl, by decide +kernel, (fun _ => ⟨TX1, 9, rfl⟩)⟩)) (zleaf_ok (zs_if_eq (t := 56) (by decide) (by decide +kernel : decode cX2_gluedAt 50 = .ok (.ifCond .eq 6, 3)))))) (znode_ok (znode_ok (zleaf_ok (zs_iinc (Nat.le_of_ble_eq_true rfl) (by decide) (by decide +kernel : decode cX2_gluedAt 53 = .ok (.iinc 3 1, 3)))) (zleaf_ok (zs_iinc (Nat.le_of_ble_eq_true rfl) (by decide) (by decide +kernel : decode cX2_gluedAt 56 = .ok (.iinc 4 1, 3))))) (znode_ok (zleaf_ok (zs_goto (t := 5) (by decide) (by decide +kernel : decode cX2_gluedAt 59 = .ok (.goto (-54), 3)))) (znode_ok (zleaf_ok (zs_iload_n (by decide +kernel : decode cX2_gluedAt 62 = .ok (.iload_n 3, 1)) rfl)) (zleaf_ok (Or.inr (Or.inl ⟨rfl, rfl, (by decide +kernel : decode cX2_gluedAt 63 = .ok (.ireturn, 1))⟩))))))))
/-- Creasebook.digestOfCell(JI)J -/
def zc_X2_digestOfCell (pc : Nat) : Option zI := znode 55 pc (znode 27 pc (znode 13 pc (znode 4 pc (znode 1 pc (zleaf 0 pc (.inl (zLd zIsL 1 1))) (znode 3 pc (zleaf 1 pc (.inl (zSt2 zIsL 3 4))) (zleaf 3 pc (.inl (zS1 (zCst (.int 0) 4)))))) (znode 8 pc (znode 6 pc (zleaf 4 pc (.inl (zSt1 zIsI 6 6))) (zleaf 6 pc (.inl (zLd zIsI 8 6)))) (znode 10 pc (zleaf 8 pc (.inl (zS1 (zCst (.int 7) 10)))) (zleaf 10 pc (.inl (zS1 (zIcmp (fun x y => decide (y < x)) 36 13))))))) (znode 20 pc (znode 18 pc (znode 15 pc (zleaf 13 pc (.inl (zLd zIsL 15 4))) (zleaf 15 pc (.inl (zS1 (zCst (.long 31) 18))))) (znode 19 pc (zleaf 18 pc (.inl (zS1 (zLL (fun x y => x * y) 19)))) (zleaf 19 pc (.inl (zLd zIsA 20 0))))) (znode 23 pc (znode 21 pc (zleaf 20 pc (.inl (zLd zIsI 21 3))) (zleaf 21 pc (.inl (zLd zIsI 23 6)))) (znode 26 pc (zleaf 23 pc (.inr (.inr (.inr (55, 3, 0))))) (zleaf 26 pc (.inl (zS1 (zIL (fun x => x.toInt64) 27)))))))) (znode 43 pc (znode 36 pc (znode 30 pc (znode 28 pc (zleaf 27 pc (.inl (zS1 (zLL (fun x y => x + y) 28)))) (zleaf 28 pc (.inl (zSt2 zIsL 30 4)))) (znode 33 pc (zleaf 30 pc (.inl (zIinc 33 6 1))) (zleaf 33 pc (.inl (zS1 (zGo 6)))))) (znode 41 pc (znode 38 pc (zleaf 36 pc (.inl (zLd zIsL 38 4))) (zleaf 38 pc (.inl (zS1 (zCst (.long 31) 41))))) (znode 42 pc (zleaf 41 pc (.inl (zS1 (zLL (fun x y => x * y) 42)))) (zleaf 42 pc (.inl (zLd zIsA 43 0)))))) (znode 49 pc (znode 45 pc (znode 44 pc (zleaf 43 pc (.inl (zLd zIsI 44 3))) (zleaf 44 pc (.inl (zS1 (zCst (.int 0) 45))))) (znode 46 pc (zleaf 45 pc (.inl (zS1 (zCst (.int 0) 46)))) (zleaf 46 pc (.inr (.inr (.inr (56, 4, 0))))))) (znode 51 pc (znode 50 pc (zleaf 49 pc (.inl (zS1 (zIL (fun x => x.toInt64) 50)))) (zleaf 50 pc (.inl (zS1 (zLL (fun x y => x + y) 51))))) (znode 53 pc (zleaf 51 pc (.inl (zSt2 zIsL 53 4))) (zleaf 53 pc (.inl (zLd zIsL 55 4)))))))) (znode 79 pc (znode 67 pc (znode 61 pc (znode 59 pc (znode 58 pc (zleaf 55 pc (.inl (zS1 (zCst (.long 31) 58)))) (zleaf 58 pc (.inl (zS1 (zLL (fun x y => x * y) 59))))) (znode 60 pc (zleaf 59 pc (.inl (zLd zIsA 60 0))) (zleaf 60 pc (.inl (zLd zIsI 61 3))))) (znode 63 pc (znode 62 pc (zleaf 61 pc (.inl (zS1 (zCst (.int 0) 62)))) (zleaf 62 pc (.inl (zS1 (zCst (.int 1) 63))))) (znode 66 pc (zleaf 63 pc (.inr (.inr (.inr (56, 4, 0))))) (zleaf 66 pc (.inl (zS1 (zIL (fun x => x.toInt64) 67))))))) (znode 75 pc (znode 70 pc (znode 68 pc (zleaf 67 pc (.inl (zS1 (zLL (fun x y => x + y) 68)))) (zleaf 68 pc (.inl (zSt2 zIsL 70 4)))) (znode 72 pc (zleaf 70 pc (.inl (zLd zIsL 72 4))) (zleaf 72 pc (.inl (zS1 (zCst (.long 31) 75)))))) (znode 77 pc (znode 76 pc (zleaf 75 pc (.inl (zS1 (zLL (fun x y => x * y) 76)))) (zleaf 76 pc (.inl (zLd zIsA 77 0)))) (znode 78 pc (zleaf 77 pc (.inl (zLd zIsI 78 3))) (zleaf 78 pc (.inl (zS1 (zCst (.int 1) 79)))))))) (znode 93 pc (znode 85 pc (znode 83 pc (znode 80 pc (zleaf 79 pc (.inl (zS1 (zCst (.int 0) 80)))) (zleaf 80 pc (.inr (.inr (.inr (56, 4, 0)))))) (znode 84 pc (zleaf 83 pc (.inl (zS1 (zIL (fun x => x.toInt64) 84)))) (zleaf 84 pc (.inl (zS1 (zLL (fun x y => x + y) 85)))))) (znode 89 pc (znode 87 pc (zleaf 85 pc (.inl (zSt2 zIsL 87 4))) (zleaf 87 pc (.inl (zLd zIsL 89 4)))) (znode 92 pc (zleaf 89 pc (.inl (zS1 (zCst (.long 31) 92)))) (zleaf 92 pc (.inl (zS1 (zLL (fun x y => x * y) 93))))))) (znode 97 pc (znode 95 pc (znode 94 pc (zleaf 93 pc (.inl (zLd zIsA 94 0))) (zleaf 94 pc (.inl (zLd zIsI 95 3)))) (znode 96 pc (zleaf 95 pc (.inl (zS1 (zCst (.int 1) 96)))) (zleaf 96 pc (.inl (zS1 (zCst (.int 1) 97)))))) (znode 101 pc (znode 100 pc (zleaf 97 pc (.inr (.inr (.inr (56, 4, 0))))) (zleaf 100 pc (.inl (zS1 (zIL (fun x => x.toInt64) 101))))) (znode 102 pc (zleaf 101 pc (.inl (zS1 (zLL (fun x y => x + y) 102)))) (zleaf 102 pc (.inr (.inl 2))))))))
theorem zk_X2_digestOfCell (O : Nat → State → Heap → Prop) (E : zE) (l : Launch) : ∀ pc i, zc_X2_digestOfCell pc = some i → zOK z_cl z_T z_G z_N O E z_yy z_bb z_nl z_cc z_rt z_hh l 80 pc i := fun pc => znode_ok (znode_ok (znode_ok (znode_ok (znode_ok (zleaf_ok (zs_lload_n (by decide +kernel : decode cX2_digestOfCell 0 = .ok (.lload_n 1, 1)) rfl)) (znode_ok (zleaf_ok (zs_lstore (Nat.le_of_ble_eq_true rfl) (by decide +kernel : decode cX2_digestOfCell 1 = .ok (.lstore 4, 2)))) (zleaf_ok (zs_iconst (by decide) (by decide +kernel : decode cX2_digestOfCell 3 = .ok (.iconst 0, 1)))))) (znode_ok (znode_ok (zleaf_ok (zs_istore (Nat.le_of_ble_eq_true rfl) (by decide +kernel : decode cX2_digestOfCell 4 = .ok (.istore 6, 2)))) (zleaf_ok (zs_iload (by decide +kernel : decode cX2_digestOfCell 6 = .ok (.iload 6, 2))))) (znode_ok (zleaf_ok (zs_bipush (by decide) (by decide +kernel : decode cX2_digestOfCell 8 = .ok (.bipush 7, 2)))) (zleaf_ok (zs_icmp_gt (t := 36) (by decide) (by decide +kernel : decode cX2_digestOfCell 10 = .ok (.if_icmp .gt 26, 3))))))) (znode_ok (znode_ok (znode_ok (zleaf_ok (zs_lload (by decide +kernel : decode cX2_digestOfCell 13 = .ok (.lload 4, 2)))) (zleaf_ok (zs_ldc2l zw_300 (by decide +kernel : decode cX2_digestOfCell 15 = .ok (.ldc2_w 265, 3))))) (znode_ok (zleaf_ok (zs_lmul (by decide +kernel : decode cX2_digestOfCell 18 = .ok (.lmul, 1)))) (zleaf_ok (zs_aload_n (by decide +kernel : decode cX2_digestOfCell 19 = .ok (.aload_n 0, 1)) rfl)))) (znode_ok (znode_ok (zleaf_ok (zs_iload_n (by decide +kernel : decode cX2_digestOfCell 20 = .ok (.iload_n 3, 1)) rfl)) (zleaf_ok (zs_iload (by decide +kernel : decode cX2_digestOfCell 21 = .ok (.iload 6, 2))))) (znode_ok (zleaf_ok (⟨zcs0 (n := 2) z_good zw_361 zw_19 zw_362 zw_363 zw_364 (by decide +kernel) (by decide +kernel : decode cX2_digestOfCell 23 = .ok (.invokevirtual 343, 3)), Nat.le_of_ble_eq_true rfl, by decide +kernel, (fun _ => ⟨TX2, 8, rfl⟩)⟩)) (zleaf_ok (zs_i2l (by decide +kernel : decode cX2_digestOfCell 26 = .ok (.i2l, 1)))))))) (znode_ok (znode_ok (znode_ok (znode_ok (zleaf_ok (zs_ladd (by decide +kernel : decode cX2_digestOfCell 27 = .ok (.ladd, 1)))) (zleaf_ok (zs_lstore (Nat.le_of_ble_eq_true rfl) (by decide +kernel : decode cX2_digestOfCell 28 = .ok (.lstore 4, 2))))) (znode_ok (zleaf_ok (zs_iinc (Nat.le_of_ble_eq_true rfl) (by decide) (by decide +kernel : decode cX2_digestOfCell 30 = .ok (.iinc 6 1, 3)))) (zleaf_ok (zs_goto (t := 6) (by decide) (by decide +kernel : decode cX2_digestOfCell 33 = .ok (.goto (-27), 3)))))) (znode_ok (znode_ok (zleaf_ok (zs_lload (by decide +kernel : decode cX2_digestOfCell 36 = .ok (.lload 4, 2)))) (zleaf_ok (zs_ldc2l zw_300 (by decide +kernel : decode cX2_digestOfCell 38 = .ok (.ldc2_w 265, 3))))) (znode_ok (zleaf_ok (zs_lmul (by decide +kernel : decode cX2_digestOfCell 41 = .ok (.lmul, 1)))) (zleaf_ok (zs_aload_n (by decide +kernel : decode cX2_digestOfCell 42 = .ok (.aload_n 0, 1)) rfl))))) (znode_ok (znode_ok (znode_ok (zleaf_ok (zs_iload_n (by decide +kernel : decode cX2_digestOfCell 43 = .ok (.iload_n 3, 1)) rfl)) (zleaf_ok (zs_iconst (by decide) (by decide +kernel : decode cX2_digestOfCell 44 = .ok (.iconst 0, 1))))) (znode_ok (zleaf_ok (zs_iconst (by decide) (by decide +kernel : decode cX2_digestOfCell 45 = .ok (.iconst 0, 1)))) (zleaf_ok (⟨zcs0 (n := 3) z_good zw_365 zw_19 zw_366 zw_367 zw_368 (by decide +kernel) (by decide +kernel : decode cX2_digestOfCell 46 = .ok (.invokevirtual 346, 3)), Nat.le_of_ble_eq_true rfl, by decide +kernel, (fun _ => ⟨TX2, 8, rfl⟩)⟩)))) (znode_ok (znode_ok (zleaf_ok (zs_i2l (by decide +kernel : decode cX2_digestOfCell 49 = .ok (.i2l, 1)))) (zleaf_ok (zs_ladd (by decide +kernel : decode cX2_digestOfCell 50 = .ok (.ladd, 1))))) (znode_ok (zleaf_ok (zs_lstore (Nat.le_of_ble_eq_true rfl) (by decide +kernel : decode cX2_digestOfCell 51 = .ok (.lstore 4, 2)))) (zleaf_ok (zs_lload (by decide +kernel : decode cX2_digestOfCell 53 = .ok (.lload 4, 2))))))))) (znode_ok (znode_ok (znode_ok (znode_ok (znode_ok (zleaf_ok (zs_ldc2l zw_300 (by decide +kernel : decode cX2_digestOfCell 55 = .ok (.ldc2_w 265, 3)))) (zleaf_ok (zs_lmul (by decide +kernel : decode cX2_digestOfCell 58 = .ok (.lmul, 1))))) (znode_ok (zleaf_ok (zs_aload_n (by decide +kernel : decode cX2_digestOfCell 59 = .ok (.aload_n 0, 1)) rfl)) (zleaf_ok (zs_iload_n (by decide +kernel : decode cX2_digestOfCell 60 = .ok (.iload_n 3, 1)) rfl)))) (znode_ok (znode_ok (zleaf_ok (zs_iconst (by decide) (by decide +kernel : decode cX2_digestOfCell 61 = .ok (.iconst 0, 1)))) (zleaf_ok (zs_iconst (by decide) (by decide +kernel : decode cX2_digestOfCell 62 = .ok (.iconst 1, 1))))) (znode_ok (zleaf_ok (⟨zcs0 (n := 3) z_good zw_365 zw_19 zw_366 zw_367 zw_368 (by decide +kernel) (by decide +kernel : decode cX2_digestOfCell 63 = .ok (.invokevirtual 346, 3)), Nat.le_of_ble_eq_true rfl, by decide +kernel, (fun _ => ⟨TX2, 8, rfl⟩)⟩)) (zleaf_ok (zs_i2l (by decide +kernel : decode cX2_digestOfCell 66 = .ok (.i2l, 1))))))) (znode_ok (znode_ok (znode_ok (zleaf_ok (zs_ladd (by decide +kernel : decode cX2_digestOfCell 67 = .ok (.ladd, 1)))) (zleaf_ok (zs_lstore (Nat.le_of_ble_eq_true rfl) (by decide +kernel : decode cX2_digestOfCell 68 = .ok (.lstore 4, 2))))) (znode_ok (zleaf_ok (zs_lload (by decide +kernel : decode cX2_digestOfCell 70 = .ok (.lload 4, 2)))) (zleaf_ok (zs_ldc2l zw_300 (by decide +kernel : decode cX2_digestOfCell 72 = .ok (.ldc2_w 265, 3)))))) (znode_ok (znode_ok (zleaf_ok (zs_lmul (by decide +kernel : decode cX2_digestOfCell 75 = .ok (.lmul, 1)))) (zleaf_ok (zs_aload_n (by decide +kernel : decode cX2_digestOfCell 76 = .ok (.aload_n 0, 1)) rfl))) (znode_ok (zleaf_ok (zs_iload_n (by decide +kernel : decode cX2_digestOfCell 77 = .ok (.iload_n 3, 1)) rfl)) (zleaf_ok (zs_iconst (by decide) (by decide +kernel : decode cX2_digestOfCell 78 = .ok (.iconst 1, 1)))))))) (znode_ok (znode_ok (znode_ok (znode_ok (zleaf_ok (zs_iconst (by decide) (by decide +kernel : decode cX2_digestOfCell 79 = .ok (.iconst 0, 1)))) (zleaf_ok (⟨zcs0 (n := 3) z_good zw_365 zw_19 zw_366 zw_367 zw_368 (by decide +kernel) (by decide +kernel : decode cX2_digestOfCell 80 = .ok (.invokevirtual 346, 3)), Nat.le_of_ble_eq_true rfl, by decide +kernel, (fun _ => ⟨TX2, 8, rfl⟩)⟩))) (znode_ok (zleaf_ok (zs_i2l (by decide +kernel : decode cX2_digestOfCell 83 = .ok (.i2l, 1)))) (zleaf_ok (zs_ladd (by decide +kernel : decode cX2_digestOfCell 84 = .ok (.ladd, 1)))))) (znode_ok (znode_ok (zleaf_ok (zs_lstore (Nat.le_of_ble_eq_true rfl) (by decide +kernel : decode cX2_digestOfCell 85 = .ok (.lstore 4, 2)))) (zleaf_ok (zs_lload (by decide +kernel : decode cX2_digestOfCell 87 = .ok (.lload 4, 2))))) (znode_ok (zleaf_ok (zs_ldc2l zw_300 (by decide +kernel : decode cX2_digestOfCell 89 = .ok (.ldc2_w 265, 3)))) (zleaf_ok (zs_lmul (by decide +kernel : decode cX2_digestOfCell 92 = .ok (.lmul, 1))))))) (znode_ok (znode_ok (znode_ok (zleaf_ok (zs_aload_n (by decide +kernel : decode cX2_digestOfCell 93 = .ok (.aload_n 0, 1)) rfl)) (zleaf_ok (zs_iload_n (by decide +kernel : decode cX2_digestOfCell 94 = .ok (.iload_n 3, 1)) rfl))) (znode_ok (zleaf_ok (zs_iconst (by decide) (by decide +kernel : decode cX2_digestOfCell 95 = .ok (.iconst 1, 1)))) (zleaf_ok (zs_iconst (by decide) (by decide +kernel : decode cX2_digestOfCell 96 = .ok (.iconst 1, 1)))))) (znode_ok (znode_ok (zleaf_ok (⟨zcs0 (n := 3) z_good zw_365 zw_19 zw_366 zw_367 zw_368 (by decide +kernel) (by decide +kernel : decode cX2_digestOfCell 97 = .ok (.invokevirtual 346, 3)), Nat.le_of_ble_eq_true rfl, by decide +kernel, (fun _ => ⟨TX2, 8, rfl⟩)⟩)) (zleaf_ok (zs_i2l (by decide +kernel : decode cX2_digestOfCell 100 = .ok (.i2l, 1))))) (znode_ok (zleaf_ok (zs_ladd (by decide +kernel : decode cX2_digestOfCell 101 = .ok (.ladd, 1)))) (zleaf_ok (Or.inr (Or.inr (Or.inl ⟨rfl, rfl, (by decide +kernel : decode cX2_digestOfCell 102 = .ok (.lreturn, 1))⟩)))))))))
end
section
/-- Creasebook.digestOfPlace(JII)J -/
def zc_X2_digestOfPlace (pc : Nat) : Option zI := znode 20 pc (znode 8 pc (znode 3 pc (znode 1 pc (zleaf 0 pc (.inl (zLd zIsL 1 1))) (zleaf 1 pc (.inl (zSt2 zIsL 3 5)))) (znode 4 pc (zleaf 3 pc (.inl (zS1 (zCst (.int 0) 4)))) (znode 6 pc (zleaf 4 pc (.inl (zSt1 zIsI 6 7))) (zleaf 6 pc (.inl (zLd zIsI 8 7)))))) (znode 15 pc (znode 10 pc (zleaf 8 pc (.inl (zS1 (zCst (.int 6) 10)))) (znode 13 pc (zleaf 10 pc (.inl (zS1 (zIcmp (fun x y => decide (y < x)) 38 13)))) (zleaf 13 pc (.inl (zLd zIsL 15 5))))) (znode 18 pc (zleaf 15 pc (.inl (zS1 (zCst (.long 31) 18)))) (znode 19 pc (zleaf 18 pc (.inl (zS1 (zLL (fun x y => x * y) 19)))) (zleaf 19 pc (.inl (zLd zIsA 20 0))))))) (znode 29 pc (znode 23 pc (znode 21 pc (zleaf 20 pc (.inl (zLd zIsI 21 3))) (zleaf 21 pc (.inl (zLd zIsI 23 4)))) (znode 25 pc (zleaf 23 pc (.inl (zLd zIsI 25 7))) (znode 28 pc (zleaf 25 pc (.inr (.inr (.inr (53, 4, 0))))) (zleaf 28 pc (.inl (zS1 (zIL (fun x => x.toInt64) 29))))))) (znode 35 pc (znode 30 pc (zleaf 29 pc (.inl (zS1 (zLL (fun x y => x + y) 30)))) (znode 32 pc (zleaf 30 pc (.inl (zSt2 zIsL 32 5))) (zleaf 32 pc (.inl (zIinc 35 7 1))))) (znode 38 pc (zleaf 35 pc (.inl (zS1 (zGo 6)))) (znode 40 pc (zleaf 38 pc (.inl (zLd zIsL 40 5))) (zleaf 40 pc (.inr (.inl 2)))))))
theorem zk_X2_digestOfPlace (O : Nat → State → Heap → Prop) (E : zE) (l : Launch) : ∀ pc i, zc_X2_digestOfPlace pc = some i → zOK z_cl z_T z_G z_N O E z_yy z_bb z_nl z_cc z_rt z_hh l 81 pc i := fun pc => znode_ok (znode_ok (znode_ok (znode_ok (zleaf_ok (zs_lload_n (by decide +kernel : decode cX2_digestOfPlace 0 = .ok (.lload_n 1, 1)) rfl)) (zleaf_ok (zs_lstore (Nat.le_of_ble_eq_true rfl) (by decide +kernel : decode cX2_digestOfPlace 1 = .ok (.lstore 5, 2))))) (znode_ok (zleaf_ok (zs_iconst (by decide) (by decide +kernel : decode cX2_digestOfPlace 3 = .ok (.iconst 0, 1)))) (znode_ok (zleaf_ok (zs_istore (Nat.le_of_ble_eq_true rfl) (by decide +kernel : decode cX2_digestOfPlace 4 = .ok (.istore 7, 2)))) (zleaf_ok (zs_iload (by decide +kernel : decode cX2_digestOfPlace 6 = .ok (.iload 7, 2))))))) (znode_ok (znode_ok (zleaf_ok (zs_bipush (by decide) (by decide +kernel : decode cX2_digestOfPlace 8 = .ok (.bipush 6, 2)))) (znode_ok (zleaf_ok (zs_icmp_gt (t := 38) (by decide) (by decide +kernel : decode cX2_digestOfPlace 10 = .ok (.if_icmp .gt 28, 3)))) (zleaf_ok (zs_lload (by decide +kernel : decode cX2_digestOfPlace 13 = .ok (.lload 5, 2)))))) (znode_ok (zleaf_ok (zs_ldc2l zw_300 (by decide +kernel : decode cX2_digestOfPlace 15 = .ok (.ldc2_w 265, 3)))) (znode_ok (zleaf_ok (zs_lmul (by decide +kernel : decode cX2_digestOfPlace 18 = .ok (.lmul, 1)))) (zleaf_ok (zs_aload_n (by decide +kernel : decode cX2_digestOfPlace 19 = .ok (.aload_n 0, 1)) rfl)))))) (znode_ok (znode_ok (znode_ok (zleaf_ok (zs_iload_n (by decide +kernel : decode cX2_digestOfPlace 20 = .ok (.iload_n 3, 1)) rfl)) (zleaf_ok (zs_iload (by decide +kernel : decode cX2_digestOfPlace 21 = .ok (.iload 4, 2))))) (znode_ok (zleaf_ok (zs_iload (by decide +kernel : decode cX2_digestOfPlace 23 = .ok (.iload 7, 2)))) (znode_ok (zleaf_ok (⟨zcs0 (n := 3) z_good zw_369 zw_19 zw_370 zw_371 zw_372 (by decide +kernel) (by decide +kernel : decode cX2_digestOfPlace 25 = .ok (.invokevirtual 350, 3)), Nat.le_of_ble_eq_true rfl, by decide +kernel, (fun _ => ⟨TX2, 8, rfl⟩)⟩)) (zleaf_ok (zs_i2l (by decide +kernel : decode cX2_digestOfPlace 28 = .ok (.i2l, 1))))))) (znode_ok (znode_ok (zleaf_ok (zs_ladd (by decide +kernel : decode cX2_digestOfPlace 29 = .ok (.ladd, 1)))) (znode_ok (zleaf_ok (zs_lstore (Nat.le_of_ble_eq_true rfl) (by decide +kernel : decode cX2_digestOfPlace 30 = .ok (.lstore 5, 2)))) (zleaf_ok (zs_iinc (Nat.le_of_ble_eq_true rfl) (by decide) (by decide +kernel : decode cX2_digestOfPlace 32 = .ok (.iinc 7 1, 3)))))) (znode_ok (zleaf_ok (zs_goto (t := 6) (by decide) (by decide +kernel : decode cX2_digestOfPlace 35 = .ok (.goto (-29), 3)))) (znode_ok (zleaf_ok (zs_lload (by decide +kernel : decode cX2_digestOfPlace 38 = .ok (.lload 5, 2)))) (zleaf_ok (Or.inr (Or.inr (Or.inl ⟨rfl, rfl, (by decide +kernel : decode cX2_digestOfPlace 40 = .ok (.lreturn, 1))⟩))))))))
/-- Creasebook.nearestOfTwoTheEven(II)I -/
def zc_X2_nearestOfTwoTheEven (pc : Nat) : Option zI := znode 22 pc (znode 11 pc (znode 6 pc (znode 2 pc (znode 1 pc (zleaf 0 pc (.inl (zLd zIsI 1 1))) (zleaf 1 pc (.inl (zS1 (zCst (.int 1) 2))))) (znode 5 pc (zleaf 2 pc (.inl (zS1 (zIcmp (fun x y => decide (y ≤ x)) 7 5)))) (zleaf 5 pc (.inl (zS1 (zCst (.int 0) 6)))))) (znode 8 pc (znode 7 pc (zleaf 6 pc (.inr (.inl 1))) (zleaf 7 pc (.inl (zLd zIsI 8 0)))) (znode 9 pc (zleaf 8 pc (.inl (zLd zIsI 9 1))) (znode 10 pc (zleaf 9 pc (.inl (zS1 (zIIg (fun x y => x / y) 10)))) (zleaf 10 pc (.inl (zSt1 zIsI 11 2))))))) (znode 15 pc (znode 13 pc (znode 12 pc (zleaf 11 pc (.inl (zS1 (zCst (.int 2) 12)))) (zleaf 12 pc (.inl (zLd zIsI 13 0)))) (znode 14 pc (zleaf 13 pc (.inl (zLd zIsI 14 1))) (zleaf 14 pc (.inl (zS1 (zIIg (fun x y => x - x / y * y) 15)))))) (znode 17 pc (znode 16 pc (zleaf 15 pc (.inl (zS1 (zII (fun x y => x * y) 16)))) (zleaf 16 pc (.inl (zSt1 zIsI 17 3)))) (znode 18 pc (zleaf 17 pc (.inl (zLd zIsI 18 3))) (znode 19 pc (zleaf 18 pc (.inl (zLd zIsI 19 1))) (zleaf 19 pc (.inl (zS1 (zIcmp (fun x y => decide (y < x)) 33 22))))))))) (znode 37 pc (znode 28 pc (znode 24 pc (znode 23 pc (zleaf 22 pc (.inl (zLd zIsI 23 3))) (zleaf 23 pc (.inl (zLd zIsI 24 1)))) (znode 27 pc (zleaf 24 pc (.inl (zS1 (zIcmp (fun x y => decide (¬ x = y)) 37 27)))) (zleaf 27 pc (.inl (zLd zIsI 28 2))))) (znode 30 pc (znode 29 pc (zleaf 28 pc (.inl (zS1 (zCst (.int 2) 29)))) (zleaf 29 pc (.inl (zS1 (zIIg (fun x y => x - x / y * y) 30))))) (znode 33 pc (zleaf 30 pc (.inl (zS1 (zIf (fun x => decide (x = 0)) 37 33)))) (znode 34 pc (zleaf 33 pc (.inl (zS1 (zCst (.int 1) 34)))) (zleaf 34 pc (.inl (zS1 (zGo 38)))))))) (znode 46 pc (znode 40 pc (znode 38 pc (zleaf 37 pc (.inl (zS1 (zCst (.int 0) 38)))) (zleaf 38 pc (.inl (zSt1 zIsI 40 4)))) (znode 42 pc (zleaf 40 pc (.inl (zLd zIsI 42 4))) (znode 45 pc (zleaf 42 pc (.inl (zS1 (zIf (fun x => decide (x = 0)) 51 45)))) (zleaf 45 pc (.inl (zLd zIsI 46 2)))))) (znode 48 pc (znode 47 pc (zleaf 46 pc (.inl (zS1 (zCst (.int 1) 47)))) (zleaf 47 pc (.inl (zS1 (zII (fun x y => x + y) 48))))) (znode 51 pc (zleaf 48 pc (.inl (zS1 (zGo 52)))) (znode 52 pc (zleaf 51 pc (.inl (zLd zIsI 52 2))) (zleaf 52 pc (.inr (.inl 1))))))))
theorem zk_X2_nearestOfTwoTheEven (O : Nat → State → Heap → Prop) (E : zE) (l : Launch) : ∀ pc i, zc_X2_nearestOfTwoTheEven pc = some i → zOK z_cl z_T z_G z_N O E z_yy z_bb z_nl z_cc z_rt z_hh l 82 pc i := fun pc => znode_ok (znode_ok (znode_ok (znode_ok (znode_ok (zleaf_ok (zs_iload_n (by decide +kernel : decode cX2_nearestOfTwoTheEven 0 = .ok (.iload_n 1, 1)) rfl)) (zleaf_ok (zs_iconst (by decide) (by decide +kernel : decode cX2_nearestOfTwoTheEven 1 = .ok (.iconst 1, 1))))) (znode_ok (zleaf_ok (zs_icmp_ge (t := 7) (by decide) (by decide +kernel : decode cX2_nearestOfTwoTheEven 2 = .ok (.if_icmp .ge 5, 3)))) (zleaf_ok (zs_iconst (by decide) (by decide +kernel : decode cX2_nearestOfTwoTheEven 5 = .ok (.iconst 0, 1)))))) (znode_ok (znode_ok (zleaf_ok (Or.inr (Or.inl ⟨rfl, rfl, (by decide +kernel : decode cX2_nearestOfTwoTheEven 6 = .ok (.ireturn, 1))⟩))) (zleaf_ok (zs_iload_n (by decide +kernel : decode cX2_nearestOfTwoTheEven 7 = .ok (.iload_n 0, 1)) rfl))) (znode_ok (zleaf_ok (zs_iload_n (by decide +kernel : decode cX2_nearestOfTwoTheEven 8 = .ok (.iload_n 1, 1)) rfl)) (znode_ok (zleaf_ok (zs_idiv (by decide +kernel : decode cX2_nearestOfTwoTheEven 9 = .ok (.idiv, 1)))) (zleaf_ok (zs_istore_n (Nat.le_of_ble_eq_true rfl) (by decide +kernel : decode cX2_nearestOfTwoTheEven 10 = .ok (.istore_n 2, 1)) rfl)))))) (znode_ok (znode_ok (znode_ok (zleaf_ok (zs_iconst (by decide) (by decide +kernel : decode cX2_nearestOfTwoTheEven 11 = .ok (.iconst 2, 1)))) (zleaf_ok (zs_iload_n (by decide +kernel : decode cX2_nearestOfTwoTheEven 12 = .ok (.iload_n 0, 1)) rfl))) (znode_ok (zleaf_ok (zs_iload_n (by decide +kernel : decode cX2_nearestOfTwoTheEven 13 = .ok (.iload_n 1, 1)) rfl)) (zleaf_ok (zs_irem (by decide +kernel : decode cX2_nearestOfTwoTheEven 14 = .ok (.irem, 1)))))) (znode_ok (znode_ok (zleaf_ok (zs_imul (by decide +kernel : decode cX2_nearestOfTwoTheEven 15 = .ok (.imul, 1)))) (zleaf_ok (zs_istore_n (Nat.le_of_ble_eq_true rfl) (by decide +kernel : decode cX2_nearestOfTwoTheEven 16 = .ok (.istore_n 3, 1)) rfl))) (znode_ok (zleaf_ok (zs_iload_n (by decide +kernel : decode cX2_nearestOfTwoTheEven 17 = .ok (.iload_n 3, 1)) rfl)) (znode_ok (zleaf_ok (zs_iload_n (by decide +kernel : decode cX2_nearestOfTwoTheEven 18 = .ok (.iload_n 1, 1)) rfl)) (zleaf_ok (zs_icmp_gt (t := 33) (by decide) (by decide +kernel : decode cX2_nearestOfTwoTheEven 19 = .ok (.if_icmp .gt 14, 3))))))))) (znode_ok (znode_ok (znode_ok (znode_ok (zleaf_ok (zs_iload_n (by decide +kernel : decode cX2_nearestOfTwoTheEven 22 = .ok (.iload_n 3, 1)) rfl)) (zleaf_ok (zs_iload_n (by decide +kernel : decode cX2_nearestOfTwoTheEven 23 = .ok (.iload_n 1, 1)) rfl))) (znode_ok (zleaf_ok (zs_icmp_ne (t := 37) (by decide) (by decide +kernel : decode cX2_nearestOfTwoTheEven 24 = .ok (.if_icmp .ne 13, 3)))) (zleaf_ok (zs_iload_n (by decide +kernel : decode cX2_nearestOfTwoTheEven 27 = .ok (.iload_n 2, 1)) rfl)))) (znode_ok (znode_ok (zleaf_ok (zs_iconst (by decide) (by decide +kernel : decode cX2_nearestOfTwoTheEven 28 = .ok (.iconst 2, 1)))) (zleaf_ok (zs_irem (by decide +kernel : decode cX2_nearestOfTwoTheEven 29 = .ok (.irem, 1))))) (znode_ok (zleaf_ok (zs_if_eq (t := 37) (by decide) (by decide +kernel : decode cX2_nearestOfTwoTheEven 30 = .ok (.ifCond .eq 7, 3)))) (znode_ok (zleaf_ok (zs_iconst (by decide) (by decide +kernel : decode cX2_nearestOfTwoTheEven 33 = .ok (.iconst 1, 1)))) (zleaf_ok (zs_goto (t := 38) (by decide) (by decide +kernel : decode cX2_nearestOfTwoTheEven 34 = .ok (.goto 4, 3)))))))) (znode_ok (znode_ok (znode_ok (zleaf_ok (zs_iconst (by decide) (by decide +kernel : decode cX2_nearestOfTwoTheEven 37 = .ok (.iconst 0, 1)))) (zleaf_ok (zs_istore (Nat.le_of_ble_eq_true rfl) (by decide +kernel : decode cX2_nearestOfTwoTheEven 38 = .ok (.istore 4, 2))))) (znode_ok (zleaf_ok (zs_iload (by decide +kernel : decode cX2_nearestOfTwoTheEven 40 = .ok (.iload 4, 2)))) (znode_ok (zleaf_ok (zs_if_eq (t := 51) (by decide) (by decide +kernel : decode cX2_nearestOfTwoTheEven 42 = .ok (.ifCond .eq 9, 3)))) (zleaf_ok (zs_iload_n (by decide +kernel : decode cX2_nearestOfTwoTheEven 45 = .ok (.iload_n 2, 1)) rfl))))) (znode_ok (znode_ok (zleaf_ok (zs_iconst (by decide) (by decide +kernel : decode cX2_nearestOfTwoTheEven 46 = .ok (.iconst 1, 1)))) (zleaf_ok (zs_iadd (by decide +kernel : decode cX2_nearestOfTwoTheEven 47 = .ok (.iadd, 1))))) (znode_ok (zleaf_ok (zs_goto (t := 52) (by decide) (by decide +kernel : decode cX2_nearestOfTwoTheEven 48 = .ok (.goto 4, 3)))) (znode_ok (zleaf_ok (zs_iload_n (by decide +kernel : decode cX2_nearestOfTwoTheEven 51 = .ok (.iload_n 2, 1)) rfl)) (zleaf_ok (Or.inr (Or.inl ⟨rfl, rfl, (by decide +kernel : decode cX2_nearestOfTwoTheEven 52 = .ok (.ireturn, 1))⟩))))))))
/-- Creasebook.halvings(I)I -/
def zc_X2_halvings (pc : Nat) : Option zI := znode 12 pc (znode 4 pc (znode 2 pc (znode 1 pc (zleaf 0 pc (.inl (zS1 (zCst (.int 0) 1)))) (zleaf 1 pc (.inl (zSt1 zIsI 2 1)))) (znode 3 pc (zleaf 2 pc (.inl (zLd zIsI 3 0))) (zleaf 3 pc (.inl (zSt1 zIsI 4 2))))) (znode 6 pc (znode 5 pc (zleaf 4 pc (.inl (zLd zIsI 5 2))) (zleaf 5 pc (.inl (zS1 (zCst (.int 1) 6))))) (znode 9 pc (zleaf 6 pc (.inl (zS1 (zIcmp (fun x y => decide (x ≤ y)) 21 9)))) (zleaf 9 pc (.inl (zIinc 12 1 1)))))) (znode 16 pc (znode 14 pc (znode 13 pc (zleaf 12 pc (.inl (zLd zIsI 13 2))) (zleaf 13 pc (.inl (zLd zIsI 14 2)))) (znode 15 pc (zleaf 14 pc (.inl (zS1 (zCst (.int 2) 15)))) (zleaf 15 pc (.inl (zS1 (zIIg (fun x y => x / y) 16)))))) (znode 18 pc (znode 17 pc (zleaf 16 pc (.inl (zS1 (zII (fun x y => x - y) 17)))) (zleaf 17 pc (.inl (zSt1 zIsI 18 2)))) (znode 21 pc (zleaf 18 pc (.inl (zS1 (zGo 4)))) (znode 22 pc (zleaf 21 pc (.inl (zLd zIsI 22 1))) (zleaf 22 pc (.inr (.inl 1)))))))
theorem zk_X2_halvings (O : Nat → State → Heap → Prop) (E : zE) (l : Launch) : ∀ pc i, zc_X2_halvings pc = some i → zOK z_cl z_T z_G z_N O E z_yy z_bb z_nl z_cc z_rt z_hh l 83 pc i := fun pc => znode_ok (znode_ok (znode_ok (znode_ok (zleaf_ok (zs_iconst (by decide) (by decide +kernel : decode cX2_halvings 0 = .ok (.iconst 0, 1)))) (zleaf_ok (zs_istore_n (Nat.le_of_ble_eq_true rfl) (by decide +kernel : decode cX2_halvings 1 = .ok (.istore_n 1, 1)) rfl))) (znode_ok (zleaf_ok (zs_iload_n (by decide +kernel : decode cX2_halvings 2 = .ok (.iload_n 0, 1)) rfl)) (zleaf_ok (zs_istore_n (Nat.le_of_ble_eq_true rfl) (by decide +kernel : decode cX2_halvings 3 = .ok (.istore_n 2, 1)) rfl)))) (znode_ok (znode_ok (zleaf_ok (zs_iload_n (by decide +kernel : decode cX2_halvings 4 = .ok (.iload_n 2, 1)) rfl)) (zleaf_ok (zs_iconst (by decide) (by decide +kernel : decode cX2_halvings 5 = .ok (.iconst 1, 1))))) (znode_ok (zleaf_ok (zs_icmp_le (t := 21) (by decide) (by decide +kernel : decode cX2_halvings 6 = .ok (.if_icmp .le 15, 3)))) (zleaf_ok (zs_iinc (Nat.le_of_ble_eq_true rfl) (by decide) (by decide +kernel : decode cX2_halvings 9 = .ok (.iinc 1 1, 3))))))) (znode_ok (znode_ok (znode_ok (zleaf_ok (zs_iload_n (by decide +kernel : decode cX2_halvings 12 = .ok (.iload_n 2, 1)) rfl)) (zleaf_ok (zs_iload_n (by decide +kernel : decode cX2_halvings 13 = .ok (.iload_n 2, 1)) rfl))) (znode_ok (zleaf_ok (zs_iconst (by decide) (by decide +kernel : decode cX2_halvings 14 = .ok (.iconst 2, 1)))) (zleaf_ok (zs_idiv (by decide +kernel : decode cX2_halvings 15 = .ok (.idiv, 1)))))) (znode_ok (znode_ok (zleaf_ok (zs_isub (by decide +kernel : decode cX2_halvings 16 = .ok (.isub, 1)))) (zleaf_ok (zs_istore_n (Nat.le_of_ble_eq_true rfl) (by decide +kernel : decode cX2_halvings 17 = .ok (.istore_n 2, 1)) rfl))) (znode_ok (zleaf_ok (zs_goto (t := 4) (by decide) (by decide +kernel : decode cX2_halvings 18 = .ok (.goto (-14), 3)))) (znode_ok (zleaf_ok (zs_iload_n (by decide +kernel : decode cX2_halvings 21 = .ok (.iload_n 1, 1)) rfl)) (zleaf_ok (Or.inr (Or.inl ⟨rfl, rfl, (by decide +kernel : decode cX2_halvings 22 = .ok (.ireturn, 1))⟩)))))))
/-- Creasebook.numberOf(Z)I -/
def zc_X2_numberOf (pc : Nat) : Option zI := znode 5 pc (znode 1 pc (zleaf 0 pc (.inl (zLd zIsI 1 0))) (znode 4 pc (zleaf 1 pc (.inl (zS1 (zIf (fun x => decide (x = 0)) 8 4)))) (zleaf 4 pc (.inl (zS1 (zCst (.int 1) 5)))))) (znode 8 pc (zleaf 5 pc (.inl (zS1 (zGo 9)))) (znode 9 pc (zleaf 8 pc (.inl (zS1 (zCst (.int 0) 9)))) (zleaf 9 pc (.inr (.inl 1)))))
theorem zk_X2_numberOf (O : Nat → State → Heap → Prop) (E : zE) (l : Launch) : ∀ pc i, zc_X2_numberOf pc = some i → zOK z_cl z_T z_G z_N O E z_yy z_bb z_nl z_cc z_rt z_hh l 84 pc i := fun pc => znode_ok (znode_ok (zleaf_ok (zs_iload_n (by decide +kernel : decode cX2_numberOf 0 = .ok (.iload_n 0, 1)) rfl)) (znode_ok (zleaf_ok (zs_if_eq (t := 8) (by decide) (by decide +kernel : decode cX2_numberOf 1 = .ok (.ifCond .eq 7, 3)))) (zleaf_ok (zs_iconst (by decide) (by decide +kernel : decode cX2_numberOf 4 = .ok (.iconst 1, 1)))))) (znode_ok (zleaf_ok (zs_goto (t := 9) (by decide) (by decide +kernel : decode cX2_numberOf 5 = .ok (.goto 4, 3)))) (znode_ok (zleaf_ok (zs_iconst (by decide) (by decide +kernel : decode cX2_numberOf 8 = .ok (.iconst 0, 1)))) (zleaf_ok (Or.inr (Or.inl ⟨rfl, rfl, (by decide +kernel : decode cX2_numberOf 9 = .ok (.ireturn, 1))⟩)))))
/-- Creasebook.codeOf(IIZZ)I -/
def zc_X2_codeOf (pc : Nat) : Option zI := znode 9 pc (znode 5 pc (znode 3 pc (znode 2 pc (zleaf 0 pc (.inl (zS1 (zCst (.int 8) 2)))) (zleaf 2 pc (.inl (zLd zIsI 3 1)))) (znode 4 pc (zleaf 3 pc (.inl (zS1 (zII (fun x y => x * y) 4)))) (zleaf 4 pc (.inl (zS1 (zCst (.int 4) 5)))))) (znode 7 pc (znode 6 pc (zleaf 5 pc (.inl (zLd zIsI 6 0))) (zleaf 6 pc (.inl (zS1 (zII (fun x y => x * y) 7))))) (znode 8 pc (zleaf 7 pc (.inl (zS1 (zII (fun x y => x + y) 8)))) (zleaf 8 pc (.inl (zS1 (zCst (.int 2) 9))))))) (znode 15 pc (znode 13 pc (znode 10 pc (zleaf 9 pc (.inl (zLd zIsI 10 2))) (zleaf 10 pc (.inr (.inr (.inr (84, 1, 2)))))) (znode 14 pc (zleaf 13 pc (.inl (zS1 (zII (fun x y => x * y) 14)))) (zleaf 14 pc (.inl (zS1 (zII (fun x y => x + y) 15)))))) (znode 19 pc (znode 16 pc (zleaf 15 pc (.inl (zLd zIsI 16 3))) (zleaf 16 pc (.inr (.inr (.inr (84, 1, 2)))))) (znode 20 pc (zleaf 19 pc (.inl (zS1 (zII (fun x y => x + y) 20)))) (zleaf 20 pc (.inr (.inl 1))))))
theorem zk_X2_codeOf (O : Nat → State → Heap → Prop) (E : zE) (l : Launch) : ∀ pc i, zc_X2_codeOf pc = some i → zOK z_cl z_T z_G z_N O E z_yy z_bb z_nl z_cc z_rt z_hh l 85 pc i := fun pc => znode_ok (znode_ok (znode_ok (znode_ok (zleaf_ok (zs_bipush (by decide) (by decide +kernel : decode cX2_codeOf 0 = .ok (.bipush 8, 2)))) (zleaf_ok (zs_iload_n (by decide +kernel : decode cX2_codeOf 2 = .ok (.iload_n 1, 1)) rfl))) (znode_ok (zleaf_ok (zs_imul (by decide +kernel : decode cX2_codeOf 3 = .ok (.imul, 1)))) (zleaf_ok (zs_iconst (by decide) (by decide +kernel : decode cX2_codeOf 4 = .ok (.iconst 4, 1)))))) (znode_ok (znode_ok (zleaf_ok (zs_iload_n (by decide +kernel : decode cX2_codeOf 5 = .ok (.iload_n 0, 1)) rfl)) (zleaf_ok (zs_imul (by decide +kernel : decode cX2_codeOf 6 = .ok (.imul, 1))))) (znode_ok (zleaf_ok (zs_iadd (by decide +kernel : decode cX2_codeOf 7 = .ok (.iadd, 1)))) (zleaf_ok (zs_iconst (by decide) (by decide +kernel : decode cX2_codeOf 8 = .ok (.iconst 2, 1))))))) (znode_ok (znode_ok (znode_ok (zleaf_ok (zs_iload_n (by decide +kernel : decode cX2_codeOf 9 = .ok (.iload_n 2, 1)) rfl)) (zleaf_ok (⟨zcs2 (n := 1) z_good zw_100 zw_19 zw_214 zw_102 (by decide +kernel) (by decide +kernel : decode cX2_codeOf 10 = .ok (.invokestatic 150, 3)), Nat.le_of_ble_eq_true rfl, by decide +kernel, (fun h => absurd rfl (h.1))⟩))) (znode_ok (zleaf_ok (zs_imul (by decide +kernel : decode cX2_codeOf 13 = .ok (.imul, 1)))) (zleaf_ok (zs_iadd (by decide +kernel : decode cX2_codeOf 14 = .ok (.iadd, 1)))))) (znode_ok (znode_ok (zleaf_ok (zs_iload_n (by decide +kernel : decode cX2_codeOf 15 = .ok (.iload_n 3, 1)) rfl)) (zleaf_ok (⟨zcs2 (n := 1) z_good zw_100 zw_19 zw_214 zw_102 (by decide +kernel) (by decide +kernel : decode cX2_codeOf 16 = .ok (.invokestatic 150, 3)), Nat.le_of_ble_eq_true rfl, by decide +kernel, (fun h => absurd rfl (h.1))⟩))) (znode_ok (zleaf_ok (zs_iadd (by decide +kernel : decode cX2_codeOf 19 = .ok (.iadd, 1)))) (zleaf_ok (Or.inr (Or.inl ⟨rfl, rfl, (by decide +kernel : decode cX2_codeOf 20 = .ok (.ireturn, 1))⟩))))))
/-- Creasebook.lineOf(I)I -/
def zc_X2_lineOf (pc : Nat) : Option zI := znode 3 pc (znode 1 pc (zleaf 0 pc (.inl (zLd zIsI 1 0))) (zleaf 1 pc (.inl (zS1 (zCst (.int 8) 3))))) (znode 4 pc (zleaf 3 pc (.inl (zS1 (zIIg (fun x y => x / y) 4)))) (zleaf 4 pc (.inr (.inl 1))))
theorem zk_X2_lineOf (O : Nat → State → Heap → Prop) (E : zE) (l : Launch) : ∀ pc i, zc_X2_lineOf pc = some i → zOK z_cl z_T z_G z_N O E z_yy z_bb z_nl z_cc z_rt z_hh l 86 pc i := fun pc => znode_ok (znode_ok (zleaf_ok (zs_iload_n (by decide +kernel : decode cX2_lineOf 0 = .ok (.iload_n 0, 1)) rfl)) (zleaf_ok (zs_bipush (by decide) (by decide +kernel : decode cX2_lineOf 1 = .ok (.bipush 8, 2))))) (znode_ok (zleaf_ok (zs_idiv (by decide +kernel : decode cX2_lineOf 3 = .ok (.idiv, 1)))) (zleaf_ok (Or.inr (Or.inl ⟨rfl, rfl, (by decide +kernel : decode cX2_lineOf 4 = .ok (.ireturn, 1))⟩))))
/-- Creasebook.axisOf(I)I -/
def zc_X2_axisOf (pc : Nat) : Option zI := znode 3 pc (znode 1 pc (zleaf 0 pc (.inl (zLd zIsI 1 0))) (znode 2 pc (zleaf 1 pc (.inl (zS1 (zCst (.int 4) 2)))) (zleaf 2 pc (.inl (zS1 (zIIg (fun x y => x / y) 3)))))) (znode 4 pc (zleaf 3 pc (.inl (zS1 (zCst (.int 2) 4)))) (znode 5 pc (zleaf 4 pc (.inl (zS1 (zIIg (fun x y => x - x / y * y) 5)))) (zleaf 5 pc (.inr (.inl 1)))))
theorem zk_X2_axisOf (O : Nat → State → Heap → Prop) (E : zE) (l : Launch) : ∀ pc i, zc_X2_axisOf pc = some i → zOK z_cl z_T z_G z_N O E z_yy z_bb z_nl z_cc z_rt z_hh l 87 pc i := fun pc => znode_ok (znode_ok (zleaf_ok (zs_iload_n (by decide +kernel : decode cX2_axisOf 0 = .ok (.iload_n 0, 1)) rfl)) (znode_ok (zleaf_ok (zs_iconst (by decide) (by decide +kernel : decode cX2_axisOf 1 = .ok (.iconst 4, 1)))) (zleaf_ok (zs_idiv (by decide +kernel : decode cX2_axisOf 2 = .ok (.idiv, 1)))))) (znode_ok (zleaf_ok (zs_iconst (by decide) (by decide +kernel : decode cX2_axisOf 3 = .ok (.iconst 2, 1)))) (znode_ok (zleaf_ok (zs_irem (by decide +kernel : decode cX2_axisOf 4 = .ok (.irem, 1)))) (zleaf_ok (Or.inr (Or.inl ⟨rfl, rfl, (by decide +kernel : decode cX2_axisOf 5 = .ok (.ireturn, 1))⟩)))))
/-- Creasebook.isFar(I)Z -/
def zc_X2_isFar (pc : Nat) : Option zI := znode 5 pc (znode 2 pc (znode 1 pc (zleaf 0 pc (.inl (zLd zIsI 1 0))) (zleaf 1 pc (.inl (zS1 (zCst (.int 2) 2))))) (znode 3 pc (zleaf 2 pc (.inl (zS1 (zIIg (fun x y => x / y) 3)))) (znode 4 pc (zleaf 3 pc (.inl (zS1 (zCst (.int 2) 4)))) (zleaf 4 pc (.inl (zS1 (zIIg (fun x y => x - x / y * y) 5))))))) (znode 10 pc (znode 6 pc (zleaf 5 pc (.inl (zS1 (zCst (.int 1) 6)))) (znode 9 pc (zleaf 6 pc (.inl (zS1 (zIcmp (fun x y => decide (¬ x = y)) 13 9)))) (zleaf 9 pc (.inl (zS1 (zCst (.int 1) 10)))))) (znode 13 pc (zleaf 10 pc (.inl (zS1 (zGo 14)))) (znode 14 pc (zleaf 13 pc (.inl (zS1 (zCst (.int 0) 14)))) (zleaf 14 pc (.inr (.inl 5))))))
theorem zk_X2_isFar (O : Nat → State → Heap → Prop) (E : zE) (l : Launch) : ∀ pc i, zc_X2_isFar pc = some i → zOK z_cl z_T z_G z_N O E z_yy z_bb z_nl z_cc z_rt z_hh l 88 pc i := fun pc => znode_ok (znode_ok (znode_ok (zleaf_ok (zs_iload_n (by decide +kernel : decode cX2_isFar 0 = .ok (.iload_n 0, 1)) rfl)) (zleaf_ok (zs_iconst (by decide) (by decide +kernel : decode cX2_isFar 1 = .ok (.iconst 2, 1))))) (znode_ok (zleaf_ok (zs_idiv (by decide +kernel : decode cX2_isFar 2 = .ok (.idiv, 1)))) (znode_ok (zleaf_ok (zs_iconst (by decide) (by decide +kernel : decode cX2_isFar 3 = .ok (.iconst 2, 1)))) (zleaf_ok (zs_irem (by decide +kernel : decode cX2_isFar 4 = .ok (.irem, 1))))))) (znode_ok (znode_ok (zleaf_ok (zs_iconst (by decide) (by decide +kernel : decode cX2_isFar 5 = .ok (.iconst 1, 1)))) (znode_ok (zleaf_ok (zs_icmp_ne (t := 13) (by decide) (by decide +kernel : decode cX2_isFar 6 = .ok (.if_icmp .ne 7, 3)))) (zleaf_ok (zs_iconst (by decide) (by decide +kernel : decode cX2_isFar 9 = .ok (.iconst 1, 1)))))) (znode_ok (zleaf_ok (zs_goto (t := 14) (by decide) (by decide +kernel : decode cX2_isFar 10 = .ok (.goto 4, 3)))) (znode_ok (zleaf_ok (zs_iconst (by decide) (by decide +kernel : decode cX2_isFar 13 = .ok (.iconst 0, 1)))) (zleaf_ok (Or.inr (Or.inr (Or.inr (Or.inr (Or.inr ⟨rfl, rfl, (by decide +kernel : decode cX2_isFar 14 = .ok (.ireturn, 1))⟩)))))))))
/-- Creasebook.isOver(I)Z -/
def zc_X2_isOver (pc : Nat) : Option zI := znode 4 pc (znode 2 pc (znode 1 pc (zleaf 0 pc (.inl (zLd zIsI 1 0))) (zleaf 1 pc (.inl (zS1 (zCst (.int 2) 2))))) (znode 3 pc (zleaf 2 pc (.inl (zS1 (zIIg (fun x y => x - x / y * y) 3)))) (zleaf 3 pc (.inl (zS1 (zCst (.int 1) 4)))))) (znode 8 pc (znode 7 pc (zleaf 4 pc (.inl (zS1 (zIcmp (fun x y => decide (¬ x = y)) 11 7)))) (zleaf 7 pc (.inl (zS1 (zCst (.int 1) 8))))) (znode 11 pc (zleaf 8 pc (.inl (zS1 (zGo 12)))) (znode 12 pc (zleaf 11 pc (.inl (zS1 (zCst (.int 0) 12)))) (zleaf 12 pc (.inr (.inl 5))))))
theorem zk_X2_isOver (O : Nat → State → Heap → Prop) (E : zE) (l : Launch) : ∀ pc i, zc_X2_isOver pc = some i → zOK z_cl z_T z_G z_N O E z_yy z_bb z_nl z_cc z_rt z_hh l 89 pc i := fun pc => znode_ok (znode_ok (znode_ok (zleaf_ok (zs_iload_n (by decide +kernel : decode cX2_isOver 0 = .ok (.iload_n 0, 1)) rfl)) (zleaf_ok (zs_iconst (by decide) (by decide +kernel : decode cX2_isOver 1 = .ok (.iconst 2, 1))))) (znode_ok (zleaf_ok (zs_irem (by decide +kernel : decode cX2_isOver 2 = .ok (.irem, 1)))) (zleaf_ok (zs_iconst (by decide) (by decide +kernel : decode cX2_isOver 3 = .ok (.iconst 1, 1)))))) (znode_ok (znode_ok (zleaf_ok (zs_icmp_ne (t := 11) (by decide) (by decide +kernel : decode cX2_isOver 4 = .ok (.if_icmp .ne 7, 3)))) (zleaf_ok (zs_iconst (by decide) (by decide +kernel : decode cX2_isOver 7 = .ok (.iconst 1, 1))))) (znode_ok (zleaf_ok (zs_goto (t := 12) (by decide) (by decide +kernel : decode cX2_isOver 8 = .ok (.goto 4, 3)))) (znode_ok (zleaf_ok (zs_iconst (by decide) (by decide +kernel : decode cX2_isOver 11 = .ok (.iconst 0, 1)))) (zleaf_ok (Or.inr (Or.inr (Or.inr (Or.inr (Or.inr ⟨rfl, rfl, (by decide +kernel : decode cX2_isOver 12 = .ok (.ireturn, 1))⟩)))))))))
/-- Creasebook.pairOf(IZ)I -/
def zc_X2_pairOf (pc : Nat) : Option zI := znode 3 pc (znode 1 pc (zleaf 0 pc (.inl (zS1 (zCst (.int 2) 1)))) (znode 2 pc (zleaf 1 pc (.inl (zLd zIsI 2 0))) (zleaf 2 pc (.inl (zS1 (zII (fun x y => x * y) 3)))))) (znode 7 pc (znode 4 pc (zleaf 3 pc (.inl (zLd zIsI 4 1))) (zleaf 4 pc (.inr (.inr (.inr (84, 1, 2)))))) (znode 8 pc (zleaf 7 pc (.inl (zS1 (zII (fun x y => x + y) 8)))) (zleaf 8 pc (.inr (.inl 1)))))
theorem zk_X2_pairOf (O : Nat → State → Heap → Prop) (E : zE) (l : Launch) : ∀ pc i, zc_X2_pairOf pc = some i → zOK z_cl z_T z_G z_N O E z_yy z_bb z_nl z_cc z_rt z_hh l 90 pc i := fun pc => znode_ok (znode_ok (zleaf_ok (zs_iconst (by decide) (by decide +kernel : decode cX2_pairOf 0 = .ok (.iconst 2, 1)))) (znode_ok (zleaf_ok (zs_iload_n (by decide +kernel : decode cX2_pairOf 1 = .ok (.iload_n 0, 1)) rfl)) (zleaf_ok (zs_imul (by decide +kernel : decode cX2_pairOf 2 = .ok (.imul, 1)))))) (znode_ok (znode_ok (zleaf_ok (zs_iload_n (by decide +kernel : decode cX2_pairOf 3 = .ok (.iload_n 1, 1)) rfl)) (zleaf_ok (⟨zcs2 (n := 1) z_good zw_100 zw_19 zw_214 zw_102 (by decide +kernel) (by decide +kernel : decode cX2_pairOf 4 = .ok (.invokestatic 150, 3)), Nat.le_of_ble_eq_true rfl, by decide +kernel, (fun h => absurd rfl (h.1))⟩))) (znode_ok (zleaf_ok (zs_iadd (by decide +kernel : decode cX2_pairOf 7 = .ok (.iadd, 1)))) (zleaf_ok (Or.inr (Or.inl ⟨rfl, rfl, (by decide +kernel : decode cX2_pairOf 8 = .ok (.ireturn, 1))⟩)))))
/-- Creasebook.sideOf(IZ)I -/
def zc_X2_sideOf (pc : Nat) : Option zI := znode 3 pc (znode 1 pc (zleaf 0 pc (.inl (zS1 (zCst (.int 2) 1)))) (znode 2 pc (zleaf 1 pc (.inl (zLd zIsI 2 0))) (zleaf 2 pc (.inl (zS1 (zII (fun x y => x * y) 3)))))) (znode 7 pc (znode 4 pc (zleaf 3 pc (.inl (zLd zIsI 4 1))) (zleaf 4 pc (.inr (.inr (.inr (84, 1, 2)))))) (znode 8 pc (zleaf 7 pc (.inl (zS1 (zII (fun x y => x + y) 8)))) (zleaf 8 pc (.inr (.inl 1)))))
theorem zk_X2_sideOf (O : Nat → State → Heap → Prop) (E : zE) (l : Launch) : ∀ pc i, zc_X2_sideOf pc = some i → zOK z_cl z_T z_G z_N O E z_yy z_bb z_nl z_cc z_rt z_hh l 91 pc i := fun pc => znode_ok (znode_ok (zleaf_ok (zs_iconst (by decide) (by decide +kernel : decode cX2_sideOf 0 = .ok (.iconst 2, 1)))) (znode_ok (zleaf_ok (zs_iload_n (by decide +kernel : decode cX2_sideOf 1 = .ok (.iload_n 0, 1)) rfl)) (zleaf_ok (zs_imul (by decide +kernel : decode cX2_sideOf 2 = .ok (.imul, 1)))))) (znode_ok (znode_ok (zleaf_ok (zs_iload_n (by decide +kernel : decode cX2_sideOf 3 = .ok (.iload_n 1, 1)) rfl)) (zleaf_ok (⟨zcs2 (n := 1) z_good zw_100 zw_19 zw_214 zw_102 (by decide +kernel) (by decide +kernel : decode cX2_sideOf 4 = .ok (.invokestatic 150, 3)), Nat.le_of_ble_eq_true rfl, by decide +kernel, (fun h => absurd rfl (h.1))⟩))) (znode_ok (zleaf_ok (zs_iadd (by decide +kernel : decode cX2_sideOf 7 = .ok (.iadd, 1)))) (zleaf_ok (Or.inr (Or.inl ⟨rfl, rfl, (by decide +kernel : decode cX2_sideOf 8 = .ok (.ireturn, 1))⟩)))))
end
section
/-! All methods together -/
def z_code (xs : Nat → Int32) (Ls : Nat) : Nat → Nat → Option zI := fun μ pc => match μ with
  | 0 => zc_X0_init pc
  | 1 => zc_X0_spread pc
  | 2 => zc_X0_copyFrom pc
  | 3 => zc_X0_becomeFolded pc
  | 4 => zc_X0_layerBehind pc
  | 5 => zc_X0_turnOver pc
  | 6 => zc_X0_turnRound pc
  | 7 => zc_X0_measurePiles pc
  | 8 => zc_X0_places pc
  | 9 => zc_X0_hasPlace pc
  | 10 => zc_X0_hasLine pc
  | 11 => zc_X0_heightAt pc
  | 12 => zc_X0_liesAt pc
  | 13 => zc_X0_cellAt pc
  | 14 => zc_X0_highestAt pc
  | 15 => zc_X0_layerFromAbove pc
  | 16 => zc_X0_isOutermost pc
  | 17 => zc_X0_isFrontUp pc
  | 18 => zc_X0_isJustUpon pc
  | 19 => zc_X0_goes pc
  | 20 => zc_X0_mirroredColumn pc
  | 21 => zc_X0_mirroredRow pc
  | 22 => zc_X0_isLineBetween pc
  | 23 => zc_X0_highestPile pc
  | 24 => zc_X0_frontsSeenFromAbove pc
  | 25 => zc_X0_frontsSeenFromBelow pc
  | 26 => zc_X1_init pc
  | 27 => zc_X1_renew pc
  | 28 => zc_X1_hasCell pc
  | 29 => zc_X1_cellBeside pc
  | 30 => zc_X1_press pc
  | 31 => zc_X1_smoothCreasesOf pc
  | 32 => zc_X1_creasesOf pc
  | 33 => zc_X1_tellPair pc
  | 34 => zc_X1_countCreases pc
  | 35 => zc_X1_sumOfMarks pc
  | 36 => zc_X1_isWet pc
  | 37 => zc_X1_wet pc
  | 38 => zc_X1_dryAll pc
  | 39 => zc_X1_countSides pc
  | 40 => zc_X1_sumOfHoles pc
  | 41 => zc_X1_areGlued pc
  | 42 => zc_X1_stick pc
  | 43 => zc_X2_init pc
  | 44 => zc_X2_sheet pc
  | 45 => zc_X2_fold pc
  | 46 => zc_X2_unfold pc
  | 47 => zc_X2_turn pc
  | 48 => zc_X2_round pc
  | 49 => zc_X2_ink pc
  | 50 => zc_X2_dry pc
  | 51 => zc_X2_punch pc
  | 52 => zc_X2_glue pc
  | 53 => zc_X2_ofPlace pc
  | 54 => zc_X2_at pc
  | 55 => zc_X2_ofCell pc
  | 56 => zc_X2_ofPair pc
  | 57 => zc_X2_ofCorner pc
  | 58 => zc_X2_many pc
  | 59 => zc_X2_weight pc
  | 60 => zc_X2_would pc
  | 61 => zc_X2_bestFold pc
  | 62 => zc_X2_bring pc
  | 63 => zc_X2_fewest pc
  | 64 => zc_X2_digest pc
  | 65 => zc_X2_begin pc
  | 66 => zc_X2_requireLine pc
  | 67 => zc_X2_requirePlace pc
  | 68 => zc_X2_requireCell pc
  | 69 => zc_X2_requireWhat pc
  | 70 => zc_X2_creaseAlong pc
  | 71 => zc_X2_creasePair pc
  | 72 => zc_X2_spreadInk pc
  | 73 => zc_X2_countBlots pc
  | 74 => zc_X2_cellThatMeets pc
  | 75 => zc_X2_isBlot pc
  | 76 => zc_X2_outerSide pc
  | 77 => zc_X2_isHeldByGlue pc
  | 78 => zc_X2_holesAt pc
  | 79 => zc_X2_gluedAt pc
  | 80 => zc_X2_digestOfCell pc
  | 81 => zc_X2_digestOfPlace pc
  | 82 => zc_X2_nearestOfTwoTheEven pc
  | 83 => zc_X2_halvings pc
  | 84 => zc_X2_numberOf pc
  | 85 => zc_X2_codeOf pc
  | 86 => zc_X2_lineOf pc
  | 87 => zc_X2_axisOf pc
  | 88 => zc_X2_isFar pc
  | 89 => zc_X2_isOver pc
  | 90 => zc_X2_pairOf pc
  | 91 => zc_X2_sideOf pc
  | _ => none
theorem z_ok (O : Nat → State → Heap → Prop) (E : zE) (l : Launch) : ∀ μ pc i, z_code (zxs E) (zLs E) μ pc = some i → zOK z_cl z_T z_G z_N O E z_yy z_bb z_nl z_cc z_rt z_hh l μ pc i := by
  intro μ pc i h
  match μ, h with
  | 0, h => exact zk_X0_init O E l pc i h
  | 1, h => exact zk_X0_spread O E l pc i h
  | 2, h => exact zk_X0_copyFrom O E l pc i h
  | 3, h => exact zk_X0_becomeFolded O E l pc i h
  | 4, h => exact zk_X0_layerBehind O E l pc i h
  | 5, h => exact zk_X0_turnOver O E l pc i h
  | 6, h => exact zk_X0_turnRound O E l pc i h
  | 7, h => exact zk_X0_measurePiles O E l pc i h
  | 8, h => exact zk_X0_places O E l pc i h
  | 9, h => exact zk_X0_hasPlace O E l pc i h
  | 10, h => exact zk_X0_hasLine O E l pc i h
  | 11, h => exact zk_X0_heightAt O E l pc i h
  | 12, h => exact zk_X0_liesAt O E l pc i h
  | 13, h => exact zk_X0_cellAt O E l pc i h
  | 14, h => exact zk_X0_highestAt O E l pc i h
  | 15, h => exact zk_X0_layerFromAbove O E l pc i h
  | 16, h => exact zk_X0_isOutermost O E l pc i h
  | 17, h => exact zk_X0_isFrontUp O E l pc i h
  | 18, h => exact zk_X0_isJustUpon O E l pc i h
  | 19, h => exact zk_X0_goes O E l pc i h
  | 20, h => exact zk_X0_mirroredColumn O E l pc i h
  | 21, h => exact zk_X0_mirroredRow O E l pc i h
  | 22, h => exact zk_X0_isLineBetween O E l pc i h
  | 23, h => exact zk_X0_highestPile O E l pc i h
  | 24, h => exact zk_X0_frontsSeenFromAbove O E l pc i h
  | 25, h => exact zk_X0_frontsSeenFromBelow O E l pc i h
  | 26, h => exact zk_X1_init O E l pc i h
  | 27, h => exact zk_X1_renew O E l pc i h
  | 28, h => exact zk_X1_hasCell O E l pc i h
  | 29, h => exact zk_X1_cellBeside O E l pc i h
  | 30, h => exact zk_X1_press O E l pc i h
  | 31, h => exact zk_X1_smoothCreasesOf O E l pc i h
  | 32, h => exact zk_X1_creasesOf O E l pc i h
  | 33, h => exact zk_X1_tellPair O E l pc i h
  | 34, h => exact zk_X1_countCreases O E l pc i h
  | 35, h => exact zk_X1_sumOfMarks O E l pc i h
  | 36, h => exact zk_X1_isWet O E l pc i h
  | 37, h => exact zk_X1_wet O E l pc i h
  | 38, h => exact zk_X1_dryAll O E l pc i h
  | 39, h => exact zk_X1_countSides O E l pc i h
  | 40, h => exact zk_X1_sumOfHoles O E l pc i h
  | 41, h => exact zk_X1_areGlued O E l pc i h
  | 42, h => exact zk_X1_stick O E l pc i h
  | 43, h => exact zk_X2_init O E l pc i h
  | 44, h => exact zk_X2_sheet O E l pc i h
  | 45, h => exact zk_X2_fold O E l pc i h
  | 46, h => exact zk_X2_unfold O E l pc i h
  | 47, h => exact zk_X2_turn O E l pc i h
  | 48, h => exact zk_X2_round O E l pc i h
  | 49, h => exact zk_X2_ink O E l pc i h
  | 50, h => exact zk_X2_dry O E l pc i h
  | 51, h => exact zk_X2_punch O E l pc i h
  | 52, h => exact zk_X2_glue O E l pc i h
  | 53, h => exact zk_X2_ofPlace O E l pc i h
  | 54, h => exact zk_X2_at O E l pc i h
  | 55, h => exact zk_X2_ofCell O E l pc i h
  | 56, h => exact zk_X2_ofPair O E l pc i h
  | 57, h => exact zk_X2_ofCorner O E l pc i h
  | 58, h => exact zk_X2_many O E l pc i h
  | 59, h => exact zk_X2_weight O E l pc i h
  | 60, h => exact zk_X2_would O E l pc i h
  | 61, h => exact zk_X2_bestFold O E l pc i h
  | 62, h => exact zk_X2_bring O E l pc i h
  | 63, h => exact zk_X2_fewest O E l pc i h
  | 64, h => exact zk_X2_digest O E l pc i h
  | 65, h => exact zk_X2_begin O E l pc i h
  | 66, h => exact zk_X2_requireLine O E l pc i h
  | 67, h => exact zk_X2_requirePlace O E l pc i h
  | 68, h => exact zk_X2_requireCell O E l pc i h
  | 69, h => exact zk_X2_requireWhat O E l pc i h
  | 70, h => exact zk_X2_creaseAlong O E l pc i h
  | 71, h => exact zk_X2_creasePair O E l pc i h
  | 72, h => exact zk_X2_spreadInk O E l pc i h
  | 73, h => exact zk_X2_countBlots O E l pc i h
  | 74, h => exact zk_X2_cellThatMeets O E l pc i h
  | 75, h => exact zk_X2_isBlot O E l pc i h
  | 76, h => exact zk_X2_outerSide O E l pc i h
  | 77, h => exact zk_X2_isHeldByGlue O E l pc i h
  | 78, h => exact zk_X2_holesAt O E l pc i h
  | 79, h => exact zk_X2_gluedAt O E l pc i h
  | 80, h => exact zk_X2_digestOfCell O E l pc i h
  | 81, h => exact zk_X2_digestOfPlace O E l pc i h
  | 82, h => exact zk_X2_nearestOfTwoTheEven O E l pc i h
  | 83, h => exact zk_X2_halvings O E l pc i h
  | 84, h => exact zk_X2_numberOf O E l pc i h
  | 85, h => exact zk_X2_codeOf O E l pc i h
  | 86, h => exact zk_X2_lineOf O E l pc i h
  | 87, h => exact zk_X2_axisOf O E l pc i h
  | 88, h => exact zk_X2_isFar O E l pc i h
  | 89, h => exact zk_X2_isOver O E l pc i h
  | 90, h => exact zk_X2_pairOf O E l pc i h
  | 91, h => exact zk_X2_sideOf O E l pc i h
end
