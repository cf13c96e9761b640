section
-- ===== PART A: goes FIRST, ahead of the names: the tables' words, and 'selects' of the private methods out of them =====
/-- a private method of a class that the tables say can be made, by its rows of tables_1 -/
def lw_okq (q : MethodName × Nat) : Prop := (q.1.cls ≠ "java/lang/invoke/MethodHandle" ∧ q.1.cls ≠ "java/lang/invoke/VarHandle") ∧ Cond.instantiable q.1.cls q.2 ∈ tables_1 ∧ Cond.privateMethod q.1 ∈ tables_1 ∧ Cond.instanceMethod q.1 ∈ tables_1
theorem lw_p0 : lw_okq (⟨"Creasebook", "begin", "(II)V"⟩, 8) := ⟨⟨by decide +kernel, by decide +kernel⟩, List.mem_of_getElem? (i := 22) (by decide +kernel), List.mem_of_getElem? (i := 110) (by decide +kernel), List.mem_of_getElem? (i := 111) (by decide +kernel)⟩
theorem lw_p1 : lw_okq (⟨"Creasebook$Paper", "renew", "(II)V"⟩, 9) := ⟨⟨by decide +kernel, by decide +kernel⟩, List.mem_of_getElem? (i := 30) (by decide +kernel), List.mem_of_getElem? (i := 114) (by decide +kernel), List.mem_of_getElem? (i := 115) (by decide +kernel)⟩
theorem lw_p2 : lw_okq (⟨"Creasebook$Form", "spread", "(II)V"⟩, 8) := ⟨⟨by decide +kernel, by decide +kernel⟩, List.mem_of_getElem? (i := 72) (by decide +kernel), List.mem_of_getElem? (i := 118) (by decide +kernel), List.mem_of_getElem? (i := 119) (by decide +kernel)⟩
theorem lw_p3 : lw_okq (⟨"Creasebook$Form", "measurePiles", "()V"⟩, 8) := ⟨⟨by decide +kernel, by decide +kernel⟩, List.mem_of_getElem? (i := 72) (by decide +kernel), List.mem_of_getElem? (i := 122) (by decide +kernel), List.mem_of_getElem? (i := 123) (by decide +kernel)⟩
theorem lw_p4 : lw_okq (⟨"Creasebook$Form", "hasPlace", "(II)Z"⟩, 8) := ⟨⟨by decide +kernel, by decide +kernel⟩, List.mem_of_getElem? (i := 72) (by decide +kernel), List.mem_of_getElem? (i := 126) (by decide +kernel), List.mem_of_getElem? (i := 127) (by decide +kernel)⟩
theorem lw_p5 : lw_okq (⟨"Creasebook", "isHeldByGlue", "()Z"⟩, 8) := ⟨⟨by decide +kernel, by decide +kernel⟩, List.mem_of_getElem? (i := 22) (by decide +kernel), List.mem_of_getElem? (i := 159) (by decide +kernel), List.mem_of_getElem? (i := 160) (by decide +kernel)⟩
theorem lw_p6 : lw_okq (⟨"Creasebook$Paper", "areGlued", "(II)Z"⟩, 9) := ⟨⟨by decide +kernel, by decide +kernel⟩, List.mem_of_getElem? (i := 30) (by decide +kernel), List.mem_of_getElem? (i := 163) (by decide +kernel), List.mem_of_getElem? (i := 164) (by decide +kernel)⟩
theorem lw_p7 : lw_okq (⟨"Creasebook$Paper", "hasCell", "(I)Z"⟩, 9) := ⟨⟨by decide +kernel, by decide +kernel⟩, List.mem_of_getElem? (i := 30) (by decide +kernel), List.mem_of_getElem? (i := 167) (by decide +kernel), List.mem_of_getElem? (i := 168) (by decide +kernel)⟩
theorem lw_p8 : lw_okq (⟨"Creasebook$Form", "goes", "(II)Z"⟩, 8) := ⟨⟨by decide +kernel, by decide +kernel⟩, List.mem_of_getElem? (i := 72) (by decide +kernel), List.mem_of_getElem? (i := 171) (by decide +kernel), List.mem_of_getElem? (i := 172) (by decide +kernel)⟩
theorem lw_p9 : lw_okq (⟨"Creasebook$Paper", "smoothCreasesOf", "(I)V"⟩, 9) := ⟨⟨by decide +kernel, by decide +kernel⟩, List.mem_of_getElem? (i := 30) (by decide +kernel), List.mem_of_getElem? (i := 184) (by decide +kernel), List.mem_of_getElem? (i := 185) (by decide +kernel)⟩
theorem lw_p10 : lw_okq (⟨"Creasebook$Form", "copyFrom", "(LCreasebook$Form;)V"⟩, 8) := ⟨⟨by decide +kernel, by decide +kernel⟩, List.mem_of_getElem? (i := 72) (by decide +kernel), List.mem_of_getElem? (i := 188) (by decide +kernel), List.mem_of_getElem? (i := 189) (by decide +kernel)⟩
theorem lw_p11 : lw_okq (⟨"Creasebook$Form", "turnOver", "()V"⟩, 8) := ⟨⟨by decide +kernel, by decide +kernel⟩, List.mem_of_getElem? (i := 72) (by decide +kernel), List.mem_of_getElem? (i := 196) (by decide +kernel), List.mem_of_getElem? (i := 197) (by decide +kernel)⟩
theorem lw_p12 : lw_okq (⟨"Creasebook$Form", "layerFromAbove", "(I)I"⟩, 8) := ⟨⟨by decide +kernel, by decide +kernel⟩, List.mem_of_getElem? (i := 72) (by decide +kernel), List.mem_of_getElem? (i := 200) (by decide +kernel), List.mem_of_getElem? (i := 201) (by decide +kernel)⟩
theorem lw_p13 : lw_okq (⟨"Creasebook$Form", "heightAt", "(II)I"⟩, 8) := ⟨⟨by decide +kernel, by decide +kernel⟩, List.mem_of_getElem? (i := 72) (by decide +kernel), List.mem_of_getElem? (i := 204) (by decide +kernel), List.mem_of_getElem? (i := 205) (by decide +kernel)⟩
theorem lw_p14 : lw_okq (⟨"Creasebook$Form", "frontsSeenFromAbove", "()I"⟩, 8) := ⟨⟨by decide +kernel, by decide +kernel⟩, List.mem_of_getElem? (i := 72) (by decide +kernel), List.mem_of_getElem? (i := 208) (by decide +kernel), List.mem_of_getElem? (i := 209) (by decide +kernel)⟩
theorem lw_p15 : lw_okq (⟨"Creasebook$Form", "isOutermost", "(IZ)Z"⟩, 8) := ⟨⟨by decide +kernel, by decide +kernel⟩, List.mem_of_getElem? (i := 72) (by decide +kernel), List.mem_of_getElem? (i := 212) (by decide +kernel), List.mem_of_getElem? (i := 213) (by decide +kernel)⟩
def lw_privs_1 : List (MethodName × Nat) := [(⟨"Creasebook", "begin", "(II)V"⟩, 8), (⟨"Creasebook$Paper", "renew", "(II)V"⟩, 9), (⟨"Creasebook$Form", "spread", "(II)V"⟩, 8), (⟨"Creasebook$Form", "measurePiles", "()V"⟩, 8), (⟨"Creasebook$Form", "hasPlace", "(II)Z"⟩, 8), (⟨"Creasebook", "isHeldByGlue", "()Z"⟩, 8), (⟨"Creasebook$Paper", "areGlued", "(II)Z"⟩, 9), (⟨"Creasebook$Paper", "hasCell", "(I)Z"⟩, 9), (⟨"Creasebook$Form", "goes", "(II)Z"⟩, 8), (⟨"Creasebook$Paper", "smoothCreasesOf", "(I)V"⟩, 9), (⟨"Creasebook$Form", "copyFrom", "(LCreasebook$Form;)V"⟩, 8), (⟨"Creasebook$Form", "turnOver", "()V"⟩, 8), (⟨"Creasebook$Form", "layerFromAbove", "(I)I"⟩, 8), (⟨"Creasebook$Form", "heightAt", "(II)I"⟩, 8), (⟨"Creasebook$Form", "frontsSeenFromAbove", "()I"⟩, 8), (⟨"Creasebook$Form", "isOutermost", "(IZ)Z"⟩, 8)]
theorem lw_r1 : ∀ q ∈ lw_privs_1, lw_okq q := List.forall_mem_cons.mpr ⟨lw_p0, List.forall_mem_cons.mpr ⟨lw_p1, List.forall_mem_cons.mpr ⟨lw_p2, List.forall_mem_cons.mpr ⟨lw_p3, List.forall_mem_cons.mpr ⟨lw_p4, List.forall_mem_cons.mpr ⟨lw_p5, List.forall_mem_cons.mpr ⟨lw_p6, List.forall_mem_cons.mpr ⟨lw_p7, List.forall_mem_cons.mpr ⟨lw_p8, List.forall_mem_cons.mpr ⟨lw_p9, List.forall_mem_cons.mpr ⟨lw_p10, List.forall_mem_cons.mpr ⟨lw_p11, List.forall_mem_cons.mpr ⟨lw_p12, List.forall_mem_cons.mpr ⟨lw_p13, List.forall_mem_cons.mpr ⟨lw_p14, List.forall_mem_cons.mpr ⟨lw_p15, fun _ h => absurd h List.not_mem_nil⟩⟩⟩⟩⟩⟩⟩⟩⟩⟩⟩⟩⟩⟩⟩⟩
theorem lw_p16 : lw_okq (⟨"Creasebook$Form", "turnRound", "()V"⟩, 8) := ⟨⟨by decide +kernel, by decide +kernel⟩, List.mem_of_getElem? (i := 72) (by decide +kernel), List.mem_of_getElem? (i := 220) (by decide +kernel), List.mem_of_getElem? (i := 221) (by decide +kernel)⟩
theorem lw_p17 : lw_okq (⟨"Creasebook$Form", "highestAt", "(II)I"⟩, 8) := ⟨⟨by decide +kernel, by decide +kernel⟩, List.mem_of_getElem? (i := 72) (by decide +kernel), List.mem_of_getElem? (i := 224) (by decide +kernel), List.mem_of_getElem? (i := 225) (by decide +kernel)⟩
theorem lw_p18 : lw_okq (⟨"Creasebook$Form", "cellAt", "(III)I"⟩, 8) := ⟨⟨by decide +kernel, by decide +kernel⟩, List.mem_of_getElem? (i := 72) (by decide +kernel), List.mem_of_getElem? (i := 228) (by decide +kernel), List.mem_of_getElem? (i := 229) (by decide +kernel)⟩
theorem lw_p19 : lw_okq (⟨"Creasebook$Form", "liesAt", "(III)Z"⟩, 8) := ⟨⟨by decide +kernel, by decide +kernel⟩, List.mem_of_getElem? (i := 72) (by decide +kernel), List.mem_of_getElem? (i := 232) (by decide +kernel), List.mem_of_getElem? (i := 233) (by decide +kernel)⟩
theorem lw_p20 : lw_okq (⟨"Creasebook$Paper", "dryAll", "()I"⟩, 9) := ⟨⟨by decide +kernel, by decide +kernel⟩, List.mem_of_getElem? (i := 30) (by decide +kernel), List.mem_of_getElem? (i := 240) (by decide +kernel), List.mem_of_getElem? (i := 241) (by decide +kernel)⟩
theorem lw_p21 : lw_okq (⟨"Creasebook$Paper", "isWet", "(I)Z"⟩, 9) := ⟨⟨by decide +kernel, by decide +kernel⟩, List.mem_of_getElem? (i := 30) (by decide +kernel), List.mem_of_getElem? (i := 244) (by decide +kernel), List.mem_of_getElem? (i := 245) (by decide +kernel)⟩
theorem lw_p22 : lw_okq (⟨"Creasebook$Form", "hasLine", "(II)Z"⟩, 8) := ⟨⟨by decide +kernel, by decide +kernel⟩, List.mem_of_getElem? (i := 72) (by decide +kernel), List.mem_of_getElem? (i := 254) (by decide +kernel), List.mem_of_getElem? (i := 255) (by decide +kernel)⟩
theorem lw_p23 : lw_okq (⟨"Creasebook$Form", "becomeFolded", "(LCreasebook$Form;I)V"⟩, 8) := ⟨⟨by decide +kernel, by decide +kernel⟩, List.mem_of_getElem? (i := 72) (by decide +kernel), List.mem_of_getElem? (i := 258) (by decide +kernel), List.mem_of_getElem? (i := 259) (by decide +kernel)⟩
theorem lw_p24 : lw_okq (⟨"Creasebook$Form", "mirroredColumn", "(II)I"⟩, 8) := ⟨⟨by decide +kernel, by decide +kernel⟩, List.mem_of_getElem? (i := 72) (by decide +kernel), List.mem_of_getElem? (i := 269) (by decide +kernel), List.mem_of_getElem? (i := 270) (by decide +kernel)⟩
theorem lw_p25 : lw_okq (⟨"Creasebook$Form", "mirroredRow", "(II)I"⟩, 8) := ⟨⟨by decide +kernel, by decide +kernel⟩, List.mem_of_getElem? (i := 72) (by decide +kernel), List.mem_of_getElem? (i := 273) (by decide +kernel), List.mem_of_getElem? (i := 274) (by decide +kernel)⟩
theorem lw_p26 : lw_okq (⟨"Creasebook$Form", "layerBehind", "(II)I"⟩, 8) := ⟨⟨by decide +kernel, by decide +kernel⟩, List.mem_of_getElem? (i := 72) (by decide +kernel), List.mem_of_getElem? (i := 277) (by decide +kernel), List.mem_of_getElem? (i := 278) (by decide +kernel)⟩
theorem lw_p27 : lw_okq (⟨"Creasebook$Form", "places", "()I"⟩, 8) := ⟨⟨by decide +kernel, by decide +kernel⟩, List.mem_of_getElem? (i := 72) (by decide +kernel), List.mem_of_getElem? (i := 284) (by decide +kernel), List.mem_of_getElem? (i := 285) (by decide +kernel)⟩
theorem lw_p28 : lw_okq (⟨"java/lang/Throwable", "fillInStackTrace", "(I)Ljava/lang/Throwable;"⟩, 6) := ⟨⟨by decide +kernel, by decide +kernel⟩, List.mem_of_getElem? (i := 346) (by decide +kernel), List.mem_of_getElem? (i := 344) (by decide +kernel), List.mem_of_getElem? (i := 345) (by decide +kernel)⟩
theorem lw_p29 : lw_okq (⟨"Creasebook$Paper", "countCreases", "(I)I"⟩, 9) := ⟨⟨by decide +kernel, by decide +kernel⟩, List.mem_of_getElem? (i := 30) (by decide +kernel), List.mem_of_getElem? (i := 376) (by decide +kernel), List.mem_of_getElem? (i := 377) (by decide +kernel)⟩
theorem lw_p30 : lw_okq (⟨"Creasebook$Paper", "sumOfMarks", "()I"⟩, 9) := ⟨⟨by decide +kernel, by decide +kernel⟩, List.mem_of_getElem? (i := 30) (by decide +kernel), List.mem_of_getElem? (i := 380) (by decide +kernel), List.mem_of_getElem? (i := 381) (by decide +kernel)⟩
theorem lw_p31 : lw_okq (⟨"Creasebook$Paper", "countSides", "(I)I"⟩, 9) := ⟨⟨by decide +kernel, by decide +kernel⟩, List.mem_of_getElem? (i := 30) (by decide +kernel), List.mem_of_getElem? (i := 384) (by decide +kernel), List.mem_of_getElem? (i := 385) (by decide +kernel)⟩
def lw_privs_2 : List (MethodName × Nat) := [(⟨"Creasebook$Form", "turnRound", "()V"⟩, 8), (⟨"Creasebook$Form", "highestAt", "(II)I"⟩, 8), (⟨"Creasebook$Form", "cellAt", "(III)I"⟩, 8), (⟨"Creasebook$Form", "liesAt", "(III)Z"⟩, 8), (⟨"Creasebook$Paper", "dryAll", "()I"⟩, 9), (⟨"Creasebook$Paper", "isWet", "(I)Z"⟩, 9), (⟨"Creasebook$Form", "hasLine", "(II)Z"⟩, 8), (⟨"Creasebook$Form", "becomeFolded", "(LCreasebook$Form;I)V"⟩, 8), (⟨"Creasebook$Form", "mirroredColumn", "(II)I"⟩, 8), (⟨"Creasebook$Form", "mirroredRow", "(II)I"⟩, 8), (⟨"Creasebook$Form", "layerBehind", "(II)I"⟩, 8), (⟨"Creasebook$Form", "places", "()I"⟩, 8), (⟨"java/lang/Throwable", "fillInStackTrace", "(I)Ljava/lang/Throwable;"⟩, 6), (⟨"Creasebook$Paper", "countCreases", "(I)I"⟩, 9), (⟨"Creasebook$Paper", "sumOfMarks", "()I"⟩, 9), (⟨"Creasebook$Paper", "countSides", "(I)I"⟩, 9)]
theorem lw_r2 : ∀ q ∈ lw_privs_2, lw_okq q := List.forall_mem_cons.mpr ⟨lw_p16, List.forall_mem_cons.mpr ⟨lw_p17, List.forall_mem_cons.mpr ⟨lw_p18, List.forall_mem_cons.mpr ⟨lw_p19, List.forall_mem_cons.mpr ⟨lw_p20, List.forall_mem_cons.mpr ⟨lw_p21, List.forall_mem_cons.mpr ⟨lw_p22, List.forall_mem_cons.mpr ⟨lw_p23, List.forall_mem_cons.mpr ⟨lw_p24, List.forall_mem_cons.mpr ⟨lw_p25, List.forall_mem_cons.mpr ⟨lw_p26, List.forall_mem_cons.mpr ⟨lw_p27, List.forall_mem_cons.mpr ⟨lw_p28, List.forall_mem_cons.mpr ⟨lw_p29, List.forall_mem_cons.mpr ⟨lw_p30, List.forall_mem_cons.mpr ⟨lw_p31, fun _ h => absurd h List.not_mem_nil⟩⟩⟩⟩⟩⟩⟩⟩⟩⟩⟩⟩⟩⟩⟩⟩
theorem lw_p32 : lw_okq (⟨"Creasebook$Paper", "sumOfHoles", "()I"⟩, 9) := ⟨⟨by decide +kernel, by decide +kernel⟩, List.mem_of_getElem? (i := 30) (by decide +kernel), List.mem_of_getElem? (i := 388) (by decide +kernel), List.mem_of_getElem? (i := 389) (by decide +kernel)⟩
theorem lw_p33 : lw_okq (⟨"Creasebook$Form", "highestPile", "()I"⟩, 8) := ⟨⟨by decide +kernel, by decide +kernel⟩, List.mem_of_getElem? (i := 72) (by decide +kernel), List.mem_of_getElem? (i := 392) (by decide +kernel), List.mem_of_getElem? (i := 393) (by decide +kernel)⟩
theorem lw_p34 : lw_okq (⟨"Creasebook$Form", "frontsSeenFromBelow", "()I"⟩, 8) := ⟨⟨by decide +kernel, by decide +kernel⟩, List.mem_of_getElem? (i := 72) (by decide +kernel), List.mem_of_getElem? (i := 396) (by decide +kernel), List.mem_of_getElem? (i := 397) (by decide +kernel)⟩
theorem lw_p35 : lw_okq (⟨"Creasebook", "digestOfCell", "(JI)J"⟩, 8) := ⟨⟨by decide +kernel, by decide +kernel⟩, List.mem_of_getElem? (i := 22) (by decide +kernel), List.mem_of_getElem? (i := 400) (by decide +kernel), List.mem_of_getElem? (i := 401) (by decide +kernel)⟩
theorem lw_p36 : lw_okq (⟨"Creasebook", "requireCell", "(I)V"⟩, 8) := ⟨⟨by decide +kernel, by decide +kernel⟩, List.mem_of_getElem? (i := 22) (by decide +kernel), List.mem_of_getElem? (i := 408) (by decide +kernel), List.mem_of_getElem? (i := 409) (by decide +kernel)⟩
theorem lw_p37 : lw_okq (⟨"Creasebook$Form", "isFrontUp", "(I)Z"⟩, 8) := ⟨⟨by decide +kernel, by decide +kernel⟩, List.mem_of_getElem? (i := 72) (by decide +kernel), List.mem_of_getElem? (i := 429) (by decide +kernel), List.mem_of_getElem? (i := 430) (by decide +kernel)⟩
theorem lw_p38 : lw_okq (⟨"Creasebook$Paper", "creasesOf", "(I)I"⟩, 9) := ⟨⟨by decide +kernel, by decide +kernel⟩, List.mem_of_getElem? (i := 30) (by decide +kernel), List.mem_of_getElem? (i := 439) (by decide +kernel), List.mem_of_getElem? (i := 440) (by decide +kernel)⟩
theorem lw_p39 : lw_okq (⟨"Creasebook$Paper", "cellBeside", "(IZ)I"⟩, 9) := ⟨⟨by decide +kernel, by decide +kernel⟩, List.mem_of_getElem? (i := 30) (by decide +kernel), List.mem_of_getElem? (i := 446) (by decide +kernel), List.mem_of_getElem? (i := 447) (by decide +kernel)⟩
theorem lw_p40 : lw_okq (⟨"Creasebook", "digestOfPlace", "(JII)J"⟩, 8) := ⟨⟨by decide +kernel, by decide +kernel⟩, List.mem_of_getElem? (i := 22) (by decide +kernel), List.mem_of_getElem? (i := 456) (by decide +kernel), List.mem_of_getElem? (i := 457) (by decide +kernel)⟩
theorem lw_p41 : lw_okq (⟨"Creasebook", "requirePlace", "(II)V"⟩, 8) := ⟨⟨by decide +kernel, by decide +kernel⟩, List.mem_of_getElem? (i := 22) (by decide +kernel), List.mem_of_getElem? (i := 464) (by decide +kernel), List.mem_of_getElem? (i := 465) (by decide +kernel)⟩
theorem lw_p42 : lw_okq (⟨"Creasebook", "holesAt", "(II)I"⟩, 8) := ⟨⟨by decide +kernel, by decide +kernel⟩, List.mem_of_getElem? (i := 22) (by decide +kernel), List.mem_of_getElem? (i := 472) (by decide +kernel), List.mem_of_getElem? (i := 473) (by decide +kernel)⟩
theorem lw_p43 : lw_okq (⟨"Creasebook", "gluedAt", "(II)I"⟩, 8) := ⟨⟨by decide +kernel, by decide +kernel⟩, List.mem_of_getElem? (i := 22) (by decide +kernel), List.mem_of_getElem? (i := 477) (by decide +kernel), List.mem_of_getElem? (i := 478) (by decide +kernel)⟩
theorem lw_p44 : lw_okq (⟨"Creasebook$Form", "isJustUpon", "(II)Z"⟩, 8) := ⟨⟨by decide +kernel, by decide +kernel⟩, List.mem_of_getElem? (i := 72) (by decide +kernel), List.mem_of_getElem? (i := 488) (by decide +kernel), List.mem_of_getElem? (i := 489) (by decide +kernel)⟩
theorem lw_p45 : lw_okq (⟨"Creasebook", "requireLine", "(II)V"⟩, 8) := ⟨⟨by decide +kernel, by decide +kernel⟩, List.mem_of_getElem? (i := 22) (by decide +kernel), List.mem_of_getElem? (i := 510) (by decide +kernel), List.mem_of_getElem? (i := 511) (by decide +kernel)⟩
theorem lw_p46 : lw_okq (⟨"Creasebook", "spreadInk", "(I)I"⟩, 8) := ⟨⟨by decide +kernel, by decide +kernel⟩, List.mem_of_getElem? (i := 22) (by decide +kernel), List.mem_of_getElem? (i := 534) (by decide +kernel), List.mem_of_getElem? (i := 535) (by decide +kernel)⟩
theorem lw_p47 : lw_okq (⟨"Creasebook", "cellThatMeets", "(II)I"⟩, 8) := ⟨⟨by decide +kernel, by decide +kernel⟩, List.mem_of_getElem? (i := 22) (by decide +kernel), List.mem_of_getElem? (i := 538) (by decide +kernel), List.mem_of_getElem? (i := 539) (by decide +kernel)⟩
def lw_privs_3 : List (MethodName × Nat) := [(⟨"Creasebook$Paper", "sumOfHoles", "()I"⟩, 9), (⟨"Creasebook$Form", "highestPile", "()I"⟩, 8), (⟨"Creasebook$Form", "frontsSeenFromBelow", "()I"⟩, 8), (⟨"Creasebook", "digestOfCell", "(JI)J"⟩, 8), (⟨"Creasebook", "requireCell", "(I)V"⟩, 8), (⟨"Creasebook$Form", "isFrontUp", "(I)Z"⟩, 8), (⟨"Creasebook$Paper", "creasesOf", "(I)I"⟩, 9), (⟨"Creasebook$Paper", "cellBeside", "(IZ)I"⟩, 9), (⟨"Creasebook", "digestOfPlace", "(JII)J"⟩, 8), (⟨"Creasebook", "requirePlace", "(II)V"⟩, 8), (⟨"Creasebook", "holesAt", "(II)I"⟩, 8), (⟨"Creasebook", "gluedAt", "(II)I"⟩, 8), (⟨"Creasebook$Form", "isJustUpon", "(II)Z"⟩, 8), (⟨"Creasebook", "requireLine", "(II)V"⟩, 8), (⟨"Creasebook", "spreadInk", "(I)I"⟩, 8), (⟨"Creasebook", "cellThatMeets", "(II)I"⟩, 8)]
theorem lw_r3 : ∀ q ∈ lw_privs_3, lw_okq q := List.forall_mem_cons.mpr ⟨lw_p32, List.forall_mem_cons.mpr ⟨lw_p33, List.forall_mem_cons.mpr ⟨lw_p34, List.forall_mem_cons.mpr ⟨lw_p35, List.forall_mem_cons.mpr ⟨lw_p36, List.forall_mem_cons.mpr ⟨lw_p37, List.forall_mem_cons.mpr ⟨lw_p38, List.forall_mem_cons.mpr ⟨lw_p39, List.forall_mem_cons.mpr ⟨lw_p40, List.forall_mem_cons.mpr ⟨lw_p41, List.forall_mem_cons.mpr ⟨lw_p42, List.forall_mem_cons.mpr ⟨lw_p43, List.forall_mem_cons.mpr ⟨lw_p44, List.forall_mem_cons.mpr ⟨lw_p45, List.forall_mem_cons.mpr ⟨lw_p46, List.forall_mem_cons.mpr ⟨lw_p47, fun _ h => absurd h List.not_mem_nil⟩⟩⟩⟩⟩⟩⟩⟩⟩⟩⟩⟩⟩⟩⟩⟩
theorem lw_p48 : lw_okq (⟨"Creasebook", "isBlot", "(III)Z"⟩, 8) := ⟨⟨by decide +kernel, by decide +kernel⟩, List.mem_of_getElem? (i := 22) (by decide +kernel), List.mem_of_getElem? (i := 546) (by decide +kernel), List.mem_of_getElem? (i := 547) (by decide +kernel)⟩
theorem lw_p49 : lw_okq (⟨"Creasebook", "outerSide", "(IZ)I"⟩, 8) := ⟨⟨by decide +kernel, by decide +kernel⟩, List.mem_of_getElem? (i := 22) (by decide +kernel), List.mem_of_getElem? (i := 550) (by decide +kernel), List.mem_of_getElem? (i := 551) (by decide +kernel)⟩
theorem lw_p50 : lw_okq (⟨"Creasebook$Paper", "wet", "(I)Z"⟩, 9) := ⟨⟨by decide +kernel, by decide +kernel⟩, List.mem_of_getElem? (i := 30) (by decide +kernel), List.mem_of_getElem? (i := 555) (by decide +kernel), List.mem_of_getElem? (i := 556) (by decide +kernel)⟩
theorem lw_p51 : lw_okq (⟨"Creasebook", "creaseAlong", "(I)I"⟩, 8) := ⟨⟨by decide +kernel, by decide +kernel⟩, List.mem_of_getElem? (i := 22) (by decide +kernel), List.mem_of_getElem? (i := 559) (by decide +kernel), List.mem_of_getElem? (i := 560) (by decide +kernel)⟩
theorem lw_p52 : lw_okq (⟨"Creasebook", "creasePair", "(IZI)Z"⟩, 8) := ⟨⟨by decide +kernel, by decide +kernel⟩, List.mem_of_getElem? (i := 22) (by decide +kernel), List.mem_of_getElem? (i := 563) (by decide +kernel), List.mem_of_getElem? (i := 564) (by decide +kernel)⟩
theorem lw_p53 : lw_okq (⟨"Creasebook$Form", "isLineBetween", "(III)Z"⟩, 8) := ⟨⟨by decide +kernel, by decide +kernel⟩, List.mem_of_getElem? (i := 72) (by decide +kernel), List.mem_of_getElem? (i := 567) (by decide +kernel), List.mem_of_getElem? (i := 568) (by decide +kernel)⟩
theorem lw_p54 : lw_okq (⟨"Creasebook$Paper", "press", "(III)V"⟩, 9) := ⟨⟨by decide +kernel, by decide +kernel⟩, List.mem_of_getElem? (i := 30) (by decide +kernel), List.mem_of_getElem? (i := 571) (by decide +kernel), List.mem_of_getElem? (i := 572) (by decide +kernel)⟩
theorem lw_p55 : lw_okq (⟨"Creasebook$Paper", "stick", "(II)V"⟩, 9) := ⟨⟨by decide +kernel, by decide +kernel⟩, List.mem_of_getElem? (i := 30) (by decide +kernel), List.mem_of_getElem? (i := 597) (by decide +kernel), List.mem_of_getElem? (i := 598) (by decide +kernel)⟩
theorem lw_p56 : lw_okq (⟨"Creasebook$Paper", "tellPair", "(II)I"⟩, 9) := ⟨⟨by decide +kernel, by decide +kernel⟩, List.mem_of_getElem? (i := 30) (by decide +kernel), List.mem_of_getElem? (i := 629) (by decide +kernel), List.mem_of_getElem? (i := 630) (by decide +kernel)⟩
theorem lw_p57 : lw_okq (⟨"Creasebook", "countBlots", "(I)I"⟩, 8) := ⟨⟨by decide +kernel, by decide +kernel⟩, List.mem_of_getElem? (i := 22) (by decide +kernel), List.mem_of_getElem? (i := 657) (by decide +kernel), List.mem_of_getElem? (i := 658) (by decide +kernel)⟩
theorem lw_p58 : lw_okq (⟨"CreasebookModel", "refuse", "(I)I"⟩, 13) := ⟨⟨by decide +kernel, by decide +kernel⟩, List.mem_of_getElem? (i := 665) (by decide +kernel), List.mem_of_getElem? (i := 786) (by decide +kernel), List.mem_of_getElem? (i := 787) (by decide +kernel)⟩
theorem lw_p59 : lw_okq (⟨"CreasebookModel", "cells", "()I"⟩, 13) := ⟨⟨by decide +kernel, by decide +kernel⟩, List.mem_of_getElem? (i := 665) (by decide +kernel), List.mem_of_getElem? (i := 794) (by decide +kernel), List.mem_of_getElem? (i := 795) (by decide +kernel)⟩
theorem lw_p60 : lw_okq (⟨"CreasebookModel", "isLine", "(II)Z"⟩, 13) := ⟨⟨by decide +kernel, by decide +kernel⟩, List.mem_of_getElem? (i := 665) (by decide +kernel), List.mem_of_getElem? (i := 802) (by decide +kernel), List.mem_of_getElem? (i := 803) (by decide +kernel)⟩
theorem lw_p61 : lw_okq (⟨"CreasebookModel", "blot", "(IIZZZ)I"⟩, 13) := ⟨⟨by decide +kernel, by decide +kernel⟩, List.mem_of_getElem? (i := 665) (by decide +kernel), List.mem_of_getElem? (i := 814) (by decide +kernel), List.mem_of_getElem? (i := 815) (by decide +kernel)⟩
theorem lw_p62 : lw_okq (⟨"CreasebookModel", "beside", "(IZ)I"⟩, 13) := ⟨⟨by decide +kernel, by decide +kernel⟩, List.mem_of_getElem? (i := 665) (by decide +kernel), List.mem_of_getElem? (i := 855) (by decide +kernel), List.mem_of_getElem? (i := 856) (by decide +kernel)⟩
theorem lw_p63 : lw_okq (⟨"CreasebookModel", "isAcross", "(IIII)Z"⟩, 13) := ⟨⟨by decide +kernel, by decide +kernel⟩, List.mem_of_getElem? (i := 665) (by decide +kernel), List.mem_of_getElem? (i := 859) (by decide +kernel), List.mem_of_getElem? (i := 860) (by decide +kernel)⟩
def lw_privs_4 : List (MethodName × Nat) := [(⟨"Creasebook", "isBlot", "(III)Z"⟩, 8), (⟨"Creasebook", "outerSide", "(IZ)I"⟩, 8), (⟨"Creasebook$Paper", "wet", "(I)Z"⟩, 9), (⟨"Creasebook", "creaseAlong", "(I)I"⟩, 8), (⟨"Creasebook", "creasePair", "(IZI)Z"⟩, 8), (⟨"Creasebook$Form", "isLineBetween", "(III)Z"⟩, 8), (⟨"Creasebook$Paper", "press", "(III)V"⟩, 9), (⟨"Creasebook$Paper", "stick", "(II)V"⟩, 9), (⟨"Creasebook$Paper", "tellPair", "(II)I"⟩, 9), (⟨"Creasebook", "countBlots", "(I)I"⟩, 8), (⟨"CreasebookModel", "refuse", "(I)I"⟩, 13), (⟨"CreasebookModel", "cells", "()I"⟩, 13), (⟨"CreasebookModel", "isLine", "(II)Z"⟩, 13), (⟨"CreasebookModel", "blot", "(IIZZZ)I"⟩, 13), (⟨"CreasebookModel", "beside", "(IZ)I"⟩, 13), (⟨"CreasebookModel", "isAcross", "(IIII)Z"⟩, 13)]
theorem lw_r4 : ∀ q ∈ lw_privs_4, lw_okq q := List.forall_mem_cons.mpr ⟨lw_p48, List.forall_mem_cons.mpr ⟨lw_p49, List.forall_mem_cons.mpr ⟨lw_p50, List.forall_mem_cons.mpr ⟨lw_p51, List.forall_mem_cons.mpr ⟨lw_p52, List.forall_mem_cons.mpr ⟨lw_p53, List.forall_mem_cons.mpr ⟨lw_p54, List.forall_mem_cons.mpr ⟨lw_p55, List.forall_mem_cons.mpr ⟨lw_p56, List.forall_mem_cons.mpr ⟨lw_p57, List.forall_mem_cons.mpr ⟨lw_p58, List.forall_mem_cons.mpr ⟨lw_p59, List.forall_mem_cons.mpr ⟨lw_p60, List.forall_mem_cons.mpr ⟨lw_p61, List.forall_mem_cons.mpr ⟨lw_p62, List.forall_mem_cons.mpr ⟨lw_p63, fun _ h => absurd h List.not_mem_nil⟩⟩⟩⟩⟩⟩⟩⟩⟩⟩⟩⟩⟩⟩⟩⟩
theorem lw_p64 : lw_okq (⟨"java/util/ArrayList", "add", "(Ljava/lang/Object;[Ljava/lang/Object;I)V"⟩, 3) := ⟨⟨by decide +kernel, by decide +kernel⟩, List.mem_of_getElem? (i := 709) (by decide +kernel), List.mem_of_getElem? (i := 869) (by decide +kernel), List.mem_of_getElem? (i := 870) (by decide +kernel)⟩
theorem lw_p65 : lw_okq (⟨"java/util/ArrayList", "grow", "()[Ljava/lang/Object;"⟩, 3) := ⟨⟨by decide +kernel, by decide +kernel⟩, List.mem_of_getElem? (i := 709) (by decide +kernel), List.mem_of_getElem? (i := 873) (by decide +kernel), List.mem_of_getElem? (i := 874) (by decide +kernel)⟩
theorem lw_p66 : lw_okq (⟨"java/util/ArrayList", "grow", "(I)[Ljava/lang/Object;"⟩, 3) := ⟨⟨by decide +kernel, by decide +kernel⟩, List.mem_of_getElem? (i := 709) (by decide +kernel), List.mem_of_getElem? (i := 877) (by decide +kernel), List.mem_of_getElem? (i := 878) (by decide +kernel)⟩
theorem lw_p67 : lw_okq (⟨"java/util/ArrayList", "fastRemove", "([Ljava/lang/Object;I)V"⟩, 3) := ⟨⟨by decide +kernel, by decide +kernel⟩, List.mem_of_getElem? (i := 709) (by decide +kernel), List.mem_of_getElem? (i := 938) (by decide +kernel), List.mem_of_getElem? (i := 939) (by decide +kernel)⟩
theorem lw_p68 : lw_okq (⟨"CreasebookModel", "isPlace", "(II)Z"⟩, 13) := ⟨⟨by decide +kernel, by decide +kernel⟩, List.mem_of_getElem? (i := 665) (by decide +kernel), List.mem_of_getElem? (i := 964) (by decide +kernel), List.mem_of_getElem? (i := 965) (by decide +kernel)⟩
theorem lw_p69 : lw_okq (⟨"CreasebookModel", "inked", "(I)I"⟩, 13) := ⟨⟨by decide +kernel, by decide +kernel⟩, List.mem_of_getElem? (i := 665) (by decide +kernel), List.mem_of_getElem? (i := 972) (by decide +kernel), List.mem_of_getElem? (i := 973) (by decide +kernel)⟩
theorem lw_p70 : lw_okq (⟨"CreasebookModel", "gluedAt", "(II)I"⟩, 13) := ⟨⟨by decide +kernel, by decide +kernel⟩, List.mem_of_getElem? (i := 665) (by decide +kernel), List.mem_of_getElem? (i := 984) (by decide +kernel), List.mem_of_getElem? (i := 985) (by decide +kernel)⟩
theorem lw_p71 : lw_okq (⟨"CreasebookModel", "ofPlaceNow", "(III)I"⟩, 13) := ⟨⟨by decide +kernel, by decide +kernel⟩, List.mem_of_getElem? (i := 665) (by decide +kernel), List.mem_of_getElem? (i := 992) (by decide +kernel), List.mem_of_getElem? (i := 993) (by decide +kernel)⟩
theorem lw_p72 : lw_okq (⟨"CreasebookModel", "holesAt", "(II)I"⟩, 13) := ⟨⟨by decide +kernel, by decide +kernel⟩, List.mem_of_getElem? (i := 665) (by decide +kernel), List.mem_of_getElem? (i := 996) (by decide +kernel), List.mem_of_getElem? (i := 997) (by decide +kernel)⟩
theorem lw_p73 : lw_okq (⟨"CreasebookModel", "isCell", "(I)Z"⟩, 13) := ⟨⟨by decide +kernel, by decide +kernel⟩, List.mem_of_getElem? (i := 665) (by decide +kernel), List.mem_of_getElem? (i := 1008) (by decide +kernel), List.mem_of_getElem? (i := 1009) (by decide +kernel)⟩
theorem lw_p74 : lw_okq (⟨"CreasebookModel", "ofCellNow", "(II)I"⟩, 13) := ⟨⟨by decide +kernel, by decide +kernel⟩, List.mem_of_getElem? (i := 665) (by decide +kernel), List.mem_of_getElem? (i := 1012) (by decide +kernel), List.mem_of_getElem? (i := 1013) (by decide +kernel)⟩
theorem lw_p75 : lw_okq (⟨"CreasebookModel", "creased", "(I)I"⟩, 13) := ⟨⟨by decide +kernel, by decide +kernel⟩, List.mem_of_getElem? (i := 665) (by decide +kernel), List.mem_of_getElem? (i := 1016) (by decide +kernel), List.mem_of_getElem? (i := 1017) (by decide +kernel)⟩
theorem lw_p76 : lw_okq (⟨"CreasebookModel", "ofPairNow", "(IZI)I"⟩, 13) := ⟨⟨by decide +kernel, by decide +kernel⟩, List.mem_of_getElem? (i := 665) (by decide +kernel), List.mem_of_getElem? (i := 1024) (by decide +kernel), List.mem_of_getElem? (i := 1025) (by decide +kernel)⟩
theorem lw_p77 : lw_okq (⟨"CreasebookModel", "manyNow", "(I)I"⟩, 13) := ⟨⟨by decide +kernel, by decide +kernel⟩, List.mem_of_getElem? (i := 665) (by decide +kernel), List.mem_of_getElem? (i := 1036) (by decide +kernel), List.mem_of_getElem? (i := 1037) (by decide +kernel)⟩
theorem lw_p78 : lw_okq (⟨"CreasebookModel", "creases", "(I)I"⟩, 13) := ⟨⟨by decide +kernel, by decide +kernel⟩, List.mem_of_getElem? (i := 665) (by decide +kernel), List.mem_of_getElem? (i := 1040) (by decide +kernel), List.mem_of_getElem? (i := 1041) (by decide +kernel)⟩
theorem lw_p79 : lw_okq (⟨"CreasebookModel", "bestNow", "()I"⟩, 13) := ⟨⟨by decide +kernel, by decide +kernel⟩, List.mem_of_getElem? (i := 665) (by decide +kernel), List.mem_of_getElem? (i := 1068) (by decide +kernel), List.mem_of_getElem? (i := 1069) (by decide +kernel)⟩
def lw_privs_5 : List (MethodName × Nat) := [(⟨"java/util/ArrayList", "add", "(Ljava/lang/Object;[Ljava/lang/Object;I)V"⟩, 3), (⟨"java/util/ArrayList", "grow", "()[Ljava/lang/Object;"⟩, 3), (⟨"java/util/ArrayList", "grow", "(I)[Ljava/lang/Object;"⟩, 3), (⟨"java/util/ArrayList", "fastRemove", "([Ljava/lang/Object;I)V"⟩, 3), (⟨"CreasebookModel", "isPlace", "(II)Z"⟩, 13), (⟨"CreasebookModel", "inked", "(I)I"⟩, 13), (⟨"CreasebookModel", "gluedAt", "(II)I"⟩, 13), (⟨"CreasebookModel", "ofPlaceNow", "(III)I"⟩, 13), (⟨"CreasebookModel", "holesAt", "(II)I"⟩, 13), (⟨"CreasebookModel", "isCell", "(I)Z"⟩, 13), (⟨"CreasebookModel", "ofCellNow", "(II)I"⟩, 13), (⟨"CreasebookModel", "creased", "(I)I"⟩, 13), (⟨"CreasebookModel", "ofPairNow", "(IZI)I"⟩, 13), (⟨"CreasebookModel", "manyNow", "(I)I"⟩, 13), (⟨"CreasebookModel", "creases", "(I)I"⟩, 13), (⟨"CreasebookModel", "bestNow", "()I"⟩, 13)]
theorem lw_r5 : ∀ q ∈ lw_privs_5, lw_okq q := List.forall_mem_cons.mpr ⟨lw_p64, List.forall_mem_cons.mpr ⟨lw_p65, List.forall_mem_cons.mpr ⟨lw_p66, List.forall_mem_cons.mpr ⟨lw_p67, List.forall_mem_cons.mpr ⟨lw_p68, List.forall_mem_cons.mpr ⟨lw_p69, List.forall_mem_cons.mpr ⟨lw_p70, List.forall_mem_cons.mpr ⟨lw_p71, List.forall_mem_cons.mpr ⟨lw_p72, List.forall_mem_cons.mpr ⟨lw_p73, List.forall_mem_cons.mpr ⟨lw_p74, List.forall_mem_cons.mpr ⟨lw_p75, List.forall_mem_cons.mpr ⟨lw_p76, List.forall_mem_cons.mpr ⟨lw_p77, List.forall_mem_cons.mpr ⟨lw_p78, List.forall_mem_cons.mpr ⟨lw_p79, fun _ h => absurd h List.not_mem_nil⟩⟩⟩⟩⟩⟩⟩⟩⟩⟩⟩⟩⟩⟩⟩⟩
theorem lw_p80 : lw_okq (⟨"CreasebookModel", "isCode", "(I)Z"⟩, 13) := ⟨⟨by decide +kernel, by decide +kernel⟩, List.mem_of_getElem? (i := 665) (by decide +kernel), List.mem_of_getElem? (i := 1072) (by decide +kernel), List.mem_of_getElem? (i := 1073) (by decide +kernel)⟩
theorem lw_p81 : lw_okq (⟨"CreasebookModel", "byCode", "(I)LCreasebookModel$Form;"⟩, 13) := ⟨⟨by decide +kernel, by decide +kernel⟩, List.mem_of_getElem? (i := 665) (by decide +kernel), List.mem_of_getElem? (i := 1076) (by decide +kernel), List.mem_of_getElem? (i := 1077) (by decide +kernel)⟩
theorem lw_p82 : lw_okq (⟨"CreasebookModel", "bringNow", "(II)I"⟩, 13) := ⟨⟨by decide +kernel, by decide +kernel⟩, List.mem_of_getElem? (i := 665) (by decide +kernel), List.mem_of_getElem? (i := 1084) (by decide +kernel), List.mem_of_getElem? (i := 1085) (by decide +kernel)⟩
theorem lw_p83 : lw_okq (⟨"CreasebookModel", "fewestNow", "()I"⟩, 13) := ⟨⟨by decide +kernel, by decide +kernel⟩, List.mem_of_getElem? (i := 665) (by decide +kernel), List.mem_of_getElem? (i := 1095) (by decide +kernel), List.mem_of_getElem? (i := 1096) (by decide +kernel)⟩
theorem lw_p84 : lw_okq (⟨"CreasebookModel", "add", "(I)V"⟩, 13) := ⟨⟨by decide +kernel, by decide +kernel⟩, List.mem_of_getElem? (i := 665) (by decide +kernel), List.mem_of_getElem? (i := 1104) (by decide +kernel), List.mem_of_getElem? (i := 1105) (by decide +kernel)⟩
def lw_privs_6 : List (MethodName × Nat) := [(⟨"CreasebookModel", "isCode", "(I)Z"⟩, 13), (⟨"CreasebookModel", "byCode", "(I)LCreasebookModel$Form;"⟩, 13), (⟨"CreasebookModel", "bringNow", "(II)I"⟩, 13), (⟨"CreasebookModel", "fewestNow", "()I"⟩, 13), (⟨"CreasebookModel", "add", "(I)V"⟩, 13)]
theorem lw_r6 : ∀ q ∈ lw_privs_6, lw_okq q := List.forall_mem_cons.mpr ⟨lw_p80, List.forall_mem_cons.mpr ⟨lw_p81, List.forall_mem_cons.mpr ⟨lw_p82, List.forall_mem_cons.mpr ⟨lw_p83, List.forall_mem_cons.mpr ⟨lw_p84, fun _ h => absurd h List.not_mem_nil⟩⟩⟩⟩⟩
def lw_privs : List (MethodName × Nat) := lw_privs_1 ++ (lw_privs_2 ++ (lw_privs_3 ++ (lw_privs_4 ++ (lw_privs_5 ++ (lw_privs_6)))))
def lw_tbl : List Cond := k2_sels lw_privs ++ tables_1
theorem lw_privs_ok : ∀ q ∈ lw_privs, lw_okq q := by
  show ∀ q ∈ lw_privs_1 ++ (lw_privs_2 ++ (lw_privs_3 ++ (lw_privs_4 ++ (lw_privs_5 ++ (lw_privs_6))))), lw_okq q
  exact List.forall_mem_append.mpr ⟨lw_r1, List.forall_mem_append.mpr ⟨lw_r2, List.forall_mem_append.mpr ⟨lw_r3, List.forall_mem_append.mpr ⟨lw_r4, List.forall_mem_append.mpr ⟨lw_r5, lw_r6⟩⟩⟩⟩⟩
/-- the streams that the claim lets the run draw from -/
abbrev lw_cs : List Choice := [Jvm.Choice.named "NaN.bits"]
theorem lw_bits : nanBits ∈ lw_cs := by first | decide | exact List.mem_cons_self | simp [lw_cs, nanBits]
-- ===== end of PART A; then your names; then what follows =====
end
section
/-! ===== BEGIN words of one list among another's, by their places ===== -/
theorem goodIn_r {big : List Cond} (ws : List Cond) (ps : List Nat) (hp : ws = ps.filterMap (fun i => big[i]?)) (h : ws.all goodWord = true) : GoodIn big ws := by
  intro w hw
  have h1 := List.all_eq_true.mp h w hw
  rw [hp] at hw
  obtain ⟨i, -, hi⟩ := List.mem_filterMap.mp hw
  have hm : w ∈ big := by first | exact List.mem_of_getElem? hi | exact List.getElem?_mem hi
  exact ⟨hm, good_of_word h1⟩
theorem goodIn_app {big a b : List Cond} (ha : GoodIn big a) (hb : GoodIn big b) : GoodIn big (a ++ b) := fun w h => (List.mem_append.mp h).elim (ha w) (hb w)
theorem goodIn_ca {big a b : List Cond} {c : Cond} (ha : GoodIn big (c :: a)) (hb : GoodIn big b) : GoodIn big (c :: (a ++ b)) := fun w h => (List.mem_cons.mp h).elim (fun e => ha w (List.mem_cons.mpr (Or.inl e))) (fun h => (List.mem_append.mp h).elim (fun h => ha w (List.mem_cons.mpr (Or.inr h))) (hb w))
theorem goodIn_sub {big ws : List Cond} (hm : ∀ w ∈ ws, w ∈ big) (h : ws.all goodWord = true) : GoodIn big ws := fun w hw => ⟨hm w hw, good_of_word (List.all_eq_true.mp h w hw)⟩
/-! ===== END ===== -/

/-! ===== BEGIN exceptions that leave a method, and their catching by the caller (launches without stack traces) ===== -/
section VXA
/-! The laws vx_back, vx_callV, vx_callS, vx_callSW, vx_throw0, vx_throwS follow proofs of the library, with one case more: JvmDerived/Free/Laws.lean (Back.of_free), Shelf42/LK1.lean (callV, callS), Shelf/KitTraced.lean (throwNew0V, throwNewS). -/
/-- where a method has thrown q: the class by its name, the cell, what was written, the world -/
def vx_T (XC : String → State → State → Prop) (st : State) (q : Addr) (t : State) (mc ms : Nat) (free : Addr → Prop) : Prop :=
  ∃ (E : String) (ce : Cell) (L : List Loc), XC E st t ∧ t.heap[q]? = some ce ∧ ce.vm = .none ∧ st.vm.findClass E = some ce.cls ∧ st.WarmedH t.vm ∧ st.sameButNew ({ t with vm := st.vm } : State) L mc ms ∧ ∀ z ∈ L, free z.base
def vx_Q (Qc : Array Value → State → Outcome → State → Prop) (XC : String → State → State → Prop) (mc ms : Nat) (free : Addr → Prop) : Array Value → State → Outcome → State → Prop := fun a st o t =>
  (Qc a st o t ∧ ∃ L, FrameEnd st o t L mc ms ∧ ∀ q ∈ L, free q.base) ∨ ∃ q, o = .threw q ∧ vx_T XC st q t mc ms free
/-- a callee that returns or throws -/
def vx_Met (l : Launch) (y : MethodName) (ws : List Cond) (rm : Room) (Pc : Array Value → State → Prop) (Qc : Array Value → State → Outcome → State → Prop) (XC : String → State → State → Prop) (mc ms : Nat) (free : Addr → Prop) : Prop :=
  MetFree l y (headSpec ws rm) Pc (fun _ _ _ _ _ => True) (vx_Q Qc XC mc ms free)
def vx_Post (XC : String → State → State → Prop) (mc ms : Nat) (free : Addr → Prop) : Pt → Array Value → Addr → Pt → Prop := fun A a q B =>
  ∃ (g : JFrame) (mk : MethodId) (t : State) (L : List Loc) (E : String) (ce : Cell), B.U.heap = t.heap ∧ B.U.vm = t.vm ∧ XC E (A.U.calling g mk a) t ∧ t.heap[q]? = some ce ∧ ce.vm = .none ∧ A.U.vm.findClass E = some ce.cls ∧ B.locs = A.locs ++ L ∧ (∀ z ∈ L, free z.base) ∧ B.cells = A.cells + mc ∧ B.slots = A.slots + ms
def vx_Back (l : Launch) (R : Room) (p : Program) (e : Env) (below : List Frame) (s : State) (sargs : Array Value) (y : MethodName) (len W9 : Nat)
    (Pre : Pt → Array Value → Prop) (Post : Pt → Array Value → Option Value → Pt → Prop) (PostX : Pt → Array Value → Addr → Pt → Prop) : Prop :=
  ∀ (m : MethodId) (meth : Method) (c : Code) (A : Pt) (g : JFrame) (ig : Instr) (mk : MethodId) (a : Array Value),
    Stand p l e R s m sargs below meth c A.U A.locs A.cells A.slots → g.method = m → g.locals.size = c.maxLocals → decode c.code g.pc = .ok (ig, len) →
    2 * g.monitorRoom + (g.stack.map fun v => v.category).sum ≤ W9 → A.U.methodNamed? y = some mk → Pre A a →
    (∃ (v : Option Value) (B : Pt), Stand p l e R s m sargs below meth c B.U B.locs B.cells B.slots ∧ Post A a v B ∧
      Steps p.tables e below (doInvoke e (A.U.setTop g) [] mk a).1 (B.U.setTop { g with pc := g.pc + len, stack := v.toList ++ g.stack })) ∨
    (∃ (q : Addr) (B : Pt), Stand p l e R s m sargs below meth c B.U B.locs B.cells B.slots ∧ PostX A a q B ∧
      Steps p.tables e below (doInvoke e (A.U.setTop g) [] mk a).1 ((B.U.setTop g).pushFrame (.throwing q)))
section Payer
variable {l : Launch} {R : Room} {p : Program} {e : Env} {below : List Frame} {s : State} {sargs : Array Value} {y : MethodName} {len W9 : Nat}
theorem vx_back {ws : List Cond} {rm : Room} {Pc : Array Value → State → Prop} {Qc : Array Value → State → Outcome → State → Prop} {XC : String → State → State → Prop} {mc ms : Nat} {free : Addr → Prop} {bytes : ByteArray} {maxL : Nat} {ret : Option FieldType}
    (hM : vx_Met l y ws rm Pc Qc XC mc ms free) (hblind : FrameBlind Pc) (hrc : rm.cells = mc) (hrs : rm.slots = ms)
    (hframes : rm.frames + 1 ≤ R.frames) (hlocals : W9 + (maxL + 11) + rm.locals ≤ R.locals)
    (hws : ∀ w ∈ ws, ∀ a' U, s.WarmedH U.vm → w.before a' U = true) (hcode : Cond.code y bytes maxL ret ∈ ws) (hinit : ∀ a' U, s.WarmedH U.vm → (Cond.initialized y.cls).before a' U = true) :
    vx_Back l R p e below s sargs y len W9 (PreOf R mc ms Pc) (PostOf Qc mc ms free) (vx_Post XC mc ms free) := by
  intro m meth c A g ig mk a X hg hsize hdg hW hn hp
  have h1 : (headSpec ws rm).pre.before a A.U = true := atoms_intro fun w hw => hws w hw _ _ X.warmed
  have h2 : (Cond.code y bytes maxL ret).before a A.U = true := hws _ hcode _ _ X.warmed
  have h3 : (Cond.initialized y.cls).before a A.U = true := hinit _ _ X.warmed
  have h4 : A.cells + (headSpec ws rm).room.cells ≤ R.cells := by rw [show (headSpec ws rm).room.cells = mc from hrc]; exact hp.1
  have h5 : A.slots + (headSpec ws rm).room.slots ≤ R.slots := by rw [show (headSpec ws rm).room.slots = ms from hrs]; exact hp.2.1
  have hPc : Pc a (A.U.calling g mk a) := hblind _ _ _ _ hp.2.2
  obtain ⟨U, Ls, c0, s0⟩ := A
  dsimp only [Pt.U, Pt.locs, Pt.cells, Pt.slots] at h1 h2 h3 h4 h5 X hn hPc ⊢
  obtain ⟨methY, cY, hmY, hcY, -, hlY, -, -, -, -⟩ := Cond.code_spec hn h2
  obtain ⟨kY, hkY, -⟩ := className_of_methodNamed hn
  have hinitY : kY.init = .initialized := Cond.initialized_spec (findClass_of_methodNamed hn) hkY h3
  have h : At U g.method c below := by rw [hg]; exact X.here
  have hlocals9 : W9 + (maxL + 11) + (headSpec ws rm).room.locals ≤ R.locals := hlocals
  have happ : (headSpec ws rm).appliesLoose y e.platform (U.calling g mk a) = true :=
    Spec.appliesLoose_calling (g := g) h hdg hn hkY hinitY
      (X.room_calling (g := g) (R' := (headSpec ws rm).room) hsize hmY hcY hframes (by rw [hlY]; omega) h4 h5) h1
  obtain ⟨mid, hmid⟩ := h.above
  have hfr : (U.setTop g).frames = (.java g :: mid) ++ below := by rw [State.frames_setTop' g h.top, hmid]; rfl
  obtain ⟨o, s₂, hsteps, -, hend, hq⟩ := Steps.callFree hM p X.admits X.cas X.clock (acts := []) hfr happ hPc trivial
  have hq' : vx_Q Qc XC mc ms free a (U.calling g mk a) o s₂ := hq
  rw [State.frames_setTop' g h.top] at hend
  obtain ⟨g₀, hg0⟩ := Option.isSome_iff_exists.mp h.top
  obtain ⟨r, hr⟩ := State.topJava?_eq_some.mp hg0
  have hr' : (({ U with heap := s₂.heap, slotsUsed := s₂.slotsUsed } : State).setVm s₂.vm).frames = .java g₀ :: r := hr
  rcases hq' with ⟨hqc, L, hfe, hL⟩ | ⟨q, rfl, E, ce, L, hx, hce, hcv, hcl, hW₂, hsm, hL⟩
  · obtain ⟨⟨v, rfl⟩, hW₂, e2, q2, q3, q4, q5, q6⟩ := id hfe
    have e3 : s₂ = ({ (U.calling g mk a).setFrames s₂.frames with heap := s₂.heap, slotsUsed := s₂.slotsUsed } : State).setVm s₂.vm := by
      have : s₂ = ({ s₂ with vm := (U.calling g mk a).vm } : State).setVm s₂.vm := rfl
      rw [e2] at this
      exact this
    obtain ⟨c₂, i₂, len₂, hc₂, hd₂, hf₂⟩ := hend
    have hW' : U.WarmedH s₂.vm := hW₂
    have hcc : c₂ = c := by
      have h1 : s₂.code? g.method = U.code? g.method := by
        rw [State.code?_eq, State.code?_eq, hW'.alike.method?]
      exact Option.some.inj (hc₂.symm.trans (h1.trans h.code))
    subst hcc
    have hlen : len₂ = len := by rw [hdg] at hd₂; cases hd₂; rfl
    subst hlen
    have hs₂ : s₂ = (({ U with heap := s₂.heap, slotsUsed := s₂.slotsUsed } : State).setVm s₂.vm).setTop { g with pc := g.pc + len₂, stack := v.toList ++ g.stack } := by
      refine e3.trans ?_
      rw [hf₂, State.calling_eq h.top, State.setFrames_setFrames, State.setTop_of_frames _ hr', hr]
      rfl
    have hsame : U.sameButNew ({ U with heap := s₂.heap, slotsUsed := s₂.slotsUsed } : State) L mc ms := by
      refine ⟨?_, q2, q3, q4, q5, q6⟩
      obtain ⟨t, ht, -⟩ := State.frames_cons hr
      show ({ U with heap := s₂.heap, slotsUsed := s₂.slotsUsed } : State) = { U.setFrames U.frames with heap := s₂.heap, slotsUsed := s₂.slotsUsed }
      rw [State.setFrames_self ht]
    subst hg
    refine Or.inl ⟨v, ⟨(({ U with heap := s₂.heap, slotsUsed := s₂.slotsUsed } : State).setVm s₂.vm), Ls ++ L, c0 + mc, s0 + ms⟩,
      ⟨X.admits, X.cas, X.clock, X.frames, X.room, X.hears, X.method, X.code, (X.here.setHeapUsed s₂.heap s₂.slotsUsed).setVm hW'.alike, X.tail, State.WarmedH.trans X.warmed hW', X.limits, X.bytes, X.same.trans (hsame.setVm s.vm)⟩,
      ⟨g, mk, s₂, L, rfl, rfl, hqc, rfl, hL, rfl, rfl⟩, ?_⟩
    show Steps p.tables e below _ ((({ U with heap := s₂.heap, slotsUsed := s₂.slotsUsed } : State).setVm s₂.vm).setTop { g with pc := g.pc + len₂, stack := v.toList ++ g.stack })
    rw [← hs₂]
    exact hsteps
  · obtain ⟨e2, q2, q3, q4, q5, q6⟩ := id hsm
    have e3 : s₂ = ({ (U.calling g mk a).setFrames s₂.frames with heap := s₂.heap, slotsUsed := s₂.slotsUsed } : State).setVm s₂.vm := by
      have : s₂ = ({ s₂ with vm := (U.calling g mk a).vm } : State).setVm s₂.vm := rfl
      rw [e2] at this
      exact this
    have hf₂ : s₂.frames = .throwing q :: .java g :: U.frames.tail := hend
    have hW' : U.WarmedH s₂.vm := hW₂
    have hs₂ : s₂ = ((({ U with heap := s₂.heap, slotsUsed := s₂.slotsUsed } : State).setVm s₂.vm).setTop g).pushFrame (.throwing q) := by
      refine e3.trans ?_
      rw [hf₂, State.calling_eq h.top, State.setFrames_setFrames, State.pushFrame, State.frames_setTop _ hr', State.setTop_of_frames _ hr', State.setFrames_setFrames, hr]
      rfl
    have hsame : U.sameButNew ({ U with heap := s₂.heap, slotsUsed := s₂.slotsUsed } : State) L mc ms := by
      refine ⟨?_, q2, q3, q4, q5, q6⟩
      obtain ⟨t, ht, -⟩ := State.frames_cons hr
      show ({ U with heap := s₂.heap, slotsUsed := s₂.slotsUsed } : State) = { U.setFrames U.frames with heap := s₂.heap, slotsUsed := s₂.slotsUsed }
      rw [State.setFrames_self ht]
    subst hg
    refine Or.inr ⟨q, ⟨(({ U with heap := s₂.heap, slotsUsed := s₂.slotsUsed } : State).setVm s₂.vm), Ls ++ L, c0 + mc, s0 + ms⟩,
      ⟨X.admits, X.cas, X.clock, X.frames, X.room, X.hears, X.method, X.code, (X.here.setHeapUsed s₂.heap s₂.slotsUsed).setVm hW'.alike, X.tail, State.WarmedH.trans X.warmed hW', X.limits, X.bytes, X.same.trans (hsame.setVm s.vm)⟩,
      ⟨g, mk, s₂, L, E, ce, rfl, rfl, hx, hce, hcv, hcl, rfl, hL, rfl, rfl⟩, ?_⟩
    show Steps p.tables e below _ (((({ U with heap := s₂.heap, slotsUsed := s₂.slotsUsed } : State).setVm s₂.vm).setTop g).pushFrame (.throwing q))
    rw [← hs₂]
    exact hsteps
end Payer
section Calls
variable {p : Program} {l : Launch} {e : Env} {R : Room} {s : State} {m : MethodId} {args : Array Value} {below : List Frame} {meth : Method} {c : Code} {T : State} {locs : List Loc} {cells slots : Nat}
theorem vx_callV (X : Stand p l e R s m args below meth c T locs cells slots) (hexec : p.tables.exec = Jvm.exec) {own C : String} {index : Nat} {y : MethodName} {bytes : ByteArray} {maxL : Nat} {ret : Option FieldType}
    (hown : s.vm.findClass own = some m.cls) (hlink : (Cond.methodLink own index y).before args s = true) (hinst : (Cond.instanceMethod y).before args s = true) (hsel : (Cond.selects C y y).before args s = true)
    (hcode : (Cond.code y bytes maxL ret).before args s = true) (hy : y.cls ≠ "java/lang/invoke/MethodHandle" ∧ y.cls ≠ "java/lang/invoke/VarHandle")
    {W9 : Nat} {Pre : Pt → Array Value → Prop} {Post : Pt → Array Value → Option Value → Pt → Prop} {PostX : Pt → Array Value → Addr → Pt → Prop} (hK : vx_Back l R p e below s args y 3 W9 Pre Post PostX)
    {b : Addr} {cellB : Cell} (hcell : T.heap[b]? = some cellB) (hobj : cellB.vm.isStatics = false) (hcls : s.vm.findClass C = some cellB.cls)
    {g : JFrame} (hg : g.method = m) (hsize : g.locals.size = c.maxLocals) {argsL rest : List Value} (hlen : ∀ sig, parseMethodDescriptor y.desc = some sig → argsL.length = sig.parameters.length)
    (hstack : g.stack = argsL.reverse ++ .ref b :: rest) (hW : 2 * g.monitorRoom + (rest.map fun v => v.category).sum ≤ W9) (hdg : decode c.code g.pc = .ok (.invokevirtual index, 3))
    (hpre : ∀ vm₁, s.WarmedH vm₁ → Pre ⟨T.setVm vm₁, locs, cells, slots⟩ (Value.ref b :: argsL).toArray) :
    (∃ (v : Option Value) (vm₁ : Vm) (B : Pt), s.WarmedH vm₁ ∧ Stand p l e R s m args below meth c B.U B.locs B.cells B.slots ∧ Post ⟨T.setVm vm₁, locs, cells, slots⟩ (Value.ref b :: argsL).toArray v B ∧
      ∀ target, Steps p.tables e below (B.U.setTop { g with pc := g.pc + 3, stack := v.toList ++ rest }) target → Steps p.tables e below (T.setTop g) target) ∨
    (∃ (q : Addr) (vm₁ : Vm) (B : Pt), s.WarmedH vm₁ ∧ Stand p l e R s m args below meth c B.U B.locs B.cells B.slots ∧ PostX ⟨T.setVm vm₁, locs, cells, slots⟩ (Value.ref b :: argsL).toArray q B ∧
      Steps p.tables e below (T.setTop g) ((B.U.setTop { g with stack := rest }).pushFrame (.throwing q))) := by
  obtain ⟨mk, methM, hnamed, hmethM, hstM, habM⟩ := Cond.instanceMethod_spec hinst
  obtain ⟨methM', cM, hmethM', -, -, -, -, -, -, hsigM⟩ := Cond.code_spec hnamed hcode
  cases hmethM.symm.trans hmethM'
  obtain ⟨c2, r2, m2, q1, q2, q3, q4, kP, hkP, hkPi⟩ := Cond.selects_spec hsel
  cases hcls.symm.trans q1
  cases (State.methodFound?_of_named hnamed hy).symm.trans q2
  cases hnamed.symm.trans q3
  have hselP : selectMethod e.platform s.vm cellB.cls mk = .method mk := by rw [Launch.admits_selectMethod X.admits]; exact q4
  obtain ⟨vm₁, X₁, hstep₁⟩ := X.invokevirtual hexec hown hlink hnamed hmethM hstM hkP hkPi hy (a := b) (cell := cellB) hcell
    (fun z h => by rw [h] at hobj; cases hobj) hselP hmethM habM hkP hkPi (g := g) hg (argsL := argsL) (rest := rest) (hlen _ hsigM) hstack hdg
  rcases hK m meth c ⟨T.setVm vm₁, locs, cells, slots⟩ { g with stack := rest } (.invokevirtual index) mk (Value.ref b :: argsL).toArray X₁ hg hsize hdg hW (X₁.named hnamed) (hpre vm₁ X₁.warmed) with ⟨v, B, X', hpost, hsteps⟩ | ⟨q, B, X', hpost, hsteps⟩
  · exact Or.inl ⟨v, vm₁, B, X₁.warmed, X', hpost, fun target h => hstep₁ _ fun acts => by rw [doInvoke_state]; exact hsteps.trans h⟩
  · exact Or.inr ⟨q, vm₁, B, X₁.warmed, X', hpost, hstep₁ _ fun acts => by rw [doInvoke_state]; exact hsteps⟩
theorem vx_callS (X : Stand p l e R s m args below meth c T locs cells slots) (hexec : p.tables.exec = Jvm.exec) {own : String} {index : Nat} {y : MethodName} {bytes : ByteArray} {maxL : Nat} {ret : Option FieldType}
    (hown : s.vm.findClass own = some m.cls) (hlink : (Cond.methodLink own index y).before args s = true) (hstat : (Cond.static y).before args s = true) (hinit : (Cond.initialized y.cls).before args s = true)
    (hcode : (Cond.code y bytes maxL ret).before args s = true) (hy : y.cls ≠ "java/lang/invoke/MethodHandle" ∧ y.cls ≠ "java/lang/invoke/VarHandle")
    {W9 : Nat} {Pre : Pt → Array Value → Prop} {Post : Pt → Array Value → Option Value → Pt → Prop} {PostX : Pt → Array Value → Addr → Pt → Prop} (hK : vx_Back l R p e below s args y 3 W9 Pre Post PostX)
    {g : JFrame} (hg : g.method = m) (hsize : g.locals.size = c.maxLocals) {argsL rest : List Value} (hlen : ∀ sig, parseMethodDescriptor y.desc = some sig → argsL.length = sig.parameters.length)
    (hstack : g.stack = argsL.reverse ++ rest) (hW : 2 * g.monitorRoom + (rest.map fun v => v.category).sum ≤ W9) (hdg : decode c.code g.pc = .ok (.invokestatic index, 3))
    (hpre : ∀ vm₁, s.WarmedH vm₁ → Pre ⟨T.setVm vm₁, locs, cells, slots⟩ argsL.toArray) :
    (∃ (v : Option Value) (vm₁ : Vm) (B : Pt), s.WarmedH vm₁ ∧ Stand p l e R s m args below meth c B.U B.locs B.cells B.slots ∧ Post ⟨T.setVm vm₁, locs, cells, slots⟩ argsL.toArray v B ∧
      ∀ target, Steps p.tables e below (B.U.setTop { g with pc := g.pc + 3, stack := v.toList ++ rest }) target → Steps p.tables e below (T.setTop g) target) ∨
    (∃ (q : Addr) (vm₁ : Vm) (B : Pt), s.WarmedH vm₁ ∧ Stand p l e R s m args below meth c B.U B.locs B.cells B.slots ∧ PostX ⟨T.setVm vm₁, locs, cells, slots⟩ argsL.toArray q B ∧
      Steps p.tables e below (T.setTop g) ((B.U.setTop { g with stack := rest }).pushFrame (.throwing q))) := by
  obtain ⟨mk, hnamed⟩ := Cond.code_named hcode
  obtain ⟨methM, cM, hmethM, -, -, -, -, -, -, hsigM⟩ := Cond.code_spec hnamed hcode
  have hstatic : methM.isStatic = true := Cond.static_spec hnamed hmethM hstat
  obtain ⟨kP, hkP, -⟩ := className_of_methodNamed hnamed
  have hinitP : kP.init = .initialized := Cond.initialized_spec (findClass_of_methodNamed hnamed) hkP hinit
  obtain ⟨vm₁, X₁, hstep₁⟩ := X.invokestatic hexec hown hlink hnamed hmethM hstatic hkP hinitP hy (g := g) hg (argsL := argsL) (rest := rest) (hlen _ hsigM) hstack hdg
  rcases hK m meth c ⟨T.setVm vm₁, locs, cells, slots⟩ { g with stack := rest } (.invokestatic index) mk argsL.toArray X₁ hg hsize hdg hW (X₁.named hnamed) (hpre vm₁ X₁.warmed) with ⟨v, B, X', hpost, hsteps⟩ | ⟨q, B, X', hpost, hsteps⟩
  · exact Or.inl ⟨v, vm₁, B, X₁.warmed, X', hpost, fun target h => hstep₁ _ fun acts => by rw [doInvoke_state]; exact hsteps.trans h⟩
  · exact Or.inr ⟨q, vm₁, B, X₁.warmed, X', hpost, hstep₁ _ fun acts => by rw [doInvoke_state]; exact hsteps⟩
end Calls
theorem vx_cls {s : State} {T : State} {vm₁ : Vm} {E : String} {k : ClassId} (hW : s.WarmedH vm₁) (h : (T.setVm vm₁).vm.findClass E = some k) : s.vm.findClass E = some k := by
  have h1 : vm₁.findClass E = some k := h
  rw [hW.alike.findClass] at h1
  exact h1
/-- the method's frame g, with q thrown over it -/
def vx_W (p : Program) (l : Launch) (e : Env) (R : Room) (s : State) (m : MethodId) (args : Array Value) (below : List Frame) (meth : Method) (c : Code) (H : Heap) (locs : List Loc) (cells slots : Nat) (Q : State → Prop) (g : JFrame) (q : Addr) : Prop :=
  ∀ T : State, T.heap = H → Stand p l e R s m args below meth c T locs cells slots → ∃ t, Steps p.tables e below ((T.setTop g).pushFrame (.throwing q)) t ∧ Q t
def vx_Run (p : Program) (l : Launch) (e : Env) (R : Room) (s : State) (m : MethodId) (args : Array Value) (below : List Frame) (meth : Method) (c : Code) (H : Heap) (locs : List Loc) (cells slots mc ms : Nat) (g : JFrame) (rest : List Value) (Qa : State → Outcome → State → Prop) (XC : String → State → State → Prop) (free : Addr → Prop) : Prop :=
  ∀ T : State, T.heap = H → Stand p l e R s m args below meth c T locs cells slots →
    (∃ (v : Option Value) (st₀ t T' : State) (L : List Loc), st₀.heap = H ∧ Stand p l e R s m args below meth c T' (locs ++ L) (cells + mc) (slots + ms) ∧ (∀ q ∈ L, free q.base) ∧ T'.heap = t.heap ∧ T'.vm = t.vm ∧ Qa st₀ (.returned v) t ∧
      Goes p e below T g T' { g with pc := g.pc + 3, stack := v.toList ++ rest }) ∨
    (∃ (q : Addr) (st₀ t T' : State) (L : List Loc) (E : String) (ce : Cell), st₀.heap = H ∧ Stand p l e R s m args below meth c T' (locs ++ L) (cells + mc) (slots + ms) ∧ (∀ z ∈ L, free z.base) ∧ T'.heap = t.heap ∧ T'.vm = t.vm ∧ XC E st₀ t ∧ t.heap[q]? = some ce ∧ ce.vm = .none ∧ s.vm.findClass E = some ce.cls ∧
      Steps p.tables e below (T.setTop g) ((T'.setTop { g with stack := rest }).pushFrame (.throwing q)))
def vx_X {S : Type} (px : S → Prop) (B : String → S → State → Prop) (A : Nat → Prop) : String → State → State → Prop := fun E st t => ∃ u : S, px u ∧ B E u t ∧ va_F A st t
section Runs
variable {p : Program} {l : Launch} {e : Env} {R : Room} {s : State} {m : MethodId} {args : Array Value} {below : List Frame} {meth : Method} {c : Code} {H : Heap} {locs : List Loc} {cells slots : Nat}
variable {y : MethodName} {bytes cc : ByteArray} {maxL nL mc ms n index : Nat} {ret : Option FieldType} {ws : List Cond} {rm : Room} {Pc : Array Value → State → Prop} {Qc : Array Value → State → Outcome → State → Prop} {XC : String → State → State → Prop} {free : Addr → Prop} {Ts : List Cond} {own C : String} {b : Addr} {As rest : List Value} {g : JFrame}
theorem vx_callBack (cb : CallB R s args own index y bytes maxL ret ws rm mc ms n) (hM : vx_Met l y ws rm Pc Qc XC mc ms free) (hbl : FrameBlind Pc) : vx_Back l R p e below s args y 3 8 (PreOf R mc ms Pc) (PostOf Qc mc ms free) (vx_Post XC mc ms free) := by
  obtain ⟨hrc, hrs, hfr, hlo, hws, hcw, -, hini, -⟩ := cb
  exact vx_back (bytes := bytes) (maxL := maxL) (ret := ret) hM hbl hrc hrs hfr hlo hws hcw (fun a' U hW => word_at hW (Or.inl (by first | rfl | simp [Cond.onTables, Cond.keeps, Cond.steady])) hini)
theorem vx_runV (S : CallFix p m c cc nL s args Ts own) (hM : vx_Met l y ws rm Pc Qc XC mc ms free) (cw : CallW R s args own C index y bytes maxL ret ws rm mc ms n) (hp : PreV s H C b Pc As)
    (hg : g.method = m) (hn : As.length = n) (hsize : g.locals.size = nL) (hstack : g.stack = As.reverse ++ .ref b :: rest) (hW : 2 * g.monitorRoom + (rest.map fun v => v.category).sum ≤ 8) (hdg : decode cc g.pc = .ok (.invokevirtual index, 3)) (hf : cells + mc ≤ R.cells ∧ slots + ms ≤ R.slots) :
    vx_Run p l e R s m args below meth c H locs cells slots mc ms g rest (Qc (Value.ref b :: As).toArray) XC free := by
  have hK : vx_Back l R p e below s args y 3 8 (PreOf R mc ms Pc) (PostOf Qc mc ms free) (vx_Post XC mc ms free) := vx_callBack cw.1 hM hp.1
  obtain ⟨⟨-, -, -, -, -, -, hcode, -, hy, hlen, hl⟩, hin, hse⟩ := cw
  obtain ⟨hx, hb, hml, ho, -⟩ := S
  obtain ⟨-, ⟨cellB, hcB, hoB, hclB⟩, hPc⟩ := hp
  intro T hT X
  rcases vx_callV X hx (C := C) (bytes := bytes) (maxL := maxL) (ret := ret) ho hl hin hse hcode hy hK (by rw [hT]; exact hcB) hoB hclB hg (hsize.trans hml.symm) (argsL := As) (rest := rest) (fun sig h => hn.trans (hlen sig h)) hstack hW (by rw [hb]; exact hdg)
    (fun vm₁ hW₁ => ⟨hf.1, hf.2, hPc (T.setVm vm₁) hT hW₁⟩) with ⟨v, vm₁, ⟨U', l2, c2, s2⟩, hW₁, X', ⟨g', mk, t, L, e1, e2, hq, h1, hL, h2, h3⟩, st⟩ | ⟨q, vm₁, ⟨U', l2, c2, s2⟩, hW₁, X', ⟨g', mk, t, L, E, ce, e1, e2, hq, hce, hcv, hcl, h1, hL, h2, h3⟩, st⟩
  · dsimp only [Pt.U, Pt.locs, Pt.cells, Pt.slots] at X' e1 e2 h1 h2 h3 st
    subst h1; subst h2; subst h3
    exact Or.inl ⟨v, (T.setVm vm₁).calling g' mk (Value.ref b :: As).toArray, t, U', L, hT, X', hL, e1, e2, hq, st⟩
  · dsimp only [Pt.U, Pt.locs, Pt.cells, Pt.slots] at X' e1 e2 h1 h2 h3 st hcl
    subst h1; subst h2; subst h3
    exact Or.inr ⟨q, (T.setVm vm₁).calling g' mk (Value.ref b :: As).toArray, t, U', L, E, ce, hT, X', hL, e1, e2, hq, hce, hcv, vx_cls hW₁ hcl, st⟩
theorem vx_runS (S : CallFix p m c cc nL s args Ts own) (hM : vx_Met l y ws rm Pc Qc XC mc ms free) (cw : CallB R s args own index y bytes maxL ret ws rm mc ms n ∧ (Cond.static y).before args s = true) (hp : PreS s H Pc As)
    (hg : g.method = m) (hn : As.length = n) (hsize : g.locals.size = nL) (hstack : g.stack = As.reverse ++ rest) (hW : 2 * g.monitorRoom + (rest.map fun v => v.category).sum ≤ 8) (hdg : decode cc g.pc = .ok (.invokestatic index, 3)) (hf : cells + mc ≤ R.cells ∧ slots + ms ≤ R.slots) :
    vx_Run p l e R s m args below meth c H locs cells slots mc ms g rest (Qc As.toArray) XC free := by
  have hK : vx_Back l R p e below s args y 3 8 (PreOf R mc ms Pc) (PostOf Qc mc ms free) (vx_Post XC mc ms free) := vx_callBack cw.1 hM hp.1
  obtain ⟨⟨-, -, -, -, -, -, hcode, hini, hy, hlen, hl⟩, hstt⟩ := cw
  obtain ⟨hx, hb, hml, ho, -⟩ := S
  intro T hT X
  rcases vx_callS X hx (bytes := bytes) (maxL := maxL) (ret := ret) ho hl hstt hini hcode hy hK hg (hsize.trans hml.symm) (argsL := As) (rest := rest) (fun sig h => hn.trans (hlen sig h)) hstack hW (by rw [hb]; exact hdg)
    (fun vm₁ hW₁ => ⟨hf.1, hf.2, hp.2 (T.setVm vm₁) hT hW₁⟩) with ⟨v, vm₁, ⟨U', l2, c2, s2⟩, hW₁, X', ⟨g', mk, t, L, e1, e2, hq, h1, hL, h2, h3⟩, st⟩ | ⟨q, vm₁, ⟨U', l2, c2, s2⟩, hW₁, X', ⟨g', mk, t, L, E, ce, e1, e2, hq, hce, hcv, hcl, h1, hL, h2, h3⟩, st⟩
  · dsimp only [Pt.U, Pt.locs, Pt.cells, Pt.slots] at X' e1 e2 h1 h2 h3 st
    subst h1; subst h2; subst h3
    exact Or.inl ⟨v, (T.setVm vm₁).calling g' mk As.toArray, t, U', L, hT, X', hL, e1, e2, hq, st⟩
  · dsimp only [Pt.U, Pt.locs, Pt.cells, Pt.slots] at X' e1 e2 h1 h2 h3 st hcl
    subst h1; subst h2; subst h3
    exact Or.inr ⟨q, (T.setVm vm₁).calling g' mk As.toArray, t, U', L, E, ce, hT, X', hL, e1, e2, hq, hce, hcv, vx_cls hW₁ hcl, st⟩
end Runs
section Rows
variable {p : Program} {l : Launch} {e : Env} {R : Room} {s : State} {m : MethodId} {args : Array Value} {below : List Frame} {meth : Method} {c : Code} {H : Heap} {locs : List Loc} {cells slots : Nat} {Q : State → Prop}
variable {mc ms : Nat} {free : Addr → Prop} {A0 A1 : Nat → Prop} {H0 : Heap} {a : Array Value} {pc : Nat} {ls : Array Slot} {st0 rest : List Value}
theorem vx_keep {st₀ t T' : State} {L : List Loc} (h0 : st₀.heap = H) (e1 : T'.heap = t.heap) (hS : va_S A0 H0 H locs) (hA : ∀ q, q < H.size → A1 q → A0 q) (hf : ∀ q, free q → A0 q) (hL : ∀ q ∈ L, free q.base) (hF : va_F A1 st₀ t) :
    H.size ≤ T'.heap.size ∧ (∀ q : Nat, q < H.size → ¬ A1 q → T'.heap[q]? = H[q]?) ∧ va_S A0 H0 T'.heap (locs ++ L) := by
  obtain ⟨hz, hk⟩ := hF
  rw [h0] at hz hk
  exact ⟨by rw [e1]; exact hz, fun q h1 h2 => by rw [e1]; exact hk q h1 h2,
    ⟨Nat.le_trans hS.1 (by rw [e1]; exact hz), fun q h1 h2 => by rw [e1, hk q (Nat.lt_of_lt_of_le h1 hS.1) (fun z => h2 (hA q (Nat.lt_of_lt_of_le h1 hS.1) z))]; exact hS.2.1 q h1 h2, fun q hq => by
      rcases List.mem_append.mp hq with h | h
      · exact hS.2.2 q h
      · exact hf _ (hL q h)⟩⟩
theorem vx_calli {S SX : Type} {post : Int32 → S → Prop} {px : SX → Prop} {B : S → State → Prop} {BX : String → SX → State → Prop} {AX : Nat → Prop} (hr : vx_Run p l e R s m args below meth c H locs cells slots mc ms (F0 m pc ls st0) rest (va_Qi post B A1 a) (vx_X px BX AX) free) (hS : va_S A0 H0 H locs) (hA : ∀ q, q < H.size → A1 q → A0 q) (hf : ∀ q, free q → A0 q) (hAX : ∀ q, q < H.size → AX q → A0 q)
    (kx : ∀ (E : String) (ce : Cell) (q9 : Addr) (u : SX) (t : State) (H1 : Heap) (locs1 : List Loc), t.heap = H1 → s.vm.Alike t.vm → px u → BX E u t → H.size ≤ H1.size → (∀ q : Nat, q < H.size → ¬ AX q → H1[q]? = H[q]?) → va_S A0 H0 H1 locs1 → H1[q9]? = some ce → ce.vm = .none → s.vm.findClass E = some ce.cls → vx_W p l e R s m args below meth c H1 locs1 (cells + mc) (slots + ms) Q (F0 m pc ls rest) q9)
    (kk : ∀ (r : Int32) (u : S) (t : State) (H1 : Heap) (locs1 : List Loc), t.heap = H1 → s.vm.Alike t.vm → post r u → B u t → H.size ≤ H1.size → (∀ q : Nat, q < H.size → ¬ A1 q → H1[q]? = H[q]?) → va_S A0 H0 H1 locs1 → W p l e R s m args below meth c H1 locs1 (cells + mc) (slots + ms) Q (F0 m (pc + 3) ls (.int r :: rest))) : W p l e R s m args below meth c H locs cells slots Q (F0 m pc ls st0) := by
  intro T hT X
  rcases hr T hT X with ⟨v, st₀, t, T', L, h0, X', hL, e1, e2, ⟨⟨r, u, hv, hp, hb⟩, hF⟩, st⟩ | ⟨q, st₀, t, T', L, E, ce, h0, X', hL, e1, e2, ⟨u, hp, hb, hF⟩, hce, hcv, hcl, st⟩
  · cases hv
    obtain ⟨k1, k2, k3⟩ := vx_keep h0 e1 hS hA hf hL hF
    obtain ⟨t2, a1, b1⟩ := kk r u t T'.heap (locs ++ L) e1.symm (by rw [← e2]; exact X'.warmed.alike) hp hb k1 k2 k3 T' rfl X'
    exact ⟨t2, st t2 a1, b1⟩
  · obtain ⟨k1, k2, k3⟩ := vx_keep h0 e1 hS hAX hf hL hF
    obtain ⟨t2, a1, b1⟩ := kx E ce q u t T'.heap (locs ++ L) e1.symm (by rw [← e2]; exact X'.warmed.alike) hp hb k1 k2 k3 (by rw [e1]; exact hce) hcv hcl T' rfl X'
    exact ⟨t2, st.trans a1, b1⟩
theorem vx_calll {S SX : Type} {post : Int64 → S → Prop} {px : SX → Prop} {B : S → State → Prop} {BX : String → SX → State → Prop} {AX : Nat → Prop} (hr : vx_Run p l e R s m args below meth c H locs cells slots mc ms (F0 m pc ls st0) rest (va_Ql post B A1 a) (vx_X px BX AX) free) (hS : va_S A0 H0 H locs) (hA : ∀ q, q < H.size → A1 q → A0 q) (hf : ∀ q, free q → A0 q) (hAX : ∀ q, q < H.size → AX q → A0 q)
    (kx : ∀ (E : String) (ce : Cell) (q9 : Addr) (u : SX) (t : State) (H1 : Heap) (locs1 : List Loc), t.heap = H1 → s.vm.Alike t.vm → px u → BX E u t → H.size ≤ H1.size → (∀ q : Nat, q < H.size → ¬ AX q → H1[q]? = H[q]?) → va_S A0 H0 H1 locs1 → H1[q9]? = some ce → ce.vm = .none → s.vm.findClass E = some ce.cls → vx_W p l e R s m args below meth c H1 locs1 (cells + mc) (slots + ms) Q (F0 m pc ls rest) q9)
    (kk : ∀ (r : Int64) (u : S) (t : State) (H1 : Heap) (locs1 : List Loc), t.heap = H1 → s.vm.Alike t.vm → post r u → B u t → H.size ≤ H1.size → (∀ q : Nat, q < H.size → ¬ A1 q → H1[q]? = H[q]?) → va_S A0 H0 H1 locs1 → W p l e R s m args below meth c H1 locs1 (cells + mc) (slots + ms) Q (F0 m (pc + 3) ls (.long r :: rest))) : W p l e R s m args below meth c H locs cells slots Q (F0 m pc ls st0) := by
  intro T hT X
  rcases hr T hT X with ⟨v, st₀, t, T', L, h0, X', hL, e1, e2, ⟨⟨r, u, hv, hp, hb⟩, hF⟩, st⟩ | ⟨q, st₀, t, T', L, E, ce, h0, X', hL, e1, e2, ⟨u, hp, hb, hF⟩, hce, hcv, hcl, st⟩
  · cases hv
    obtain ⟨k1, k2, k3⟩ := vx_keep h0 e1 hS hA hf hL hF
    obtain ⟨t2, a1, b1⟩ := kk r u t T'.heap (locs ++ L) e1.symm (by rw [← e2]; exact X'.warmed.alike) hp hb k1 k2 k3 T' rfl X'
    exact ⟨t2, st t2 a1, b1⟩
  · obtain ⟨k1, k2, k3⟩ := vx_keep h0 e1 hS hAX hf hL hF
    obtain ⟨t2, a1, b1⟩ := kx E ce q u t T'.heap (locs ++ L) e1.symm (by rw [← e2]; exact X'.warmed.alike) hp hb k1 k2 k3 (by rw [e1]; exact hce) hcv hcl T' rfl X'
    exact ⟨t2, st.trans a1, b1⟩
theorem vx_callf {S SX : Type} {post : UInt32 → S → Prop} {px : SX → Prop} {B : S → State → Prop} {BX : String → SX → State → Prop} {AX : Nat → Prop} (hr : vx_Run p l e R s m args below meth c H locs cells slots mc ms (F0 m pc ls st0) rest (va_Qf post B A1 a) (vx_X px BX AX) free) (hS : va_S A0 H0 H locs) (hA : ∀ q, q < H.size → A1 q → A0 q) (hf : ∀ q, free q → A0 q) (hAX : ∀ q, q < H.size → AX q → A0 q)
    (kx : ∀ (E : String) (ce : Cell) (q9 : Addr) (u : SX) (t : State) (H1 : Heap) (locs1 : List Loc), t.heap = H1 → s.vm.Alike t.vm → px u → BX E u t → H.size ≤ H1.size → (∀ q : Nat, q < H.size → ¬ AX q → H1[q]? = H[q]?) → va_S A0 H0 H1 locs1 → H1[q9]? = some ce → ce.vm = .none → s.vm.findClass E = some ce.cls → vx_W p l e R s m args below meth c H1 locs1 (cells + mc) (slots + ms) Q (F0 m pc ls rest) q9)
    (kk : ∀ (r : UInt32) (u : S) (t : State) (H1 : Heap) (locs1 : List Loc), t.heap = H1 → s.vm.Alike t.vm → post r u → B u t → H.size ≤ H1.size → (∀ q : Nat, q < H.size → ¬ A1 q → H1[q]? = H[q]?) → va_S A0 H0 H1 locs1 → W p l e R s m args below meth c H1 locs1 (cells + mc) (slots + ms) Q (F0 m (pc + 3) ls (.float r :: rest))) : W p l e R s m args below meth c H locs cells slots Q (F0 m pc ls st0) := by
  intro T hT X
  rcases hr T hT X with ⟨v, st₀, t, T', L, h0, X', hL, e1, e2, ⟨⟨r, u, hv, hp, hb⟩, hF⟩, st⟩ | ⟨q, st₀, t, T', L, E, ce, h0, X', hL, e1, e2, ⟨u, hp, hb, hF⟩, hce, hcv, hcl, st⟩
  · cases hv
    obtain ⟨k1, k2, k3⟩ := vx_keep h0 e1 hS hA hf hL hF
    obtain ⟨t2, a1, b1⟩ := kk r u t T'.heap (locs ++ L) e1.symm (by rw [← e2]; exact X'.warmed.alike) hp hb k1 k2 k3 T' rfl X'
    exact ⟨t2, st t2 a1, b1⟩
  · obtain ⟨k1, k2, k3⟩ := vx_keep h0 e1 hS hAX hf hL hF
    obtain ⟨t2, a1, b1⟩ := kx E ce q u t T'.heap (locs ++ L) e1.symm (by rw [← e2]; exact X'.warmed.alike) hp hb k1 k2 k3 (by rw [e1]; exact hce) hcv hcl T' rfl X'
    exact ⟨t2, st.trans a1, b1⟩
theorem vx_calld {S SX : Type} {post : UInt64 → S → Prop} {px : SX → Prop} {B : S → State → Prop} {BX : String → SX → State → Prop} {AX : Nat → Prop} (hr : vx_Run p l e R s m args below meth c H locs cells slots mc ms (F0 m pc ls st0) rest (va_Qd post B A1 a) (vx_X px BX AX) free) (hS : va_S A0 H0 H locs) (hA : ∀ q, q < H.size → A1 q → A0 q) (hf : ∀ q, free q → A0 q) (hAX : ∀ q, q < H.size → AX q → A0 q)
    (kx : ∀ (E : String) (ce : Cell) (q9 : Addr) (u : SX) (t : State) (H1 : Heap) (locs1 : List Loc), t.heap = H1 → s.vm.Alike t.vm → px u → BX E u t → H.size ≤ H1.size → (∀ q : Nat, q < H.size → ¬ AX q → H1[q]? = H[q]?) → va_S A0 H0 H1 locs1 → H1[q9]? = some ce → ce.vm = .none → s.vm.findClass E = some ce.cls → vx_W p l e R s m args below meth c H1 locs1 (cells + mc) (slots + ms) Q (F0 m pc ls rest) q9)
    (kk : ∀ (r : UInt64) (u : S) (t : State) (H1 : Heap) (locs1 : List Loc), t.heap = H1 → s.vm.Alike t.vm → post r u → B u t → H.size ≤ H1.size → (∀ q : Nat, q < H.size → ¬ A1 q → H1[q]? = H[q]?) → va_S A0 H0 H1 locs1 → W p l e R s m args below meth c H1 locs1 (cells + mc) (slots + ms) Q (F0 m (pc + 3) ls (.double r :: rest))) : W p l e R s m args below meth c H locs cells slots Q (F0 m pc ls st0) := by
  intro T hT X
  rcases hr T hT X with ⟨v, st₀, t, T', L, h0, X', hL, e1, e2, ⟨⟨r, u, hv, hp, hb⟩, hF⟩, st⟩ | ⟨q, st₀, t, T', L, E, ce, h0, X', hL, e1, e2, ⟨u, hp, hb, hF⟩, hce, hcv, hcl, st⟩
  · cases hv
    obtain ⟨k1, k2, k3⟩ := vx_keep h0 e1 hS hA hf hL hF
    obtain ⟨t2, a1, b1⟩ := kk r u t T'.heap (locs ++ L) e1.symm (by rw [← e2]; exact X'.warmed.alike) hp hb k1 k2 k3 T' rfl X'
    exact ⟨t2, st t2 a1, b1⟩
  · obtain ⟨k1, k2, k3⟩ := vx_keep h0 e1 hS hAX hf hL hF
    obtain ⟨t2, a1, b1⟩ := kx E ce q u t T'.heap (locs ++ L) e1.symm (by rw [← e2]; exact X'.warmed.alike) hp hb k1 k2 k3 (by rw [e1]; exact hce) hcv hcl T' rfl X'
    exact ⟨t2, st.trans a1, b1⟩
theorem vx_callv {S SX : Type} {post : S → Prop} {px : SX → Prop} {B : S → State → Prop} {BX : String → SX → State → Prop} {AX : Nat → Prop} (hr : vx_Run p l e R s m args below meth c H locs cells slots mc ms (F0 m pc ls st0) rest (va_Qv post B A1 a) (vx_X px BX AX) free) (hS : va_S A0 H0 H locs) (hA : ∀ q, q < H.size → A1 q → A0 q) (hf : ∀ q, free q → A0 q) (hAX : ∀ q, q < H.size → AX q → A0 q)
    (kx : ∀ (E : String) (ce : Cell) (q9 : Addr) (u : SX) (t : State) (H1 : Heap) (locs1 : List Loc), t.heap = H1 → s.vm.Alike t.vm → px u → BX E u t → H.size ≤ H1.size → (∀ q : Nat, q < H.size → ¬ AX q → H1[q]? = H[q]?) → va_S A0 H0 H1 locs1 → H1[q9]? = some ce → ce.vm = .none → s.vm.findClass E = some ce.cls → vx_W p l e R s m args below meth c H1 locs1 (cells + mc) (slots + ms) Q (F0 m pc ls rest) q9)
    (kk : ∀ (u : S) (t : State) (H1 : Heap) (locs1 : List Loc), t.heap = H1 → s.vm.Alike t.vm → post u → B u t → H.size ≤ H1.size → (∀ q : Nat, q < H.size → ¬ A1 q → H1[q]? = H[q]?) → va_S A0 H0 H1 locs1 → W p l e R s m args below meth c H1 locs1 (cells + mc) (slots + ms) Q (F0 m (pc + 3) ls (rest))) : W p l e R s m args below meth c H locs cells slots Q (F0 m pc ls st0) := by
  intro T hT X
  rcases hr T hT X with ⟨v, st₀, t, T', L, h0, X', hL, e1, e2, ⟨⟨u, hv, hp, hb⟩, hF⟩, st⟩ | ⟨q, st₀, t, T', L, E, ce, h0, X', hL, e1, e2, ⟨u, hp, hb, hF⟩, hce, hcv, hcl, st⟩
  · cases hv
    obtain ⟨k1, k2, k3⟩ := vx_keep h0 e1 hS hA hf hL hF
    obtain ⟨t2, a1, b1⟩ := kk u t T'.heap (locs ++ L) e1.symm (by rw [← e2]; exact X'.warmed.alike) hp hb k1 k2 k3 T' rfl X'
    exact ⟨t2, st t2 a1, b1⟩
  · obtain ⟨k1, k2, k3⟩ := vx_keep h0 e1 hS hAX hf hL hF
    obtain ⟨t2, a1, b1⟩ := kx E ce q u t T'.heap (locs ++ L) e1.symm (by rw [← e2]; exact X'.warmed.alike) hp hb k1 k2 k3 (by rw [e1]; exact hce) hcv hcl T' rfl X'
    exact ⟨t2, st.trans a1, b1⟩
/-- caught by the row x of this method's table; the rows ahead don't take it -/
theorem vx_catch {own name : String} {E : String} {ce : Cell} {q : Addr} (hown : s.vm.findClass own = some m.cls) (pre : List ExceptionTableEntry) (x : ExceptionTableEntry) (suf : List ExceptionTableEntry) (hsplit : c.exceptionTable.toList = pre ++ x :: suf)
    (hpass : ∀ z ∈ pre, covers z pc = false ∨ (z.catchType ≠ 0 ∧ ∃ nm : String, (Cond.classLink own z.catchType nm).before args s = true ∧ va_Nc E nm s)) (hx : covers x pc = true) (h0 : x.catchType ≠ 0)
    (hlink : (Cond.classLink own x.catchType name).before args s = true) (hcast : (Cond.castable E name).before args s = true) (hcell : H[q]? = some ce) (hv : ce.vm = .none) (hcl : s.vm.findClass E = some ce.cls)
    (kk : W p l e R s m args below meth c H locs cells slots Q (F0 m x.handlerPc ls [.ref q])) : vx_W p l e R s m args below meth c H locs cells slots Q (F0 m pc ls rest) q := by
  intro T hT X
  have hpl : e.platform.magicAccessors = ({} : Platform).magicAccessors := by rw [X.admits.platform]
  obtain ⟨c3, c4, hc3, hc4, hasg⟩ := Cond.castable_spec hcast
  cases Option.some.inj (hc3.symm.trans hcl)
  obtain ⟨c5, hc5, hcl5⟩ := Cond.classLink_spec hown hlink e.platform hpl
  cases Option.some.inj (hc4.symm.trans hc5)
  obtain ⟨vm', X', st⟩ := X.thenCaughtThrough q (g := F0 m pc ls rest) rfl (Steps.refl _) (by rw [hT]; exact hcell) (by rw [hv]; rfl) (by obtain ⟨k9, h9, -⟩ := Vm.findClass_spec hcl; exact ⟨k9, h9⟩) pre x suf hsplit
    (fun z hz => by
      rcases hpass z hz with h | ⟨hz0, nm, hl1, hn1⟩
      · exact Or.inl h
      · obtain ⟨c6, hc6, hcl6⟩ := Cond.classLink_spec hown hl1 e.platform hpl
        obtain ⟨a8, b8, h1, h2, h3⟩ := hn1
        cases Option.some.inj (h1.symm.trans hcl)
        cases Option.some.inj (h2.symm.trans hc6)
        exact Or.inr ⟨hz0, _, hcl6, h3⟩) hx (Or.inr ⟨h0, c4, hcl5, hasg⟩)
  obtain ⟨t, a1, b1⟩ := kk (T.setVm vm') hT X'
  exact ⟨t, st.trans a1, b1⟩
end Rows
section Ends
variable {p : Program} {l : Launch} {e : Env} {R : Room} {s : State} {m : MethodId} {args : Array Value} {below : List Frame} {meth : Method} {c : Code} {H : Heap} {locs : List Loc} {cells slots : Nat} {Q : State → Prop}
variable {mc ms : Nat} {free : Addr → Prop} {A0 A1 : Nat → Prop} {H0 : Heap} {a : Array Value} {ls : Array Slot} {st0 rest : List Value}
variable {Qc : Array Value → State → Outcome → State → Prop} {XC : String → State → State → Prop}
/-- what a body that may throw owes at its end -/
def vx_MQ (below : List Frame) (Qc : Array Value → State → Outcome → State → Prop) (XC : String → State → State → Prop) (a : Array Value) (s : State) (mc ms : Nat) (free : Addr → Prop) : State → Prop := fun t =>
  ∃ o, t.status = .running ∧ Ended t below o ∧ vx_Q Qc XC mc ms free a s o t
theorem vx_ret {g : JFrame} {mc ms : Nat} (k : W p l e R s m args below meth c H locs cells slots (MQ below Qc args s mc ms free) g) : W p l e R s m args below meth c H locs cells slots (vx_MQ below Qc XC args s mc ms free) g := by
  intro T hT X
  obtain ⟨t, a1, o, b1, b2, b3, b4⟩ := k T hT X
  exact ⟨t, a1, o, b1, b2, Or.inl ⟨b3, b4⟩⟩
/-- not caught here: it goes on to the caller -/
theorem vx_widen {g : JFrame} {q : Addr} {k n : Nat} (h1 : cells ≤ k) (h2 : slots ≤ n) (kk : vx_W p l e R s m args below meth c H locs k n Q g q) : vx_W p l e R s m args below meth c H locs cells slots Q g q := fun T hT X => kk T hT (stand_widen X h1 h2)
theorem vx_out {pc : Nat} {E : String} {ce : Cell} {q : Addr} {mc ms : Nat} (hout : ∀ x ∈ c.exceptionTable.toList, covers x pc = false) (hlocks : meth.locks = false) (hcell : H[q]? = some ce) (hv : ce.vm = .none) (hcl : s.vm.findClass E = some ce.cls)
    (hx : ∀ t : State, t.heap = H → s.vm.Alike t.vm → XC E s t) (hf : ∀ z ∈ locs, free z.base) (hc : cells ≤ mc) (hs : slots ≤ ms) :
    vx_W p l e R s m args below meth c H locs cells slots (vx_MQ below Qc XC args s mc ms free) (F0 m pc ls rest) q := by
  intro T hT X
  obtain ⟨st1, hrun, hend, hW, hsm⟩ := X.leaveThrown q (g := F0 m pc ls rest) rfl rfl rfl hout hlocks
  have hcell9 : (T.setFrames (.throwing q :: below)).heap[q]? = some ce := by
    show T.heap[q]? = some ce
    rw [hT]; exact hcell
  exact ⟨_, st1, .threw q, hrun, hend, Or.inr ⟨q, rfl, E, ce, locs, hx _ hT hW.alike, hcell9, hv, hcl, hW, hsm.mono hc hs, hf⟩⟩
theorem vx_frame {U : State} {k n : Nat} (h : s.sameButNew ({ U with vm := s.vm } : State) locs k n) : s.heap.size ≤ U.heap.size ∧ ∀ q : Nat, q < s.heap.size → (∀ z ∈ locs, z.base ≠ q) → U.heap[q]? = s.heap[q]? := by
  obtain ⟨-, h2, -, -, -, h6⟩ := h
  refine ⟨h2, fun q hq hz => ?_⟩
  obtain ⟨c9, e1, e2, e3, e4⟩ := h6 q _ (Array.getElem?_eq_getElem hq)
  have hs : c9.slots = (s.heap[q]).slots := Array.ext_getElem? fun i => e4 i fun hm => hz _ hm rfl
  have h9 : c9 = s.heap[q] := by
    rw [hs] at e2
    exact e2
  have e5 : U.heap[q]? = some c9 := e1
  rw [e5, h9, Array.getElem?_eq_getElem hq]
/-- the words of a throw but the four that speak of the heap -/
def vx_no (w : Cond) : Bool := decide (w ≠ .isRef (.static Bundle.tN "UNASSIGNED_STACK" Bundle.steD)) && decide (w ≠ .isRef (.static Bundle.tN "SUPPRESSED_SENTINEL" Bundle.listD)) && decide (w ≠ .laysStatic Bundle.tN "UNASSIGNED_STACK" Bundle.steD) && decide (w ≠ .laysStatic Bundle.tN "SUPPRESSED_SENTINEL" Bundle.listD)
def vx_at0 (own : String) (ic : Nat) (X : String) (names : List String) : List Cond := (Bundle.ownAtoms0 own ic X names).filter vx_no
def vx_atS (own : String) (ic : Nat) (X : String) (names : List String) : List Cond := (Bundle.ownAtoms own ic X names).filter vx_no
/-- a word that the tables alone decide, or a good one -/
def vx_ot (w : Cond) : Bool := w.onTables || goodWord w
theorem vx_ot_at {args a' : Array Value} {s U : State} {w : Cond} (hW : s.WarmedH U.vm) (hvm : s.vm = U.vm) (hg : vx_ot w = true) (h : w.before args s = true) : w.before a' U = true := by
  simp only [vx_ot, Bool.or_eq_true] at hg
  rcases hg with hg | hg
  · exact va_tabs hg hvm h
  · exact word_at hW (good_of_word hg) h
/-- a list's words: the good ones out of the method's own list, the others by premises of their own -/
theorem vx_hat {args : Array Value} {s : State} {L B : List Cond} (h1 : ∀ w ∈ L.filter goodWord, w.before args s = true) (h2 : ∀ w ∈ L.filter (fun w => !goodWord w), w ∈ B) (h3 : ∀ w ∈ B, w.before args s = true) : ∀ w ∈ L, w.before args s = true := by
  intro w hw
  by_cases g : goodWord w = true
  · exact h1 w (List.mem_filter.mpr ⟨hw, g⟩)
  · refine h3 w (h2 w (List.mem_filter.mpr ⟨hw, ?_⟩))
    show (!goodWord w) = true
    cases hgw : goodWord w
    · rfl
    · exact absurd hgw g
theorem vx_c {args : Array Value} {s : State} {w : Cond} {B : List Cond} (h : w.before args s = true) (t : ∀ w ∈ B, w.before args s = true) : ∀ w' ∈ w :: B, w'.before args s = true := fun w' h' => (List.mem_cons.mp h').elim (fun e => by rw [e]; exact h) (t w')
theorem vx_n {args : Array Value} {s : State} : ∀ w ∈ ([] : List Cond), w.before args s = true := fun _ h => nomatch h
theorem vx_own {args : Array Value} {s : State} {L : List Cond} (h1 : ∀ w ∈ L.filter vx_no, w.before args s = true)
    (hU : (Cond.isRef (.static Bundle.tN "UNASSIGNED_STACK" Bundle.steD)).before args s = true) (hN : (Cond.isRef (.static Bundle.tN "SUPPRESSED_SENTINEL" Bundle.listD)).before args s = true)
    (lU : (Cond.laysStatic Bundle.tN "UNASSIGNED_STACK" Bundle.steD).before args s = true) (lN : (Cond.laysStatic Bundle.tN "SUPPRESSED_SENTINEL" Bundle.listD).before args s = true) : ∀ w ∈ L, w.before args s = true := by
  intro w hw
  by_cases e1 : w = .isRef (.static Bundle.tN "UNASSIGNED_STACK" Bundle.steD)
  · rw [e1]; exact hU
  · by_cases e2 : w = .isRef (.static Bundle.tN "SUPPRESSED_SENTINEL" Bundle.listD)
    · rw [e2]; exact hN
    · by_cases e3 : w = .laysStatic Bundle.tN "UNASSIGNED_STACK" Bundle.steD
      · rw [e3]; exact lU
      · by_cases e4 : w = .laysStatic Bundle.tN "SUPPRESSED_SENTINEL" Bundle.listD
        · rw [e4]; exact lN
        · exact h1 w (List.mem_filter.mpr ⟨hw, by unfold vx_no; rw [decide_eq_true e1, decide_eq_true e2, decide_eq_true e3, decide_eq_true e4]; rfl⟩)
/-- where a static field lies, its class's statics cell in H -/
def vx_L (C n d : String) (A : Nat → Prop) (U : State) (H : Heap) : Prop := ∃ (c : ClassId) (k : Class) (i : Nat) (f : Field) (a : Nat) (cell : Cell), U.vm.findClass C = some c ∧ U.fieldFound? C n d = some (c, k, i, f) ∧ f.isStatic = true ∧ k.statics = some a ∧ H[a]? = some cell ∧ cell.vm.isStatics = true ∧ cell.cls = c ∧ f.slot < cell.slots.size ∧ k.staticTypes[f.slot]? = some f.type ∧ ¬ A a
theorem vx_L.moved {C n d : String} {A : Nat → Prop} {u U : State} {H : Heap} (hvm : u.vm.Alike U.vm) (h : vx_L C n d A u H) : vx_L C n d A U H := by
  obtain ⟨c, k, i, f, a, cell, h1, h2, h3, h4, h5, h6, h7, h8, h9, h10⟩ := h
  obtain ⟨k', hi', he⟩ := State.fieldFound?_setVm hvm h2
  exact ⟨c, k', i, f, a, cell, by rw [hvm.findClass]; exact h1, hi', h3, by rw [he]; exact h4, h5, h6, h7, h8, by rw [he]; exact h9, h10⟩
theorem vx_L.kept {C n d : String} {A : Nat → Prop} {U : State} {H H1 : Heap} (h : vx_L C n d A U H) (hq : ∀ a : Nat, a < H.size → ¬ A a → H1[a]? = H[a]?) : vx_L C n d A U H1 := by
  obtain ⟨c, k, i, f, a, cell, h1, h2, h3, h4, h5, h6, h7, h8, h9, h10⟩ := h
  exact ⟨c, k, i, f, a, cell, h1, h2, h3, h4, by rw [hq a (Array.getElem?_eq_some_iff.mp h5).1 h10]; exact h5, h6, h7, h8, h9, h10⟩
theorem vx_L.narrow {C n d : String} {A B : Nat → Prop} {U : State} {H : Heap} (h : vx_L C n d A U H) (hAB : ∀ q, B q → A q) : vx_L C n d B U H := by
  obtain ⟨c, k, i, f, a, cell, h1, h2, h3, h4, h5, h6, h7, h8, h9, h10⟩ := h
  exact ⟨c, k, i, f, a, cell, h1, h2, h3, h4, h5, h6, h7, h8, h9, fun z => h10 (hAB _ z)⟩
theorem vx_L.word {C n d : String} {A : Nat → Prop} {s : State} {args : Array Value} (h : vx_L C n d A s s.heap) : (Cond.laysStatic C n d).before args s = true := by
  obtain ⟨c, k, i, f, a, cell, h1, h2, h3, h4, h5, h6, h7, h8, h9, -⟩ := h
  show (Cond.laysStatic C n d).holds args s none s [] = true
  exact Cond.laysStatic_of h1 h2 h3 h4 h5 h6 h7 h8 h9
/-- .. and what it holds: null or some reference -/
def vx_Zq (C n d : String) (A : Nat → Prop) (U : State) (H : Heap) : Prop := va_Zq C n d A U H ∧ vx_L C n d A U H
theorem vx_Zq.moved {C n d : String} {A : Nat → Prop} {u U : State} {H : Heap} (hvm : u.vm.Alike U.vm) (h : vx_Zq C n d A u H) : vx_Zq C n d A U H := ⟨va_Zq.moved hvm h.1, vx_L.moved hvm h.2⟩
theorem vx_Zq.kept {C n d : String} {A : Nat → Prop} {U : State} {H H1 : Heap} (h : vx_Zq C n d A U H) (hq : ∀ a : Nat, a < H.size → ¬ A a → H1[a]? = H[a]?) : vx_Zq C n d A U H1 := ⟨va_Zq.kept h.1 hq, vx_L.kept h.2 hq⟩
theorem vx_Zq.narrow {C n d : String} {A B : Nat → Prop} {U : State} {H : Heap} (h : vx_Zq C n d A U H) (hAB : ∀ q, B q → A q) : vx_Zq C n d B U H := ⟨va_Zq.narrow h.1 hAB, vx_L.narrow h.2 hAB⟩
theorem vx_Zqof {args : Array Value} {s : State} {C n d : String} {A : Nat → Prop} (hl : (Cond.laysStatic C n d).before args s = true) (hini : (Cond.initialized C).before args s = true) (h : (Cond.isRef (.static C n d)).before args s = true) (hA : ∀ a : Nat, a < s.heap.size → ¬ A a) : vx_Zq C n d A s s.heap := by
  refine ⟨va_Zqof hl hini h hA, ?_⟩
  obtain ⟨c, k, i, f, a, cell, h1, h2, h3, h4, h5, h6, h7, h8, h9⟩ := Cond.laysStatic_spec hl
  exact ⟨c, k, i, f, a, cell, h1, h2, h3, h4, h5, h6, h7, h8, h9, hA a (Array.getElem?_eq_some_iff.mp h5).1⟩
theorem vx_isRef {C n d : String} {v : Value} {A : Nat → Prop} {s : State} {args : Array Value} (h : va_Z C n d v A s s.heap) (hv : v.isRef = true) : (Cond.isRef (.static C n d)).before args s = true := by
  obtain ⟨cf, kf, fi, f, a, cell, h1, h2, h3, h4, h5, h6, h7, -⟩ := h
  have he : (Term.static C n d).eval args s none [] s = some v := by
    simp [Term.eval, State.fieldNamed?, h1, h2, h4, h5, h6, h7]
  simp only [Cond.before, Cond.holds, Cond.value, he]
  cases v <;> simp_all [Value.isRef]
theorem vx_isRefq {C n d : String} {A : Nat → Prop} {s : State} {args : Array Value} (h : va_Zq C n d A s s.heap) : (Cond.isRef (.static C n d)).before args s = true := by
  rcases h with h | ⟨t, h⟩
  · exact vx_isRef h rfl
  · exact vx_isRef h rfl
/-- the same frame, seen from here: as if the method were called anew in this heap -/
theorem vx_rebase {T : State} (X : Stand p l e R s m args below meth c T locs cells slots) {R' : Room} (hf : R'.frames ≤ R.frames) (hl : R'.locals ≤ R.locals) (hc : cells + R'.cells ≤ R.cells) (hs : slots + R'.slots ≤ R.slots) :
    Stand p l e R' ((T.setVm s.vm).setFrames (.invoking m args :: below)) m args below meth c T [] 0 0 := by
  have htop : (T.setVm s.vm).topJava?.isSome := X.here.top
  have hF : ((T.setVm s.vm).setFrames (.invoking m args :: below)).frames = .invoking m args :: below := State.frames_setFrames _ (State.cur_lt_of_top htop)
  obtain ⟨g₀, hg0⟩ := Option.isSome_iff_exists.mp htop
  obtain ⟨r, hr⟩ := State.topJava?_eq_some.mp hg0
  have hl9 : e.platform.stackLimits (T.setVm s.vm).me = e.platform.stackLimits s.me := X.limits
  have hb9 : (T.setVm s.vm).me.stackBytes = s.me.stackBytes := X.bytes
  refine ⟨X.admits, X.cas, X.clock, hF, ?_, X.hears, X.method, X.code, X.here, X.tail, X.warmed, ?_, ?_, ?_⟩
  · have h := X.room
    have hU : ((T.setVm s.vm).setFrames (.invoking m args :: below)).localsInUse = s.localsInUse := by
      rw [State.localsInUse_invoking hF (meth := meth) (c := c) X.method X.code, State.localsInUse_invoking X.frames X.method X.code]
    simp only [State.hasRoom, Bool.and_eq_true, decide_eq_true_eq] at h ⊢
    obtain ⟨⟨⟨⟨h1, h2, h3, h4, h5, h6⟩, h7⟩, h8⟩, h9⟩ := h
    rw [X.frames, List.length_cons] at h2 h3
    have q1 := X.heapSize
    have q2 := X.used
    simp only [hF, hU, List.length_cons, State.stackLimits_setFrames, State.stackBytes_setFrames, hl9, hb9]
    refine ⟨⟨⟨⟨by omega, by omega, by omega, by omega, by omega, h6⟩, ?_⟩, ?_⟩, X.book⟩
    · show T.heap.size + R'.cells ≤ e.platform.maxCells
      omega
    · show T.slotsUsed + R'.slots ≤ e.platform.maxSlots
      omega
  · rw [State.stackLimits_setFrames]; rfl
  · rw [State.stackBytes_setFrames]; rfl
  · refine ⟨?_, Nat.le_refl _, Nat.le_refl _, ?_, ?_, fun a c9 h9 => ⟨c9, h9, rfl, rfl, fun _ _ => rfl⟩⟩
    · obtain ⟨t, ht, -⟩ := State.frames_cons hr
      show T.setVm s.vm = { ((T.setVm s.vm).setFrames (.invoking m args :: below)).setFrames (T.setVm s.vm).frames with heap := T.heap, slotsUsed := T.slotsUsed }
      rw [State.setFrames_setFrames, State.setFrames_self ht]
      rfl
    · show T.slotsUsed = T.slotsUsed + ((T.heap.toList.drop T.heap.size).map (·.slots.size)).sum
      rw [List.drop_eq_nil_of_le (Nat.le_of_eq Array.length_toList)]
      rfl
    · show ((T.heap.toList.drop T.heap.size).map (·.slots.size)).sum ≤ 0
      rw [List.drop_eq_nil_of_le (Nat.le_of_eq Array.length_toList)]
      exact Nat.le_refl _
/-- 'throw new E()': new; dup; invokespecial; athrow -/
theorem vx_throw0 {cc : ByteArray} {pc : Nat} (hexec : p.tables.exec = Jvm.exec) (hb : c.code = cc) (hl : l.stackTraces = false) {own cls : String} {names : List String} {ik ic mc ms : Nat} {A : Nat → Prop}
    (hown : s.vm.findClass own = some m.cls) (hcls : Bundle.fit cls = true) (hnames : ∀ n ∈ names, Bundle.fit n = true)
    (hk : (Cond.classLink own ik cls).before args s = true) (hini : (Cond.initialized cls).before args s = true) (hat : ∀ w ∈ vx_at0 own ic cls names, w.before args s = true)
    (hgood : ∀ w ∈ Cond.classLink own ik cls :: Cond.initialized cls :: vx_at0 own ic cls names, vx_ot w = true)
    (hU : vx_Zq Bundle.tN "UNASSIGNED_STACK" Bundle.steD A s s.heap) (hN : vx_Zq Bundle.tN "SUPPRESSED_SENTINEL" Bundle.listD A s s.heap) (hS : va_S A s.heap H locs) (hsize : ls.size = c.maxLocals)
    (d0 : decode cc pc = .ok (.new ik, 3)) (d3 : decode cc (pc + 3) = .ok (.dup, 1)) (d4 : decode cc (pc + 4) = .ok (.invokespecial ic, 3)) (d7 : decode cc (pc + 7) = .ok (.athrow, 1))
    (hout : ∀ x ∈ c.exceptionTable.toList, covers x (pc + 7) = false)
    (hRframes : names.length + 3 < R.frames) (hRlocals : (rest.map fun v => v.category).sum + (13 * (names.length + 1) + 42) ≤ R.locals) (hRcells : cells + 1 ≤ R.cells) (hRslots : slots + 6 ≤ R.slots) (hlocks : meth.locks = false)
    (hx : ∀ t : State, s.vm.Alike t.vm → H.size ≤ t.heap.size → (∀ q : Nat, q < H.size → t.heap[q]? = H[q]?) → XC cls s t)
    (hf : ∀ z ∈ locs, free z.base) (hc : cells + 1 ≤ mc) (hs : slots + 6 ≤ ms) :
    W p l e R s m args below meth c H locs cells slots (vx_MQ below Qc XC args s mc ms free) (F0 m pc ls rest) := by
  intro T hT X
  have htr : e.platform.stackTraces = false := (show e.platform.stackTraces = l.stackTraces by rw [X.admits.platform]).trans hl
  have Y := vx_rebase X (R' := { frames := R.frames, locals := R.locals, cells := 1, slots := 6 }) (Nat.le_refl _) (Nat.le_refl _) hRcells hRslots
  obtain ⟨s', hA⟩ : ∃ z, z = (T.setVm s.vm).setFrames (.invoking m args :: below) := ⟨_, rfl⟩
  rw [← hA] at Y
  have hvm : s'.vm = s.vm := by rw [hA]; rfl
  have hhp : s'.heap = H := by rw [hA]; exact hT
  have hW0 : s.WarmedH s'.vm := by rw [hvm]; exact State.WarmedH.refl s
  have hat' : ∀ w ∈ vx_at0 own ic cls names, w.before args s' = true := fun w hw => vx_ot_at hW0 hvm.symm (hgood w (List.mem_cons_of_mem _ (List.mem_cons_of_mem _ hw))) (hat w hw)
  have hk' : (Cond.classLink own ik cls).before args s' = true := vx_ot_at hW0 hvm.symm (hgood _ List.mem_cons_self) hk
  have hini' : (Cond.initialized cls).before args s' = true := vx_ot_at hW0 hvm.symm (hgood _ (List.mem_cons_of_mem _ List.mem_cons_self)) hini
  have hU' : vx_Zq Bundle.tN "UNASSIGNED_STACK" Bundle.steD A s' s'.heap := by rw [hhp]; exact vx_Zq.moved hW0.alike (hU.kept hS.2.1)
  have hN' : vx_Zq Bundle.tN "SUPPRESSED_SENTINEL" Bundle.listD A s' s'.heap := by rw [hhp]; exact vx_Zq.moved hW0.alike (hN.kept hS.2.1)
  have h : ∀ w ∈ Bundle.ownAtoms0 own ic cls names, w.before args s' = true := vx_own hat' (vx_isRefq hU'.1) (vx_isRefq hN'.1) hU'.2.word hN'.2.word
  have hown' : s'.vm.findClass own = some m.cls := by rw [hvm]; exact hown
  have hins : (Cond.instantiable cls 6).before args s' = true := h _ (by simp [Bundle.ownAtoms0])
  obtain ⟨vm₁, cX, kX, hfX, hkX, -, -, X₁, st1⟩ := Y.newCold hexec (own := own) (C := cls) (index := ik) (n := 6) hown' hk' hins hini'
    (g := F0 m pc ls rest) rfl (by rw [hb]; exact d0) (Nat.le_refl _) (Nat.le_refl _)
  generalize hT1 : (T.setVm vm₁).pushCell { cls := cX, slots := kX.instanceTypes.map defaultValue, vm := .none } = T1 at X₁ st1
  have hcat : (Value.ref T.heap.size).category = 1 := rfl
  have hcellA : T1.heap[T.heap.size]? = some (freshCell cX kX) := by rw [← hT1]; exact State.heap_pushCell_size _ _
  have d3' : decode c.code (pc + 3) = .ok (.dup, 1) := by rw [hb]; exact d3
  obtain ⟨U, hsteps, hrun, hend, hW, hsame, ce, hce, hO⟩ := X₁.ctorThrow0 hexec htr (own := own) (cls := cls) (names := names) (ic := ic) hown' hcls hnames h (fun x hx => nomatch hx) hfX hkX hcellA (by rw [hhp, hT]; exact Nat.le_refl _)
    (g := { method := m, pc := pc + 4, locals := ls, stack := .ref T.heap.size :: .ref T.heap.size :: rest, locked := none }) rfl hsize rfl rfl (rest := rest) rfl
    (by rw [hb]; exact d4) (by rw [hb]; exact d7) hout hRframes (by simp only [List.map_cons, List.sum_cons, hcat]; omega) hlocks
  obtain ⟨f1, f2⟩ := vx_frame hsame
  rw [hhp] at f1 f2
  have hWs : s.WarmedH U.vm := State.WarmedH.trans hW0 hW
  have hcl : s.vm.findClass cls = some ce.cls := by
    have h9 := hO.cls
    rw [hvm] at h9
    exact h9
  have hall : s.sameButNew ({ U with vm := s.vm } : State) locs mc ms := by
    subst hA
    obtain ⟨e1, e2⟩ := hsame
    rw [State.setFrames_setFrames] at e1
    have h2 : (T.setVm s.vm).sameButNew ({ U with vm := s.vm } : State) [] (0 + 1) (0 + 6) := ⟨e1, e2⟩
    have h3 := X.same.trans h2
    rw [List.append_nil] at h3
    exact h3.mono hc hs
  refine ⟨U, ?_, .threw T.heap.size, hrun, hend, Or.inr ⟨T.heap.size, rfl, cls, ce, locs, hx U hWs.alike f1 (fun q hq => f2 q hq (fun z hz => nomatch hz)), hce, hO.vm, hcl, hWs, hall, hf⟩⟩
  refine st1 _ ?_
  show Steps p.tables e below (T1.setTop { method := m, pc := pc + 3, locals := ls, stack := .ref T.heap.size :: rest, locked := none }) _
  jvm_step X₁.here [X₁.here.top, hexec, d3', Value.category]
  exact hsteps
/-- 'throw new E("text")': new; dup; ldc; invokespecial; athrow -/
theorem vx_throwS {cc : ByteArray} {pc : Nat} (hexec : p.tables.exec = Jvm.exec) (hb : c.code = cc) (hl : l.stackTraces = false) {own cls text : String} {names : List String} {ik is ic mc ms sa : Nat} {A : Nat → Prop}
    (hown : s.vm.findClass own = some m.cls) (hcls : Bundle.fit cls = true) (hnames : ∀ n ∈ names, Bundle.fit n = true)
    (hk : (Cond.classLink own ik cls).before args s = true) (hini : (Cond.initialized cls).before args s = true) (hstr : vk_R own is text sa s) (hat : ∀ w ∈ vx_atS own ic cls names, w.before args s = true)
    (hgood : ∀ w ∈ Cond.classLink own ik cls :: Cond.initialized cls :: vx_atS own ic cls names, vx_ot w = true)
    (hU : vx_Zq Bundle.tN "UNASSIGNED_STACK" Bundle.steD A s s.heap) (hN : vx_Zq Bundle.tN "SUPPRESSED_SENTINEL" Bundle.listD A s s.heap) (hS : va_S A s.heap H locs) (hsize : ls.size = c.maxLocals)
    (d0 : decode cc pc = .ok (.new ik, 3)) (d3 : decode cc (pc + 3) = .ok (.dup, 1)) (d4 : decode cc (pc + 4) = .ok (.ldc is, 2)) (d6 : decode cc (pc + 6) = .ok (.invokespecial ic, 3)) (d9 : decode cc (pc + 9) = .ok (.athrow, 1))
    (hout : ∀ x ∈ c.exceptionTable.toList, covers x (pc + 9) = false)
    (hRframes : names.length + 3 < R.frames) (hRlocals : (rest.map fun v => v.category).sum + (13 * (names.length + 1) + 43) ≤ R.locals) (hRcells : cells + 1 ≤ R.cells) (hRslots : slots + 6 ≤ R.slots) (hlocks : meth.locks = false)
    (hx : ∀ t : State, s.vm.Alike t.vm → H.size ≤ t.heap.size → (∀ q : Nat, q < H.size → t.heap[q]? = H[q]?) → XC cls s t)
    (hf : ∀ z ∈ locs, free z.base) (hc : cells + 1 ≤ mc) (hs : slots + 6 ≤ ms) :
    W p l e R s m args below meth c H locs cells slots (vx_MQ below Qc XC args s mc ms free) (F0 m pc ls rest) := by
  intro T hT X
  have htr : e.platform.stackTraces = false := (show e.platform.stackTraces = l.stackTraces by rw [X.admits.platform]).trans hl
  have Y := vx_rebase X (R' := { frames := R.frames, locals := R.locals, cells := 1, slots := 6 }) (Nat.le_refl _) (Nat.le_refl _) hRcells hRslots
  obtain ⟨s', hA⟩ : ∃ z, z = (T.setVm s.vm).setFrames (.invoking m args :: below) := ⟨_, rfl⟩
  rw [← hA] at Y
  have hvm : s'.vm = s.vm := by rw [hA]; rfl
  have hhp : s'.heap = H := by rw [hA]; exact hT
  have hW0 : s.WarmedH s'.vm := by rw [hvm]; exact State.WarmedH.refl s
  have hat' : ∀ w ∈ vx_atS own ic cls names, w.before args s' = true := fun w hw => vx_ot_at hW0 hvm.symm (hgood w (List.mem_cons_of_mem _ (List.mem_cons_of_mem _ hw))) (hat w hw)
  have hk' : (Cond.classLink own ik cls).before args s' = true := vx_ot_at hW0 hvm.symm (hgood _ List.mem_cons_self) hk
  have hini' : (Cond.initialized cls).before args s' = true := vx_ot_at hW0 hvm.symm (hgood _ (List.mem_cons_of_mem _ List.mem_cons_self)) hini
  have hU' : vx_Zq Bundle.tN "UNASSIGNED_STACK" Bundle.steD A s' s'.heap := by rw [hhp]; exact vx_Zq.moved hW0.alike (hU.kept hS.2.1)
  have hN' : vx_Zq Bundle.tN "SUPPRESSED_SENTINEL" Bundle.listD A s' s'.heap := by rw [hhp]; exact vx_Zq.moved hW0.alike (hN.kept hS.2.1)
  have h : ∀ w ∈ Bundle.ownAtoms own ic cls names, w.before args s' = true := vx_own hat' (vx_isRefq hU'.1) (vx_isRefq hN'.1) hU'.2.word hN'.2.word
  have hown' : s'.vm.findClass own = some m.cls := by rw [hvm]; exact hown
  have hins : (Cond.instantiable cls 6).before args s' = true := h _ (by simp [Bundle.ownAtoms])
  obtain ⟨vm₁, cX, kX, hfX, hkX, -, -, X₁, st1⟩ := Y.newCold hexec (own := own) (C := cls) (index := ik) (n := 6) hown' hk' hins hini'
    (g := F0 m pc ls rest) rfl (by rw [hb]; exact d0) (Nat.le_refl _) (Nat.le_refl _)
  generalize hT1 : (T.setVm vm₁).pushCell { cls := cX, slots := kX.instanceTypes.map defaultValue, vm := .none } = T1 at X₁ st1
  have hcat : (Value.ref T.heap.size).category = 1 := rfl
  have hcellA : T1.heap[T.heap.size]? = some (freshCell cX kX) := by rw [← hT1]; exact State.heap_pushCell_size _ _
  have d3' : decode c.code (pc + 3) = .ok (.dup, 1) := by rw [hb]; exact d3
  have d4' : decode c.code (pc + 4) = .ok (.ldc is, 2) := by rw [hb]; exact d4
  have hstr' : vk_R own is text sa s' := vk_R.warm hW0 hstr
  obtain ⟨U, hsteps, hrun, hend, hW, hsame, ce, hce, hO⟩ := X₁.ctorThrowS hexec htr (own := own) (cls := cls) (names := names) (ic := ic) hown' hcls hnames h (fun x hx => nomatch hx) hfX hkX hcellA (by rw [hhp, hT]; exact Nat.le_refl _) (msg := .ref sa) rfl
    (g := { method := m, pc := pc + 6, locals := ls, stack := .ref sa :: .ref T.heap.size :: .ref T.heap.size :: rest, locked := none }) rfl hsize rfl rfl (rest := rest) rfl
    (by rw [hb]; exact d6) (by rw [hb]; exact d9) hout hRframes (by simp only [List.map_cons, List.sum_cons, hcat]; omega) hlocks
  obtain ⟨f1, f2⟩ := vx_frame hsame
  rw [hhp] at f1 f2
  have hWs : s.WarmedH U.vm := State.WarmedH.trans hW0 hW
  have hcl : s.vm.findClass cls = some ce.cls := by
    have h9 := hO.cls
    rw [hvm] at h9
    exact h9
  have hall : s.sameButNew ({ U with vm := s.vm } : State) locs mc ms := by
    subst hA
    obtain ⟨e1, e2⟩ := hsame
    rw [State.setFrames_setFrames] at e1
    have h2 : (T.setVm s.vm).sameButNew ({ U with vm := s.vm } : State) [] (0 + 1) (0 + 6) := ⟨e1, e2⟩
    have h3 := X.same.trans h2
    rw [List.append_nil] at h3
    exact h3.mono hc hs
  refine ⟨U, ?_, .threw T.heap.size, hrun, hend, Or.inr ⟨T.heap.size, rfl, cls, ce, locs, hx U hWs.alike f1 (fun q hq => f2 q hq (fun z hz => nomatch hz)), hce, hO.vm, hcl, hWs, hall, hf⟩⟩
  refine st1 _ ?_
  show Steps p.tables e below (T1.setTop { method := m, pc := pc + 3, locals := ls, stack := .ref T.heap.size :: rest, locked := none }) _
  jvm_step X₁.here [X₁.here.top, hexec, d3', Value.category]
  exact X₁.ldcString hexec (own := own) (text := text) (index := is) (a := sa) hown' hstr'.1 hstr'.2
    (g := { method := m, pc := pc + 4, locals := ls, stack := .ref T.heap.size :: .ref T.heap.size :: rest, locked := none }) rfl d4' _ hsteps
/-- 'throw new E("text")', the text by a wide index -/
theorem vx_throwSW {cc : ByteArray} {pc : Nat} (hexec : p.tables.exec = Jvm.exec) (hb : c.code = cc) (hl : l.stackTraces = false) {own cls text : String} {names : List String} {ik is ic mc ms sa : Nat} {A : Nat → Prop}
    (hown : s.vm.findClass own = some m.cls) (hcls : Bundle.fit cls = true) (hnames : ∀ n ∈ names, Bundle.fit n = true)
    (hk : (Cond.classLink own ik cls).before args s = true) (hini : (Cond.initialized cls).before args s = true) (hstr : vk_R own is text sa s) (hat : ∀ w ∈ vx_atS own ic cls names, w.before args s = true)
    (hgood : ∀ w ∈ Cond.classLink own ik cls :: Cond.initialized cls :: vx_atS own ic cls names, vx_ot w = true)
    (hU : vx_Zq Bundle.tN "UNASSIGNED_STACK" Bundle.steD A s s.heap) (hN : vx_Zq Bundle.tN "SUPPRESSED_SENTINEL" Bundle.listD A s s.heap) (hS : va_S A s.heap H locs) (hsize : ls.size = c.maxLocals)
    (d0 : decode cc pc = .ok (.new ik, 3)) (d3 : decode cc (pc + 3) = .ok (.dup, 1)) (d4 : decode cc (pc + 4) = .ok (.ldc_w is, 3)) (d7 : decode cc (pc + 7) = .ok (.invokespecial ic, 3)) (d10 : decode cc (pc + 10) = .ok (.athrow, 1))
    (hout : ∀ x ∈ c.exceptionTable.toList, covers x (pc + 10) = false)
    (hRframes : names.length + 3 < R.frames) (hRlocals : (rest.map fun v => v.category).sum + (13 * (names.length + 1) + 43) ≤ R.locals) (hRcells : cells + 1 ≤ R.cells) (hRslots : slots + 6 ≤ R.slots) (hlocks : meth.locks = false)
    (hx : ∀ t : State, s.vm.Alike t.vm → H.size ≤ t.heap.size → (∀ q : Nat, q < H.size → t.heap[q]? = H[q]?) → XC cls s t)
    (hf : ∀ z ∈ locs, free z.base) (hc : cells + 1 ≤ mc) (hs : slots + 6 ≤ ms) :
    W p l e R s m args below meth c H locs cells slots (vx_MQ below Qc XC args s mc ms free) (F0 m pc ls rest) := by
  intro T hT X
  have htr : e.platform.stackTraces = false := (show e.platform.stackTraces = l.stackTraces by rw [X.admits.platform]).trans hl
  have Y := vx_rebase X (R' := { frames := R.frames, locals := R.locals, cells := 1, slots := 6 }) (Nat.le_refl _) (Nat.le_refl _) hRcells hRslots
  obtain ⟨s', hA⟩ : ∃ z, z = (T.setVm s.vm).setFrames (.invoking m args :: below) := ⟨_, rfl⟩
  rw [← hA] at Y
  have hvm : s'.vm = s.vm := by rw [hA]; rfl
  have hhp : s'.heap = H := by rw [hA]; exact hT
  have hW0 : s.WarmedH s'.vm := by rw [hvm]; exact State.WarmedH.refl s
  have hat' : ∀ w ∈ vx_atS own ic cls names, w.before args s' = true := fun w hw => vx_ot_at hW0 hvm.symm (hgood w (List.mem_cons_of_mem _ (List.mem_cons_of_mem _ hw))) (hat w hw)
  have hk' : (Cond.classLink own ik cls).before args s' = true := vx_ot_at hW0 hvm.symm (hgood _ List.mem_cons_self) hk
  have hini' : (Cond.initialized cls).before args s' = true := vx_ot_at hW0 hvm.symm (hgood _ (List.mem_cons_of_mem _ List.mem_cons_self)) hini
  have hU' : vx_Zq Bundle.tN "UNASSIGNED_STACK" Bundle.steD A s' s'.heap := by rw [hhp]; exact vx_Zq.moved hW0.alike (hU.kept hS.2.1)
  have hN' : vx_Zq Bundle.tN "SUPPRESSED_SENTINEL" Bundle.listD A s' s'.heap := by rw [hhp]; exact vx_Zq.moved hW0.alike (hN.kept hS.2.1)
  have h : ∀ w ∈ Bundle.ownAtoms own ic cls names, w.before args s' = true := vx_own hat' (vx_isRefq hU'.1) (vx_isRefq hN'.1) hU'.2.word hN'.2.word
  have hown' : s'.vm.findClass own = some m.cls := by rw [hvm]; exact hown
  have hins : (Cond.instantiable cls 6).before args s' = true := h _ (by simp [Bundle.ownAtoms])
  obtain ⟨vm₁, cX, kX, hfX, hkX, -, -, X₁, st1⟩ := Y.newCold hexec (own := own) (C := cls) (index := ik) (n := 6) hown' hk' hins hini'
    (g := F0 m pc ls rest) rfl (by rw [hb]; exact d0) (Nat.le_refl _) (Nat.le_refl _)
  generalize hT1 : (T.setVm vm₁).pushCell { cls := cX, slots := kX.instanceTypes.map defaultValue, vm := .none } = T1 at X₁ st1
  have hcat : (Value.ref T.heap.size).category = 1 := rfl
  have hcellA : T1.heap[T.heap.size]? = some (freshCell cX kX) := by rw [← hT1]; exact State.heap_pushCell_size _ _
  have d3' : decode c.code (pc + 3) = .ok (.dup, 1) := by rw [hb]; exact d3
  have d4' : decode c.code (pc + 4) = .ok (.ldc_w is, 3) := by rw [hb]; exact d4
  have hstr' : vk_R own is text sa s' := vk_R.warm hW0 hstr
  obtain ⟨U, hsteps, hrun, hend, hW, hsame, ce, hce, hO⟩ := X₁.ctorThrowS hexec htr (own := own) (cls := cls) (names := names) (ic := ic) hown' hcls hnames h (fun x hx => nomatch hx) hfX hkX hcellA (by rw [hhp, hT]; exact Nat.le_refl _) (msg := .ref sa) rfl
    (g := { method := m, pc := pc + 7, locals := ls, stack := .ref sa :: .ref T.heap.size :: .ref T.heap.size :: rest, locked := none }) rfl hsize rfl rfl (rest := rest) rfl
    (by rw [hb]; exact d7) (by rw [hb]; exact d10) hout hRframes (by simp only [List.map_cons, List.sum_cons, hcat]; omega) hlocks
  obtain ⟨f1, f2⟩ := vx_frame hsame
  rw [hhp] at f1 f2
  have hWs : s.WarmedH U.vm := State.WarmedH.trans hW0 hW
  have hcl : s.vm.findClass cls = some ce.cls := by
    have h9 := hO.cls
    rw [hvm] at h9
    exact h9
  have hall : s.sameButNew ({ U with vm := s.vm } : State) locs mc ms := by
    subst hA
    obtain ⟨e1, e2⟩ := hsame
    rw [State.setFrames_setFrames] at e1
    have h2 : (T.setVm s.vm).sameButNew ({ U with vm := s.vm } : State) [] (0 + 1) (0 + 6) := ⟨e1, e2⟩
    have h3 := X.same.trans h2
    rw [List.append_nil] at h3
    exact h3.mono hc hs
  refine ⟨U, ?_, .threw T.heap.size, hrun, hend, Or.inr ⟨T.heap.size, rfl, cls, ce, locs, hx U hWs.alike f1 (fun q hq => f2 q hq (fun z hz => nomatch hz)), hce, hO.vm, hcl, hWs, hall, hf⟩⟩
  refine st1 _ ?_
  show Steps p.tables e below (T1.setTop { method := m, pc := pc + 3, locals := ls, stack := .ref T.heap.size :: rest, locked := none }) _
  jvm_step X₁.here [X₁.here.top, hexec, d3', Value.category]
  exact X₁.ldcStringW hexec (own := own) (text := text) (index := is) (a := sa) hown' hstr'.1 hstr'.2
    (g := { method := m, pc := pc + 4, locals := ls, stack := .ref T.heap.size :: .ref T.heap.size :: rest, locked := none }) rfl d4' _ hsteps
end Ends
section Bodies
variable {l : Launch}
theorem vx_ofW {y : MethodName} {ws ws' : List Cond} {rm : Room} {Pc : Array Value → State → Prop} {Qc : Array Value → State → Outcome → State → Prop} {XC : String → State → State → Prop} {mc ms : Nat} {free : Addr → Prop} {cc : ByteArray} {maxL : Nat} {ret : Option FieldType}
    (hy : plainName y.cls = true) (hw : ws = Cond.code y cc maxL ret :: ws')
    (body : ∀ p e s m args below meth c s₁, BodyLoose p l y (headSpec ws rm) cc maxL ret e s m args below meth c s₁ → c.maxLocals = maxL → (∀ x ∈ c.exceptionTable.toList, False) → Pc args s →
      W p l e (headSpec ws rm).room s m args below meth c s.heap [] 0 0 (vx_MQ below Qc XC args s mc ms free) (entryFrame m args maxL)) : vx_Met l y ws rm Pc Qc XC mc ms free := by
  refine MetFree.of_bodyS (code := cc) (maxLocals := maxL) (ret := ret) hy ?_ ?_
  · intro args s m h hn
    obtain ⟨meth, c, h1, h2, h3, h4, h5, h6, -, -⟩ := Cond.code_spec hn (atoms_spec (ws := ws) h _ (by rw [hw]; exact List.mem_cons_self))
    exact ⟨meth, c, h1, h2, h3, h4, h5, h6⟩
  · intro p e s m args below meth c s₁ B hml hP _
    have hh0 : s₁.heap = s.heap := by rw [B.state]; rfl
    have ht : ∀ x ∈ c.exceptionTable.toList, False := by
      obtain ⟨meth9, c9, h1, h2, -, -, -, -, h7, -⟩ := Cond.code_spec B.named (atoms_spec (ws := ws) B.pre _ (by rw [hw]; exact List.mem_cons_self))
      cases Option.some.inj (h1.symm.trans B.method)
      cases Option.some.inj (h2.symm.trans (Stand.of_body B).code)
      intro x hx
      rw [Array.isEmpty_iff.mp h7] at hx
      cases hx
    obtain ⟨t, a1, o, b1, b2, b3⟩ := body p e s m args below meth c s₁ B hml ht hP s₁ hh0 (Stand.of_body B)
    exact ⟨t, o, a1, b1, b2, b3⟩
/-- the table of a body with handlers -/
theorem vx_table {p : Program} {x y : MethodName} {S : Spec} {cc bytes : ByteArray} {maxL maxL' : Nat} {ret ret' : Option FieldType} {e : Env} {s s₁ : State} {m : MethodId} {args : Array Value} {below : List Frame} {meth : Method} {c : Code} {hh : List (Nat × Nat × Nat × Nat)}
    (B : BodyLoose p l y S cc maxL ret e s m args below meth c s₁) (h : (Cond.codeWith y bytes maxL' ret' hh).before args s = true) : c.exceptionTable.toList = tableOf hh := by
  obtain ⟨m9, meth9, c9, hn9, h1, h2, -, -, h6, -⟩ := Cond.codeWith_spec h
  cases Option.some.inj (hn9.symm.trans B.named)
  cases Option.some.inj (h1.symm.trans B.method)
  cases Option.some.inj (h2.symm.trans (Stand.of_body B).code)
  rw [← h6, table_eq]
end Bodies
end VXA
/-! ===== END ===== -/
/-! ===== BEGIN a static call of a method with an exception table ===== -/
section VXS
variable {p : Program} {l : Launch} {e : Env} {R : Room} {s : State} {m : MethodId} {args : Array Value} {below : List Frame} {meth : Method} {c : Code} {T : State} {H : Heap} {locs : List Loc} {cells slots : Nat}
abbrev vx_CSW (R : Room) (s : State) (args : Array Value) (own : String) (index : Nat) (y : MethodName) (bytes : ByteArray) (maxL : Nat) (ret : Option FieldType) (hh : List (Nat × Nat × Nat × Nat)) (ws : List Cond) (rm : Room) (mc ms n : Nat) : Prop :=
  (rm.cells = mc ∧ rm.slots = ms ∧ rm.frames + 1 ≤ R.frames ∧ 8 + (maxL + 11) + rm.locals ≤ R.locals ∧ (∀ w ∈ ws, ∀ (a' : Array Value) (U : State), s.WarmedH U.vm → w.before a' U = true) ∧ Cond.codeWith y bytes maxL ret hh ∈ ws) ∧
  (Cond.codeWith y bytes maxL ret hh).before args s = true ∧ (Cond.initialized y.cls).before args s = true ∧ (y.cls ≠ "java/lang/invoke/MethodHandle" ∧ y.cls ≠ "java/lang/invoke/VarHandle") ∧
  (∀ sig, parseMethodDescriptor y.desc = some sig → n = sig.parameters.length) ∧ (Cond.methodLink own index y).before args s = true ∧ (Cond.static y).before args s = true
theorem vx_cwSW {own : String} {index maxL mc ms : Nat} {y : MethodName} {bytes : ByteArray} {ret : Option FieldType} {hh : List (Nat × Nat × Nat × Nat)} {Ts ws ws' : List Cond} {rm : Room} (n : Nat) (ht : ∀ w ∈ Ts, w.before args s = true) (hT : GoodIn Ts (va_wsS own index y ws)) (hw : ws = Cond.codeWith y bytes maxL ret hh :: ws') (hrc : rm.cells = mc) (hrs : rm.slots = ms)
    (hd : y.cls ≠ "java/lang/invoke/MethodHandle" ∧ y.cls ≠ "java/lang/invoke/VarHandle" ∧ (parseMethodDescriptor y.desc).map (fun d => d.parameters.length) = some n) (hR : rm.frames + 1 ≤ R.frames ∧ 8 + (maxL + 11) + rm.locals ≤ R.locals) :
    vx_CSW R s args own index y bytes maxL ret hh ws rm mc ms n := by
  have ok : ∀ w ∈ va_wsS own index y ws, w.before args s = true := fun w h => ht w (hT w h).1
  have hG : GoodIn Ts ws := fun w h => hT w (by unfold va_wsS; exact List.mem_append_right _ h)
  have hc : Cond.codeWith y bytes maxL ret hh ∈ ws := by rw [hw]; exact List.mem_cons_self
  refine ⟨⟨hrc, hrs, hR.1, hR.2, pay_in ht hG, hc⟩, ht _ (hG _ hc).1, ok _ (by simp [va_wsS]), ⟨hd.1, hd.2.1⟩, fun sig h => ?_, ok _ (by simp [va_wsS]), ok _ (by simp [va_wsS])⟩
  have h2 := hd.2.2
  rw [h] at h2
  exact (Option.some.inj h2).symm
theorem vx_callSW (X : Stand p l e R s m args below meth c T locs cells slots) (hexec : p.tables.exec = Jvm.exec) {own : String} {index : Nat} {y : MethodName} {bytes : ByteArray} {maxL : Nat} {ret : Option FieldType} {hh : List (Nat × Nat × Nat × Nat)}
    (hown : s.vm.findClass own = some m.cls) (hlink : (Cond.methodLink own index y).before args s = true) (hstat : (Cond.static y).before args s = true) (hinit : (Cond.initialized y.cls).before args s = true)
    (hcode : (Cond.codeWith y bytes maxL ret hh).before args s = true) (hy : y.cls ≠ "java/lang/invoke/MethodHandle" ∧ y.cls ≠ "java/lang/invoke/VarHandle")
    {W9 : Nat} {Pre : Pt → Array Value → Prop} {Post : Pt → Array Value → Option Value → Pt → Prop} (hK : Back l R p e below s args y 3 W9 Pre Post)
    {g : JFrame} (hg : g.method = m) (hsize : g.locals.size = c.maxLocals) {argsL rest : List Value} (hlen : ∀ sig, parseMethodDescriptor y.desc = some sig → argsL.length = sig.parameters.length)
    (hstack : g.stack = argsL.reverse ++ rest) (hW : 2 * g.monitorRoom + (rest.map fun v => v.category).sum ≤ W9) (hdg : decode c.code g.pc = .ok (.invokestatic index, 3))
    (hpre : ∀ vm₁, s.WarmedH vm₁ → Pre ⟨T.setVm vm₁, locs, cells, slots⟩ argsL.toArray) :
    ∃ (v : Option Value) (vm₁ : Vm) (B : Pt), s.WarmedH vm₁ ∧ Stand p l e R s m args below meth c B.U B.locs B.cells B.slots ∧ Post ⟨T.setVm vm₁, locs, cells, slots⟩ argsL.toArray v B ∧
      ∀ target, Steps p.tables e below (B.U.setTop { g with pc := g.pc + 3, stack := v.toList ++ rest }) target → Steps p.tables e below (T.setTop g) target := by
  obtain ⟨mk, methM, cM, hnamed, hmethM, -, -, -, -, -, -, hsigM⟩ := Cond.codeWith_spec hcode
  have hstatic : methM.isStatic = true := Cond.static_spec hnamed hmethM hstat
  obtain ⟨kP, hkP, -⟩ := className_of_methodNamed hnamed
  have hinitP : kP.init = .initialized := Cond.initialized_spec (findClass_of_methodNamed hnamed) hkP hinit
  obtain ⟨vm₁, X₁, hstep₁⟩ := X.invokestatic hexec hown hlink hnamed hmethM hstatic hkP hinitP hy (g := g) hg (argsL := argsL) (rest := rest) (hlen _ hsigM) hstack hdg
  obtain ⟨v, B, X', hpost, hsteps⟩ := hK m meth c ⟨T.setVm vm₁, locs, cells, slots⟩ { g with stack := rest } (.invokestatic index) mk argsL.toArray X₁ hg hsize hdg hW (X₁.named hnamed) (hpre vm₁ X₁.warmed)
  exact ⟨v, vm₁, B, X₁.warmed, X', hpost, fun target h => hstep₁ _ fun acts => by rw [doInvoke_state]; exact hsteps.trans h⟩
theorem vx_runSW {y : MethodName} {bytes cc : ByteArray} {maxL nL mc ms n index : Nat} {ret : Option FieldType} {hh : List (Nat × Nat × Nat × Nat)} {ws : List Cond} {rm : Room} {Pc : Array Value → State → Prop} {Qc : Array Value → State → Outcome → State → Prop} {free : Addr → Prop} {Ts : List Cond} {own : String} {As rest : List Value} {g : JFrame}
    (S : CallFix p m c cc nL s args Ts own) (hM : Met l y ws rm Pc Qc mc ms free) (cw : vx_CSW R s args own index y bytes maxL ret hh ws rm mc ms n) (hp : PreS s H Pc As)
    (hg : g.method = m) (hn : As.length = n) (hsize : g.locals.size = nL) (hstack : g.stack = As.reverse ++ rest) (hW : 2 * g.monitorRoom + (rest.map fun v => v.category).sum ≤ 8) (hdg : decode cc g.pc = .ok (.invokestatic index, 3)) (hf : cells + mc ≤ R.cells ∧ slots + ms ≤ R.slots) :
    va_Run p l e R s m args below meth c H locs cells slots mc ms g rest (Qc As.toArray) (free) := by
  obtain ⟨⟨hrc, hrs, hfr, hlo, hws, hcw⟩, hcode, hini, hy, hlen, hl, hstt⟩ := cw
  have hK : Back l R p e below s args y 3 8 (PreOf R mc ms Pc) (PostOf Qc mc ms free) := va_backW (hh := hh) (bytes := bytes) (maxL := maxL) (ret := ret) hM hp.1 hrc hrs hfr hlo hws hcw (fun a' U hW => word_at hW (Or.inl (by first | rfl | simp [Cond.onTables, Cond.keeps, Cond.steady])) hini)
  obtain ⟨hx, hb, hml, ho, -⟩ := S
  intro T hT X
  obtain ⟨v, vm₁, ⟨U', l2, c2, s2⟩, hW₁, X', ⟨g', mk, t, L, e1, e2, hq, h1, hL, h2, h3⟩, st⟩ := vx_callSW X hx (hh := hh) (bytes := bytes) (maxL := maxL) (ret := ret) ho hl hstt hini hcode hy hK hg (hsize.trans hml.symm) (argsL := As) (rest := rest) (fun sig h => hn.trans (hlen sig h)) hstack hW (by rw [hb]; exact hdg)
    (fun vm₁ hW₁ => ⟨hf.1, hf.2, hp.2 (T.setVm vm₁) hT hW₁⟩)
  dsimp only [Pt.U, Pt.locs, Pt.cells, Pt.slots] at X' e1 e2 h1 h2 h3 st
  subst h1; subst h2; subst h3
  exact ⟨v, (T.setVm vm₁).calling g' mk As.toArray, t, U', L, hT, X', hL, e1, e2, hq, st⟩
/-- not caught here, past rows that name other classes: it goes on to the caller -/
theorem vx_outP {p : Program} {l : Launch} {e : Env} {R : Room} {s : State} {m : MethodId} {args : Array Value} {below : List Frame} {meth : Method} {c : Code} {H : Heap} {locs : List Loc} {cells slots : Nat} {free : Addr → Prop} {ls : Array Slot} {rest : List Value} {Qc : Array Value → State → Outcome → State → Prop} {XC : String → State → State → Prop}
    {pc : Nat} {own E : String} {ce : Cell} {q : Addr} {mc ms : Nat} (hown : s.vm.findClass own = some m.cls) (hlocks : meth.locks = false)
    (hpass : ∀ z ∈ c.exceptionTable.toList, covers z pc = false ∨ (z.catchType ≠ 0 ∧ ∃ nm : String, (Cond.classLink own z.catchType nm).before args s = true ∧ va_Nc E nm s)) (hcell : H[q]? = some ce) (hv : ce.vm = .none) (hcl : s.vm.findClass E = some ce.cls)
    (hx : ∀ t : State, t.heap = H → s.vm.Alike t.vm → XC E s t) (hf : ∀ z ∈ locs, free z.base) (hc : cells ≤ mc) (hs : slots ≤ ms) :
    vx_W p l e R s m args below meth c H locs cells slots (vx_MQ below Qc XC args s mc ms free) (F0 m pc ls rest) q := by
  intro T hT X
  have hpl : e.platform.magicAccessors = ({} : Platform).magicAccessors := by rw [X.admits.platform]
  obtain ⟨vm', hW', X', st⟩ := X.outThrough hlocks q (g := F0 m pc ls rest) rfl rfl rfl (cell := ce) (by rw [hT]; exact hcell) (by rw [hv]; rfl)
    (by obtain ⟨k9, h9, -⟩ := Vm.findClass_spec hcl; exact ⟨k9, h9⟩) (fun z hz => by
      rcases hpass z hz with h | ⟨hz0, nm, hl1, hn1⟩
      · exact Or.inl h
      · obtain ⟨c6, hc6, hcl6⟩ := Cond.classLink_spec hown hl1 e.platform hpl
        obtain ⟨a8, b8, h1, h2, h3⟩ := hn1
        cases Option.some.inj (h1.symm.trans hcl)
        cases Option.some.inj (h2.symm.trans hc6)
        exact Or.inr ⟨hz0, _, hcl6, h3⟩)
  obtain ⟨g₀, hfr⟩ := X'.frames_eq
  have hcell9 : ((T.setVm vm').setFrames (.throwing q :: below)).heap[q]? = some ce := by
    show T.heap[q]? = some ce
    rw [hT]; exact hcell
  have hend : Ended ((T.setVm vm').setFrames (.throwing q :: below)) below (.threw q) := State.frames_setFrames _ (State.cur_lt_of_frames hfr)
  refine ⟨(T.setVm vm').setFrames (.throwing q :: below), ?_, .threw q, X'.here.running, hend, Or.inr ⟨q, rfl, E, ce, locs, hx _ hT (X'.ends _).1.alike, hcell9, hv, hcl, (X'.ends _).1, (X'.ends _).2.mono hc hs, hf⟩⟩
  rw [X.pushThrowing_eq]
  exact st
/-- a thing of a world lies in the heap -/
theorem vx_lt {D : va_G} {cl : List vw_C} {ws : va_W} {H1 : Heap} (h : va_P D cl ws H1) {k : Nat} {q : Nat × va_E} (hk : ws[k]? = some q) : q.1 < H1.size := (h k q hk).lt
end VXS
/-! ===== END ===== -/
/-! ===== BEGIN methods with a table of their own: called by a name, returning or throwing ===== -/
section VXH
/-! vx_backW, vx_callVX, vx_callSX, vx_callVW, vx_runVW, vx_runVX, vx_runSX, vx_ofWH follow the same proofs as their sisters above (Free/Laws.lean, Shelf42/LK1.lean); vx_outP calls Shelf42/NT130.lean (outThrough). -/
section
variable {l : Launch} {R : Room} {p : Program} {e : Env} {below : List Frame} {s : State} {sargs : Array Value} {y : MethodName} {len W9 : Nat}
theorem vx_backW {ws : List Cond} {rm : Room} {Pc : Array Value → State → Prop} {Qc : Array Value → State → Outcome → State → Prop} {XC : String → State → State → Prop} {mc ms : Nat} {free : Addr → Prop} {bytes : ByteArray} {maxL : Nat} {ret : Option FieldType} {hh : List (Nat × Nat × Nat × Nat)}
    (hM : vx_Met l y ws rm Pc Qc XC mc ms free) (hblind : FrameBlind Pc) (hrc : rm.cells = mc) (hrs : rm.slots = ms)
    (hframes : rm.frames + 1 ≤ R.frames) (hlocals : W9 + (maxL + 11) + rm.locals ≤ R.locals)
    (hws : ∀ w ∈ ws, ∀ a' U, s.WarmedH U.vm → w.before a' U = true) (hcode : Cond.codeWith y bytes maxL ret hh ∈ ws) (hinit : ∀ a' U, s.WarmedH U.vm → (Cond.initialized y.cls).before a' U = true) :
    vx_Back l R p e below s sargs y len W9 (PreOf R mc ms Pc) (PostOf Qc mc ms free) (vx_Post XC mc ms free) := by
  intro m meth c A g ig mk a X hg hsize hdg hW hn hp
  have h1 : (headSpec ws rm).pre.before a A.U = true := atoms_intro fun w hw => hws w hw _ _ X.warmed
  have h2 : (Cond.codeWith y bytes maxL ret hh).before a A.U = true := hws _ hcode _ _ X.warmed
  have h3 : (Cond.initialized y.cls).before a A.U = true := hinit _ _ X.warmed
  have h4 : A.cells + (headSpec ws rm).room.cells ≤ R.cells := by rw [show (headSpec ws rm).room.cells = mc from hrc]; exact hp.1
  have h5 : A.slots + (headSpec ws rm).room.slots ≤ R.slots := by rw [show (headSpec ws rm).room.slots = ms from hrs]; exact hp.2.1
  have hPc : Pc a (A.U.calling g mk a) := hblind _ _ _ _ hp.2.2
  obtain ⟨U, Ls, c0, s0⟩ := A
  dsimp only [Pt.U, Pt.locs, Pt.cells, Pt.slots] at h1 h2 h3 h4 h5 X hn hPc ⊢
  obtain ⟨m9, methY, cY, hn9, hmY, hcY, -, hlY, -⟩ := Cond.codeWith_spec h2
  cases Option.some.inj (hn9.symm.trans hn)
  obtain ⟨kY, hkY, -⟩ := className_of_methodNamed hn
  have hinitY : kY.init = .initialized := Cond.initialized_spec (findClass_of_methodNamed hn) hkY h3
  have h : At U g.method c below := by rw [hg]; exact X.here
  have hlocals9 : W9 + (maxL + 11) + (headSpec ws rm).room.locals ≤ R.locals := hlocals
  have happ : (headSpec ws rm).appliesLoose y e.platform (U.calling g mk a) = true :=
    Spec.appliesLoose_calling (g := g) h hdg hn hkY hinitY
      (X.room_calling (g := g) (R' := (headSpec ws rm).room) hsize hmY hcY hframes (by rw [hlY]; omega) h4 h5) h1
  obtain ⟨mid, hmid⟩ := h.above
  have hfr : (U.setTop g).frames = (.java g :: mid) ++ below := by rw [State.frames_setTop' g h.top, hmid]; rfl
  obtain ⟨o, s₂, hsteps, -, hend, hq⟩ := Steps.callFree hM p X.admits X.cas X.clock (acts := []) hfr happ hPc trivial
  have hq' : vx_Q Qc XC mc ms free a (U.calling g mk a) o s₂ := hq
  rw [State.frames_setTop' g h.top] at hend
  obtain ⟨g₀, hg0⟩ := Option.isSome_iff_exists.mp h.top
  obtain ⟨r, hr⟩ := State.topJava?_eq_some.mp hg0
  have hr' : (({ U with heap := s₂.heap, slotsUsed := s₂.slotsUsed } : State).setVm s₂.vm).frames = .java g₀ :: r := hr
  rcases hq' with ⟨hqc, L, hfe, hL⟩ | ⟨q, rfl, E, ce, L, hx, hce, hcv, hcl, hW₂, hsm, hL⟩
  · obtain ⟨⟨v, rfl⟩, hW₂, e2, q2, q3, q4, q5, q6⟩ := id hfe
    have e3 : s₂ = ({ (U.calling g mk a).setFrames s₂.frames with heap := s₂.heap, slotsUsed := s₂.slotsUsed } : State).setVm s₂.vm := by
      have : s₂ = ({ s₂ with vm := (U.calling g mk a).vm } : State).setVm s₂.vm := rfl
      rw [e2] at this
      exact this
    obtain ⟨c₂, i₂, len₂, hc₂, hd₂, hf₂⟩ := hend
    have hW' : U.WarmedH s₂.vm := hW₂
    have hcc : c₂ = c := by
      have h1 : s₂.code? g.method = U.code? g.method := by
        rw [State.code?_eq, State.code?_eq, hW'.alike.method?]
      exact Option.some.inj (hc₂.symm.trans (h1.trans h.code))
    subst hcc
    have hlen : len₂ = len := by rw [hdg] at hd₂; cases hd₂; rfl
    subst hlen
    have hs₂ : s₂ = (({ U with heap := s₂.heap, slotsUsed := s₂.slotsUsed } : State).setVm s₂.vm).setTop { g with pc := g.pc + len₂, stack := v.toList ++ g.stack } := by
      refine e3.trans ?_
      rw [hf₂, State.calling_eq h.top, State.setFrames_setFrames, State.setTop_of_frames _ hr', hr]
      rfl
    have hsame : U.sameButNew ({ U with heap := s₂.heap, slotsUsed := s₂.slotsUsed } : State) L mc ms := by
      refine ⟨?_, q2, q3, q4, q5, q6⟩
      obtain ⟨t, ht, -⟩ := State.frames_cons hr
      show ({ U with heap := s₂.heap, slotsUsed := s₂.slotsUsed } : State) = { U.setFrames U.frames with heap := s₂.heap, slotsUsed := s₂.slotsUsed }
      rw [State.setFrames_self ht]
    subst hg
    refine Or.inl ⟨v, ⟨(({ U with heap := s₂.heap, slotsUsed := s₂.slotsUsed } : State).setVm s₂.vm), Ls ++ L, c0 + mc, s0 + ms⟩,
      ⟨X.admits, X.cas, X.clock, X.frames, X.room, X.hears, X.method, X.code, (X.here.setHeapUsed s₂.heap s₂.slotsUsed).setVm hW'.alike, X.tail, State.WarmedH.trans X.warmed hW', X.limits, X.bytes, X.same.trans (hsame.setVm s.vm)⟩,
      ⟨g, mk, s₂, L, rfl, rfl, hqc, rfl, hL, rfl, rfl⟩, ?_⟩
    show Steps p.tables e below _ ((({ U with heap := s₂.heap, slotsUsed := s₂.slotsUsed } : State).setVm s₂.vm).setTop { g with pc := g.pc + len₂, stack := v.toList ++ g.stack })
    rw [← hs₂]
    exact hsteps
  · obtain ⟨e2, q2, q3, q4, q5, q6⟩ := id hsm
    have e3 : s₂ = ({ (U.calling g mk a).setFrames s₂.frames with heap := s₂.heap, slotsUsed := s₂.slotsUsed } : State).setVm s₂.vm := by
      have : s₂ = ({ s₂ with vm := (U.calling g mk a).vm } : State).setVm s₂.vm := rfl
      rw [e2] at this
      exact this
    have hf₂ : s₂.frames = .throwing q :: .java g :: U.frames.tail := hend
    have hW' : U.WarmedH s₂.vm := hW₂
    have hs₂ : s₂ = ((({ U with heap := s₂.heap, slotsUsed := s₂.slotsUsed } : State).setVm s₂.vm).setTop g).pushFrame (.throwing q) := by
      refine e3.trans ?_
      rw [hf₂, State.calling_eq h.top, State.setFrames_setFrames, State.pushFrame, State.frames_setTop _ hr', State.setTop_of_frames _ hr', State.setFrames_setFrames, hr]
      rfl
    have hsame : U.sameButNew ({ U with heap := s₂.heap, slotsUsed := s₂.slotsUsed } : State) L mc ms := by
      refine ⟨?_, q2, q3, q4, q5, q6⟩
      obtain ⟨t, ht, -⟩ := State.frames_cons hr
      show ({ U with heap := s₂.heap, slotsUsed := s₂.slotsUsed } : State) = { U.setFrames U.frames with heap := s₂.heap, slotsUsed := s₂.slotsUsed }
      rw [State.setFrames_self ht]
    subst hg
    refine Or.inr ⟨q, ⟨(({ U with heap := s₂.heap, slotsUsed := s₂.slotsUsed } : State).setVm s₂.vm), Ls ++ L, c0 + mc, s0 + ms⟩,
      ⟨X.admits, X.cas, X.clock, X.frames, X.room, X.hears, X.method, X.code, (X.here.setHeapUsed s₂.heap s₂.slotsUsed).setVm hW'.alike, X.tail, State.WarmedH.trans X.warmed hW', X.limits, X.bytes, X.same.trans (hsame.setVm s.vm)⟩,
      ⟨g, mk, s₂, L, E, ce, rfl, rfl, hx, hce, hcv, hcl, rfl, hL, rfl, rfl⟩, ?_⟩
    show Steps p.tables e below _ (((({ U with heap := s₂.heap, slotsUsed := s₂.slotsUsed } : State).setVm s₂.vm).setTop g).pushFrame (.throwing q))
    rw [← hs₂]
    exact hsteps
end
variable {p : Program} {l : Launch} {e : Env} {R : Room} {s : State} {m : MethodId} {args : Array Value} {below : List Frame} {meth : Method} {c : Code} {T : State} {H : Heap} {locs : List Loc} {cells slots : Nat}
theorem vx_callVX (X : Stand p l e R s m args below meth c T locs cells slots) (hexec : p.tables.exec = Jvm.exec) {own C : String} {index : Nat} {y : MethodName} {bytes : ByteArray} {maxL : Nat} {ret : Option FieldType} {hh : List (Nat × Nat × Nat × Nat)}
    (hown : s.vm.findClass own = some m.cls) (hlink : (Cond.methodLink own index y).before args s = true) (hinst : (Cond.instanceMethod y).before args s = true) (hsel : (Cond.selects C y y).before args s = true)
    (hcode : (Cond.codeWith y bytes maxL ret hh).before args s = true) (hy : y.cls ≠ "java/lang/invoke/MethodHandle" ∧ y.cls ≠ "java/lang/invoke/VarHandle")
    {W9 : Nat} {Pre : Pt → Array Value → Prop} {Post : Pt → Array Value → Option Value → Pt → Prop} {PostX : Pt → Array Value → Addr → Pt → Prop} (hK : vx_Back l R p e below s args y 3 W9 Pre Post PostX)
    {b : Addr} {cellB : Cell} (hcell : T.heap[b]? = some cellB) (hobj : cellB.vm.isStatics = false) (hcls : s.vm.findClass C = some cellB.cls)
    {g : JFrame} (hg : g.method = m) (hsize : g.locals.size = c.maxLocals) {argsL rest : List Value} (hlen : ∀ sig, parseMethodDescriptor y.desc = some sig → argsL.length = sig.parameters.length)
    (hstack : g.stack = argsL.reverse ++ .ref b :: rest) (hW : 2 * g.monitorRoom + (rest.map fun v => v.category).sum ≤ W9) (hdg : decode c.code g.pc = .ok (.invokevirtual index, 3))
    (hpre : ∀ vm₁, s.WarmedH vm₁ → Pre ⟨T.setVm vm₁, locs, cells, slots⟩ (Value.ref b :: argsL).toArray) :
    (∃ (v : Option Value) (vm₁ : Vm) (B : Pt), s.WarmedH vm₁ ∧ Stand p l e R s m args below meth c B.U B.locs B.cells B.slots ∧ Post ⟨T.setVm vm₁, locs, cells, slots⟩ (Value.ref b :: argsL).toArray v B ∧
      ∀ target, Steps p.tables e below (B.U.setTop { g with pc := g.pc + 3, stack := v.toList ++ rest }) target → Steps p.tables e below (T.setTop g) target) ∨
    (∃ (q : Addr) (vm₁ : Vm) (B : Pt), s.WarmedH vm₁ ∧ Stand p l e R s m args below meth c B.U B.locs B.cells B.slots ∧ PostX ⟨T.setVm vm₁, locs, cells, slots⟩ (Value.ref b :: argsL).toArray q B ∧
      Steps p.tables e below (T.setTop g) ((B.U.setTop { g with stack := rest }).pushFrame (.throwing q))) := by
  obtain ⟨mk, methM, hnamed, hmethM, hstM, habM⟩ := Cond.instanceMethod_spec hinst
  obtain ⟨m8, methM', cM, hn8, hmethM', -, -, -, -, -, -, hsigM⟩ := Cond.codeWith_spec hcode
  cases Option.some.inj (hn8.symm.trans hnamed)
  cases hmethM.symm.trans hmethM'
  obtain ⟨c2, r2, m2, q1, q2, q3, q4, kP, hkP, hkPi⟩ := Cond.selects_spec hsel
  cases hcls.symm.trans q1
  cases (State.methodFound?_of_named hnamed hy).symm.trans q2
  cases hnamed.symm.trans q3
  have hselP : selectMethod e.platform s.vm cellB.cls mk = .method mk := by rw [Launch.admits_selectMethod X.admits]; exact q4
  obtain ⟨vm₁, X₁, hstep₁⟩ := X.invokevirtual hexec hown hlink hnamed hmethM hstM hkP hkPi hy (a := b) (cell := cellB) hcell
    (fun z h => by rw [h] at hobj; cases hobj) hselP hmethM habM hkP hkPi (g := g) hg (argsL := argsL) (rest := rest) (hlen _ hsigM) hstack hdg
  rcases hK m meth c ⟨T.setVm vm₁, locs, cells, slots⟩ { g with stack := rest } (.invokevirtual index) mk (Value.ref b :: argsL).toArray X₁ hg hsize hdg hW (X₁.named hnamed) (hpre vm₁ X₁.warmed) with ⟨v, B, X', hpost, hsteps⟩ | ⟨q, B, X', hpost, hsteps⟩
  · exact Or.inl ⟨v, vm₁, B, X₁.warmed, X', hpost, fun target h => hstep₁ _ fun acts => by rw [doInvoke_state]; exact hsteps.trans h⟩
  · exact Or.inr ⟨q, vm₁, B, X₁.warmed, X', hpost, hstep₁ _ fun acts => by rw [doInvoke_state]; exact hsteps⟩
theorem vx_callSX (X : Stand p l e R s m args below meth c T locs cells slots) (hexec : p.tables.exec = Jvm.exec) {own : String} {index : Nat} {y : MethodName} {bytes : ByteArray} {maxL : Nat} {ret : Option FieldType} {hh : List (Nat × Nat × Nat × Nat)}
    (hown : s.vm.findClass own = some m.cls) (hlink : (Cond.methodLink own index y).before args s = true) (hstat : (Cond.static y).before args s = true) (hinit : (Cond.initialized y.cls).before args s = true)
    (hcode : (Cond.codeWith y bytes maxL ret hh).before args s = true) (hy : y.cls ≠ "java/lang/invoke/MethodHandle" ∧ y.cls ≠ "java/lang/invoke/VarHandle")
    {W9 : Nat} {Pre : Pt → Array Value → Prop} {Post : Pt → Array Value → Option Value → Pt → Prop} {PostX : Pt → Array Value → Addr → Pt → Prop} (hK : vx_Back l R p e below s args y 3 W9 Pre Post PostX)
    {g : JFrame} (hg : g.method = m) (hsize : g.locals.size = c.maxLocals) {argsL rest : List Value} (hlen : ∀ sig, parseMethodDescriptor y.desc = some sig → argsL.length = sig.parameters.length)
    (hstack : g.stack = argsL.reverse ++ rest) (hW : 2 * g.monitorRoom + (rest.map fun v => v.category).sum ≤ W9) (hdg : decode c.code g.pc = .ok (.invokestatic index, 3))
    (hpre : ∀ vm₁, s.WarmedH vm₁ → Pre ⟨T.setVm vm₁, locs, cells, slots⟩ argsL.toArray) :
    (∃ (v : Option Value) (vm₁ : Vm) (B : Pt), s.WarmedH vm₁ ∧ Stand p l e R s m args below meth c B.U B.locs B.cells B.slots ∧ Post ⟨T.setVm vm₁, locs, cells, slots⟩ argsL.toArray v B ∧
      ∀ target, Steps p.tables e below (B.U.setTop { g with pc := g.pc + 3, stack := v.toList ++ rest }) target → Steps p.tables e below (T.setTop g) target) ∨
    (∃ (q : Addr) (vm₁ : Vm) (B : Pt), s.WarmedH vm₁ ∧ Stand p l e R s m args below meth c B.U B.locs B.cells B.slots ∧ PostX ⟨T.setVm vm₁, locs, cells, slots⟩ argsL.toArray q B ∧
      Steps p.tables e below (T.setTop g) ((B.U.setTop { g with stack := rest }).pushFrame (.throwing q))) := by
  obtain ⟨mk, methM, cM, hnamed, hmethM, -, -, -, -, -, -, hsigM⟩ := Cond.codeWith_spec hcode
  have hstatic : methM.isStatic = true := Cond.static_spec hnamed hmethM hstat
  obtain ⟨kP, hkP, -⟩ := className_of_methodNamed hnamed
  have hinitP : kP.init = .initialized := Cond.initialized_spec (findClass_of_methodNamed hnamed) hkP hinit
  obtain ⟨vm₁, X₁, hstep₁⟩ := X.invokestatic hexec hown hlink hnamed hmethM hstatic hkP hinitP hy (g := g) hg (argsL := argsL) (rest := rest) (hlen _ hsigM) hstack hdg
  rcases hK m meth c ⟨T.setVm vm₁, locs, cells, slots⟩ { g with stack := rest } (.invokestatic index) mk argsL.toArray X₁ hg hsize hdg hW (X₁.named hnamed) (hpre vm₁ X₁.warmed) with ⟨v, B, X', hpost, hsteps⟩ | ⟨q, B, X', hpost, hsteps⟩
  · exact Or.inl ⟨v, vm₁, B, X₁.warmed, X', hpost, fun target h => hstep₁ _ fun acts => by rw [doInvoke_state]; exact hsteps.trans h⟩
  · exact Or.inr ⟨q, vm₁, B, X₁.warmed, X', hpost, hstep₁ _ fun acts => by rw [doInvoke_state]; exact hsteps⟩
theorem vx_callVW (X : Stand p l e R s m args below meth c T locs cells slots) (hexec : p.tables.exec = Jvm.exec) {own C : String} {index : Nat} {y : MethodName} {bytes : ByteArray} {maxL : Nat} {ret : Option FieldType} {hh : List (Nat × Nat × Nat × Nat)}
    (hown : s.vm.findClass own = some m.cls) (hlink : (Cond.methodLink own index y).before args s = true) (hinst : (Cond.instanceMethod y).before args s = true) (hsel : (Cond.selects C y y).before args s = true)
    (hcode : (Cond.codeWith y bytes maxL ret hh).before args s = true) (hy : y.cls ≠ "java/lang/invoke/MethodHandle" ∧ y.cls ≠ "java/lang/invoke/VarHandle")
    {W9 : Nat} {Pre : Pt → Array Value → Prop} {Post : Pt → Array Value → Option Value → Pt → Prop} (hK : Back l R p e below s args y 3 W9 Pre Post)
    {b : Addr} {cellB : Cell} (hcell : T.heap[b]? = some cellB) (hobj : cellB.vm.isStatics = false) (hcls : s.vm.findClass C = some cellB.cls)
    {g : JFrame} (hg : g.method = m) (hsize : g.locals.size = c.maxLocals) {argsL rest : List Value} (hlen : ∀ sig, parseMethodDescriptor y.desc = some sig → argsL.length = sig.parameters.length)
    (hstack : g.stack = argsL.reverse ++ .ref b :: rest) (hW : 2 * g.monitorRoom + (rest.map fun v => v.category).sum ≤ W9) (hdg : decode c.code g.pc = .ok (.invokevirtual index, 3))
    (hpre : ∀ vm₁, s.WarmedH vm₁ → Pre ⟨T.setVm vm₁, locs, cells, slots⟩ (Value.ref b :: argsL).toArray) :
    ∃ (v : Option Value) (vm₁ : Vm) (B : Pt), s.WarmedH vm₁ ∧ Stand p l e R s m args below meth c B.U B.locs B.cells B.slots ∧ Post ⟨T.setVm vm₁, locs, cells, slots⟩ (Value.ref b :: argsL).toArray v B ∧
      ∀ target, Steps p.tables e below (B.U.setTop { g with pc := g.pc + 3, stack := v.toList ++ rest }) target → Steps p.tables e below (T.setTop g) target := by
  obtain ⟨mk, methM, hnamed, hmethM, hstM, habM⟩ := Cond.instanceMethod_spec hinst
  obtain ⟨m8, methM', cM, hn8, hmethM', -, -, -, -, -, -, hsigM⟩ := Cond.codeWith_spec hcode
  cases Option.some.inj (hn8.symm.trans hnamed)
  cases hmethM.symm.trans hmethM'
  obtain ⟨c2, r2, m2, q1, q2, q3, q4, kP, hkP, hkPi⟩ := Cond.selects_spec hsel
  cases hcls.symm.trans q1
  cases (State.methodFound?_of_named hnamed hy).symm.trans q2
  cases hnamed.symm.trans q3
  have hselP : selectMethod e.platform s.vm cellB.cls mk = .method mk := by rw [Launch.admits_selectMethod X.admits]; exact q4
  obtain ⟨vm₁, X₁, hstep₁⟩ := X.invokevirtual hexec hown hlink hnamed hmethM hstM hkP hkPi hy (a := b) (cell := cellB) hcell
    (fun z h => by rw [h] at hobj; cases hobj) hselP hmethM habM hkP hkPi (g := g) hg (argsL := argsL) (rest := rest) (hlen _ hsigM) hstack hdg
  obtain ⟨v, B, X', hpost, hsteps⟩ := hK m meth c ⟨T.setVm vm₁, locs, cells, slots⟩ { g with stack := rest } (.invokevirtual index) mk (Value.ref b :: argsL).toArray X₁ hg hsize hdg hW (X₁.named hnamed) (hpre vm₁ X₁.warmed)
  exact ⟨v, vm₁, B, X₁.warmed, X', hpost, fun target h => hstep₁ _ fun acts => by rw [doInvoke_state]; exact hsteps.trans h⟩
abbrev vx_CVW (R : Room) (s : State) (args : Array Value) (own C : String) (index : Nat) (y : MethodName) (bytes : ByteArray) (maxL : Nat) (ret : Option FieldType) (hh : List (Nat × Nat × Nat × Nat)) (ws : List Cond) (rm : Room) (mc ms n : Nat) : Prop :=
  (rm.cells = mc ∧ rm.slots = ms ∧ rm.frames + 1 ≤ R.frames ∧ 8 + (maxL + 11) + rm.locals ≤ R.locals ∧ (∀ w ∈ ws, ∀ (a' : Array Value) (U : State), s.WarmedH U.vm → w.before a' U = true) ∧ Cond.codeWith y bytes maxL ret hh ∈ ws) ∧
  (Cond.codeWith y bytes maxL ret hh).before args s = true ∧ (Cond.initialized y.cls).before args s = true ∧ (y.cls ≠ "java/lang/invoke/MethodHandle" ∧ y.cls ≠ "java/lang/invoke/VarHandle") ∧
  (∀ sig, parseMethodDescriptor y.desc = some sig → n = sig.parameters.length) ∧ (Cond.methodLink own index y).before args s = true ∧ (Cond.instanceMethod y).before args s = true ∧ (Cond.selects C y y).before args s = true
theorem vx_cwVW {own C : String} {index maxL mc ms : Nat} {y : MethodName} {bytes : ByteArray} {ret : Option FieldType} {hh : List (Nat × Nat × Nat × Nat)} {Ts ws ws' : List Cond} {rm : Room} (n : Nat) (ht : ∀ w ∈ Ts, w.before args s = true) (hT : GoodIn Ts (wsV own index C y ws)) (hw : ws = Cond.codeWith y bytes maxL ret hh :: ws') (hrc : rm.cells = mc) (hrs : rm.slots = ms)
    (hd : y.cls = C ∧ y.cls ≠ "java/lang/invoke/MethodHandle" ∧ y.cls ≠ "java/lang/invoke/VarHandle" ∧ (parseMethodDescriptor y.desc).map (fun d => d.parameters.length) = some n) (hR : rm.frames + 1 ≤ R.frames ∧ 8 + (maxL + 11) + rm.locals ≤ R.locals) :
    vx_CVW R s args own C index y bytes maxL ret hh ws rm mc ms n := by
  obtain ⟨hC, hd⟩ := hd
  subst hC
  have ok : ∀ w ∈ wsV own index y.cls y ws, w.before args s = true := fun w h => ht w (hT w h).1
  have hG : GoodIn Ts ws := fun w h => hT w (by unfold wsV; exact List.mem_append_right _ h)
  have hc : Cond.codeWith y bytes maxL ret hh ∈ ws := by rw [hw]; exact List.mem_cons_self
  refine ⟨⟨hrc, hrs, hR.1, hR.2, pay_in ht hG, hc⟩, ht _ (hG _ hc).1, ok _ (by simp [wsV]), ⟨hd.1, hd.2.1⟩, fun sig h => ?_, ok _ (by simp [wsV]), ok _ (by simp [wsV]), ok _ (by simp [wsV])⟩
  have h2 := hd.2.2
  rw [h] at h2
  exact (Option.some.inj h2).symm
theorem vx_runVW {y : MethodName} {bytes cc : ByteArray} {maxL nL mc ms n index : Nat} {ret : Option FieldType} {hh : List (Nat × Nat × Nat × Nat)} {ws : List Cond} {rm : Room} {Pc : Array Value → State → Prop} {Qc : Array Value → State → Outcome → State → Prop} {free : Addr → Prop} {Ts : List Cond} {own C : String} {b : Addr} {As rest : List Value} {g : JFrame}
    (S : CallFix p m c cc nL s args Ts own) (hM : Met l y ws rm Pc Qc mc ms free) (cw : vx_CVW R s args own C index y bytes maxL ret hh ws rm mc ms n) (hp : PreV s H C b Pc As)
    (hg : g.method = m) (hn : As.length = n) (hsize : g.locals.size = nL) (hstack : g.stack = As.reverse ++ .ref b :: rest) (hW : 2 * g.monitorRoom + (rest.map fun v => v.category).sum ≤ 8) (hdg : decode cc g.pc = .ok (.invokevirtual index, 3)) (hf : cells + mc ≤ R.cells ∧ slots + ms ≤ R.slots) :
    va_Run p l e R s m args below meth c H locs cells slots mc ms g rest (Qc (Value.ref b :: As).toArray) free := by
  obtain ⟨⟨hrc, hrs, hfr, hlo, hws, hcw⟩, hcode, hini, hy, hlen, hl, hin, hse⟩ := cw
  have hK : Back l R p e below s args y 3 8 (PreOf R mc ms Pc) (PostOf Qc mc ms free) := va_backW (hh := hh) (bytes := bytes) (maxL := maxL) (ret := ret) hM hp.1 hrc hrs hfr hlo hws hcw (fun a' U hW => word_at hW (Or.inl (by first | rfl | simp [Cond.onTables, Cond.keeps, Cond.steady])) hini)
  obtain ⟨hx, hb, hml, ho, -⟩ := S
  obtain ⟨-, ⟨cellB, hcB, hoB, hclB⟩, hPc⟩ := hp
  intro T hT X
  obtain ⟨v, vm₁, ⟨U', l2, c2, s2⟩, hW₁, X', ⟨g', mk, t, L, e1, e2, hq, h1, hL, h2, h3⟩, st⟩ := vx_callVW X hx (C := C) (hh := hh) (bytes := bytes) (maxL := maxL) (ret := ret) ho hl hin hse hcode hy hK (by rw [hT]; exact hcB) hoB hclB hg (hsize.trans hml.symm) (argsL := As) (rest := rest) (fun sig h => hn.trans (hlen sig h)) hstack hW (by rw [hb]; exact hdg)
    (fun vm₁ hW₁ => ⟨hf.1, hf.2, hPc (T.setVm vm₁) hT hW₁⟩)
  dsimp only [Pt.U, Pt.locs, Pt.cells, Pt.slots] at X' e1 e2 h1 h2 h3 st
  subst h1; subst h2; subst h3
  exact ⟨v, (T.setVm vm₁).calling g' mk (Value.ref b :: As).toArray, t, U', L, hT, X', hL, e1, e2, hq, st⟩
section
variable {y : MethodName} {bytes cc : ByteArray} {maxL nL mc ms n index : Nat} {ret : Option FieldType} {ws : List Cond} {rm : Room} {Pc : Array Value → State → Prop} {Qc : Array Value → State → Outcome → State → Prop} {XC : String → State → State → Prop} {free : Addr → Prop} {Ts : List Cond} {own C : String} {b : Addr} {As rest : List Value} {g : JFrame}
theorem vx_runVX {hh : List (Nat × Nat × Nat × Nat)} (S : CallFix p m c cc nL s args Ts own) (hM : vx_Met l y ws rm Pc Qc XC mc ms free) (cw : vx_CVW R s args own C index y bytes maxL ret hh ws rm mc ms n) (hp : PreV s H C b Pc As)
    (hg : g.method = m) (hn : As.length = n) (hsize : g.locals.size = nL) (hstack : g.stack = As.reverse ++ .ref b :: rest) (hW : 2 * g.monitorRoom + (rest.map fun v => v.category).sum ≤ 8) (hdg : decode cc g.pc = .ok (.invokevirtual index, 3)) (hf : cells + mc ≤ R.cells ∧ slots + ms ≤ R.slots) :
    vx_Run p l e R s m args below meth c H locs cells slots mc ms g rest (Qc (Value.ref b :: As).toArray) XC free := by
  obtain ⟨⟨hrc, hrs, hfr, hlo, hws, hcw⟩, hcode, hini, hy, hlen, hl, hin, hse⟩ := cw
  have hK : vx_Back l R p e below s args y 3 8 (PreOf R mc ms Pc) (PostOf Qc mc ms free) (vx_Post XC mc ms free) := vx_backW (hh := hh) (bytes := bytes) (maxL := maxL) (ret := ret) hM hp.1 hrc hrs hfr hlo hws hcw (fun a' U hW => word_at hW (Or.inl (by first | rfl | simp [Cond.onTables, Cond.keeps, Cond.steady])) hini)
  obtain ⟨hx, hb, hml, ho, -⟩ := S
  obtain ⟨-, ⟨cellB, hcB, hoB, hclB⟩, hPc⟩ := hp
  intro T hT X
  rcases vx_callVX X hx (C := C) (hh := hh) (bytes := bytes) (maxL := maxL) (ret := ret) ho hl hin hse hcode hy hK (by rw [hT]; exact hcB) hoB hclB hg (hsize.trans hml.symm) (argsL := As) (rest := rest) (fun sig h => hn.trans (hlen sig h)) hstack hW (by rw [hb]; exact hdg)
    (fun vm₁ hW₁ => ⟨hf.1, hf.2, hPc (T.setVm vm₁) hT hW₁⟩) with ⟨v, vm₁, ⟨U', l2, c2, s2⟩, hW₁, X', ⟨g', mk, t, L, e1, e2, hq, h1, hL, h2, h3⟩, st⟩ | ⟨q, vm₁, ⟨U', l2, c2, s2⟩, hW₁, X', ⟨g', mk, t, L, E, ce, e1, e2, hq, hce, hcv, hcl, h1, hL, h2, h3⟩, st⟩
  · dsimp only [Pt.U, Pt.locs, Pt.cells, Pt.slots] at X' e1 e2 h1 h2 h3 st
    subst h1; subst h2; subst h3
    exact Or.inl ⟨v, (T.setVm vm₁).calling g' mk (Value.ref b :: As).toArray, t, U', L, hT, X', hL, e1, e2, hq, st⟩
  · dsimp only [Pt.U, Pt.locs, Pt.cells, Pt.slots] at X' e1 e2 h1 h2 h3 st hcl
    subst h1; subst h2; subst h3
    exact Or.inr ⟨q, (T.setVm vm₁).calling g' mk (Value.ref b :: As).toArray, t, U', L, E, ce, hT, X', hL, e1, e2, hq, hce, hcv, vx_cls hW₁ hcl, st⟩
theorem vx_runSX {hh : List (Nat × Nat × Nat × Nat)} (S : CallFix p m c cc nL s args Ts own) (hM : vx_Met l y ws rm Pc Qc XC mc ms free) (cw : vx_CSW R s args own index y bytes maxL ret hh ws rm mc ms n) (hp : PreS s H Pc As)
    (hg : g.method = m) (hn : As.length = n) (hsize : g.locals.size = nL) (hstack : g.stack = As.reverse ++ rest) (hW : 2 * g.monitorRoom + (rest.map fun v => v.category).sum ≤ 8) (hdg : decode cc g.pc = .ok (.invokestatic index, 3)) (hf : cells + mc ≤ R.cells ∧ slots + ms ≤ R.slots) :
    vx_Run p l e R s m args below meth c H locs cells slots mc ms g rest (Qc As.toArray) XC free := by
  obtain ⟨⟨hrc, hrs, hfr, hlo, hws, hcw⟩, hcode, hini, hy, hlen, hl, hstt⟩ := cw
  have hK : vx_Back l R p e below s args y 3 8 (PreOf R mc ms Pc) (PostOf Qc mc ms free) (vx_Post XC mc ms free) := vx_backW (hh := hh) (bytes := bytes) (maxL := maxL) (ret := ret) hM hp.1 hrc hrs hfr hlo hws hcw (fun a' U hW => word_at hW (Or.inl (by first | rfl | simp [Cond.onTables, Cond.keeps, Cond.steady])) hini)
  obtain ⟨hx, hb, hml, ho, -⟩ := S
  intro T hT X
  rcases vx_callSX X hx (hh := hh) (bytes := bytes) (maxL := maxL) (ret := ret) ho hl hstt hini hcode hy hK hg (hsize.trans hml.symm) (argsL := As) (rest := rest) (fun sig h => hn.trans (hlen sig h)) hstack hW (by rw [hb]; exact hdg)
    (fun vm₁ hW₁ => ⟨hf.1, hf.2, hp.2 (T.setVm vm₁) hT hW₁⟩) with ⟨v, vm₁, ⟨U', l2, c2, s2⟩, hW₁, X', ⟨g', mk, t, L, e1, e2, hq, h1, hL, h2, h3⟩, st⟩ | ⟨q, vm₁, ⟨U', l2, c2, s2⟩, hW₁, X', ⟨g', mk, t, L, E, ce, e1, e2, hq, hce, hcv, hcl, h1, hL, h2, h3⟩, st⟩
  · dsimp only [Pt.U, Pt.locs, Pt.cells, Pt.slots] at X' e1 e2 h1 h2 h3 st
    subst h1; subst h2; subst h3
    exact Or.inl ⟨v, (T.setVm vm₁).calling g' mk As.toArray, t, U', L, hT, X', hL, e1, e2, hq, st⟩
  · dsimp only [Pt.U, Pt.locs, Pt.cells, Pt.slots] at X' e1 e2 h1 h2 h3 st hcl
    subst h1; subst h2; subst h3
    exact Or.inr ⟨q, (T.setVm vm₁).calling g' mk As.toArray, t, U', L, E, ce, hT, X', hL, e1, e2, hq, hce, hcv, vx_cls hW₁ hcl, st⟩
end
end VXH
theorem vx_ofWH {l : Launch} {y : MethodName} {ws ws' : List Cond} {rm : Room} {Pc : Array Value → State → Prop} {Qc : Array Value → State → Outcome → State → Prop} {XC : String → State → State → Prop} {mc ms : Nat} {free : Addr → Prop} {cc : ByteArray} {maxL : Nat} {ret : Option FieldType} {hh : List (Nat × Nat × Nat × Nat)}
    (hy : plainName y.cls = true) (hw : ws = Cond.codeWith y cc maxL ret hh :: ws')
    (body : ∀ p e s m args below meth c s₁, BodyLoose p l y (headSpec ws rm) cc maxL ret e s m args below meth c s₁ → c.maxLocals = maxL → Pc args s →
      W p l e (headSpec ws rm).room s m args below meth c s.heap [] 0 0 (vx_MQ below Qc XC args s mc ms free) (entryFrame m args maxL)) : vx_Met l y ws rm Pc Qc XC mc ms free := by
  refine MetFree.of_bodyS (code := cc) (maxLocals := maxL) (ret := ret) hy ?_ ?_
  · intro args s m h hn
    obtain ⟨m9, meth, c, hn9, h1, h2, h3, h4, -, h5, h6, -⟩ := Cond.codeWith_spec (atoms_spec (ws := ws) h _ (by rw [hw]; exact List.mem_cons_self))
    cases hn.symm.trans hn9
    exact ⟨meth, c, h1, h2, h3, h4, h5, h6⟩
  · intro p e s m args below meth c s₁ B hml hP _
    have hh0 : s₁.heap = s.heap := by rw [B.state]; rfl
    obtain ⟨t, a1, o, b1, b2, b3⟩ := body p e s m args below meth c s₁ B hml hP s₁ hh0 (Stand.of_body B)
    exact ⟨t, o, a1, b1, b2, b3⟩
/-! ===== END ===== -/
end
section
/-! ===== BEGIN a constructor that throws (launches without stack traces) ===== -/
section VXIA
variable {p : Program} {l : Launch} {e : Env} {R : Room} {s : State} {m : MethodId} {args : Array Value} {below : List Frame} {meth : Method} {c : Code} {T : State} {locs : List Loc} {cells slots : Nat}
theorem vx_callI (X : Stand p l e R s m args below meth c T locs cells slots) (hexec : p.tables.exec = Jvm.exec) {own : String} {index : Nat} {y : MethodName} {bytes : ByteArray} {maxL : Nat}
    (hown : s.vm.findClass own = some m.cls) (hy1 : y.name = "<init>") (hlink : (Cond.methodLink own index y).before args s = true) (hinst : (Cond.instanceMethod y).before args s = true)
    (hcode : (Cond.code y bytes maxL none).before args s = true) (hy : y.cls ≠ "java/lang/invoke/MethodHandle" ∧ y.cls ≠ "java/lang/invoke/VarHandle")
    {W9 : Nat} {Pre : Pt → Array Value → Prop} {Post : Pt → Array Value → Option Value → Pt → Prop} {PostX : Pt → Array Value → Addr → Pt → Prop} (hK : vx_Back l R p e below s args y 3 W9 Pre Post PostX)
    {g : JFrame} (hg : g.method = m) (hsize : g.locals.size = c.maxLocals) {a : Addr} {argsL rest : List Value} (hlen : ∀ sig, parseMethodDescriptor y.desc = some sig → argsL.length = sig.parameters.length)
    (hstack : g.stack = argsL.reverse ++ .ref a :: rest) (hW : 2 * g.monitorRoom + (rest.map fun v => v.category).sum ≤ W9) (hdg : decode c.code g.pc = .ok (.invokespecial index, 3))
    (hpre : ∀ vm₁, s.WarmedH vm₁ → Pre ⟨T.setVm vm₁, locs, cells, slots⟩ (Value.ref a :: argsL).toArray) :
    (∃ (v : Option Value) (vm₁ : Vm) (B : Pt), s.WarmedH vm₁ ∧ Stand p l e R s m args below meth c B.U B.locs B.cells B.slots ∧ Post ⟨T.setVm vm₁, locs, cells, slots⟩ (Value.ref a :: argsL).toArray v B ∧
      ∀ target, Steps p.tables e below (B.U.setTop { g with pc := g.pc + 3, stack := v.toList ++ rest }) target → Steps p.tables e below (T.setTop g) target) ∨
    (∃ (q : Addr) (vm₁ : Vm) (B : Pt), s.WarmedH vm₁ ∧ Stand p l e R s m args below meth c B.U B.locs B.cells B.slots ∧ PostX ⟨T.setVm vm₁, locs, cells, slots⟩ (Value.ref a :: argsL).toArray q B ∧
      Steps p.tables e below (T.setTop g) ((B.U.setTop { g with stack := rest }).pushFrame (.throwing q))) := by
  subst hg
  have hpl : e.platform.magicAccessors = ({} : Platform).magicAccessors := by rw [X.admits.platform]
  obtain ⟨mk, methM, cM, kP, vm₁, hnamed, hmethM, hcodeM, -, hlocalsM, -, hkP, -, hW₁, hstep₁⟩ := Steps.initColdArgs (e := e) X.here hexec X.warmed hpl hown hy1 hy hlink hinst hcode (f := g) rfl hlen hstack hdg
  have X₁ := X.noted hW₁
  rcases hK g.method meth c ⟨T.setVm vm₁, locs, cells, slots⟩ { g with stack := rest } (.invokespecial index) mk (Value.ref a :: argsL).toArray X₁ rfl hsize hdg hW (X₁.named hnamed) (hpre vm₁ X₁.warmed) with ⟨v, B, X', hpost, hsteps⟩ | ⟨q, B, X', hpost, hsteps⟩
  · exact Or.inl ⟨v, vm₁, B, X₁.warmed, X', hpost, fun target h => hstep₁ _ fun acts => by rw [doInvoke_state]; exact hsteps.trans h⟩
  · exact Or.inr ⟨q, vm₁, B, X₁.warmed, X', hpost, hstep₁ _ fun acts => by rw [doInvoke_state]; exact hsteps⟩
end VXIA
section VXIB
variable {p : Program} {l : Launch} {e : Env} {R : Room} {s : State} {m : MethodId} {args : Array Value} {below : List Frame} {meth : Method} {c : Code} {H : Heap} {locs : List Loc} {cells slots : Nat}
variable {y : MethodName} {bytes cc : ByteArray} {maxL nL mc ms n index : Nat} {ret : Option FieldType} {ws : List Cond} {rm : Room} {Pc : Array Value → State → Prop} {Qc : Array Value → State → Outcome → State → Prop} {XC : String → State → State → Prop} {free : Addr → Prop} {Ts : List Cond} {own C : String} {b : Addr} {As rest : List Value} {g : JFrame}
theorem vx_runI (S : CallFix p m c cc nL s args Ts own) (hM : vx_Met l y ws rm Pc Qc XC mc ms free) (cw : CallB R s args own index y bytes maxL none ws rm mc ms n ∧ y.name = "<init>" ∧ (Cond.instanceMethod y).before args s = true) (hp : PreS s H Pc (.ref b :: As))
    (hg : g.method = m) (hn : As.length = n) (hsize : g.locals.size = nL) (hstack : g.stack = As.reverse ++ .ref b :: rest) (hW : 2 * g.monitorRoom + (rest.map fun v => v.category).sum ≤ 8) (hdg : decode cc g.pc = .ok (.invokespecial index, 3)) (hf : cells + mc ≤ R.cells ∧ slots + ms ≤ R.slots) :
    vx_Run p l e R s m args below meth c H locs cells slots mc ms g rest (Qc (Value.ref b :: As).toArray) XC free := by
  have hK : vx_Back l R p e below s args y 3 8 (PreOf R mc ms Pc) (PostOf Qc mc ms free) (vx_Post XC mc ms free) := vx_callBack cw.1 hM hp.1
  obtain ⟨⟨-, -, -, -, -, -, hcode, -, hy, hlen, hl⟩, hy1, hin⟩ := cw
  obtain ⟨hx, hb, hml, ho, -⟩ := S
  have hPc := hp.2
  intro T hT X
  rcases vx_callI X hx (bytes := bytes) (maxL := maxL) ho hy1 hl hin hcode hy hK hg (hsize.trans hml.symm) (a := b) (argsL := As) (rest := rest) (fun sig h => hn.trans (hlen sig h)) hstack hW (by rw [hb]; exact hdg)
    (fun vm₁ hW₁ => ⟨hf.1, hf.2, hPc (T.setVm vm₁) hT hW₁⟩) with ⟨v, vm₁, ⟨U', l2, c2, s2⟩, hW₁, X', ⟨g', mk, t, L, e1, e2, hq, h1, hL, h2, h3⟩, st⟩ | ⟨q, vm₁, ⟨U', l2, c2, s2⟩, hW₁, X', ⟨g', mk, t, L, E, ce, e1, e2, hq, hce, hcv, hcl, h1, hL, h2, h3⟩, st⟩
  · dsimp only [Pt.U, Pt.locs, Pt.cells, Pt.slots] at X' e1 e2 h1 h2 h3 st
    subst h1; subst h2; subst h3
    exact Or.inl ⟨v, (T.setVm vm₁).calling g' mk (Value.ref b :: As).toArray, t, U', L, hT, X', hL, e1, e2, hq, st⟩
  · dsimp only [Pt.U, Pt.locs, Pt.cells, Pt.slots] at X' e1 e2 h1 h2 h3 st hcl
    subst h1; subst h2; subst h3
    exact Or.inr ⟨q, (T.setVm vm₁).calling g' mk (Value.ref b :: As).toArray, t, U', L, E, ce, hT, X', hL, e1, e2, hq, hce, hcv, vx_cls hW₁ hcl, st⟩
end VXIB
/-! ===== END ===== -/
/-! ===== BEGIN a private constructor of a nest mate that throws ===== -/
section VXIC
variable {p : Program} {l : Launch} {e : Env} {R : Room} {s : State} {m : MethodId} {args : Array Value} {below : List Frame} {meth : Method} {c : Code} {T : State} {locs : List Loc} {cells slots : Nat}
theorem vx_callIN (X : Stand p l e R s m args below meth c T locs cells slots) (hexec : p.tables.exec = Jvm.exec) {own : String} {index : Nat} {host : String} {y : MethodName} {bytes : ByteArray} {maxL : Nat}
    (hown : s.vm.findClass own = some m.cls) (hy1 : y.name = "<init>") (hlink : (Cond.methodLinkNest own index y host).before args s = true) (hinst : (Cond.instanceMethod y).before args s = true)
    (hcode : (Cond.code y bytes maxL none).before args s = true) (hy : y.cls ≠ "java/lang/invoke/MethodHandle" ∧ y.cls ≠ "java/lang/invoke/VarHandle")
    {W9 : Nat} {Pre : Pt → Array Value → Prop} {Post : Pt → Array Value → Option Value → Pt → Prop} {PostX : Pt → Array Value → Addr → Pt → Prop} (hK : vx_Back l R p e below s args y 3 W9 Pre Post PostX)
    {g : JFrame} (hg : g.method = m) (hsize : g.locals.size = c.maxLocals) {a : Addr} {argsL rest : List Value} (hlen : ∀ sig, parseMethodDescriptor y.desc = some sig → argsL.length = sig.parameters.length)
    (hstack : g.stack = argsL.reverse ++ .ref a :: rest) (hW : 2 * g.monitorRoom + (rest.map fun v => v.category).sum ≤ W9) (hdg : decode c.code g.pc = .ok (.invokespecial index, 3))
    (hpre : ∀ vm₁, s.WarmedH vm₁ → Pre ⟨T.setVm vm₁, locs, cells, slots⟩ (Value.ref a :: argsL).toArray) :
    (∃ (v : Option Value) (vm₁ : Vm) (B : Pt), s.WarmedH vm₁ ∧ Stand p l e R s m args below meth c B.U B.locs B.cells B.slots ∧ Post ⟨T.setVm vm₁, locs, cells, slots⟩ (Value.ref a :: argsL).toArray v B ∧
      ∀ target, Steps p.tables e below (B.U.setTop { g with pc := g.pc + 3, stack := v.toList ++ rest }) target → Steps p.tables e below (T.setTop g) target) ∨
    (∃ (q : Addr) (vm₁ : Vm) (B : Pt), s.WarmedH vm₁ ∧ Stand p l e R s m args below meth c B.U B.locs B.cells B.slots ∧ PostX ⟨T.setVm vm₁, locs, cells, slots⟩ (Value.ref a :: argsL).toArray q B ∧
      Steps p.tables e below (T.setTop g) ((B.U.setTop { g with stack := rest }).pushFrame (.throwing q))) := by
  subst hg
  have hpl : e.platform.magicAccessors = ({} : Platform).magicAccessors := by rw [X.admits.platform]
  obtain ⟨mk, methM, cM, kP, vm₁, hnamed, hmethM, hcodeM, -, hlocalsM, -, hkP, -, hW₁, hstep₁⟩ := Steps.initColdArgsNest (e := e) X.here hexec X.warmed hpl hown hy1 hy hlink hinst hcode (f := g) rfl hlen hstack hdg
  have X₁ := X.noted hW₁
  rcases hK g.method meth c ⟨T.setVm vm₁, locs, cells, slots⟩ { g with stack := rest } (.invokespecial index) mk (Value.ref a :: argsL).toArray X₁ rfl hsize hdg hW (X₁.named hnamed) (hpre vm₁ X₁.warmed) with ⟨v, B, X', hpost, hsteps⟩ | ⟨q, B, X', hpost, hsteps⟩
  · exact Or.inl ⟨v, vm₁, B, X₁.warmed, X', hpost, fun target h => hstep₁ _ fun acts => by rw [doInvoke_state]; exact hsteps.trans h⟩
  · exact Or.inr ⟨q, vm₁, B, X₁.warmed, X', hpost, hstep₁ _ fun acts => by rw [doInvoke_state]; exact hsteps⟩
end VXIC
section VXID
variable {p : Program} {l : Launch} {e : Env} {R : Room} {s : State} {m : MethodId} {args : Array Value} {below : List Frame} {meth : Method} {c : Code} {H : Heap} {locs : List Loc} {cells slots : Nat}
theorem vx_runIN {y : MethodName} {bytes cc : ByteArray} {maxL nL mc ms n index : Nat} {ws : List Cond} {rm : Room} {Pc : Array Value → State → Prop} {Qc : Array Value → State → Outcome → State → Prop} {XC : String → State → State → Prop} {free : Addr → Prop} {Ts : List Cond} {own host : String} {b : Addr} {As rest : List Value} {g : JFrame}
    (S : CallFix p m c cc nL s args Ts own) (hM : vx_Met l y ws rm Pc Qc XC mc ms free) (cw : va_CN R s args own index y host bytes maxL none ws rm mc ms n ∧ y.name = "<init>" ∧ (Cond.instanceMethod y).before args s = true) (hp : PreS s H Pc (.ref b :: As))
    (hg : g.method = m) (hn : As.length = n) (hsize : g.locals.size = nL) (hstack : g.stack = As.reverse ++ .ref b :: rest) (hW : 2 * g.monitorRoom + (rest.map fun v => v.category).sum ≤ 8) (hdg : decode cc g.pc = .ok (.invokespecial index, 3)) (hf : cells + mc ≤ R.cells ∧ slots + ms ≤ R.slots) :
    vx_Run p l e R s m args below meth c H locs cells slots mc ms g rest (Qc (Value.ref b :: As).toArray) XC free := by
  obtain ⟨⟨⟨hrc, hrs, hfr, hlo, hws, hcw⟩, hcode, hini, hy, hlen, hl⟩, hx1, hx2⟩ := cw
  have hK : vx_Back l R p e below s args y 3 8 (PreOf R mc ms Pc) (PostOf Qc mc ms free) (vx_Post XC mc ms free) := vx_back (bytes := bytes) (maxL := maxL) (ret := none) hM hp.1 hrc hrs hfr hlo hws hcw (fun a' U hW => word_at hW (Or.inl (by first | rfl | simp [Cond.onTables, Cond.keeps, Cond.steady])) hini)
  obtain ⟨hx, hb, hml, ho, -⟩ := S
  have hPc := hp.2
  intro T hT X
  rcases vx_callIN X hx (bytes := bytes) (maxL := maxL) ho hx1 hl hx2 hcode hy hK hg (hsize.trans hml.symm) (a := b) (argsL := As) (rest := rest) (fun sig h => hn.trans (hlen sig h)) hstack hW (by rw [hb]; exact hdg)
    (fun vm₁ hW₁ => ⟨hf.1, hf.2, hPc (T.setVm vm₁) hT hW₁⟩) with ⟨v, vm₁, ⟨U', l2, c2, s2⟩, hW₁, X', ⟨g', mk, t, L, e1, e2, hq, h1, hL, h2, h3⟩, st⟩ | ⟨q, vm₁, ⟨U', l2, c2, s2⟩, hW₁, X', ⟨g', mk, t, L, E, ce, e1, e2, hq, hce, hcv, hcl, h1, hL, h2, h3⟩, st⟩
  · dsimp only [Pt.U, Pt.locs, Pt.cells, Pt.slots] at X' e1 e2 h1 h2 h3 st
    subst h1; subst h2; subst h3
    exact Or.inl ⟨v, (T.setVm vm₁).calling g' mk (Value.ref b :: As).toArray, t, U', L, hT, X', hL, e1, e2, hq, st⟩
  · dsimp only [Pt.U, Pt.locs, Pt.cells, Pt.slots] at X' e1 e2 h1 h2 h3 st hcl
    subst h1; subst h2; subst h3
    exact Or.inr ⟨q, (T.setVm vm₁).calling g' mk (Value.ref b :: As).toArray, t, U', L, E, ce, hT, X', hL, e1, e2, hq, hce, hcv, vx_cls hW₁ hcl, st⟩
end VXID
/-! ===== BEGIN a private method of a nest mate that may throw (follows va_callVN, va_callSN, va_runVN, va_runSN) ===== -/
section
variable {p : Program} {l : Launch} {e : Env} {R : Room} {s : State} {m : MethodId} {args : Array Value} {below : List Frame} {meth : Method} {c : Code} {H : Heap} {locs : List Loc} {cells slots : Nat}
variable {T : State}
theorem vx_callVN (X : Stand p l e R s m args below meth c T locs cells slots) (hexec : p.tables.exec = Jvm.exec) {own C : String} {index : Nat} {host : String} {y : MethodName} {bytes : ByteArray} {maxL : Nat} {ret : Option FieldType}
    (hown : s.vm.findClass own = some m.cls) (hlink : (Cond.methodLinkNest own index y host).before args s = true) (hinst : (Cond.instanceMethod y).before args s = true) (hsel : (Cond.selects C y y).before args s = true)
    (hcode : (Cond.code y bytes maxL ret).before args s = true) (hy : y.cls ≠ "java/lang/invoke/MethodHandle" ∧ y.cls ≠ "java/lang/invoke/VarHandle")
    {W : Nat} {Pre : Pt → Array Value → Prop} {Post : Pt → Array Value → Option Value → Pt → Prop} {PostX : Pt → Array Value → Addr → Pt → Prop} (hK : vx_Back l R p e below s args y 3 W Pre Post PostX)
    {b : Addr} {cellB : Cell} (hcell : T.heap[b]? = some cellB) (hobj : cellB.vm.isStatics = false) (hcls : s.vm.findClass C = some cellB.cls)
    {g : JFrame} (hg : g.method = m) (hsize : g.locals.size = c.maxLocals) {argsL rest : List Value} (hlen : ∀ sig, parseMethodDescriptor y.desc = some sig → argsL.length = sig.parameters.length)
    (hstack : g.stack = argsL.reverse ++ .ref b :: rest) (hW : 2 * g.monitorRoom + (rest.map fun v => v.category).sum ≤ W) (hdg : decode c.code g.pc = .ok (.invokevirtual index, 3))
    (hpre : ∀ vm₁, s.WarmedH vm₁ → Pre ⟨T.setVm vm₁, locs, cells, slots⟩ (Value.ref b :: argsL).toArray) :
    (∃ (v : Option Value) (vm₁ : Vm) (B : Pt), s.WarmedH vm₁ ∧ Stand p l e R s m args below meth c B.U B.locs B.cells B.slots ∧ Post ⟨T.setVm vm₁, locs, cells, slots⟩ (Value.ref b :: argsL).toArray v B ∧
      ∀ target, Steps p.tables e below (B.U.setTop { g with pc := g.pc + 3, stack := v.toList ++ rest }) target → Steps p.tables e below (T.setTop g) target) ∨
    (∃ (q : Addr) (vm₁ : Vm) (B : Pt), s.WarmedH vm₁ ∧ Stand p l e R s m args below meth c B.U B.locs B.cells B.slots ∧ PostX ⟨T.setVm vm₁, locs, cells, slots⟩ (Value.ref b :: argsL).toArray q B ∧
      Steps p.tables e below (T.setTop g) ((B.U.setTop { g with stack := rest }).pushFrame (.throwing q))) := by
  obtain ⟨mk, methM, hnamed, hmethM, hstM, habM⟩ := Cond.instanceMethod_spec hinst
  obtain ⟨methM', cM, hmethM', -, -, -, -, -, -, hsigM⟩ := Cond.code_spec hnamed hcode
  cases hmethM.symm.trans hmethM'
  obtain ⟨c2, r2, m2, q1, q2, q3, q4, kP, hkP, hkPi⟩ := Cond.selects_spec hsel
  cases hcls.symm.trans q1
  cases (State.methodFound?_of_named hnamed hy).symm.trans q2
  cases hnamed.symm.trans q3
  have hselP : selectMethod e.platform s.vm cellB.cls mk = .method mk := by rw [Launch.admits_selectMethod X.admits]; exact q4
  obtain ⟨vm₁, X₁, hstep₁⟩ := X.invokevirtualNest hexec hown hlink hnamed hmethM hstM hkP hkPi hy (a := b) (cell := cellB) hcell
    (fun z h => by rw [h] at hobj; cases hobj) hselP hmethM habM hkP hkPi (g := g) hg (argsL := argsL) (rest := rest) (hlen _ hsigM) hstack hdg
  rcases hK m meth c ⟨T.setVm vm₁, locs, cells, slots⟩ { g with stack := rest } (.invokevirtual index) mk (Value.ref b :: argsL).toArray X₁ hg hsize hdg hW (X₁.named hnamed) (hpre vm₁ X₁.warmed) with ⟨v, B, X', hpost, hsteps⟩ | ⟨q, B, X', hpost, hsteps⟩
  · exact Or.inl ⟨v, vm₁, B, X₁.warmed, X', hpost, fun target h => hstep₁ _ fun acts => by rw [doInvoke_state]; exact hsteps.trans h⟩
  · exact Or.inr ⟨q, vm₁, B, X₁.warmed, X', hpost, hstep₁ _ fun acts => by rw [doInvoke_state]; exact hsteps⟩
theorem vx_callSN (X : Stand p l e R s m args below meth c T locs cells slots) (hexec : p.tables.exec = Jvm.exec) {own : String} {index : Nat} {host : String} {y : MethodName} {bytes : ByteArray} {maxL : Nat} {ret : Option FieldType}
    (hown : s.vm.findClass own = some m.cls) (hlink : (Cond.methodLinkNest own index y host).before args s = true) (hstat : (Cond.static y).before args s = true) (hinit : (Cond.initialized y.cls).before args s = true)
    (hcode : (Cond.code y bytes maxL ret).before args s = true) (hy : y.cls ≠ "java/lang/invoke/MethodHandle" ∧ y.cls ≠ "java/lang/invoke/VarHandle")
    {W : Nat} {Pre : Pt → Array Value → Prop} {Post : Pt → Array Value → Option Value → Pt → Prop} {PostX : Pt → Array Value → Addr → Pt → Prop} (hK : vx_Back l R p e below s args y 3 W Pre Post PostX)
    {g : JFrame} (hg : g.method = m) (hsize : g.locals.size = c.maxLocals) {argsL rest : List Value} (hlen : ∀ sig, parseMethodDescriptor y.desc = some sig → argsL.length = sig.parameters.length)
    (hstack : g.stack = argsL.reverse ++ rest) (hW : 2 * g.monitorRoom + (rest.map fun v => v.category).sum ≤ W) (hdg : decode c.code g.pc = .ok (.invokestatic index, 3))
    (hpre : ∀ vm₁, s.WarmedH vm₁ → Pre ⟨T.setVm vm₁, locs, cells, slots⟩ argsL.toArray) :
    (∃ (v : Option Value) (vm₁ : Vm) (B : Pt), s.WarmedH vm₁ ∧ Stand p l e R s m args below meth c B.U B.locs B.cells B.slots ∧ Post ⟨T.setVm vm₁, locs, cells, slots⟩ argsL.toArray v B ∧
      ∀ target, Steps p.tables e below (B.U.setTop { g with pc := g.pc + 3, stack := v.toList ++ rest }) target → Steps p.tables e below (T.setTop g) target) ∨
    (∃ (q : Addr) (vm₁ : Vm) (B : Pt), s.WarmedH vm₁ ∧ Stand p l e R s m args below meth c B.U B.locs B.cells B.slots ∧ PostX ⟨T.setVm vm₁, locs, cells, slots⟩ argsL.toArray q B ∧
      Steps p.tables e below (T.setTop g) ((B.U.setTop { g with stack := rest }).pushFrame (.throwing q))) := by
  obtain ⟨mk, hnamed⟩ := Cond.code_named hcode
  obtain ⟨methM, cM, hmethM, -, -, -, -, -, -, hsigM⟩ := Cond.code_spec hnamed hcode
  have hstatic : methM.isStatic = true := Cond.static_spec hnamed hmethM hstat
  obtain ⟨kP, hkP, -⟩ := className_of_methodNamed hnamed
  have hinitP : kP.init = .initialized := Cond.initialized_spec (findClass_of_methodNamed hnamed) hkP hinit
  obtain ⟨vm₁, X₁, hstep₁⟩ := X.invokestaticNest hexec hown hlink hnamed hmethM hstatic hkP hinitP hy (g := g) hg (argsL := argsL) (rest := rest) (hlen _ hsigM) hstack hdg
  rcases hK m meth c ⟨T.setVm vm₁, locs, cells, slots⟩ { g with stack := rest } (.invokestatic index) mk argsL.toArray X₁ hg hsize hdg hW (X₁.named hnamed) (hpre vm₁ X₁.warmed) with ⟨v, B, X', hpost, hsteps⟩ | ⟨q, B, X', hpost, hsteps⟩
  · exact Or.inl ⟨v, vm₁, B, X₁.warmed, X', hpost, fun target h => hstep₁ _ fun acts => by rw [doInvoke_state]; exact hsteps.trans h⟩
  · exact Or.inr ⟨q, vm₁, B, X₁.warmed, X', hpost, hstep₁ _ fun acts => by rw [doInvoke_state]; exact hsteps⟩
theorem vx_runVN {y : MethodName} {bytes cc : ByteArray} {maxL nL mc ms n index : Nat} {ret : Option FieldType} {ws : List Cond} {rm : Room} {Pc : Array Value → State → Prop} {Qc : Array Value → State → Outcome → State → Prop} {XC : String → State → State → Prop} {free : Addr → Prop} {Ts : List Cond} {own C host : String} {b : Addr} {As rest : List Value} {g : JFrame}
    (S : CallFix p m c cc nL s args Ts own) (hM : vx_Met l y ws rm Pc Qc XC mc ms free) (cw : va_CN R s args own index y host bytes maxL ret ws rm mc ms n ∧ (Cond.instanceMethod y).before args s = true ∧ (Cond.selects C y y).before args s = true) (hp : PreV s H C b Pc As)
    (hg : g.method = m) (hn : As.length = n) (hsize : g.locals.size = nL) (hstack : g.stack = As.reverse ++ .ref b :: rest) (hW : 2 * g.monitorRoom + (rest.map fun v => v.category).sum ≤ 8) (hdg : decode cc g.pc = .ok (.invokevirtual index, 3)) (hf : cells + mc ≤ R.cells ∧ slots + ms ≤ R.slots) :
    vx_Run p l e R s m args below meth c H locs cells slots mc ms g rest (Qc (Value.ref b :: As).toArray) XC free := by
  obtain ⟨⟨⟨hrc, hrs, hfr, hlo, hws, hcw⟩, hcode, hini, hy, hlen, hl⟩, hx1, hx2⟩ := cw
  have hK : vx_Back l R p e below s args y 3 8 (PreOf R mc ms Pc) (PostOf Qc mc ms free) (vx_Post XC mc ms free) := vx_back (bytes := bytes) (maxL := maxL) (ret := ret) hM hp.1 hrc hrs hfr hlo hws hcw (fun a' U hW => word_at hW (Or.inl (by first | rfl | simp [Cond.onTables, Cond.keeps, Cond.steady])) hini)
  obtain ⟨hx, hb, hml, ho, -⟩ := S
  obtain ⟨-, ⟨cellB, hcB, hoB, hclB⟩, hPc⟩ := hp
  intro T hT X
  rcases vx_callVN X hx (C := C) (bytes := bytes) (maxL := maxL) (ret := ret) ho hl hx1 hx2 hcode hy hK (by rw [hT]; exact hcB) hoB hclB hg (hsize.trans hml.symm) (argsL := As) (rest := rest) (fun sig h => hn.trans (hlen sig h)) hstack hW (by rw [hb]; exact hdg)
    (fun vm₁ hW₁ => ⟨hf.1, hf.2, hPc (T.setVm vm₁) hT hW₁⟩) with ⟨v, vm₁, ⟨U', l2, c2, s2⟩, hW₁, X', ⟨g', mk, t, L, e1, e2, hq, h1, hL, h2, h3⟩, st⟩ | ⟨q, vm₁, ⟨U', l2, c2, s2⟩, hW₁, X', ⟨g', mk, t, L, E, ce, e1, e2, hq, hce, hcv, hcl, h1, hL, h2, h3⟩, st⟩
  · dsimp only [Pt.U, Pt.locs, Pt.cells, Pt.slots] at X' e1 e2 h1 h2 h3 st
    subst h1; subst h2; subst h3
    exact Or.inl ⟨v, (T.setVm vm₁).calling g' mk (Value.ref b :: As).toArray, t, U', L, hT, X', hL, e1, e2, hq, st⟩
  · dsimp only [Pt.U, Pt.locs, Pt.cells, Pt.slots] at X' e1 e2 h1 h2 h3 st hcl
    subst h1; subst h2; subst h3
    exact Or.inr ⟨q, (T.setVm vm₁).calling g' mk (Value.ref b :: As).toArray, t, U', L, E, ce, hT, X', hL, e1, e2, hq, hce, hcv, vx_cls hW₁ hcl, st⟩
theorem vx_runSN {y : MethodName} {bytes cc : ByteArray} {maxL nL mc ms n index : Nat} {ret : Option FieldType} {ws : List Cond} {rm : Room} {Pc : Array Value → State → Prop} {Qc : Array Value → State → Outcome → State → Prop} {XC : String → State → State → Prop} {free : Addr → Prop} {Ts : List Cond} {own host : String} {As rest : List Value} {g : JFrame}
    (S : CallFix p m c cc nL s args Ts own) (hM : vx_Met l y ws rm Pc Qc XC mc ms free) (cw : va_CN R s args own index y host bytes maxL ret ws rm mc ms n ∧ (Cond.static y).before args s = true ∧ True) (hp : PreS s H Pc As)
    (hg : g.method = m) (hn : As.length = n) (hsize : g.locals.size = nL) (hstack : g.stack = As.reverse ++ rest) (hW : 2 * g.monitorRoom + (rest.map fun v => v.category).sum ≤ 8) (hdg : decode cc g.pc = .ok (.invokestatic index, 3)) (hf : cells + mc ≤ R.cells ∧ slots + ms ≤ R.slots) :
    vx_Run p l e R s m args below meth c H locs cells slots mc ms g rest (Qc As.toArray) XC free := by
  obtain ⟨⟨⟨hrc, hrs, hfr, hlo, hws, hcw⟩, hcode, hini, hy, hlen, hl⟩, hx1, hx2⟩ := cw
  have hK : vx_Back l R p e below s args y 3 8 (PreOf R mc ms Pc) (PostOf Qc mc ms free) (vx_Post XC mc ms free) := vx_back (bytes := bytes) (maxL := maxL) (ret := ret) hM hp.1 hrc hrs hfr hlo hws hcw (fun a' U hW => word_at hW (Or.inl (by first | rfl | simp [Cond.onTables, Cond.keeps, Cond.steady])) hini)
  obtain ⟨hx, hb, hml, ho, -⟩ := S
  have hPc := hp.2
  intro T hT X
  rcases vx_callSN X hx (bytes := bytes) (maxL := maxL) (ret := ret) ho hl hx1 hini hcode hy hK hg (hsize.trans hml.symm) (argsL := As) (rest := rest) (fun sig h => hn.trans (hlen sig h)) hstack hW (by rw [hb]; exact hdg)
    (fun vm₁ hW₁ => ⟨hf.1, hf.2, hPc (T.setVm vm₁) hT hW₁⟩) with ⟨v, vm₁, ⟨U', l2, c2, s2⟩, hW₁, X', ⟨g', mk, t, L, e1, e2, hq, h1, hL, h2, h3⟩, st⟩ | ⟨q, vm₁, ⟨U', l2, c2, s2⟩, hW₁, X', ⟨g', mk, t, L, E, ce, e1, e2, hq, hce, hcv, hcl, h1, hL, h2, h3⟩, st⟩
  · dsimp only [Pt.U, Pt.locs, Pt.cells, Pt.slots] at X' e1 e2 h1 h2 h3 st
    subst h1; subst h2; subst h3
    exact Or.inl ⟨v, (T.setVm vm₁).calling g' mk As.toArray, t, U', L, hT, X', hL, e1, e2, hq, st⟩
  · dsimp only [Pt.U, Pt.locs, Pt.cells, Pt.slots] at X' e1 e2 h1 h2 h3 st hcl
    subst h1; subst h2; subst h3
    exact Or.inr ⟨q, (T.setVm vm₁).calling g' mk As.toArray, t, U', L, E, ce, hT, X', hL, e1, e2, hq, hce, hcv, vx_cls hW₁ hcl, st⟩
end
end
section
/-! THE SMALL MACHINE: an interpreter over relative addresses (cell k of the run lies at the base + k), and the rows that tie each of its steps to the machine's.
The class table z_cl, the component types z_T, the words z_G and the nest links z_N of the claim come as variables; part 05 names them. -/
/-- base, old references, D, classes of the arrays by their kinds, the script's ints, their number -/
abbrev zE : Type := Nat × (Nat → Nat) × va_G × (Nat → ClassId) × (Nat → Int32) × Nat
abbrev zb (E : zE) : Nat := E.1
abbrev zol (E : zE) : Nat → Nat := E.2.1
abbrev zD (E : zE) : va_G := E.2.2.1
abbrev zcy (E : zE) : Nat → ClassId := E.2.2.2.1
abbrev zxs (E : zE) : Nat → Int32 := E.2.2.2.2.1
abbrev zLs (E : zE) : Nat := E.2.2.2.2.2
def zV (E : zE) (v : Value) : Value := match v with
  | .ref k => .ref (zb E + k)
  | .retAddr i => .ref (zol E i)
  | v => v
def zAr (E : zE) (a : (Nat → Int32) ⊕ (Nat → Int64) ⊕ (Nat → UInt32) ⊕ (Nat → UInt64) ⊕ (Nat → Option Nat)) : (Nat → Int32) ⊕ (Nat → Int64) ⊕ (Nat → UInt32) ⊕ (Nat → UInt64) ⊕ (Nat → Option Nat) := match a with
  | .inr (.inr (.inr (.inr f))) => .inr (.inr (.inr (.inr (fun j => (f j).map (fun k => zb E + k)))))
  | a => a
def zEn (E : zE) (e : va_E) : va_E := match e with
  | .inl (t, n, a) => .inl (zcy E t, n, zAr E a)
  | .inr (ci, fs) => .inr (ci, fs.map (zV E))
/-- cells by index, how many there are, cells made, slots made, whether the next cell's place is known -/
abbrev zH : Type := (Nat → va_E) × Nat × Nat × Nat × Bool
abbrev zLoc : Type := List (Nat × Value)
abbrev zOp : Type := zLoc → List Value → zH → Option (Nat × zLoc × List Value × zH)
def zLo (E : zE) (L : zLoc) : List (Nat × Value) := L.map (fun q => (q.1, zV E q.2))
def zW (cl : List vw_C) (E : zE) (h : zH) (H : Heap) : Prop :=
  (∀ k, k < h.2.1 → va_at (zD E) cl (zb E + k, zEn E (h.1 k)) H) ∧ zb E + h.2.1 ≤ H.size ∧ (h.2.2.2.2 = true → H.size = zb E + h.2.1)
def zA (E : zE) : Nat → Prop := fun q => zb E ≤ q
def zK (cl : List vw_C) (T : List FieldType) (E : zE) (U : State) : Prop :=
  (∀ (c : Nat) (q : vw_C), cl[c]? = some q → u_Kn U q.1 q.2.1 q.2.2 ((zD E).1 c) ((zD E).2 c)) ∧ ∀ (t : Nat) (ty : FieldType), T[t]? = some ty → ArrOfT U (zcy E t) ty ∧ va_RA U (zcy E t) ty
theorem zK.moved {cl : List vw_C} {T : List FieldType} {E : zE} {u U : State} (hvm : u.vm.Alike U.vm) (h : zK cl T E u) : zK cl T E U :=
  ⟨fun c q hq => u_Kn_moved hvm (h.1 c q hq), fun t ty ht => ⟨arrOfT_moved hvm (h.2 t ty ht).1, (h.2 t ty ht).2.moved hvm⟩⟩
theorem zK.one {cl : List vw_C} {T : List FieldType} {E : zE} {U : State} (h : zK cl T E U) {t : Nat} {ty : FieldType} (ht : T[t]? = some ty) : va_K (zD E) cl [(zcy E t, ty)] U := by
  refine ⟨h.1, fun k q hk => ?_⟩
  match k, hk with
  | 0, hk => cases hk; exact h.2 t ty ht
theorem zK.none {cl : List vw_C} {T : List FieldType} {E : zE} {U : State} (h : zK cl T E U) : va_K (zD E) cl [] U := ⟨h.1, fun k q hk => by simp at hk⟩
theorem zV_cat (E : zE) (v : Value) : (zV E v).category = v.category := by cases v <;> rfl
theorem zLo_filter (E : zE) (L : zLoc) (i : Nat) : (zLo E L).filter (fun q => !(q.1 == i) && !(q.1 + 1 == i && q.2.category == 2)) = zLo E (L.filter (fun q => !(q.1 == i) && !(q.1 + 1 == i && q.2.category == 2))) := by
  simp only [zLo, List.filter_map, Function.comp_def, zV_cat]
theorem zLo_filter2 (E : zE) (L : zLoc) (i : Nat) : (zLo E L).filter (fun q => !(q.1 == i) && (!(q.1 == i + 1) && !(q.1 + 1 == i && q.2.category == 2))) = zLo E (L.filter (fun q => !(q.1 == i) && (!(q.1 == i + 1) && !(q.1 + 1 == i && q.2.category == 2)))) := by
  simp only [zLo, List.filter_map, Function.comp_def, zV_cat]
/-- a local by its place -/
def zget (L : zLoc) (i : Nat) : Option Value := match L with
  | [] => none
  | q :: r => if q.1 = i then some q.2 else zget r i
theorem zget_mem {L : zLoc} {i : Nat} {v : Value} (h : zget L i = some v) : (i, v) ∈ L := by
  induction L with
  | nil => cases h
  | cons q r ih =>
    unfold zget at h
    split at h
    · rename_i hq
      cases h
      subst hq
      exact List.mem_cons_self
    · exact List.mem_cons_of_mem _ (ih h)
theorem zlk {E : zE} {ls : Array Slot} {nL : Nat} {L : zLoc} {i : Nat} {v : Value} (hl : lv_has ls nL (zLo E L)) (h : zget L i = some v) : ls[i]? = some (.val (zV E v)) :=
  hl.2.2 (i, zV E v) (List.mem_map.mpr ⟨(i, v), zget_mem h, rfl⟩)
theorem zW.kept {cl : List vw_C} {E : zE} {h : zH} {H H1 : Heap} (hW : zW cl E h H) (hs : H1.size = H.size) (hk : ∀ q : Nat, zb E ≤ q → H1[q]? = H[q]?) : zW cl E h H1 :=
  ⟨fun k hk0 => (hW.1 k hk0).kept (hk _ (Nat.le_add_right _ _)), by rw [hs]; exact hW.2.1, fun hv => by rw [hs]; exact hW.2.2 hv⟩
theorem zP1 {cl : List vw_C} {E : zE} {h : zH} {H : Heap} (hW : zW cl E h H) {k : Nat} (hk : k < h.2.1) : va_P (zD E) cl [(zb E + k, zEn E (h.1 k))] H := by
  intro j q hj
  match j, hj with
  | 0, hj => cases hj; exact hW.1 k hk
def zup (σ : Nat → va_E) (k : Nat) (e : va_E) : Nat → va_E := fun j => if j = k then e else σ j
theorem zW.put {cl : List vw_C} {E : zE} {h : zH} {H H1 : Heap} (hW : zW cl E h H) {k : Nat} {e : va_E} (he : va_at (zD E) cl (zb E + k, zEn E e) H1) (hs : H1.size = H.size) (oq : ∀ q : Nat, q ≠ zb E + k → H1[q]? = H[q]?) :
    zW cl E (zup h.1 k e, h.2) H1 := by
  refine ⟨fun j hj => ?_, by rw [hs]; exact hW.2.1, fun hv => by rw [hs]; exact hW.2.2 hv⟩
  by_cases hjk : j = k
  · subst hjk
    show va_at (zD E) cl (zb E + j, zEn E (zup h.1 j e j)) H1
    unfold zup
    rw [if_pos rfl]
    exact he
  · show va_at (zD E) cl (zb E + j, zEn E (zup h.1 k e j)) H1
    unfold zup
    rw [if_neg hjk]
    exact (hW.1 j hj).kept (oq _ (by intro q; apply hjk; exact Nat.add_left_cancel q))
theorem zW.push {cl : List vw_C} {E : zE} {h : zH} {H H1 : Heap} (hW : zW cl E h H) {e : va_E} {m s : Nat} (hlive : h.2.2.2.2 = true) (he : va_at (zD E) cl (H.size, zEn E e) H1) (hs : H1.size = H.size + 1) (oq : ∀ q : Nat, q < H.size → H1[q]? = H[q]?) :
    zW cl E (zup h.1 h.2.1 e, h.2.1 + 1, m, s, true) H1 := by
  have hz := hW.2.2 hlive
  refine ⟨fun j hj => ?_, by rw [hs, hz]; exact Nat.le_refl _, fun _ => by rw [hs, hz]; rfl⟩
  have hj' : j < h.2.1 + 1 := hj
  by_cases hjk : j = h.2.1
  · subst hjk
    show va_at (zD E) cl (zb E + h.2.1, zEn E (zup h.1 h.2.1 e h.2.1)) H1
    unfold zup
    rw [if_pos rfl, ← hz]
    exact he
  · show va_at (zD E) cl (zb E + j, zEn E (zup h.1 h.2.1 e j)) H1
    unfold zup
    rw [if_neg hjk]
    exact (hW.1 j (by omega)).kept (oq _ (by omega))
theorem zS.put {E : zE} {H0 H H1 : Heap} {locs : List Loc} {k i : Nat} (hS : va_S (zA E) H0 H locs) (hs : H1.size = H.size) (oq : ∀ q : Nat, q ≠ zb E + k → H1[q]? = H[q]?) : va_S (zA E) H0 H1 (locs ++ [⟨zb E + k, i⟩]) := by
  refine ⟨by rw [hs]; exact hS.1, fun q h1 h2 => ?_, fun l hl => ?_⟩
  · rw [oq q (fun e => h2 (by rw [e]; exact Nat.le_add_right _ _))]
    exact hS.2.1 q h1 h2
  · rcases List.mem_append.mp hl with h | h
    · exact hS.2.2 l h
    · rw [List.mem_singleton] at h
      subst h
      exact Nat.le_add_right _ _
theorem zS.push {E : zE} {H0 H H1 : Heap} {locs : List Loc} (hS : va_S (zA E) H0 H locs) (hs : H1.size = H.size + 1) (oq : ∀ q : Nat, q < H.size → H1[q]? = H[q]?) : va_S (zA E) H0 H1 locs :=
  ⟨by rw [hs]; exact Nat.le_succ_of_le hS.1, fun q h1 h2 => by rw [oq q (Nat.lt_of_lt_of_le h1 hS.1)]; exact hS.2.1 q h1 h2, hS.2.2⟩
/-- what a frame of a method stands on: machine, code, own class, words, nest links, classes, old things O, the script -/
def zF (cl : List vw_C) (T : List FieldType) (G N : List Cond) (O : Nat → State → Heap → Prop) (E : zE) (own nm : String) (bytes : ByteArray) (nL : Nat) (p : Program) (s : State) (m : MethodId) (args : Array Value) (meth : Method) (c : Code) : Prop :=
  p.tables.exec = Jvm.exec ∧ c.code = bytes ∧ c.maxLocals = nL ∧ s.vm.findClass own = some m.cls ∧ (∀ w ∈ G, w.before args s = true) ∧ (∀ w ∈ N, va_Nw w s) ∧ zK cl T E s ∧ O (zb E) s s.heap ∧
    va_X (zol E 0) (zLs E) (zxs E) s s.heap ∧ (∀ i, zol E i < zb E) ∧ zb E ≤ s.heap.size ∧ meth.locks = false ∧ meth.name = nm
end
section
/-! SOUND STEPS: what a step of the small machine owes, and the steps that touch no heap -/
def zSnd (cl : List vw_C) (T : List FieldType) (G N : List Cond) (O : Nat → State → Heap → Prop) (E : zE) (own nm : String) (bytes : ByteArray) (nL pc : Nat) (op : zOp) : Prop :=
  ∀ (L : zLoc) (st : List Value) (h : zH) (pc' : Nat) (L' : zLoc) (st' : List Value) (h' : zH), op L st h = some (pc', L', st', h') →
    (h.2.2.1 ≤ h'.2.2.1 ∧ h.2.2.2.1 ≤ h'.2.2.2.1) ∧
    ∀ (p : Program) (l : Launch) (e : Env) (R : Room) (s : State) (m : MethodId) (args : Array Value) (below : List Frame) (meth : Method) (c : Code) (Q : State → Prop),
      zF cl T G N O E own nm bytes nL p s m args meth c → 1 ≤ R.frames → 40 ≤ R.locals →
      ∀ (n0 S0 : Nat) (H : Heap) (locs : List Loc) (ls : Array Slot), lv_has ls nL (zLo E L) → zW cl E h H → va_S (zA E) s.heap H locs → n0 ≤ h.2.2.1 → S0 ≤ h.2.2.2.1 → h'.2.2.1 - n0 ≤ R.cells → h'.2.2.2.1 - S0 ≤ R.slots →
      (∀ (H' : Heap) (locs' : List Loc) (ls' : Array Slot), lv_has ls' nL (zLo E L') → zW cl E h' H' → va_S (zA E) s.heap H' locs' → W p l e R s m args below meth c H' locs' (h'.2.2.1 - n0) (h'.2.2.2.1 - S0) Q (F0 m pc' ls' (st'.map (zV E)))) →
      W p l e R s m args below meth c H locs (h.2.2.1 - n0) (h.2.2.2.1 - S0) Q (F0 m pc ls (st.map (zV E)))
section ZSND
variable {cl : List vw_C} {T : List FieldType} {G N : List Cond} {O : Nat → State → Heap → Prop} {E : zE} {own nm : String} {bytes : ByteArray} {nL pc : Nat}
/-- a step that changes the stack alone -/
abbrev zS1 (f : List Value → Option (Nat × List Value)) : zOp := fun L st h => match f st with
  | some (pc', st') => some (pc', L, st', h)
  | none => none
theorem zsnd1 {f : List Value → Option (Nat × List Value)} (hf : ∀ (st : List Value) (pc' : Nat) (st' : List Value), f st = some (pc', st') → ∀ (p : Program) (l : Launch) (e : Env) (R : Room) (s : State) (m : MethodId) (args : Array Value) (below : List Frame) (meth : Method) (c : Code) (Q : State → Prop) (H : Heap) (locs : List Loc) (cells slots : Nat) (ls : Array Slot), zF cl T G N O E own nm bytes nL p s m args meth c →
      W p l e R s m args below meth c H locs cells slots Q (F0 m pc' ls (st'.map (zV E))) → W p l e R s m args below meth c H locs cells slots Q (F0 m pc ls (st.map (zV E)))) : zSnd cl T G N O E own nm bytes nL pc (zS1 f) := by
  intro L st h pc' L' st' h' hop
  simp only [zS1] at hop
  split at hop
  · rename_i a b heq
    cases hop
    refine ⟨⟨Nat.le_refl _, Nat.le_refl _⟩, ?_⟩
    intro p l e R s m args below meth c Q F _ _ n0 S0 H locs ls hl hW hS _ _ _ _ k
    exact hf _ _ _ heq p l e R s m args below meth c Q H locs _ _ ls F (k H locs ls hl hW hS)
  · cases hop
/-- a local is read -/
abbrev zLd (f : Value → Bool) (pc' i : Nat) : zOp := fun L st h => match zget L i with
  | some v => if f v = true then some (pc', L, v :: st, h) else none
  | none => none
def zIsI (v : Value) : Bool := match v with | .int _ => true | _ => false
def zIsL (v : Value) : Bool := match v with | .long _ => true | _ => false
def zIsD (v : Value) : Bool := match v with | .double _ => true | _ => false
def zIsA (v : Value) : Bool := match v with | .ref _ => true | .null => true | .retAddr _ => true | _ => false
theorem zsndLd {f : Value → Bool} {pc' i : Nat} (hf : ∀ (v : Value), f v = true → ∀ (p : Program) (l : Launch) (e : Env) (R : Room) (s : State) (m : MethodId) (args : Array Value) (below : List Frame) (meth : Method) (c : Code) (Q : State → Prop) (H : Heap) (locs : List Loc) (cells slots : Nat) (ls : Array Slot) (rest : List Value), zF cl T G N O E own nm bytes nL p s m args meth c → ls[i]? = some (.val (zV E v)) →
      W p l e R s m args below meth c H locs cells slots Q (F0 m pc' ls (zV E v :: rest)) → W p l e R s m args below meth c H locs cells slots Q (F0 m pc ls rest)) : zSnd cl T G N O E own nm bytes nL pc (zLd f pc' i) := by
  intro L st h pc1 L' st' h' hop
  simp only [zLd] at hop
  split at hop
  · rename_i v hv
    split at hop
    · rename_i hfv
      cases hop
      refine ⟨⟨Nat.le_refl _, Nat.le_refl _⟩, ?_⟩
      intro p l e R s m args below meth c Q F _ _ n0 S0 H locs ls hl hW hS _ _ _ _ k
      exact hf v hfv p l e R s m args below meth c Q H locs _ _ ls _ F (zlk hl hv) (k H locs ls hl hW hS)
    · cases hop
  · cases hop
theorem zs_iload {i : Nat} (hd : decode bytes pc = .ok (.iload i, 2)) : zSnd cl T G N O E own nm bytes nL pc (zLd zIsI (pc + 2) i) := zsndLd fun v hv p l e R s m args below meth c Q H locs cells slots ls rest F hg k => by
  cases v <;> first | cases hv; done | skip
  exact lv_iload F.1 F.2.1 hd hg k
theorem zs_iload_n {i : Fin 4} {j : Nat} (hd : decode bytes pc = .ok (.iload_n i, 1)) (hj : (i : Nat) = j) : zSnd cl T G N O E own nm bytes nL pc (zLd zIsI (pc + 1) j) := zsndLd fun v hv p l e R s m args below meth c Q H locs cells slots ls rest F hg k => by
  cases v <;> first | cases hv; done | skip
  exact lv_iload_n F.1 F.2.1 hd hj hg k
theorem zs_lload {i : Nat} (hd : decode bytes pc = .ok (.lload i, 2)) : zSnd cl T G N O E own nm bytes nL pc (zLd zIsL (pc + 2) i) := zsndLd fun v hv p l e R s m args below meth c Q H locs cells slots ls rest F hg k => by
  cases v <;> first | cases hv; done | skip
  exact lv_lload F.1 F.2.1 hd hg k
theorem zs_lload_n {i : Fin 4} {j : Nat} (hd : decode bytes pc = .ok (.lload_n i, 1)) (hj : (i : Nat) = j) : zSnd cl T G N O E own nm bytes nL pc (zLd zIsL (pc + 1) j) := zsndLd fun v hv p l e R s m args below meth c Q H locs cells slots ls rest F hg k => by
  cases v <;> first | cases hv; done | skip
  exact lv_lload_n F.1 F.2.1 hd hj hg k
theorem zs_dload {i : Nat} (hd : decode bytes pc = .ok (.dload i, 2)) : zSnd cl T G N O E own nm bytes nL pc (zLd zIsD (pc + 2) i) := zsndLd fun v hv p l e R s m args below meth c Q H locs cells slots ls rest F hg k => by
  cases v <;> first | cases hv; done | skip
  exact lv_dload F.1 F.2.1 hd hg k
theorem zs_dload_n {i : Fin 4} {j : Nat} (hd : decode bytes pc = .ok (.dload_n i, 1)) (hj : (i : Nat) = j) : zSnd cl T G N O E own nm bytes nL pc (zLd zIsD (pc + 1) j) := zsndLd fun v hv p l e R s m args below meth c Q H locs cells slots ls rest F hg k => by
  cases v <;> first | cases hv; done | skip
  exact lv_dload_n F.1 F.2.1 hd hj hg k
theorem zs_aload {i : Nat} (hd : decode bytes pc = .ok (.aload i, 2)) : zSnd cl T G N O E own nm bytes nL pc (zLd zIsA (pc + 2) i) := zsndLd fun v hv p l e R s m args below meth c Q H locs cells slots ls rest F hg k => by
  cases v <;> first | cases hv; done | skip
  · exact lv_aloadN F.1 F.2.1 hd hg k
  · exact lv_aload F.1 F.2.1 hd hg k
  · exact lv_aload F.1 F.2.1 hd hg k
theorem zs_aload_n {i : Fin 4} {j : Nat} (hd : decode bytes pc = .ok (.aload_n i, 1)) (hj : (i : Nat) = j) : zSnd cl T G N O E own nm bytes nL pc (zLd zIsA (pc + 1) j) := zsndLd fun v hv p l e R s m args below meth c Q H locs cells slots ls rest F hg k => by
  cases v <;> first | cases hv; done | skip
  · exact lv_aload_nN F.1 F.2.1 hd hj hg k
  · exact lv_aload_n F.1 F.2.1 hd hj hg k
  · exact lv_aload_n F.1 F.2.1 hd hj hg k
/-- a local is written: one word, two words -/
def zF1 (i : Nat) (L : zLoc) : zLoc := L.filter (fun q => !(q.1 == i) && !(q.1 + 1 == i && q.2.category == 2))
def zF2 (i : Nat) (L : zLoc) : zLoc := L.filter (fun q => !(q.1 == i) && (!(q.1 == i + 1) && !(q.1 + 1 == i && q.2.category == 2)))
abbrev zSt1 (f : Value → Bool) (pc' i : Nat) : zOp := fun L st h => match st with
  | v :: r => if f v = true then some (pc', (i, v) :: zF1 i L, r, h) else none
  | [] => none
abbrev zSt2 (f : Value → Bool) (pc' i : Nat) : zOp := fun L st h => match st with
  | v :: r => if f v = true then some (pc', (i, v) :: zF2 i L, r, h) else none
  | [] => none
theorem zsndSt1 {f : Value → Bool} {pc' i : Nat} (hf : ∀ (v : Value), f v = true → ∀ (p : Program) (l : Launch) (e : Env) (R : Room) (s : State) (m : MethodId) (args : Array Value) (below : List Frame) (meth : Method) (c : Code) (Q : State → Prop) (H : Heap) (locs : List Loc) (cells slots : Nat) (ls : Array Slot) (rest : List Value) (lv : List (Nat × Value)), zF cl T G N O E own nm bytes nL p s m args meth c → lv_has ls nL lv →
      (∀ ls', lv_has ls' nL ((i, zV E v) :: lv.filter (fun q => !(q.1 == i) && !(q.1 + 1 == i && q.2.category == 2))) → W p l e R s m args below meth c H locs cells slots Q (F0 m pc' ls' rest)) → W p l e R s m args below meth c H locs cells slots Q (F0 m pc ls (zV E v :: rest))) : zSnd cl T G N O E own nm bytes nL pc (zSt1 f pc' i) := by
  intro L st h pc1 L' st' h' hop
  match st, hop with
  | v :: r, hop =>
    simp only [zSt1] at hop
    split at hop
    · rename_i hfv
      cases hop
      refine ⟨⟨Nat.le_refl _, Nat.le_refl _⟩, ?_⟩
      intro p l e R s m args below meth c Q F _ _ n0 S0 H locs ls hl hW hS _ _ _ _ k
      refine hf v hfv p l e R s m args below meth c Q H locs _ _ ls _ (zLo E L) F hl (fun ls' hl' => k H locs ls' ?_ hW hS)
      rw [zLo_filter] at hl'
      exact hl'
    · cases hop
theorem zsndSt2 {f : Value → Bool} {pc' i : Nat} (hf : ∀ (v : Value), f v = true → ∀ (p : Program) (l : Launch) (e : Env) (R : Room) (s : State) (m : MethodId) (args : Array Value) (below : List Frame) (meth : Method) (c : Code) (Q : State → Prop) (H : Heap) (locs : List Loc) (cells slots : Nat) (ls : Array Slot) (rest : List Value) (lv : List (Nat × Value)), zF cl T G N O E own nm bytes nL p s m args meth c → lv_has ls nL lv →
      (∀ ls', lv_has ls' nL ((i, zV E v) :: lv.filter (fun q => !(q.1 == i) && (!(q.1 == i + 1) && !(q.1 + 1 == i && q.2.category == 2)))) → W p l e R s m args below meth c H locs cells slots Q (F0 m pc' ls' rest)) → W p l e R s m args below meth c H locs cells slots Q (F0 m pc ls (zV E v :: rest))) : zSnd cl T G N O E own nm bytes nL pc (zSt2 f pc' i) := by
  intro L st h pc1 L' st' h' hop
  match st, hop with
  | v :: r, hop =>
    simp only [zSt2] at hop
    split at hop
    · rename_i hfv
      cases hop
      refine ⟨⟨Nat.le_refl _, Nat.le_refl _⟩, ?_⟩
      intro p l e R s m args below meth c Q F _ _ n0 S0 H locs ls hl hW hS _ _ _ _ k
      refine hf v hfv p l e R s m args below meth c Q H locs _ _ ls _ (zLo E L) F hl (fun ls' hl' => k H locs ls' ?_ hW hS)
      rw [zLo_filter2] at hl'
      exact hl'
    · cases hop
theorem zs_istore {i : Nat} (hn : i < nL) (hd : decode bytes pc = .ok (.istore i, 2)) : zSnd cl T G N O E own nm bytes nL pc (zSt1 zIsI (pc + 2) i) := zsndSt1 fun v hv p l e R s m args below meth c Q H locs cells slots ls rest lv F hl k => by
  cases v <;> first | cases hv; done | skip
  exact lv_istore F.1 F.2.1 hd hl hn rfl k
theorem zs_istore_n {i : Fin 4} {j : Nat} (hn : j < nL) (hd : decode bytes pc = .ok (.istore_n i, 1)) (hj : (i : Nat) = j) : zSnd cl T G N O E own nm bytes nL pc (zSt1 zIsI (pc + 1) j) := zsndSt1 fun v hv p l e R s m args below meth c Q H locs cells slots ls rest lv F hl k => by
  cases v <;> first | cases hv; done | skip
  exact lv_istore_n F.1 F.2.1 hd hj hl hn rfl k
theorem zs_astore {i : Nat} (hn : i < nL) (hd : decode bytes pc = .ok (.astore i, 2)) : zSnd cl T G N O E own nm bytes nL pc (zSt1 zIsA (pc + 2) i) := zsndSt1 fun v hv p l e R s m args below meth c Q H locs cells slots ls rest lv F hl k => by
  cases v <;> first | cases hv; done | skip
  · exact lv_astoreN F.1 F.2.1 hd hl hn rfl k
  · exact lv_astore F.1 F.2.1 hd hl hn rfl k
  · exact lv_astore F.1 F.2.1 hd hl hn rfl k
theorem zs_astore_n {i : Fin 4} {j : Nat} (hn : j < nL) (hd : decode bytes pc = .ok (.astore_n i, 1)) (hj : (i : Nat) = j) : zSnd cl T G N O E own nm bytes nL pc (zSt1 zIsA (pc + 1) j) := zsndSt1 fun v hv p l e R s m args below meth c Q H locs cells slots ls rest lv F hl k => by
  cases v <;> first | cases hv; done | skip
  · exact lv_astore_nN F.1 F.2.1 hd hj hl hn rfl k
  · exact lv_astore_n F.1 F.2.1 hd hj hl hn rfl k
  · exact lv_astore_n F.1 F.2.1 hd hj hl hn rfl k
theorem zs_lstore {i : Nat} (hn : i + 1 < nL) (hd : decode bytes pc = .ok (.lstore i, 2)) : zSnd cl T G N O E own nm bytes nL pc (zSt2 zIsL (pc + 2) i) := zsndSt2 fun v hv p l e R s m args below meth c Q H locs cells slots ls rest lv F hl k => by
  cases v <;> first | cases hv; done | skip
  exact lv_lstore F.1 F.2.1 hd hl hn rfl k
theorem zs_lstore_n {i : Fin 4} {j : Nat} (hn : j + 1 < nL) (hd : decode bytes pc = .ok (.lstore_n i, 1)) (hj : (i : Nat) = j) : zSnd cl T G N O E own nm bytes nL pc (zSt2 zIsL (pc + 1) j) := zsndSt2 fun v hv p l e R s m args below meth c Q H locs cells slots ls rest lv F hl k => by
  cases v <;> first | cases hv; done | skip
  exact lv_lstore_n F.1 F.2.1 hd hj hl hn rfl k
theorem zs_dstore {i : Nat} (hn : i + 1 < nL) (hd : decode bytes pc = .ok (.dstore i, 2)) : zSnd cl T G N O E own nm bytes nL pc (zSt2 zIsD (pc + 2) i) := zsndSt2 fun v hv p l e R s m args below meth c Q H locs cells slots ls rest lv F hl k => by
  cases v <;> first | cases hv; done | skip
  exact lv_dstore F.1 F.2.1 hd hl hn rfl k
theorem zs_dstore_n {i : Fin 4} {j : Nat} (hn : j + 1 < nL) (hd : decode bytes pc = .ok (.dstore_n i, 1)) (hj : (i : Nat) = j) : zSnd cl T G N O E own nm bytes nL pc (zSt2 zIsD (pc + 1) j) := zsndSt2 fun v hv p l e R s m args below meth c Q H locs cells slots ls rest lv F hl k => by
  cases v <;> first | cases hv; done | skip
  exact lv_dstore_n F.1 F.2.1 hd hj hl hn rfl k
/-- iinc -/
abbrev zIinc (pc' i : Nat) (x : Int32) : zOp := fun L st h => match zget L i with
  | some (.int v) => some (pc', (i, .int (v + x)) :: zF1 i L, st, h)
  | _ => none
theorem zs_iinc {i : Nat} {n : Int} {x : Int32} (hn : i < nL) (hx : Int32.ofInt n = x) (hd : decode bytes pc = .ok (.iinc i n, 3)) : zSnd cl T G N O E own nm bytes nL pc (zIinc (pc + 3) i x) := by
  intro L st h pc1 L' st' h' hop
  simp only [zIinc] at hop
  split at hop
  · rename_i v hv
    cases hop
    refine ⟨⟨Nat.le_refl _, Nat.le_refl _⟩, ?_⟩
    intro p l e R s m args below meth c Q F _ _ n0 S0 H locs ls hl hW hS _ _ _ _ k
    have hm := zget_mem hv
    obtain ⟨j, hj⟩ := List.getElem?_of_mem (List.mem_map.mpr ⟨(i, Value.int v), hm, rfl⟩ : ((i, Value.int v) : Nat × Value) ∈ zLo E L)
    refine lv_iinc F.1 F.2.1 hd hl hj (by rw [hx]) hn rfl (fun ls' hl' => k H locs ls' ?_ hW hS)
    rw [zLo_filter] at hl'
    exact hl'
  · cases hop
end ZSND
end
section
/-! SOUND STEPS on the stack: constants, arithmetic, compares, branches -/
section ZSTK
variable {cl : List vw_C} {T : List FieldType} {G N : List Cond} {O : Nat → State → Heap → Prop} {E : zE} {own nm : String} {bytes : ByteArray} {nL pc : Nat}
abbrev zCst (v : Value) (pc' : Nat) : List Value → Option (Nat × List Value) := fun st => some (pc', v :: st)
theorem zsndC {v : Value} {pc' : Nat} (hz : zV E v = v) (hf : ∀ (p : Program) (l : Launch) (e : Env) (R : Room) (s : State) (m : MethodId) (args : Array Value) (below : List Frame) (meth : Method) (c : Code) (Q : State → Prop) (H : Heap) (locs : List Loc) (cells slots : Nat) (ls : Array Slot) (rest : List Value), zF cl T G N O E own nm bytes nL p s m args meth c → W p l e R s m args below meth c H locs cells slots Q (F0 m pc' ls (v :: rest)) → W p l e R s m args below meth c H locs cells slots Q (F0 m pc ls rest)) : zSnd cl T G N O E own nm bytes nL pc (zS1 (zCst v pc')) := zsnd1 fun st pc1 st1 h p l e R s m args below meth c Q H locs cells slots ls F k => by
  cases h
  rw [List.map_cons, hz] at k
  exact hf p l e R s m args below meth c Q H locs cells slots ls _ F k
theorem zs_iconst {n : Int} {v : Int32} (hv : Int32.ofInt n = v) (hd : decode bytes pc = .ok (.iconst n, 1)) : zSnd cl T G N O E own nm bytes nL pc (zS1 (zCst (.int v) (pc + 1))) := zsndC rfl fun p l e R s m args below meth c Q H locs cells slots ls rest F k => lv_iconst F.1 F.2.1 hd hv k
theorem zs_bipush {n : Int} {v : Int32} (hv : (Int8.ofInt n).toInt32 = v) (hd : decode bytes pc = .ok (.bipush n, 2)) : zSnd cl T G N O E own nm bytes nL pc (zS1 (zCst (.int v) (pc + 2))) := zsndC rfl fun p l e R s m args below meth c Q H locs cells slots ls rest F k => lv_bipush F.1 F.2.1 hd hv k
theorem zs_sipush {n : Int} {v : Int32} (hv : (Int16.ofInt n).toInt32 = v) (hd : decode bytes pc = .ok (.sipush n, 3)) : zSnd cl T G N O E own nm bytes nL pc (zS1 (zCst (.int v) (pc + 3))) := zsndC rfl fun p l e R s m args below meth c Q H locs cells slots ls rest F k => lv_sipush F.1 F.2.1 hd hv k
theorem zs_lconst {n : Fin 2} {v : Int64} (hv : Int64.ofNat (n : Nat) = v) (hd : decode bytes pc = .ok (.lconst n, 1)) : zSnd cl T G N O E own nm bytes nL pc (zS1 (zCst (.long v) (pc + 1))) := zsndC rfl fun p l e R s m args below meth c Q H locs cells slots ls rest F k => lv_lconst F.1 F.2.1 hd hv k
theorem zs_dconst0  (hd : decode bytes pc = .ok (.dconst 0, 1)) : zSnd cl T G N O E own nm bytes nL pc (zS1 (zCst (.double FP.dconst0) (pc + 1))) := zsndC rfl fun p l e R s m args below meth c Q H locs cells slots ls rest F k => lv_dconst0 F.1 F.2.1 hd k
theorem zs_ldci {i : Nat} {v : Int32} (hc : Cond.constant own i v ∈ G) (hd : decode bytes pc = .ok (.ldc i, 2)) : zSnd cl T G N O E own nm bytes nL pc (zS1 (zCst (.int v) (pc + 2))) := zsndC rfl fun p l e R s m args below meth c Q H locs cells slots ls rest F k => lv_ldc F.1 F.2.1 F.2.2.2.1 (F.2.2.2.2.1 _ hc) hd k
theorem zs_ldc2l {i : Nat} {v : Int64} (hc : Cond.constantLong own i v ∈ G) (hd : decode bytes pc = .ok (.ldc2_w i, 3)) : zSnd cl T G N O E own nm bytes nL pc (zS1 (zCst (.long v) (pc + 3))) := zsndC rfl fun p l e R s m args below meth c Q H locs cells slots ls rest F k => lv_ldc2 F.1 F.2.1 F.2.2.2.1 (F.2.2.2.2.1 _ hc) hd k
theorem zs_ldc2d {i : Nat} {v : UInt64} (hc : Cond.constantDouble own i v ∈ G) (hd : decode bytes pc = .ok (.ldc2_w i, 3)) : zSnd cl T G N O E own nm bytes nL pc (zS1 (zCst (.double v) (pc + 3))) := zsndC rfl fun p l e R s m args below meth c Q H locs cells slots ls rest F k => lv_ldc2d F.1 F.2.1 F.2.2.2.1 (F.2.2.2.2.1 _ hc) hd k
abbrev zII (g : Int32 → Int32 → Int32) (pc' : Nat) : List Value → Option (Nat × List Value) := fun st => match st with
  | .int y :: .int x :: r => some (pc', .int (g x y) :: r)
  | _ => none
theorem zsndII {g : Int32 → Int32 → Int32} {pc' : Nat} (hf : ∀ (p : Program) (l : Launch) (e : Env) (R : Room) (s : State) (m : MethodId) (args : Array Value) (below : List Frame) (meth : Method) (c : Code) (Q : State → Prop) (H : Heap) (locs : List Loc) (cells slots : Nat) (ls : Array Slot) (rest : List Value) (x y : Int32), zF cl T G N O E own nm bytes nL p s m args meth c → W p l e R s m args below meth c H locs cells slots Q (F0 m pc' ls (.int (g x y) :: rest)) → W p l e R s m args below meth c H locs cells slots Q (F0 m pc ls (.int y :: .int x :: rest))) : zSnd cl T G N O E own nm bytes nL pc (zS1 (zII g pc')) := zsnd1 fun st pc1 st1 h p l e R s m args below meth c Q H locs cells slots ls F k => by
  simp only [zII] at h
  split at h
  · cases h
    exact hf p l e R s m args below meth c Q H locs cells slots ls _ _ _ F k
  · cases h
abbrev zLL (g : Int64 → Int64 → Int64) (pc' : Nat) : List Value → Option (Nat × List Value) := fun st => match st with
  | .long y :: .long x :: r => some (pc', .long (g x y) :: r)
  | _ => none
theorem zsndLL {g : Int64 → Int64 → Int64} {pc' : Nat} (hf : ∀ (p : Program) (l : Launch) (e : Env) (R : Room) (s : State) (m : MethodId) (args : Array Value) (below : List Frame) (meth : Method) (c : Code) (Q : State → Prop) (H : Heap) (locs : List Loc) (cells slots : Nat) (ls : Array Slot) (rest : List Value) (x y : Int64), zF cl T G N O E own nm bytes nL p s m args meth c → W p l e R s m args below meth c H locs cells slots Q (F0 m pc' ls (.long (g x y) :: rest)) → W p l e R s m args below meth c H locs cells slots Q (F0 m pc ls (.long y :: .long x :: rest))) : zSnd cl T G N O E own nm bytes nL pc (zS1 (zLL g pc')) := zsnd1 fun st pc1 st1 h p l e R s m args below meth c Q H locs cells slots ls F k => by
  simp only [zLL] at h
  split at h
  · cases h
    exact hf p l e R s m args below meth c Q H locs cells slots ls _ _ _ F k
  · cases h
abbrev zLLi (g : Int64 → Int64 → Int32) (pc' : Nat) : List Value → Option (Nat × List Value) := fun st => match st with
  | .long y :: .long x :: r => some (pc', .int (g x y) :: r)
  | _ => none
theorem zsndLLi {g : Int64 → Int64 → Int32} {pc' : Nat} (hf : ∀ (p : Program) (l : Launch) (e : Env) (R : Room) (s : State) (m : MethodId) (args : Array Value) (below : List Frame) (meth : Method) (c : Code) (Q : State → Prop) (H : Heap) (locs : List Loc) (cells slots : Nat) (ls : Array Slot) (rest : List Value) (x y : Int64), zF cl T G N O E own nm bytes nL p s m args meth c → W p l e R s m args below meth c H locs cells slots Q (F0 m pc' ls (.int (g x y) :: rest)) → W p l e R s m args below meth c H locs cells slots Q (F0 m pc ls (.long y :: .long x :: rest))) : zSnd cl T G N O E own nm bytes nL pc (zS1 (zLLi g pc')) := zsnd1 fun st pc1 st1 h p l e R s m args below meth c Q H locs cells slots ls F k => by
  simp only [zLLi] at h
  split at h
  · cases h
    exact hf p l e R s m args below meth c Q H locs cells slots ls _ _ _ F k
  · cases h
abbrev zDDi (g : UInt64 → UInt64 → Int32) (pc' : Nat) : List Value → Option (Nat × List Value) := fun st => match st with
  | .double y :: .double x :: r => some (pc', .int (g x y) :: r)
  | _ => none
theorem zsndDDi {g : UInt64 → UInt64 → Int32} {pc' : Nat} (hf : ∀ (p : Program) (l : Launch) (e : Env) (R : Room) (s : State) (m : MethodId) (args : Array Value) (below : List Frame) (meth : Method) (c : Code) (Q : State → Prop) (H : Heap) (locs : List Loc) (cells slots : Nat) (ls : Array Slot) (rest : List Value) (x y : UInt64), zF cl T G N O E own nm bytes nL p s m args meth c → W p l e R s m args below meth c H locs cells slots Q (F0 m pc' ls (.int (g x y) :: rest)) → W p l e R s m args below meth c H locs cells slots Q (F0 m pc ls (.double y :: .double x :: rest))) : zSnd cl T G N O E own nm bytes nL pc (zS1 (zDDi g pc')) := zsnd1 fun st pc1 st1 h p l e R s m args below meth c Q H locs cells slots ls F k => by
  simp only [zDDi] at h
  split at h
  · cases h
    exact hf p l e R s m args below meth c Q H locs cells slots ls _ _ _ F k
  · cases h
theorem zs_iadd (hd : decode bytes pc = .ok (.iadd, 1)) : zSnd cl T G N O E own nm bytes nL pc (zS1 (zII (fun x y => x + y) (pc + 1))) := zsndII fun p l e R s m args below meth c Q H locs cells slots ls rest x y F k => lv_iadd F.1 F.2.1 hd k
theorem zs_isub (hd : decode bytes pc = .ok (.isub, 1)) : zSnd cl T G N O E own nm bytes nL pc (zS1 (zII (fun x y => x - y) (pc + 1))) := zsndII fun p l e R s m args below meth c Q H locs cells slots ls rest x y F k => lv_isub F.1 F.2.1 hd k
theorem zs_imul (hd : decode bytes pc = .ok (.imul, 1)) : zSnd cl T G N O E own nm bytes nL pc (zS1 (zII (fun x y => x * y) (pc + 1))) := zsndII fun p l e R s m args below meth c Q H locs cells slots ls rest x y F k => lv_imul F.1 F.2.1 hd k
theorem zs_iand (hd : decode bytes pc = .ok (.iand, 1)) : zSnd cl T G N O E own nm bytes nL pc (zS1 (zII (fun x y => x &&& y) (pc + 1))) := zsndII fun p l e R s m args below meth c Q H locs cells slots ls rest x y F k => lv_iand F.1 F.2.1 hd k
theorem zs_ior (hd : decode bytes pc = .ok (.ior, 1)) : zSnd cl T G N O E own nm bytes nL pc (zS1 (zII (fun x y => x ||| y) (pc + 1))) := zsndII fun p l e R s m args below meth c Q H locs cells slots ls rest x y F k => lv_ior F.1 F.2.1 hd k
theorem zs_ixor (hd : decode bytes pc = .ok (.ixor, 1)) : zSnd cl T G N O E own nm bytes nL pc (zS1 (zII (fun x y => x ^^^ y) (pc + 1))) := zsndII fun p l e R s m args below meth c Q H locs cells slots ls rest x y F k => lv_ixor F.1 F.2.1 hd k
theorem zs_ishl (hd : decode bytes pc = .ok (.ishl, 1)) : zSnd cl T G N O E own nm bytes nL pc (zS1 (zII (fun x y => x <<< (y &&& 31)) (pc + 1))) := zsndII fun p l e R s m args below meth c Q H locs cells slots ls rest x y F k => lv_ishl F.1 F.2.1 hd k
theorem zs_ishr (hd : decode bytes pc = .ok (.ishr, 1)) : zSnd cl T G N O E own nm bytes nL pc (zS1 (zII (fun x y => x >>> (y &&& 31)) (pc + 1))) := zsndII fun p l e R s m args below meth c Q H locs cells slots ls rest x y F k => lv_ishr F.1 F.2.1 hd k
theorem zs_iushr (hd : decode bytes pc = .ok (.iushr, 1)) : zSnd cl T G N O E own nm bytes nL pc (zS1 (zII (fun x y => (x.toUInt32 >>> (y.toUInt32 &&& Int32.toUInt32 31)).toInt32) (pc + 1))) := zsndII fun p l e R s m args below meth c Q H locs cells slots ls rest x y F k => lv_iushr F.1 F.2.1 hd rfl k
theorem zs_ladd (hd : decode bytes pc = .ok (.ladd, 1)) : zSnd cl T G N O E own nm bytes nL pc (zS1 (zLL (fun x y => x + y) (pc + 1))) := zsndLL fun p l e R s m args below meth c Q H locs cells slots ls rest x y F k => lv_ladd F.1 F.2.1 hd k
theorem zs_lsub (hd : decode bytes pc = .ok (.lsub, 1)) : zSnd cl T G N O E own nm bytes nL pc (zS1 (zLL (fun x y => x - y) (pc + 1))) := zsndLL fun p l e R s m args below meth c Q H locs cells slots ls rest x y F k => lv_lsub F.1 F.2.1 hd k
theorem zs_lmul (hd : decode bytes pc = .ok (.lmul, 1)) : zSnd cl T G N O E own nm bytes nL pc (zS1 (zLL (fun x y => x * y) (pc + 1))) := zsndLL fun p l e R s m args below meth c Q H locs cells slots ls rest x y F k => lv_lmul F.1 F.2.1 hd k
theorem zs_lcmp (hd : decode bytes pc = .ok (.lcmp, 1)) : zSnd cl T G N O E own nm bytes nL pc (zS1 (zLLi (fun x y => lg_cmp x y) (pc + 1))) := zsndLLi fun p l e R s m args below meth c Q H locs cells slots ls rest x y F k => W.lcmp F.1 F.2.1 hd k
theorem zs_dcmp {op : CmpOp} (hd : decode bytes pc = .ok (.dcmp op, 1)) : zSnd cl T G N O E own nm bytes nL pc (zS1 (zDDi (fun x y => Op.cmpValue (FP.dcmp x y) op) (pc + 1))) := zsndDDi fun p l e R s m args below meth c Q H locs cells slots ls rest x y F k => lv_dcmp F.1 F.2.1 hd k
abbrev zIIg (g : Int32 → Int32 → Int32) (pc' : Nat) : List Value → Option (Nat × List Value) := fun st => match st with
  | .int y :: .int x :: r => if ¬ y = 0 then some (pc', .int (g x y) :: r) else none
  | _ => none
theorem zsndIIg {g : Int32 → Int32 → Int32} {pc' : Nat} (hf : ∀ (p : Program) (l : Launch) (e : Env) (R : Room) (s : State) (m : MethodId) (args : Array Value) (below : List Frame) (meth : Method) (c : Code) (Q : State → Prop) (H : Heap) (locs : List Loc) (cells slots : Nat) (ls : Array Slot) (rest : List Value) (x y : Int32), zF cl T G N O E own nm bytes nL p s m args meth c → (¬ y = 0) → W p l e R s m args below meth c H locs cells slots Q (F0 m pc' ls (.int (g x y) :: rest)) → W p l e R s m args below meth c H locs cells slots Q (F0 m pc ls (.int y :: .int x :: rest))) : zSnd cl T G N O E own nm bytes nL pc (zS1 (zIIg g pc')) := zsnd1 fun st pc1 st1 h p l e R s m args below meth c Q H locs cells slots ls F k => by
  simp only [zIIg] at h
  split at h
  · split at h
    · rename_i hg
      cases h
      exact hf p l e R s m args below meth c Q H locs cells slots ls _ _ _ F hg k
    · cases h
  · cases h
abbrev zDDg (g : UInt64 → UInt64 → UInt64) (pc' : Nat) : List Value → Option (Nat × List Value) := fun st => match st with
  | .double y :: .double x :: r => if (g x y) &&& 0x7fffffffffffffff ≤ 0x7ff0000000000000 then some (pc', .double (g x y) :: r) else none
  | _ => none
theorem zsndDDg {g : UInt64 → UInt64 → UInt64} {pc' : Nat} (hf : ∀ (p : Program) (l : Launch) (e : Env) (R : Room) (s : State) (m : MethodId) (args : Array Value) (below : List Frame) (meth : Method) (c : Code) (Q : State → Prop) (H : Heap) (locs : List Loc) (cells slots : Nat) (ls : Array Slot) (rest : List Value) (x y : UInt64), zF cl T G N O E own nm bytes nL p s m args meth c → ((g x y) &&& 0x7fffffffffffffff ≤ 0x7ff0000000000000) → W p l e R s m args below meth c H locs cells slots Q (F0 m pc' ls (.double (g x y) :: rest)) → W p l e R s m args below meth c H locs cells slots Q (F0 m pc ls (.double y :: .double x :: rest))) : zSnd cl T G N O E own nm bytes nL pc (zS1 (zDDg g pc')) := zsnd1 fun st pc1 st1 h p l e R s m args below meth c Q H locs cells slots ls F k => by
  simp only [zDDg] at h
  split at h
  · split at h
    · rename_i hg
      cases h
      exact hf p l e R s m args below meth c Q H locs cells slots ls _ _ _ F hg k
    · cases h
  · cases h
theorem zs_idiv (hd : decode bytes pc = .ok (.idiv, 1)) : zSnd cl T G N O E own nm bytes nL pc (zS1 (zIIg (fun x y => x / y) (pc + 1))) := zsndIIg fun p l e R s m args below meth c Q H locs cells slots ls rest x y F hg k => lv_idiv F.1 F.2.1 hd hg k
theorem zs_irem (hd : decode bytes pc = .ok (.irem, 1)) : zSnd cl T G N O E own nm bytes nL pc (zS1 (zIIg (fun x y => x - x / y * y) (pc + 1))) := zsndIIg fun p l e R s m args below meth c Q H locs cells slots ls rest x y F hg k => lv_irem F.1 F.2.1 hd hg k
theorem zs_dadd (hd : decode bytes pc = .ok (.dadd, 1)) : zSnd cl T G N O E own nm bytes nL pc (zS1 (zDDg (fun x y => FP.dadd x y) (pc + 1))) := zsndDDg fun p l e R s m args below meth c Q H locs cells slots ls rest x y F hg k => lv_dadd F.1 F.2.1 hd hg k
theorem zs_dsub (hd : decode bytes pc = .ok (.dsub, 1)) : zSnd cl T G N O E own nm bytes nL pc (zS1 (zDDg (fun x y => FP.dsub x y) (pc + 1))) := zsndDDg fun p l e R s m args below meth c Q H locs cells slots ls rest x y F hg k => lv_dsub F.1 F.2.1 hd hg k
theorem zs_dmul (hd : decode bytes pc = .ok (.dmul, 1)) : zSnd cl T G N O E own nm bytes nL pc (zS1 (zDDg (fun x y => FP.dmul x y) (pc + 1))) := zsndDDg fun p l e R s m args below meth c Q H locs cells slots ls rest x y F hg k => lv_dmul F.1 F.2.1 hd hg k
theorem zs_ddiv (hd : decode bytes pc = .ok (.ddiv, 1)) : zSnd cl T G N O E own nm bytes nL pc (zS1 (zDDg (fun x y => FP.ddiv x y) (pc + 1))) := zsndDDg fun p l e R s m args below meth c Q H locs cells slots ls rest x y F hg k => lv_ddiv F.1 F.2.1 hd hg k
abbrev zIL (g : Int32 → Int64) (pc' : Nat) : List Value → Option (Nat × List Value) := fun st => match st with
  | .int x :: r => some (pc', .long (g x) :: r)
  | _ => none
theorem zsndIL {g : Int32 → Int64} {pc' : Nat} (hf : ∀ (p : Program) (l : Launch) (e : Env) (R : Room) (s : State) (m : MethodId) (args : Array Value) (below : List Frame) (meth : Method) (c : Code) (Q : State → Prop) (H : Heap) (locs : List Loc) (cells slots : Nat) (ls : Array Slot) (rest : List Value) (x : Int32), zF cl T G N O E own nm bytes nL p s m args meth c → W p l e R s m args below meth c H locs cells slots Q (F0 m pc' ls (.long (g x) :: rest)) → W p l e R s m args below meth c H locs cells slots Q (F0 m pc ls (.int x :: rest))) : zSnd cl T G N O E own nm bytes nL pc (zS1 (zIL g pc')) := zsnd1 fun st pc1 st1 h p l e R s m args below meth c Q H locs cells slots ls F k => by
  simp only [zIL] at h
  split at h
  · cases h
    exact hf p l e R s m args below meth c Q H locs cells slots ls _ _ F k
  · cases h
abbrev zID (g : Int32 → UInt64) (pc' : Nat) : List Value → Option (Nat × List Value) := fun st => match st with
  | .int x :: r => some (pc', .double (g x) :: r)
  | _ => none
theorem zsndID {g : Int32 → UInt64} {pc' : Nat} (hf : ∀ (p : Program) (l : Launch) (e : Env) (R : Room) (s : State) (m : MethodId) (args : Array Value) (below : List Frame) (meth : Method) (c : Code) (Q : State → Prop) (H : Heap) (locs : List Loc) (cells slots : Nat) (ls : Array Slot) (rest : List Value) (x : Int32), zF cl T G N O E own nm bytes nL p s m args meth c → W p l e R s m args below meth c H locs cells slots Q (F0 m pc' ls (.double (g x) :: rest)) → W p l e R s m args below meth c H locs cells slots Q (F0 m pc ls (.int x :: rest))) : zSnd cl T G N O E own nm bytes nL pc (zS1 (zID g pc')) := zsnd1 fun st pc1 st1 h p l e R s m args below meth c Q H locs cells slots ls F k => by
  simp only [zID] at h
  split at h
  · cases h
    exact hf p l e R s m args below meth c Q H locs cells slots ls _ _ F k
  · cases h
theorem zs_i2l (hd : decode bytes pc = .ok (.i2l, 1)) : zSnd cl T G N O E own nm bytes nL pc (zS1 (zIL (fun x => x.toInt64) (pc + 1))) := zsndIL fun p l e R s m args below meth c Q H locs cells slots ls rest x F k => lv_i2l F.1 F.2.1 hd rfl k
theorem zs_i2d (hd : decode bytes pc = .ok (.i2d, 1)) : zSnd cl T G N O E own nm bytes nL pc (zS1 (zID (fun x => FP.i2d x) (pc + 1))) := zsndID fun p l e R s m args below meth c Q H locs cells slots ls rest x F k => lv_i2d F.1 F.2.1 hd k
abbrev zDup (pc' : Nat) : List Value → Option (Nat × List Value) := fun st => match st with
  | v :: r => if v.category = 1 then some (pc', v :: v :: r) else none
  | [] => none
theorem zs_dup (hd : decode bytes pc = .ok (.dup, 1)) : zSnd cl T G N O E own nm bytes nL pc (zS1 (zDup (pc + 1))) := zsnd1 fun st pc1 st1 h p l e R s m args below meth c Q H locs cells slots ls F k => by
  simp only [zDup] at h
  split at h
  · split at h
    · rename_i hc
      cases h
      exact lv_dup F.1 F.2.1 hd (by rw [zV_cat]; exact hc) k
    · cases h
  · cases h
abbrev zPop (pc' : Nat) : List Value → Option (Nat × List Value) := fun st => match st with
  | v :: r => if v.category = 1 then some (pc', r) else none
  | [] => none
theorem zs_pop (hd : decode bytes pc = .ok (.pop, 1)) : zSnd cl T G N O E own nm bytes nL pc (zS1 (zPop (pc + 1))) := zsnd1 fun st pc1 st1 h p l e R s m args below meth c Q H locs cells slots ls F k => by
  simp only [zPop] at h
  split at h
  · split at h
    · rename_i hc
      cases h
      exact lv_pop F.1 F.2.1 hd (by rw [zV_cat]; exact hc) k
    · cases h
  · cases h
abbrev zDup2 (pc' : Nat) : List Value → Option (Nat × List Value) := fun st => match st with
  | a :: b :: r => if a.category = 1 ∧ b.category = 1 then some (pc', a :: b :: a :: b :: r) else none
  | _ => none
theorem zs_dup2 (hd : decode bytes pc = .ok (.dup2, 1)) : zSnd cl T G N O E own nm bytes nL pc (zS1 (zDup2 (pc + 1))) := zsnd1 fun st pc1 st1 h p l e R s m args below meth c Q H locs cells slots ls F k => by
  simp only [zDup2] at h
  split at h
  · split at h
    · rename_i hc
      cases h
      exact lv_dup2_11 F.1 F.2.1 hd (by rw [zV_cat]; exact hc.1) (by rw [zV_cat]; exact hc.2) k
    · cases h
  · cases h
abbrev zIf (g : Int32 → Bool) (t pc' : Nat) : List Value → Option (Nat × List Value) := fun st => match st with
  | .int x :: r => some (if g x = true then t else pc', r)
  | _ => none
abbrev zIcmp (g : Int32 → Int32 → Bool) (t pc' : Nat) : List Value → Option (Nat × List Value) := fun st => match st with
  | .int y :: .int x :: r => some (if g x y = true then t else pc', r)
  | _ => none
theorem zs_if_eq {off : Int} {t : Nat} (ht : (pc : Int) + off = (t : Int)) (hd : decode bytes pc = .ok (.ifCond .eq off, 3)) : zSnd cl T G N O E own nm bytes nL pc (zS1 (zIf (fun x => decide (x = 0)) t (pc + 3))) := zsnd1 fun st pc1 st1 h p l e R s m args below meth c Q H locs cells slots ls F k => by
  simp only [zIf] at h
  split at h
  · cases h
    refine lv_if_eq F.1 F.2.1 hd ht (fun q => ?_) (fun q => ?_)
    · rw [if_pos (by first | exact decide_eq_true q | (simp only [decide_eq_true_eq]; exact q))] at k; exact k
    · rw [if_neg (by simp only [decide_eq_true_eq]; first | exact q | exact not_not_intro q)] at k; exact k
  · cases h
theorem zs_icmp_eq {off : Int} {t : Nat} (ht : (pc : Int) + off = (t : Int)) (hd : decode bytes pc = .ok (.if_icmp .eq off, 3)) : zSnd cl T G N O E own nm bytes nL pc (zS1 (zIcmp (fun x y => decide (x = y)) t (pc + 3))) := zsnd1 fun st pc1 st1 h p l e R s m args below meth c Q H locs cells slots ls F k => by
  simp only [zIcmp] at h
  split at h
  · cases h
    refine lv_icmp_eq F.1 F.2.1 hd ht (fun q => ?_) (fun q => ?_)
    · rw [if_pos (by first | exact decide_eq_true q | (simp only [decide_eq_true_eq]; exact q))] at k; exact k
    · rw [if_neg (by simp only [decide_eq_true_eq]; first | exact q | exact not_not_intro q)] at k; exact k
  · cases h
theorem zs_if_ne {off : Int} {t : Nat} (ht : (pc : Int) + off = (t : Int)) (hd : decode bytes pc = .ok (.ifCond .ne off, 3)) : zSnd cl T G N O E own nm bytes nL pc (zS1 (zIf (fun x => decide (¬ x = 0)) t (pc + 3))) := zsnd1 fun st pc1 st1 h p l e R s m args below meth c Q H locs cells slots ls F k => by
  simp only [zIf] at h
  split at h
  · cases h
    refine lv_if_ne F.1 F.2.1 hd ht (fun q => ?_) (fun q => ?_)
    · rw [if_pos (by first | exact decide_eq_true q | (simp only [decide_eq_true_eq]; exact q))] at k; exact k
    · rw [if_neg (by simp only [decide_eq_true_eq]; first | exact q | exact not_not_intro q)] at k; exact k
  · cases h
theorem zs_icmp_ne {off : Int} {t : Nat} (ht : (pc : Int) + off = (t : Int)) (hd : decode bytes pc = .ok (.if_icmp .ne off, 3)) : zSnd cl T G N O E own nm bytes nL pc (zS1 (zIcmp (fun x y => decide (¬ x = y)) t (pc + 3))) := zsnd1 fun st pc1 st1 h p l e R s m args below meth c Q H locs cells slots ls F k => by
  simp only [zIcmp] at h
  split at h
  · cases h
    refine lv_icmp_ne F.1 F.2.1 hd ht (fun q => ?_) (fun q => ?_)
    · rw [if_pos (by first | exact decide_eq_true q | (simp only [decide_eq_true_eq]; exact q))] at k; exact k
    · rw [if_neg (by simp only [decide_eq_true_eq]; first | exact q | exact not_not_intro q)] at k; exact k
  · cases h
theorem zs_if_lt {off : Int} {t : Nat} (ht : (pc : Int) + off = (t : Int)) (hd : decode bytes pc = .ok (.ifCond .lt off, 3)) : zSnd cl T G N O E own nm bytes nL pc (zS1 (zIf (fun x => decide (x < 0)) t (pc + 3))) := zsnd1 fun st pc1 st1 h p l e R s m args below meth c Q H locs cells slots ls F k => by
  simp only [zIf] at h
  split at h
  · cases h
    refine lv_if_lt F.1 F.2.1 hd ht (fun q => ?_) (fun q => ?_)
    · rw [if_pos (by first | exact decide_eq_true q | (simp only [decide_eq_true_eq]; exact q))] at k; exact k
    · rw [if_neg (by simp only [decide_eq_true_eq]; first | exact q | exact not_not_intro q)] at k; exact k
  · cases h
theorem zs_icmp_lt {off : Int} {t : Nat} (ht : (pc : Int) + off = (t : Int)) (hd : decode bytes pc = .ok (.if_icmp .lt off, 3)) : zSnd cl T G N O E own nm bytes nL pc (zS1 (zIcmp (fun x y => decide (x < y)) t (pc + 3))) := zsnd1 fun st pc1 st1 h p l e R s m args below meth c Q H locs cells slots ls F k => by
  simp only [zIcmp] at h
  split at h
  · cases h
    refine lv_icmp_lt F.1 F.2.1 hd ht (fun q => ?_) (fun q => ?_)
    · rw [if_pos (by first | exact decide_eq_true q | (simp only [decide_eq_true_eq]; exact q))] at k; exact k
    · rw [if_neg (by simp only [decide_eq_true_eq]; first | exact q | exact not_not_intro q)] at k; exact k
  · cases h
theorem zs_if_ge {off : Int} {t : Nat} (ht : (pc : Int) + off = (t : Int)) (hd : decode bytes pc = .ok (.ifCond .ge off, 3)) : zSnd cl T G N O E own nm bytes nL pc (zS1 (zIf (fun x => decide (0 ≤ x)) t (pc + 3))) := zsnd1 fun st pc1 st1 h p l e R s m args below meth c Q H locs cells slots ls F k => by
  simp only [zIf] at h
  split at h
  · cases h
    refine lv_if_ge F.1 F.2.1 hd ht (fun q => ?_) (fun q => ?_)
    · rw [if_pos (by first | exact decide_eq_true q | (simp only [decide_eq_true_eq]; exact q))] at k; exact k
    · rw [if_neg (by simp only [decide_eq_true_eq]; first | exact q | exact not_not_intro q)] at k; exact k
  · cases h
theorem zs_icmp_ge {off : Int} {t : Nat} (ht : (pc : Int) + off = (t : Int)) (hd : decode bytes pc = .ok (.if_icmp .ge off, 3)) : zSnd cl T G N O E own nm bytes nL pc (zS1 (zIcmp (fun x y => decide (y ≤ x)) t (pc + 3))) := zsnd1 fun st pc1 st1 h p l e R s m args below meth c Q H locs cells slots ls F k => by
  simp only [zIcmp] at h
  split at h
  · cases h
    refine lv_icmp_ge F.1 F.2.1 hd ht (fun q => ?_) (fun q => ?_)
    · rw [if_pos (by first | exact decide_eq_true q | (simp only [decide_eq_true_eq]; exact q))] at k; exact k
    · rw [if_neg (by simp only [decide_eq_true_eq]; first | exact q | exact not_not_intro q)] at k; exact k
  · cases h
theorem zs_if_gt {off : Int} {t : Nat} (ht : (pc : Int) + off = (t : Int)) (hd : decode bytes pc = .ok (.ifCond .gt off, 3)) : zSnd cl T G N O E own nm bytes nL pc (zS1 (zIf (fun x => decide (0 < x)) t (pc + 3))) := zsnd1 fun st pc1 st1 h p l e R s m args below meth c Q H locs cells slots ls F k => by
  simp only [zIf] at h
  split at h
  · cases h
    refine lv_if_gt F.1 F.2.1 hd ht (fun q => ?_) (fun q => ?_)
    · rw [if_pos (by first | exact decide_eq_true q | (simp only [decide_eq_true_eq]; exact q))] at k; exact k
    · rw [if_neg (by simp only [decide_eq_true_eq]; first | exact q | exact not_not_intro q)] at k; exact k
  · cases h
theorem zs_icmp_gt {off : Int} {t : Nat} (ht : (pc : Int) + off = (t : Int)) (hd : decode bytes pc = .ok (.if_icmp .gt off, 3)) : zSnd cl T G N O E own nm bytes nL pc (zS1 (zIcmp (fun x y => decide (y < x)) t (pc + 3))) := zsnd1 fun st pc1 st1 h p l e R s m args below meth c Q H locs cells slots ls F k => by
  simp only [zIcmp] at h
  split at h
  · cases h
    refine lv_icmp_gt F.1 F.2.1 hd ht (fun q => ?_) (fun q => ?_)
    · rw [if_pos (by first | exact decide_eq_true q | (simp only [decide_eq_true_eq]; exact q))] at k; exact k
    · rw [if_neg (by simp only [decide_eq_true_eq]; first | exact q | exact not_not_intro q)] at k; exact k
  · cases h
theorem zs_if_le {off : Int} {t : Nat} (ht : (pc : Int) + off = (t : Int)) (hd : decode bytes pc = .ok (.ifCond .le off, 3)) : zSnd cl T G N O E own nm bytes nL pc (zS1 (zIf (fun x => decide (x ≤ 0)) t (pc + 3))) := zsnd1 fun st pc1 st1 h p l e R s m args below meth c Q H locs cells slots ls F k => by
  simp only [zIf] at h
  split at h
  · cases h
    refine lv_if_le F.1 F.2.1 hd ht (fun q => ?_) (fun q => ?_)
    · rw [if_pos (by first | exact decide_eq_true q | (simp only [decide_eq_true_eq]; exact q))] at k; exact k
    · rw [if_neg (by simp only [decide_eq_true_eq]; first | exact q | exact not_not_intro q)] at k; exact k
  · cases h
theorem zs_icmp_le {off : Int} {t : Nat} (ht : (pc : Int) + off = (t : Int)) (hd : decode bytes pc = .ok (.if_icmp .le off, 3)) : zSnd cl T G N O E own nm bytes nL pc (zS1 (zIcmp (fun x y => decide (x ≤ y)) t (pc + 3))) := zsnd1 fun st pc1 st1 h p l e R s m args below meth c Q H locs cells slots ls F k => by
  simp only [zIcmp] at h
  split at h
  · cases h
    refine lv_icmp_le F.1 F.2.1 hd ht (fun q => ?_) (fun q => ?_)
    · rw [if_pos (by first | exact decide_eq_true q | (simp only [decide_eq_true_eq]; exact q))] at k; exact k
    · rw [if_neg (by simp only [decide_eq_true_eq]; first | exact q | exact not_not_intro q)] at k; exact k
  · cases h
abbrev zGo (t : Nat) : List Value → Option (Nat × List Value) := fun st => some (t, st)
theorem zs_goto {off : Int} {t : Nat} (ht : (pc : Int) + off = (t : Int)) (hd : decode bytes pc = .ok (.goto off, 3)) : zSnd cl T G N O E own nm bytes nL pc (zS1 (zGo t)) := zsnd1 fun st pc1 st1 h p l e R s m args below meth c Q H locs cells slots ls F k => by
  cases h
  exact lv_goto F.1 F.2.1 hd ht k
abbrev zTab (lo hi : Int) (tl : List Nat) (t : Nat) : List Value → Option (Nat × List Value) := fun st => match st with
  | .int x :: r => if x.toInt < lo ∨ hi < x.toInt then some (t, r) else match tl[(x.toInt - lo).toNat]? with
    | some t' => some (t', r)
    | none => none
  | _ => none
theorem zs_tab {dflt lo hi : Int} {offs : Array Int} {len t : Nat} {tl : List Nat} (ht : (pc : Int) + dflt = (t : Int)) (ho : tl.map (fun (t : Nat) => Int.ofNat t - (pc : Int)) = offs.toList) (hd : decode bytes pc = .ok (.tableswitch dflt lo hi offs, len)) : zSnd cl T G N O E own nm bytes nL pc (zS1 (zTab lo hi tl t)) := zsnd1 fun st pc1 st1 h p l e R s m args below meth c Q H locs cells slots ls F k => by
  simp only [zTab] at h
  split at h
  · split at h
    · rename_i hq
      cases h
      exact lv_tableOut F.1 F.2.1 hd hq ht k
    · rename_i hq
      split at h
      · rename_i t' hk
        cases h
        refine lv_tableIn (off := (pc1 : Int) - (pc : Int)) F.1 F.2.1 hd (fun z => hq (Or.inl z)) (fun z => hq (Or.inr z)) ?_ (by omega) k
        rw [← Array.getElem?_toList, ← ho, List.getElem?_map, hk]
        rfl
      · cases h
  · cases h
end ZSTK
end
section
/-! SOUND STEPS on the heap: fields, arrays, what is made -/
section ZHEAP
variable {cl : List vw_C} {T : List FieldType} {G N : List Cond} {O : Nat → State → Heap → Prop} {E : zE} {own nm : String} {bytes : ByteArray} {nL pc : Nat}
/-- a step that reads the heap -/
abbrev zS2 (f : List Value → zH → Option (Nat × List Value)) : zOp := fun L st h => match f st h with
  | some (pc', st') => some (pc', L, st', h)
  | none => none
theorem zsnd2 {f : List Value → zH → Option (Nat × List Value)} (hf : ∀ (st : List Value) (h : zH) (pc' : Nat) (st' : List Value), f st h = some (pc', st') → ∀ (p : Program) (l : Launch) (e : Env) (R : Room) (s : State) (m : MethodId) (args : Array Value) (below : List Frame) (meth : Method) (c : Code) (Q : State → Prop) (H : Heap) (locs : List Loc) (cells slots : Nat) (ls : Array Slot), zF cl T G N O E own nm bytes nL p s m args meth c → 1 ≤ R.frames → 40 ≤ R.locals → ls.size = nL →
      zW cl E h H → va_S (zA E) s.heap H locs → W p l e R s m args below meth c H locs cells slots Q (F0 m pc' ls (st'.map (zV E))) → W p l e R s m args below meth c H locs cells slots Q (F0 m pc ls (st.map (zV E)))) : zSnd cl T G N O E own nm bytes nL pc (zS2 f) := by
  intro L st h pc' L' st' h' hop
  simp only [zS2] at hop
  split at hop
  · rename_i a b heq
    cases hop
    refine ⟨⟨Nat.le_refl _, Nat.le_refl _⟩, ?_⟩
    intro p l e R s m args below meth c Q F hr1 hr2 n0 S0 H locs ls hl hW hS _ _ _ _ k
    exact hf _ _ _ _ heq p l e R s m args below meth c Q H locs _ _ ls F hr1 hr2 hl.1 hW hS (k H locs ls hl hW hS)
  · cases hop
/-- a field is read -/
abbrev zGet (ci j pc' : Nat) : List Value → zH → Option (Nat × List Value) := fun st h => match st with
  | .ref k :: r => if k < h.2.1 then match h.1 k with
    | .inr (c, fs) => if c = ci then match fs[j]? with
      | some v => some (pc', v :: r)
      | none => none
      else none
    | .inl _ => none
    else none
  | _ => none
theorem zGet_some {ci j pc' : Nat} {st : List Value} {h : zH} {pc1 : Nat} {st1 : List Value} (hg : zGet ci j pc' st h = some (pc1, st1)) : ∃ (k : Nat) (r : List Value) (fs : List Value) (v : Value), st = .ref k :: r ∧ k < h.2.1 ∧ h.1 k = .inr (ci, fs) ∧ fs[j]? = some v ∧ pc1 = pc' ∧ st1 = v :: r := by
  unfold zGet at hg
  split at hg
  · split at hg
    · rename_i hk
      split at hg
      · rename_i c fs hh
        split at hg
        · rename_i hc
          split at hg
          · rename_i v hv
            cases hg
            subst hc
            exact ⟨_, _, fs, v, rfl, hk, hh, hv, rfl, rfl⟩
          · cases hg
        · cases hg
      · cases hg
    · cases hg
  · cases hg
theorem zs_get {ci j i : Nat} {C : String} {Tc : u_T} {Nc : Nat} (hc : cl[ci]? = some (C, Tc, Nc)) (hin : ∀ w ∈ u_ws C Tc Nc, w ∈ G) (hj : j < Nc) (hlink : Cond.fieldLink own i (Tc j).1 (Tc j).2.1 (Tc j).2.2.1 ∈ G) (hd : decode bytes pc = .ok (.getfield i, 3)) : zSnd cl T G N O E own nm bytes nL pc (zS2 (zGet ci j (pc + 3))) :=
  zsnd2 fun st h pc1 st1 hg p l e R s m args below meth c Q H locs cells slots ls F _ _ _ hW hS k => by
    obtain ⟨a, r, fs, v, rfl, hk, hh, hv, rfl, rfl⟩ := zGet_some hg
    have hP := zP1 hW hk
    rw [hh] at hP
    exact va_get F.1 F.2.1 F.2.2.2.2.1 hin F.2.2.2.1 F.2.2.2.2.2.2.1.none hP 0 rfl hc j hj (F.2.2.2.2.1 _ hlink) (fun _ h => h) (by rw [List.getElem?_map, hv]; rfl) hd k
theorem zs_getN {ci j i : Nat} {C host : String} {Tc : u_T} {Nc : Nat} (hc : cl[ci]? = some (C, Tc, Nc)) (hin : ∀ w ∈ u_ws C Tc Nc, w ∈ G) (hj : j < Nc) (hlink : Cond.fieldLinkNest own i (Tc j).1 (Tc j).2.1 (Tc j).2.2.1 host ∈ N) (hd : decode bytes pc = .ok (.getfield i, 3)) : zSnd cl T G N O E own nm bytes nL pc (zS2 (zGet ci j (pc + 3))) :=
  zsnd2 fun st h pc1 st1 hg p l e R s m args below meth c Q H locs cells slots ls F _ _ _ hW hS k => by
    obtain ⟨a, r, fs, v, rfl, hk, hh, hv, rfl, rfl⟩ := zGet_some hg
    have hP := zP1 hW hk
    rw [hh] at hP
    exact va_getN F.1 F.2.1 F.2.2.2.2.1 hin F.2.2.2.1 F.2.2.2.2.2.2.1.none hP 0 rfl hc j hj (va_Nw.use rfl (F.2.2.2.2.2.1 _ hlink)) (fun _ h => h) (by rw [List.getElem?_map, hv]; rfl) hd k
/-- a field is written -/
abbrev zPut (f : Value → Bool) (ci j pc' : Nat) : zOp := fun L st h => match st with
  | v :: .ref k :: r => if f v = true ∧ k < h.2.1 then match h.1 k with
    | .inr (c, fs) => if c = ci ∧ j < fs.length then some (pc', L, r, (zup h.1 k (.inr (ci, fs.set j v)), h.2)) else none
    | .inl _ => none
    else none
  | _ => none
theorem zPut_some {f : Value → Bool} {ci j pc' : Nat} {L : zLoc} {st : List Value} {h : zH} {x : Nat × zLoc × List Value × zH} (hg : zPut f ci j pc' L st h = some x) : ∃ (v : Value) (k : Nat) (r : List Value) (fs : List Value), st = v :: .ref k :: r ∧ f v = true ∧ k < h.2.1 ∧ h.1 k = .inr (ci, fs) ∧ j < fs.length ∧ x = (pc', L, r, (zup h.1 k (.inr (ci, fs.set j v)), h.2)) := by
  unfold zPut at hg
  split at hg
  · split at hg
    · rename_i hk
      split at hg
      · rename_i c fs hh
        split at hg
        · rename_i hc
          cases hg
          obtain ⟨rfl, hl⟩ := hc
          exact ⟨_, _, _, fs, rfl, hk.1, hk.2, hh, hl, rfl⟩
        · cases hg
      · cases hg
    · cases hg
  · cases hg
/-- what a put owes to its field -/
theorem zput_at {p : Program} {l : Launch} {e : Env} {R : Room} {s : State} {m : MethodId} {args : Array Value} {meth : Method} {c : Code} {H : Heap} {ci j k : Nat} {C : String} {Tc : u_T} {Nc : Nat} {fs : List Value} {h : zH} {ty0 : Nat → FieldType} (F : zF cl T G N O E own nm bytes nL p s m args meth c) (hc : cl[ci]? = some (C, Tc, Nc)) (hin : ∀ w ∈ u_ws C Tc Nc, w ∈ G) (hj : j < Nc)
    (hty : ∀ k, k < Nc → parseFieldDescriptor (Tc k).2.2.1 = some (ty0 k)) (hnm : ∀ a, a < Nc → ∀ b, b < Nc → a ≠ b → (Tc a).2.1 ≠ (Tc b).2.1) (hW : zW cl E h H) (hk : k < h.2.1) (hh : h.1 k = .inr (ci, fs)) (hl : j < fs.length) {ty : FieldType} (hd : parseFieldDescriptor (Tc j).2.2.1 = some ty) {v : Value} (hn : narrow ty (zV E v) = zV E v) (hfit : fits ty (zV E v) = true) :
    ∃ (cf : Nat) (kf : Class) (fi : Nat) (f : Field) (cell : Cell) (kC : Class), s.fieldFound? (Tc j).1 (Tc j).2.1 (Tc j).2.2.1 = some (cf, kf, fi, f) ∧ f.isStatic = false ∧ H[zb E + k]? = some cell ∧ cell.vm = .none ∧ cell.cls = (zD E).1 ci ∧ s.vm.findClass C = some ((zD E).1 ci) ∧ s.vm.classes[(zD E).1 ci]? = some kC ∧ kC.kind = .ordinary ∧ f.slot < cell.slots.size ∧
      ∀ H1 : Heap, H1[zb E + k]? = some (cell.setSlot f.slot (zV E v)) → H1.size = H.size → (∀ q : Nat, q ≠ zb E + k → H1[q]? = H[q]?) → zW cl E (zup h.1 k (.inr (ci, fs.set j v)), h.2) H1 := by
  have hK := F.2.2.2.2.2.2.1.none
  have hap := va_apart (own := own) F.2.2.2.2.1 hin ty0 hty hnm hK hc
  have hP := hW.1 k hk
  rw [hh] at hP
  obtain ⟨r, h1, cell, q1, q2, q3, q4⟩ := hP
  have hr : r = (C, Tc, Nc) := Option.some.inj (h1.symm.trans hc)
  subst hr
  obtain ⟨hS, hfc, kC, hkC, hkind⟩ := hK.1 ci _ hc
  obtain ⟨cf, kf, fi, f, hi, hsl⟩ := hS j hj
  have hst := (u_facts hfc hkC (u_lays F.2.2.2.2.1 hin hj) hi).1
  refine ⟨cf, kf, fi, f, cell, kC, hi, hst, q1, q3, q2, hfc, hkC, hkind, by rw [hsl]; exact k2_hasslot (q4 j hj), fun H1 e1 e2 e3 => ?_⟩
  rw [hsl] at e1
  refine hW.put ?_ e2 e3
  refine ⟨_, hc, ?_⟩
  have hz : zEn E (.inr (ci, fs.set j v)) = .inr (ci, (fs.map (zV E)).set j (zV E v)) := by
    show Sum.inr (ci, (fs.set j v).map (zV E)) = _
    rw [List.map_set]
  show t_OB (zb E + k) ((zD E).1 ci) Nc ((zD E).2 ci) H1 (vp_V ((fs.set j v).map (zV E)))
  rw [List.map_set]
  exact t_OB.to (V := updV (vp_V (fs.map (zV E))) j (zV E v)) ⟨_, e1, q2, q3, t_set q4 hap hj (zV E v)⟩ (fun i _ => vp_updV_set (by rw [List.length_map]; exact hl) (zV E v) i)
theorem zs_put {f : Value → Bool} {ci j i : Nat} {C : String} {Tc : u_T} {Nc : Nat} {ty0 : Nat → FieldType} {ty : FieldType} (hc : cl[ci]? = some (C, Tc, Nc)) (hin : ∀ w ∈ u_ws C Tc Nc, w ∈ G) (hj : j < Nc) (hty : ∀ k, k < Nc → parseFieldDescriptor (Tc k).2.2.1 = some (ty0 k)) (hnm : ∀ a, a < Nc → ∀ b, b < Nc → a ≠ b → (Tc a).2.1 ≠ (Tc b).2.1)
    (hlink : Cond.fieldLink own i (Tc j).1 (Tc j).2.1 (Tc j).2.2.1 ∈ G) (hfin : (Tc j).2.2.2 = false) (hpd : parseFieldDescriptor (Tc j).2.2.1 = some ty) (hf : ∀ v, f v = true → narrow ty (zV E v) = zV E v ∧ fits ty (zV E v) = true) (hd : decode bytes pc = .ok (.putfield i, 3)) : zSnd cl T G N O E own nm bytes nL pc (zPut f ci j (pc + 3)) := by
  intro L st h pc' L' st' h' hop
  obtain ⟨v, k, r, fs, rfl, hfv, hk, hh, hl, hx⟩ := zPut_some hop
  cases hx
  refine ⟨⟨Nat.le_refl _, Nat.le_refl _⟩, ?_⟩
  intro p l e R s m args below meth c Q F _ _ n0 S0 H locs ls hll hW hS _ _ _ _ kk
  obtain ⟨hn, hfit⟩ := hf v hfv
  obtain ⟨cf, kf, fi, fd, cell, kC, hi, hst, q1, q3, q2, hfc, hkC, hkind, hslot, hput⟩ := zput_at (l := l) (e := e) (R := R) F hc hin hj hty hnm hW hk hh hl hpd hn hfit
  have hlay := F.2.2.2.2.1 _ (hin _ (u_in_lay hj))
  unfold u_lay at hlay
  rw [if_neg (by rw [hfin]; decide)] at hlay
  have h6 := u_store hfc hkC hkind hlay hi hpd hn hfit
  refine W.putK F.1 F.2.1 (f := fd) ⟨F.2.2.2.1, F.2.2.2.2.1 _ hlink, ⟨_, _, _, hi⟩, hst⟩ (by rw [q2]; exact h6) q1 q3 hslot rfl rfl hd fun H' e1 e2 e3 => ?_
  exact kk H' _ ls hll (hput H' e1 e2 e3) (zS.put hS e2 e3)
theorem zs_putN {f : Value → Bool} {ci j i : Nat} {C host : String} {Tc : u_T} {Nc : Nat} {ty0 : Nat → FieldType} {ty : FieldType} (hc : cl[ci]? = some (C, Tc, Nc)) (hin : ∀ w ∈ u_ws C Tc Nc, w ∈ G) (hj : j < Nc) (hty : ∀ k, k < Nc → parseFieldDescriptor (Tc k).2.2.1 = some (ty0 k)) (hnm : ∀ a, a < Nc → ∀ b, b < Nc → a ≠ b → (Tc a).2.1 ≠ (Tc b).2.1)
    (hlink : Cond.fieldLinkNest own i (Tc j).1 (Tc j).2.1 (Tc j).2.2.1 host ∈ N) (hfin : (Tc j).2.2.2 = false) (hpd : parseFieldDescriptor (Tc j).2.2.1 = some ty) (hf : ∀ v, f v = true → narrow ty (zV E v) = zV E v ∧ fits ty (zV E v) = true) (hd : decode bytes pc = .ok (.putfield i, 3)) : zSnd cl T G N O E own nm bytes nL pc (zPut f ci j (pc + 3)) := by
  intro L st h pc' L' st' h' hop
  obtain ⟨v, k, r, fs, rfl, hfv, hk, hh, hl, hx⟩ := zPut_some hop
  cases hx
  refine ⟨⟨Nat.le_refl _, Nat.le_refl _⟩, ?_⟩
  intro p l e R s m args below meth c Q F _ _ n0 S0 H locs ls hll hW hS _ _ _ _ kk
  obtain ⟨hn, hfit⟩ := hf v hfv
  obtain ⟨cf, kf, fi, fd, cell, kC, hi, hst, q1, q3, q2, hfc, hkC, hkind, hslot, hput⟩ := zput_at (l := l) (e := e) (R := R) F hc hin hj hty hnm hW hk hh hl hpd hn hfit
  have hlay := F.2.2.2.2.1 _ (hin _ (u_in_lay hj))
  unfold u_lay at hlay
  rw [if_neg (by rw [hfin]; decide)] at hlay
  have h6 := u_store hfc hkC hkind hlay hi hpd hn hfit
  refine va_WputK F.1 F.2.1 (f := fd) F.2.2.2.1 (va_Nw.use rfl (F.2.2.2.2.2.1 _ hlink)) hi hst (by rw [q2]; exact h6) q1 q3 hslot rfl rfl hd fun H' e1 e2 e3 => ?_
  exact kk H' _ ls hll (hput H' e1 e2 e3) (zS.put hS e2 e3)
theorem zs_putF {f : Value → Bool} {ci j i : Nat} {C : String} {Tc : u_T} {Nc : Nat} {ty0 : Nat → FieldType} {ty : FieldType} (hc : cl[ci]? = some (C, Tc, Nc)) (hin : ∀ w ∈ u_ws C Tc Nc, w ∈ G) (hj : j < Nc) (hty : ∀ k, k < Nc → parseFieldDescriptor (Tc k).2.2.1 = some (ty0 k)) (hnm : ∀ a, a < Nc → ∀ b, b < Nc → a ≠ b → (Tc a).2.1 ≠ (Tc b).2.1)
    (hlink : Cond.fieldLink own i (Tc j).1 (Tc j).2.1 (Tc j).2.2.1 ∈ G) (hfin : (Tc j).2.2.2 = true) (hini : nm = "<init>") (hdecl : (Tc j).1 = own) (hpd : parseFieldDescriptor (Tc j).2.2.1 = some ty) (hf : ∀ v, f v = true → narrow ty (zV E v) = zV E v ∧ fits ty (zV E v) = true) (hd : decode bytes pc = .ok (.putfield i, 3)) : zSnd cl T G N O E own nm bytes nL pc (zPut f ci j (pc + 3)) := by
  intro L st h pc' L' st' h' hop
  obtain ⟨v, k, r, fs, rfl, hfv, hk, hh, hl, hx⟩ := zPut_some hop
  cases hx
  refine ⟨⟨Nat.le_refl _, Nat.le_refl _⟩, ?_⟩
  intro p l e R s m args below meth c Q F _ _ n0 S0 H locs ls hll hW hS _ _ _ _ kk
  obtain ⟨hn, hfit⟩ := hf v hfv
  obtain ⟨cf, kf, fi, fd, cell, kC, hi, hst, q1, q3, q2, hfc, hkC, hkind, hslot, hput⟩ := zput_at (l := l) (e := e) (R := R) F hc hin hj hty hnm hW hk hh hl hpd hn hfit
  have hlay := F.2.2.2.2.1 _ (hin _ (u_in_lay hj))
  unfold u_lay at hlay
  rw [if_pos hfin] at hlay
  have hcf : m.cls = cf := by
    obtain ⟨_, _, c', _, _, _, -, -, hf', -, -, -, hown2, -⟩ := Cond.laysFinal_spec hlay
    have e1 : c' = cf := by have := hi.symm.trans hf'; simp at this; exact this.1.symm
    rw [hdecl] at hown2
    rw [← e1]; exact Option.some.inj (F.2.2.2.1.symm.trans hown2)
  have h6 := u_fits hfc hkC hkind (Or.inr hlay) hi hpd hn hfit
  have hmn : meth.name = "<init>" := by rw [F.2.2.2.2.2.2.2.2.2.2.2.2]; exact hini
  refine W.putFinK F.1 F.2.1 F.2.2.2.1 (F.2.2.2.2.1 _ hlink) hi hst hcf hmn (by rw [q2]; exact h6) q1 q3 hslot rfl rfl hd fun H' e1 e2 e3 => ?_
  exact kk H' _ ls hll (hput H' e1 e2 e3) (zS.put hS e2 e3)
theorem zfI (v : Value) (h : zIsI v = true) : narrow .int (zV E v) = zV E v ∧ fits .int (zV E v) = true := by
  cases v <;> first | cases h; done | exact ⟨rfl, rfl⟩
theorem zfL (v : Value) (h : zIsL v = true) : narrow .long (zV E v) = zV E v ∧ fits .long (zV E v) = true := by
  cases v <;> first | cases h; done | exact ⟨rfl, rfl⟩
theorem zfO (n : String) (v : Value) (h : zIsA v = true) : narrow (.object n) (zV E v) = zV E v ∧ fits (.object n) (zV E v) = true := by
  cases v <;> first | cases h; done | exact ⟨rfl, rfl⟩
theorem zfR (t : FieldType) (v : Value) (h : zIsA v = true) : narrow (.array t) (zV E v) = zV E v ∧ fits (.array t) (zV E v) = true := by
  cases v <;> first | cases h; done | exact ⟨rfl, rfl⟩
end ZHEAP
end
section
/-! SOUND STEPS on arrays, and what is made -/
theorem zbytes {n k : Nat} (h : n ≤ 1000000) (hk : k ≤ 8) : n * k ≤ 536870912 := Nat.le_trans (Nat.mul_le_mul h hk) (Nat.le_of_ble_eq_true rfl)
section ZARR
variable {cl : List vw_C} {T : List FieldType} {G N : List Cond} {O : Nat → State → Heap → Prop} {E : zE} {own nm : String} {bytes : ByteArray} {nL pc : Nat}
abbrev zAldI (t pc' : Nat) : List Value → zH → Option (Nat × List Value) := fun st h => match st with
  | .int i :: .ref k :: r => if k < h.2.1 then match h.1 k with
    | .inl (t', n, .inl f) => if t' = t then if i < 0 ∨ n ≤ i.toNatClampNeg then none else some (pc', .int (f i.toNatClampNeg) :: r) else none
    | _ => none
    else none
  | _ => none
theorem zs_aldI {t : Nat} (ht : T[t]? = some .int) (hd : decode bytes pc = .ok (.iaload, 1)) : zSnd cl T G N O E own nm bytes nL pc (zS2 (zAldI t (pc + 1))) :=
  zsnd2 fun st h pc1 st1 hg p l e R s m args below meth c Q H locs cells slots ls F _ _ _ hW hS k => by
    simp only [zAldI] at hg
    split at hg
    · split at hg
      · rename_i hk
        split at hg
        · rename_i hh
          split at hg
          · rename_i htt
            split at hg
            · cases hg
            · rename_i hin
              cases hg
              subst htt
              have hP := zP1 hW hk
              rw [hh] at hP
              exact va_iald F.1 F.2.1 (F.2.2.2.2.2.2.1.one ht) hP 0 0 rfl rfl hin hd k
          · cases hg
        · cases hg
      · cases hg
    · cases hg
abbrev zAldZ (t pc' : Nat) : List Value → zH → Option (Nat × List Value) := fun st h => match st with
  | .int i :: .ref k :: r => if k < h.2.1 then match h.1 k with
    | .inl (t', n, .inl f) => if t' = t then if i < 0 ∨ n ≤ i.toNatClampNeg then none else some (pc', .int (f i.toNatClampNeg) :: r) else none
    | _ => none
    else none
  | _ => none
theorem zs_aldZ {t : Nat} (ht : T[t]? = some .boolean) (hd : decode bytes pc = .ok (.baload, 1)) : zSnd cl T G N O E own nm bytes nL pc (zS2 (zAldZ t (pc + 1))) :=
  zsnd2 fun st h pc1 st1 hg p l e R s m args below meth c Q H locs cells slots ls F _ _ _ hW hS k => by
    simp only [zAldZ] at hg
    split at hg
    · split at hg
      · rename_i hk
        split at hg
        · rename_i hh
          split at hg
          · rename_i htt
            split at hg
            · cases hg
            · rename_i hin
              cases hg
              subst htt
              have hP := zP1 hW hk
              rw [hh] at hP
              exact va_zald F.1 F.2.1 (F.2.2.2.2.2.2.1.one ht) hP 0 0 rfl rfl hin hd k
          · cases hg
        · cases hg
      · cases hg
    · cases hg
abbrev zAldJ (t pc' : Nat) : List Value → zH → Option (Nat × List Value) := fun st h => match st with
  | .int i :: .ref k :: r => if k < h.2.1 then match h.1 k with
    | .inl (t', n, .inr (.inl f)) => if t' = t then if i < 0 ∨ n ≤ i.toNatClampNeg then none else some (pc', .long (f i.toNatClampNeg) :: r) else none
    | _ => none
    else none
  | _ => none
theorem zs_aldJ {t : Nat} (ht : T[t]? = some .long) (hd : decode bytes pc = .ok (.laload, 1)) : zSnd cl T G N O E own nm bytes nL pc (zS2 (zAldJ t (pc + 1))) :=
  zsnd2 fun st h pc1 st1 hg p l e R s m args below meth c Q H locs cells slots ls F _ _ _ hW hS k => by
    simp only [zAldJ] at hg
    split at hg
    · split at hg
      · rename_i hk
        split at hg
        · rename_i hh
          split at hg
          · rename_i htt
            split at hg
            · cases hg
            · rename_i hin
              cases hg
              subst htt
              have hP := zP1 hW hk
              rw [hh] at hP
              exact va_lald F.1 F.2.1 (F.2.2.2.2.2.2.1.one ht) hP 0 0 rfl rfl hin hd k
          · cases hg
        · cases hg
      · cases hg
    · cases hg
abbrev zAldD (t pc' : Nat) : List Value → zH → Option (Nat × List Value) := fun st h => match st with
  | .int i :: .ref k :: r => if k < h.2.1 then match h.1 k with
    | .inl (t', n, .inr (.inr (.inr (.inl f)))) => if t' = t then if i < 0 ∨ n ≤ i.toNatClampNeg then none else some (pc', .double (f i.toNatClampNeg) :: r) else none
    | _ => none
    else none
  | _ => none
theorem zs_aldD {t : Nat} (ht : T[t]? = some .double) (hd : decode bytes pc = .ok (.daload, 1)) : zSnd cl T G N O E own nm bytes nL pc (zS2 (zAldD t (pc + 1))) :=
  zsnd2 fun st h pc1 st1 hg p l e R s m args below meth c Q H locs cells slots ls F _ _ _ hW hS k => by
    simp only [zAldD] at hg
    split at hg
    · split at hg
      · rename_i hk
        split at hg
        · rename_i hh
          split at hg
          · rename_i htt
            split at hg
            · cases hg
            · rename_i hin
              cases hg
              subst htt
              have hP := zP1 hW hk
              rw [hh] at hP
              exact va_dald F.1 F.2.1 (F.2.2.2.2.2.2.1.one ht) hP 0 0 rfl rfl hin hd k
          · cases hg
        · cases hg
      · cases hg
    · cases hg
def zRf (o : Option Nat) : Value := match o with | some k => .ref k | none => .null
theorem zRf_V (o : Option Nat) : zV E (zRf o) = va_rf (o.map (fun k => zb E + k)) := by cases o <;> rfl
abbrev zAldQ (t pc' : Nat) : List Value → zH → Option (Nat × List Value) := fun st h => match st with
  | .int i :: .ref k :: r => if k < h.2.1 then match h.1 k with
    | .inl (t', n, .inr (.inr (.inr (.inr f)))) => if t' = t then if i < 0 ∨ n ≤ i.toNatClampNeg then none else some (pc', zRf (f i.toNatClampNeg) :: r) else none
    | _ => none
    else none
  | _ => none
theorem zs_aldQ {t : Nat} {C : String} (ht : T[t]? = some (.object C)) (hd : decode bytes pc = .ok (.aaload, 1)) : zSnd cl T G N O E own nm bytes nL pc (zS2 (zAldQ t (pc + 1))) :=
  zsnd2 fun st h pc1 st1 hg p l e R s m args below meth c Q H locs cells slots ls F _ _ _ hW hS k => by
    simp only [zAldQ] at hg
    split at hg
    · split at hg
      · rename_i hk
        split at hg
        · rename_i hh
          split at hg
          · rename_i htt
            split at hg
            · cases hg
            · rename_i hin
              cases hg
              subst htt
              have hP := zP1 hW hk
              rw [hh] at hP
              rw [List.map_cons, zRf_V] at k
              exact va_aldq F.1 F.2.1 (F.2.2.2.2.2.2.1.one ht) hP 0 0 rfl rfl hin hd k
          · cases hg
        · cases hg
      · cases hg
    · cases hg
abbrev zLen (t pc' : Nat) : List Value → zH → Option (Nat × List Value) := fun st h => match st with
  | .ref k :: r => if k < h.2.1 then match h.1 k with
    | .inl (t', n, _) => if t' = t then some (pc', .int (Int32.ofNat n) :: r) else none
    | .inr _ => none
    else none
  | _ => none
theorem zs_len {t : Nat} {ty : FieldType} (ht : T[t]? = some ty) (hd : decode bytes pc = .ok (.arraylength, 1)) : zSnd cl T G N O E own nm bytes nL pc (zS2 (zLen t (pc + 1))) :=
  zsnd2 fun st h pc1 st1 hg p l e R s m args below meth c Q H locs cells slots ls F _ _ _ hW hS k => by
    simp only [zLen] at hg
    split at hg
    · split at hg
      · rename_i hk
        split at hg
        · rename_i hh
          split at hg
          · rename_i htt
            cases hg
            subst htt
            have hP := zP1 hW hk
            rw [hh] at hP
            exact va_alen F.1 F.2.1 (F.2.2.2.2.2.2.1.one ht) hP 0 0 rfl rfl rfl hd k
          · cases hg
        · cases hg
      · cases hg
    · cases hg
abbrev zSld (xs : Nat → Int32) (Ls pc' : Nat) : List Value → Option (Nat × List Value) := fun st => match st with
  | .int i :: .retAddr 0 :: r => if i < 0 ∨ Ls ≤ i.toNatClampNeg then none else some (pc', .int (xs i.toNatClampNeg) :: r)
  | _ => none
theorem zs_sld (hd : decode bytes pc = .ok (.iaload, 1)) : zSnd cl T G N O E own nm bytes nL pc (zS2 (fun st _ => zSld (zxs E) (zLs E) (pc + 1) st)) :=
  zsnd2 fun st h pc1 st1 hg p l e R s m args below meth c Q H locs cells slots ls F _ _ _ hW hS k => by
    simp only [zSld] at hg
    split at hg
    · split at hg
      · cases hg
      · rename_i hin
        cases hg
        exact va_sld F.1 F.2.1 F.2.2.2.2.2.2.2.2.1 (Nat.lt_of_lt_of_le (F.2.2.2.2.2.2.2.2.2.1 0) F.2.2.2.2.2.2.2.2.2.2.1) (Nat.not_le.mpr (F.2.2.2.2.2.2.2.2.2.1 0)) hS hin hd k
    · cases hg
abbrev zSlen (Ls pc' : Nat) : List Value → Option (Nat × List Value) := fun st => match st with
  | .retAddr 0 :: r => some (pc', .int (Int32.ofNat Ls) :: r)
  | _ => none
theorem zs_slen (hd : decode bytes pc = .ok (.arraylength, 1)) : zSnd cl T G N O E own nm bytes nL pc (zS2 (fun st _ => zSlen (zLs E) (pc + 1) st)) :=
  zsnd2 fun st h pc1 st1 hg p l e R s m args below meth c Q H locs cells slots ls F _ _ _ hW hS k => by
    simp only [zSlen] at hg
    split at hg
    · cases hg
      exact va_slen F.1 F.2.1 F.2.2.2.2.2.2.2.2.1 (Nat.lt_of_lt_of_le (F.2.2.2.2.2.2.2.2.2.1 0) F.2.2.2.2.2.2.2.2.2.2.1) (Nat.not_le.mpr (F.2.2.2.2.2.2.2.2.2.1 0)) hS hd k
    · cases hg
abbrev zAstI (t pc' : Nat) : zOp := fun L st h => match st with
  | .int x :: .int i :: .ref k :: r => if k < h.2.1 ∧ (True) then match h.1 k with
    | .inl (t', n, .inl f) => if t' = t then if i < 0 ∨ n ≤ i.toNatClampNeg then none else some (pc', L, r, (zup h.1 k (.inl (t, n, .inl (upd f i.toNatClampNeg x))), h.2)) else none
    | _ => none
    else none
  | _ => none
theorem zs_astI {t : Nat} (ht : T[t]? = some .int) (hd : decode bytes pc = .ok (.iastore, 1)) : zSnd cl T G N O E own nm bytes nL pc (zAstI t (pc + 1)) := by
  intro L st h pc' L' st' h' hop
  simp only [zAstI] at hop
  split at hop
  · rename_i x i k r
    split at hop
    · rename_i hk
      obtain ⟨hk, hgd⟩ := hk
      split at hop
      · rename_i t' n f hh
        split at hop
        · rename_i htt
          split at hop
          · cases hop
          · rename_i hin
            cases hop
            subst htt
            refine ⟨⟨Nat.le_refl _, Nat.le_refl _⟩, ?_⟩
            intro p l e R s m args below meth c Q F _ _ n0 S0 H locs ls hll hW hS _ _ _ _ kk
            have hP := hW.1 k hk
            rw [hh] at hP
            refine W.iast F.1 F.2.1 hP ((F.2.2.2.2.2.2.1.2 t' _ ht).1 n (fun j => .int (f j))) (fun q => by cases q) (by show ¬ (i < 0 ∨ (arrV _ _ _).slots.size ≤ _); rw [arrV_size]; exact hin) rfl rfl hd fun H1 e z oq => ?_
            refine kk H1 _ ls hll (hW.put ?_ z oq) (zS.put hS z oq)
            show H1[zb E + k]? = some (vp_cell _ _)
            rw [e]
            show some ((vp_cell (zcy E t') (n, .inl f)).setSlot _ _) = some (vp_cell (zcy E t') (n, .inl (upd f i.toNatClampNeg x)))
            rw [vp_cell_i, vp_cell_i, arrV_store]
            congr 2
            funext q
            by_cases hq : q = i.toNatClampNeg
            · subst hq
              simp [updV, upd]
            · simp [updV, upd, hq]
        · cases hop
      · cases hop
    · cases hop
  · cases hop
abbrev zAstZ (t pc' : Nat) : zOp := fun L st h => match st with
  | .int x :: .int i :: .ref k :: r => if k < h.2.1 ∧ (x = 0 ∨ x = 1) then match h.1 k with
    | .inl (t', n, .inl f) => if t' = t then if i < 0 ∨ n ≤ i.toNatClampNeg then none else some (pc', L, r, (zup h.1 k (.inl (t, n, .inl (upd f i.toNatClampNeg x))), h.2)) else none
    | _ => none
    else none
  | _ => none
theorem zs_astZ {t : Nat} (ht : T[t]? = some .boolean) (hd : decode bytes pc = .ok (.bastore, 1)) : zSnd cl T G N O E own nm bytes nL pc (zAstZ t (pc + 1)) := by
  intro L st h pc' L' st' h' hop
  simp only [zAstZ] at hop
  split at hop
  · rename_i x i k r
    split at hop
    · rename_i hk
      obtain ⟨hk, hgd⟩ := hk
      split at hop
      · rename_i t' n f hh
        split at hop
        · rename_i htt
          split at hop
          · cases hop
          · rename_i hin
            cases hop
            subst htt
            refine ⟨⟨Nat.le_refl _, Nat.le_refl _⟩, ?_⟩
            intro p l e R s m args below meth c Q F _ _ n0 S0 H locs ls hll hW hS _ _ _ _ kk
            have hP := hW.1 k hk
            rw [hh] at hP
            refine W.zast F.1 F.2.1 hP ((F.2.2.2.2.2.2.1.2 t' _ ht).1 n (fun j => .int (f j))) (fun q => by cases q) (by show ¬ (i < 0 ∨ (arrV _ _ _).slots.size ≤ _); rw [arrV_size]; exact hin) rfl rfl hd fun H1 e z oq => ?_
            refine kk H1 _ ls hll (hW.put ?_ z oq) (zS.put hS z oq)
            show H1[zb E + k]? = some (vp_cell _ _)
            rw [e]
            show some ((vp_cell (zcy E t') (n, .inl f)).setSlot _ _) = some (vp_cell (zcy E t') (n, .inl (upd f i.toNatClampNeg x)))
            rw [vp_cell_i, vp_cell_i, arrV_store]
            congr 2
            funext q
            by_cases hq : q = i.toNatClampNeg
            · subst hq
              rcases hgd with rfl | rfl <;> simp [updV, upd] <;> rfl
            · simp [updV, upd, hq]
        · cases hop
      · cases hop
    · cases hop
  · cases hop
abbrev zAstJ (t pc' : Nat) : zOp := fun L st h => match st with
  | .long x :: .int i :: .ref k :: r => if k < h.2.1 ∧ (True) then match h.1 k with
    | .inl (t', n, .inr (.inl f)) => if t' = t then if i < 0 ∨ n ≤ i.toNatClampNeg then none else some (pc', L, r, (zup h.1 k (.inl (t, n, .inr (.inl (vp_updL f i.toNatClampNeg x)))), h.2)) else none
    | _ => none
    else none
  | _ => none
theorem zs_astJ {t : Nat} (ht : T[t]? = some .long) (hd : decode bytes pc = .ok (.lastore, 1)) : zSnd cl T G N O E own nm bytes nL pc (zAstJ t (pc + 1)) := by
  intro L st h pc' L' st' h' hop
  simp only [zAstJ] at hop
  split at hop
  · rename_i x i k r
    split at hop
    · rename_i hk
      obtain ⟨hk, hgd⟩ := hk
      split at hop
      · rename_i t' n f hh
        split at hop
        · rename_i htt
          split at hop
          · cases hop
          · rename_i hin
            cases hop
            subst htt
            refine ⟨⟨Nat.le_refl _, Nat.le_refl _⟩, ?_⟩
            intro p l e R s m args below meth c Q F _ _ n0 S0 H locs ls hll hW hS _ _ _ _ kk
            have hP := hW.1 k hk
            rw [hh] at hP
            refine W.last F.1 F.2.1 hP ((F.2.2.2.2.2.2.1.2 t' _ ht).1 n (fun j => .long (f j))) (fun q => by cases q) (by show ¬ (i < 0 ∨ (arrV _ _ _).slots.size ≤ _); rw [arrV_size]; exact hin) rfl rfl hd fun H1 e z oq => ?_
            refine kk H1 _ ls hll (hW.put ?_ z oq) (zS.put hS z oq)
            show H1[zb E + k]? = some (vp_cell _ _)
            rw [e]
            show some ((vp_cell (zcy E t') (n, .inr (.inl f))).setSlot _ _) = some (vp_cell (zcy E t') (n, .inr (.inl (vp_updL f i.toNatClampNeg x))))
            rw [vp_cell_l, vp_cell_l, arrV_store]
            congr 2
            funext q
            by_cases hq : q = i.toNatClampNeg
            · subst hq
              simp [updV, vp_updL]
            · simp [updV, vp_updL, hq]
        · cases hop
      · cases hop
    · cases hop
  · cases hop
abbrev zAstD (t pc' : Nat) : zOp := fun L st h => match st with
  | .double x :: .int i :: .ref k :: r => if k < h.2.1 ∧ (True) then match h.1 k with
    | .inl (t', n, .inr (.inr (.inr (.inl f)))) => if t' = t then if i < 0 ∨ n ≤ i.toNatClampNeg then none else some (pc', L, r, (zup h.1 k (.inl (t, n, .inr (.inr (.inr (.inl (vf_upd f i.toNatClampNeg x)))))), h.2)) else none
    | _ => none
    else none
  | _ => none
theorem zs_astD {t : Nat} (ht : T[t]? = some .double) (hd : decode bytes pc = .ok (.dastore, 1)) : zSnd cl T G N O E own nm bytes nL pc (zAstD t (pc + 1)) := by
  intro L st h pc' L' st' h' hop
  simp only [zAstD] at hop
  split at hop
  · rename_i x i k r
    split at hop
    · rename_i hk
      obtain ⟨hk, hgd⟩ := hk
      split at hop
      · rename_i t' n f hh
        split at hop
        · rename_i htt
          split at hop
          · cases hop
          · rename_i hin
            cases hop
            subst htt
            refine ⟨⟨Nat.le_refl _, Nat.le_refl _⟩, ?_⟩
            intro p l e R s m args below meth c Q F _ _ n0 S0 H locs ls hll hW hS _ _ _ _ kk
            have hP := hW.1 k hk
            rw [hh] at hP
            refine W.dast F.1 F.2.1 hP ((F.2.2.2.2.2.2.1.2 t' _ ht).1 n (fun j => .double (f j))) (fun q => by cases q) (by show ¬ (i < 0 ∨ (arrV _ _ _).slots.size ≤ _); rw [arrV_size]; exact hin) rfl rfl hd fun H1 e z oq => ?_
            refine kk H1 _ ls hll (hW.put ?_ z oq) (zS.put hS z oq)
            show H1[zb E + k]? = some (vp_cell _ _)
            rw [e]
            show some ((vp_cell (zcy E t') (n, .inr (.inr (.inr (.inl f))))).setSlot _ _) = some (vp_cell (zcy E t') (n, .inr (.inr (.inr (.inl (vf_upd f i.toNatClampNeg x))))))
            rw [vp_cell_d, vp_cell_d, arrV_store]
            congr 2
            funext q
            by_cases hq : q = i.toNatClampNeg
            · subst hq
              simp [updV, vf_upd]
            · simp [updV, vf_upd, hq]
        · cases hop
      · cases hop
    · cases hop
  · cases hop
abbrev zAstQ (t ci pc' : Nat) : zOp := fun L st h => match st with
  | .ref v :: .int i :: .ref k :: r => if k < h.2.1 ∧ v < h.2.1 then match h.1 k, h.1 v with
    | .inl (t', n, .inr (.inr (.inr (.inr f)))), .inr (ci', _) => if t' = t ∧ ci' = ci then if i < 0 ∨ n ≤ i.toNatClampNeg then none else some (pc', L, r, (zup h.1 k (.inl (t, n, .inr (.inr (.inr (.inr (va_up f i.toNatClampNeg (some v))))))), h.2)) else none
    | _, _ => none
    else none
  | _ => none
theorem zs_astQ {t ci : Nat} {C : String} {Tc : u_T} {Nc : Nat} (ht : T[t]? = some (.object C)) (hc : cl[ci]? = some (C, Tc, Nc)) (hd : decode bytes pc = .ok (.aastore, 1)) : zSnd cl T G N O E own nm bytes nL pc (zAstQ t ci (pc + 1)) := by
  intro L st h pc' L' st' h' hop
  simp only [zAstQ] at hop
  split at hop
  · rename_i v i k r
    split at hop
    · rename_i hk
      obtain ⟨hk, hv⟩ := hk
      split at hop
      · rename_i t' n f ci' vs hh hhv
        split at hop
        · rename_i htt
          obtain ⟨rfl, rfl⟩ := htt
          split at hop
          · cases hop
          · rename_i hin
            cases hop
            refine ⟨⟨Nat.le_refl _, Nat.le_refl _⟩, ?_⟩
            intro p l e R s m args below meth c Q F _ _ n0 S0 H locs ls hll hW hS _ _ _ _ kk
            have hP := hW.1 k hk
            rw [hh] at hP
            have hPv := hW.1 v hv
            rw [hhv] at hPv
            have hlt : i.toNatClampNeg < n := Nat.not_le.mp fun q => hin (Or.inr q)
            have h0 : ¬ i < 0 := fun q => hin (Or.inl q)
            obtain ⟨r', hr', cellV, g1, g2, g3, -⟩ := hPv
            have hK := F.2.2.2.2.2.2.1
            have hcls := (hK.1 ci' _ hc).2
            obtain ⟨kA, comp, k1, k2, k3, -⟩ := (hK.2 t' _ ht).2
            have hcomp : comp = (zD E).1 ci' := Option.some.inj (k3.symm.trans hcls.1)
            subst hcomp
            obtain ⟨kC, hkC, -⟩ := hcls.2
            refine W.aast F.1 F.2.1 hP (fun q h => by cases h) (fun h => by cases h) k1 k2 rfl hkC ⟨h0, by show _ < (arrV _ _ _).slots.size; rw [arrV_size]; exact hlt⟩ g1 (fun q h => by rw [g3] at h; cases h) (by rw [g2]; exact hkC) (by rw [g2]; exact va_assign hcls) rfl rfl hd fun H1 e z oq => ?_
            refine kk H1 _ ls hll (hW.put ?_ z oq) (zS.put hS z oq)
            show H1[zb E + k]? = some (vp_cell _ _)
            rw [e]
            show some ((vp_cell (zcy E t') (n, .inr (.inr (.inr (.inr (fun j => (f j).map (fun k => zb E + k))))))).setSlot _ _) = some (vp_cell (zcy E t') (n, .inr (.inr (.inr (.inr (fun j => (va_up f i.toNatClampNeg (some v) j).map (fun k => zb E + k)))))))
            rw [vp_cell_q, vp_cell_q, arrV_store]
            congr 2
            funext q
            by_cases hq : q = i.toNatClampNeg
            · subst hq
              simp [updV, va_up, va_rf]
            · simp [updV, va_up, hq]
        · cases hop
      · cases hop
    · cases hop
  · cases hop
abbrev zNew (ci : Nat) (fs : List Value) (Nc pc' : Nat) : zOp := fun L st h => if h.2.2.2.2 = true then some (pc', L, .ref h.2.1 :: st, (zup h.1 h.2.1 (.inr (ci, fs)), h.2.1 + 1, h.2.2.1 + 1, h.2.2.2.1 + Nc, true)) else none
theorem zs_new {ci i : Nat} {fs : List Value} {C : String} {Tc : u_T} {Nc : Nat} {ty : Nat → FieldType} (hc : cl[ci]? = some (C, Tc, Nc)) (hin : ∀ w ∈ u_ws C Tc Nc, w ∈ G) (hty : ∀ k, k < Nc → parseFieldDescriptor (Tc k).2.2.1 = some (ty k)) (hcl : Cond.classLink own i C ∈ G) (hinst : Cond.instantiable C Nc ∈ G) (hini : Cond.initialized C ∈ G) (hfs : ∀ j, j < Nc → defaultValue (ty j) = vp_V fs j) (hz : fs.map (zV E) = fs) (hd : decode bytes pc = .ok (.new i, 3)) : zSnd cl T G N O E own nm bytes nL pc (zNew ci fs Nc (pc + 3)) := by
  intro L st h pc' L' st' h' hop
  simp only [zNew] at hop
  split at hop
  · rename_i hlive
    cases hop
    refine ⟨⟨Nat.le_succ _, Nat.le_add_right _ _⟩, ?_⟩
    intro p l e R s m args below meth c Q F _ _ n0 S0 H locs ls hll hW hS hn0 hS0 hcR hsR kk
    have hcR' : h.2.2.1 + 1 - n0 ≤ R.cells := hcR
    have hsR' : h.2.2.2.1 + Nc - S0 ≤ R.slots := hsR
    have hK := F.2.2.2.2.2.2.1.none
    have hKn := hK.1 ci _ hc
    refine W.newcK F.1 F.2.1 F.2.2.2.1 (F.2.2.2.2.1 _ hcl) (F.2.2.2.2.1 _ hinst) (F.2.2.2.2.1 _ hini) rfl hd (by omega) (by omega) hKn.2.1 rfl fun H1 kC hkC e1 z1 o1 => ?_
    refine W.cs (cells' := h.2.2.1 + 1 - n0) (slots' := h.2.2.2.1 + Nc - S0) (by omega) (by omega) ?_
    have hsz := hW.2.2 hlive
    have hk := kk H1 locs ls hll (hW.push hlive ?_ z1 o1) (zS.push hS z1 o1)
    · have hst : (Value.ref h.2.1 :: st).map (zV E) = .ref H.size :: st.map (zV E) := by
        rw [List.map_cons, hsz]
        rfl
      rw [hst] at hk
      exact hk
    · refine ⟨_, hc, ?_⟩
      show t_OB H.size _ _ _ H1 (vp_V (fs.map (zV E)))
      rw [hz]
      exact (u_born ty F.2.2.2.2.1 hin hKn hkC e1 hty).to hfs
  · cases hop
abbrev zNwaI (t pc' : Nat) : zOp := fun L st h => match st with
  | .int n :: r => if h.2.2.2.2 = true ∧ ¬ n < 0 ∧ n.toNatClampNeg ≤ 1000000 then some (pc', L, .ref h.2.1 :: r, (zup h.1 h.2.1 (.inl (t, n.toNatClampNeg, .inl (fun _ => 0))), h.2.1 + 1, h.2.2.1 + 1, h.2.2.2.1 + n.toNatClampNeg, true)) else none
  | _ => none
theorem zs_nwaI {t : Nat} (ht : T[t]? = some .int) (hw : Cond.arrayClass .int ∈ G) (hd : decode bytes pc = .ok (.newarray .int, 2)) : zSnd cl T G N O E own nm bytes nL pc (zNwaI t (pc + 2)) := by
  intro L st h pc' L' st' h' hop
  simp only [zNwaI] at hop
  split at hop
  · rename_i n r
    split at hop
    · rename_i hg
      obtain ⟨hlive, hn, hbig⟩ := hg
      cases hop
      refine ⟨⟨Nat.le_succ _, Nat.le_add_right _ _⟩, ?_⟩
      intro p l e R s m args below meth c Q F _ _ n0 S0 H locs ls hll hW hS hn0 hS0 hcR hsR kk
      have hcR' : h.2.2.1 + 1 - n0 ≤ R.cells := hcR
      have hsR' : h.2.2.2.1 + n.toNatClampNeg - S0 ≤ R.slots := hsR
      refine va_newaK (atype := .int) F.1 F.2.1 (F.2.2.2.2.1 _ hw) rfl hd rfl hn rfl (zbytes hbig (by decide)) (by omega) (by omega) rfl fun H1 cA e1 z1 o1 hAr hNm => ?_
      refine W.cs (cells' := h.2.2.1 + 1 - n0) (slots' := h.2.2.2.1 + n.toNatClampNeg - S0) (by omega) (by omega) ?_
      have hsz := hW.2.2 hlive
      have hcy : cA = zcy E t := Option.some.inj (hNm.symm.trans (F.2.2.2.2.2.2.1.2 t _ ht).2)
      subst hcy
      have hk := kk H1 locs ls hll (hW.push hlive ?_ z1 o1) (zS.push hS z1 o1)
      · have hst : (Value.ref h.2.1 :: r).map (zV E) = .ref H.size :: r.map (zV E) := by
          rw [List.map_cons, hsz]
          rfl
        rw [hst] at hk
        exact hk
      · show H1[H.size]? = some (vp_cell _ _)
        rw [e1]
        show _ = some (vp_cell (zcy E t) (n.toNatClampNeg, .inl (fun _ => 0)))
        rw [vp_cell_i]
        rfl
    · cases hop
  · cases hop
abbrev zNwaZ (t pc' : Nat) : zOp := fun L st h => match st with
  | .int n :: r => if h.2.2.2.2 = true ∧ ¬ n < 0 ∧ n.toNatClampNeg ≤ 1000000 then some (pc', L, .ref h.2.1 :: r, (zup h.1 h.2.1 (.inl (t, n.toNatClampNeg, .inl (fun _ => 0))), h.2.1 + 1, h.2.2.1 + 1, h.2.2.2.1 + n.toNatClampNeg, true)) else none
  | _ => none
theorem zs_nwaZ {t : Nat} (ht : T[t]? = some .boolean) (hw : Cond.arrayClass .boolean ∈ G) (hd : decode bytes pc = .ok (.newarray .boolean, 2)) : zSnd cl T G N O E own nm bytes nL pc (zNwaZ t (pc + 2)) := by
  intro L st h pc' L' st' h' hop
  simp only [zNwaZ] at hop
  split at hop
  · rename_i n r
    split at hop
    · rename_i hg
      obtain ⟨hlive, hn, hbig⟩ := hg
      cases hop
      refine ⟨⟨Nat.le_succ _, Nat.le_add_right _ _⟩, ?_⟩
      intro p l e R s m args below meth c Q F _ _ n0 S0 H locs ls hll hW hS hn0 hS0 hcR hsR kk
      have hcR' : h.2.2.1 + 1 - n0 ≤ R.cells := hcR
      have hsR' : h.2.2.2.1 + n.toNatClampNeg - S0 ≤ R.slots := hsR
      refine va_newaK (atype := .boolean) F.1 F.2.1 (F.2.2.2.2.1 _ hw) rfl hd rfl hn rfl (zbytes hbig (by decide)) (by omega) (by omega) rfl fun H1 cA e1 z1 o1 hAr hNm => ?_
      refine W.cs (cells' := h.2.2.1 + 1 - n0) (slots' := h.2.2.2.1 + n.toNatClampNeg - S0) (by omega) (by omega) ?_
      have hsz := hW.2.2 hlive
      have hcy : cA = zcy E t := Option.some.inj (hNm.symm.trans (F.2.2.2.2.2.2.1.2 t _ ht).2)
      subst hcy
      have hk := kk H1 locs ls hll (hW.push hlive ?_ z1 o1) (zS.push hS z1 o1)
      · have hst : (Value.ref h.2.1 :: r).map (zV E) = .ref H.size :: r.map (zV E) := by
          rw [List.map_cons, hsz]
          rfl
        rw [hst] at hk
        exact hk
      · show H1[H.size]? = some (vp_cell _ _)
        rw [e1]
        show _ = some (vp_cell (zcy E t) (n.toNatClampNeg, .inl (fun _ => 0)))
        rw [vp_cell_i]
        rfl
    · cases hop
  · cases hop
abbrev zNwaJ (t pc' : Nat) : zOp := fun L st h => match st with
  | .int n :: r => if h.2.2.2.2 = true ∧ ¬ n < 0 ∧ n.toNatClampNeg ≤ 1000000 then some (pc', L, .ref h.2.1 :: r, (zup h.1 h.2.1 (.inl (t, n.toNatClampNeg, .inr (.inl (fun _ => 0)))), h.2.1 + 1, h.2.2.1 + 1, h.2.2.2.1 + n.toNatClampNeg, true)) else none
  | _ => none
theorem zs_nwaJ {t : Nat} (ht : T[t]? = some .long) (hw : Cond.arrayClass .long ∈ G) (hd : decode bytes pc = .ok (.newarray .long, 2)) : zSnd cl T G N O E own nm bytes nL pc (zNwaJ t (pc + 2)) := by
  intro L st h pc' L' st' h' hop
  simp only [zNwaJ] at hop
  split at hop
  · rename_i n r
    split at hop
    · rename_i hg
      obtain ⟨hlive, hn, hbig⟩ := hg
      cases hop
      refine ⟨⟨Nat.le_succ _, Nat.le_add_right _ _⟩, ?_⟩
      intro p l e R s m args below meth c Q F _ _ n0 S0 H locs ls hll hW hS hn0 hS0 hcR hsR kk
      have hcR' : h.2.2.1 + 1 - n0 ≤ R.cells := hcR
      have hsR' : h.2.2.2.1 + n.toNatClampNeg - S0 ≤ R.slots := hsR
      refine va_newaK (atype := .long) F.1 F.2.1 (F.2.2.2.2.1 _ hw) rfl hd rfl hn rfl (zbytes hbig (by decide)) (by omega) (by omega) rfl fun H1 cA e1 z1 o1 hAr hNm => ?_
      refine W.cs (cells' := h.2.2.1 + 1 - n0) (slots' := h.2.2.2.1 + n.toNatClampNeg - S0) (by omega) (by omega) ?_
      have hsz := hW.2.2 hlive
      have hcy : cA = zcy E t := Option.some.inj (hNm.symm.trans (F.2.2.2.2.2.2.1.2 t _ ht).2)
      subst hcy
      have hk := kk H1 locs ls hll (hW.push hlive ?_ z1 o1) (zS.push hS z1 o1)
      · have hst : (Value.ref h.2.1 :: r).map (zV E) = .ref H.size :: r.map (zV E) := by
          rw [List.map_cons, hsz]
          rfl
        rw [hst] at hk
        exact hk
      · show H1[H.size]? = some (vp_cell _ _)
        rw [e1]
        show _ = some (vp_cell (zcy E t) (n.toNatClampNeg, .inr (.inl (fun _ => 0))))
        rw [vp_cell_l]
        rfl
    · cases hop
  · cases hop
abbrev zNwaD (t pc' : Nat) : zOp := fun L st h => match st with
  | .int n :: r => if h.2.2.2.2 = true ∧ ¬ n < 0 ∧ n.toNatClampNeg ≤ 1000000 then some (pc', L, .ref h.2.1 :: r, (zup h.1 h.2.1 (.inl (t, n.toNatClampNeg, .inr (.inr (.inr (.inl (fun _ => 0)))))), h.2.1 + 1, h.2.2.1 + 1, h.2.2.2.1 + n.toNatClampNeg, true)) else none
  | _ => none
theorem zs_nwaD {t : Nat} (ht : T[t]? = some .double) (hw : Cond.arrayClass .double ∈ G) (hd : decode bytes pc = .ok (.newarray .double, 2)) : zSnd cl T G N O E own nm bytes nL pc (zNwaD t (pc + 2)) := by
  intro L st h pc' L' st' h' hop
  simp only [zNwaD] at hop
  split at hop
  · rename_i n r
    split at hop
    · rename_i hg
      obtain ⟨hlive, hn, hbig⟩ := hg
      cases hop
      refine ⟨⟨Nat.le_succ _, Nat.le_add_right _ _⟩, ?_⟩
      intro p l e R s m args below meth c Q F _ _ n0 S0 H locs ls hll hW hS hn0 hS0 hcR hsR kk
      have hcR' : h.2.2.1 + 1 - n0 ≤ R.cells := hcR
      have hsR' : h.2.2.2.1 + n.toNatClampNeg - S0 ≤ R.slots := hsR
      refine va_newaK (atype := .double) F.1 F.2.1 (F.2.2.2.2.1 _ hw) rfl hd rfl hn rfl (zbytes hbig (by decide)) (by omega) (by omega) rfl fun H1 cA e1 z1 o1 hAr hNm => ?_
      refine W.cs (cells' := h.2.2.1 + 1 - n0) (slots' := h.2.2.2.1 + n.toNatClampNeg - S0) (by omega) (by omega) ?_
      have hsz := hW.2.2 hlive
      have hcy : cA = zcy E t := Option.some.inj (hNm.symm.trans (F.2.2.2.2.2.2.1.2 t _ ht).2)
      subst hcy
      have hk := kk H1 locs ls hll (hW.push hlive ?_ z1 o1) (zS.push hS z1 o1)
      · have hst : (Value.ref h.2.1 :: r).map (zV E) = .ref H.size :: r.map (zV E) := by
          rw [List.map_cons, hsz]
          rfl
        rw [hst] at hk
        exact hk
      · show H1[H.size]? = some (vp_cell _ _)
        rw [e1]
        show _ = some (vp_cell (zcy E t) (n.toNatClampNeg, .inr (.inr (.inr (.inl (fun _ => 0))))))
        rw [vp_cell_d]
        rfl
    · cases hop
  · cases hop
abbrev zNwaQ (t pc' : Nat) : zOp := fun L st h => match st with
  | .int n :: r => if h.2.2.2.2 = true ∧ ¬ n < 0 ∧ n.toNatClampNeg ≤ 1000000 then some (pc', L, .ref h.2.1 :: r, (zup h.1 h.2.1 (.inl (t, n.toNatClampNeg, .inr (.inr (.inr (.inr (fun _ => none)))))), h.2.1 + 1, h.2.2.1 + 1, h.2.2.2.1 + n.toNatClampNeg, true)) else none
  | _ => none
theorem zs_nwaQ {t i : Nat} {C : String} (ht : T[t]? = some (.object C)) (hcl : Cond.classLink own i C ∈ G) (hov : Cond.arrayOver (.object C) ∈ N) (hd : decode bytes pc = .ok (.anewarray i, 3)) : zSnd cl T G N O E own nm bytes nL pc (zNwaQ t (pc + 3)) := by
  intro L st h pc' L' st' h' hop
  simp only [zNwaQ] at hop
  split at hop
  · rename_i n r
    split at hop
    · rename_i hg
      obtain ⟨hlive, hn, hbig⟩ := hg
      cases hop
      refine ⟨⟨Nat.le_succ _, Nat.le_add_right _ _⟩, ?_⟩
      intro p l e R s m args below meth c Q F _ _ n0 S0 H locs ls hll hW hS hn0 hS0 hcR hsR kk
      have hcR' : h.2.2.1 + 1 - n0 ≤ R.cells := hcR
      have hsR' : h.2.2.2.1 + n.toNatClampNeg - S0 ≤ R.slots := hsR
      have hao : va_AO C s := F.2.2.2.2.2.1 _ hov
      refine W.anew F.1 F.2.1 F.2.2.2.1 (F.2.2.2.2.1 _ hcl) (va_AO.use hao) rfl hd rfl hn (zbytes hbig (by decide)) (by omega) (by omega) fun cA kA comp f1 f2 f3 f4 => ?_
      generalize hH1 : H.push ({ cls := cA, slots := Array.replicate n.toNatClampNeg .null, vm := .none } : Cell) = H1
      have z1 : H1.size = H.size + 1 := by rw [← hH1, Array.size_push]
      have e1 : H1[H.size]? = some (arrV cA n.toNatClampNeg (fun _ => .null)) := by rw [← hH1, Array.getElem?_push_size, ← arrV_new]
      have o1 : ∀ q : Nat, q < H.size → H1[q]? = H[q]? := fun q hq => by rw [← hH1, Array.getElem?_push, if_neg (Nat.ne_of_lt hq)]
      refine W.cs (cells' := h.2.2.1 + 1 - n0) (slots' := h.2.2.2.1 + n.toNatClampNeg - S0) (by omega) (by omega) ?_
      have hsz := hW.2.2 hlive
      obtain ⟨kA2, comp2, -, -, -, hnm2⟩ := (F.2.2.2.2.2.2.1.2 t _ ht).2
      have hcy : cA = zcy E t := Option.some.inj (f1.symm.trans hnm2)
      subst hcy
      have hk := kk H1 locs ls hll (hW.push hlive ?_ z1 o1) (zS.push hS z1 o1)
      · have hst : (Value.ref h.2.1 :: r).map (zV E) = .ref H.size :: r.map (zV E) := by
          rw [List.map_cons, hsz]
          rfl
        rw [hst] at hk
        exact hk
      · show H1[H.size]? = some (vp_cell _ _)
        rw [e1]
        show _ = some (vp_cell (zcy E t) (n.toNatClampNeg, .inr (.inr (.inr (.inr (fun j => none))))))
        rw [vp_cell_q]
        rfl
    · cases hop
  · cases hop
abbrev zObj (pc' : Nat) : List Value → zH → Option (Nat × List Value) := fun st _ => match st with
  | .ref _ :: r => if (r.map fun v => v.category).sum ≤ 8 then some (pc', r) else none
  | _ => none
theorem zs_obj {i : Nat} (h1 : Cond.methodLink own i Lib.objectInit ∈ G) (h2 : Cond.instanceMethod Lib.objectInit ∈ G) (h3 : Cond.code Lib.objectInit ⟨#[0xb1]⟩ 1 none ∈ G) (hd : decode bytes pc = .ok (.invokespecial i, 3)) : zSnd cl T G N O E own nm bytes nL pc (zS2 (zObj (pc + 3))) :=
  zsnd2 fun st h pc1 st1 hg p l e R s m args below meth c Q H locs cells slots ls F hf hlo hsz hW hS k => by
    simp only [zObj] at hg
    split at hg
    · rename_i a r
      split at hg
      · rename_i hsum
        cases hg
        have hcat : ((st1.map (zV E)).map fun v => v.category) = st1.map fun v => v.category := by
          rw [List.map_map]
          exact List.map_congr_left fun v _ => zV_cat E v
        refine W.objInit F.1 F.2.1 F.2.2.2.1 (F.2.2.2.2.1 _ h1) (F.2.2.2.2.1 _ h2) (F.2.2.2.2.1 _ h3) rfl (by rw [F.2.2.1]; exact hsz) rfl hd hf (by show 2 * 0 + ((st1.map (zV E)).map fun v => v.category).sum + 12 ≤ _; rw [hcat]; omega) k
      · cases hg
    · cases hg
end ZARR
end
section
/-! THE SMALL MACHINE's RUN, and what each of its entries owes -/
/-- an entry: a step; a return (0 nothing, 1 int, 2 long, 3 double, 4 a reference, 5 boolean); a throw; a call (method, arguments with the receiver, kind) -/
abbrev zI : Type := zOp ⊕ (Nat ⊕ (String ⊕ (Nat × Nat × Nat)))
def zRk (r : Nat) (v : Value) : Bool := match v with
  | .int x => r == 1 || (r == 5 && (x == 0 || x == 1))
  | .long _ => r == 2
  | .double _ => r == 3
  | .ref _ => r == 4
  | .null => r == 4
  | _ => false
/-- whether a call can be made: enough on the stack, room in the callee's locals, little below, the receiver of its class -/
def zCan (nl cc : Nat → Nat) (μ n kd : Nat) (st : List Value) (h : zH) : Bool :=
  Nat.ble n st.length && Nat.ble (lg_sl (st.take n).reverse).length (nl μ) && Nat.ble ((st.drop n).map fun v => v.category).sum 8 &&
  (kd == 2 || kd == 3 || kd == 6 || match (st.take n).reverse with
    | .ref b :: _ => Nat.blt b h.2.1 && (match h.1 b with
      | .inr (c, _) => c == cc μ
      | .inl _ => false)
    | _ => false)
def zdead (h : zH) : zH := (h.1, h.2.1, h.2.2.1 + 1, h.2.2.2.1 + 6, false)
def zrun (nl cc : Nat → Nat) (nh : Nat → Bool) (code : Nat → Nat → Option zI) (hn : Nat → Nat → String → Option (Nat × Nat)) : Nat → Nat → Nat → Nat → zLoc → List Value → zH → Option ((Option Value ⊕ String) × zH)
  | 0, _, _, _, _, _, _ => none
  | k + 1, d, μ, pc, L, st, h => match code μ pc with
    | none => none
    | some (.inl op) => match op L st h with
      | none => none
      | some (pc', L', st', h') => zrun nl cc nh code hn k d μ pc' L' st' h'
    | some (.inr (.inl r)) => match r, st with
      | 0, [] => some (.inl none, h)
      | r + 1, [v] => if zRk (r + 1) v = true then some (.inl (some v), h) else none
      | _, _ => none
    | some (.inr (.inr (.inl Ex))) => if Nat.ble 6 d && nh μ && Nat.ble (st.map fun v => v.category).sum 8 then some (.inr Ex, zdead h) else none
    | some (.inr (.inr (.inr (μ', n, kd)))) => match d with
      | 0 => none
      | d' + 1 => if zCan nl cc μ' n kd st h = true then
          match zrun nl cc nh code hn k d' μ' 0 (lv_args 0 (st.take n).reverse) [] h with
          | none => none
          | some (.inl v, h') => zrun nl cc nh code hn k (d' + 1) μ (pc + 3) L (v.toList ++ st.drop n) h'
          | some (.inr Ex, h') => match hn μ pc Ex with
            | some (pc', x) => zrun nl cc nh code hn k (d' + 1) μ pc' (zF1 x L) [] h'
            | none => if nh μ = true then some (.inr Ex, h') else none
        else none
def zcw (y : MethodName) (b : ByteArray) (n : Nat) (rt : Option FieldType) (hh : List (Nat × Nat × Nat × Nat)) : Cond := match hh with
  | [] => .code y b n rt
  | hh => .codeWith y b n rt hh
def zrm (d mc ms : Nat) : Room := { frames := d + 1, cells := mc, slots := ms, locals := 31 * d + 40 }
def zRetOK (r : Nat) (rt : Option FieldType) (bytes : ByteArray) (pc : Nat) : Prop :=
  (r = 0 ∧ rt = none ∧ decode bytes pc = .ok (.return_, 1)) ∨ (r = 1 ∧ rt = some .int ∧ decode bytes pc = .ok (.ireturn, 1)) ∨ (r = 2 ∧ rt = some .long ∧ decode bytes pc = .ok (.lreturn, 1)) ∨
  (r = 3 ∧ rt = some .double ∧ decode bytes pc = .ok (.dreturn, 1)) ∨ (r = 4 ∧ (∃ t, rt = some t ∧ ((∃ n, t = .object n) ∨ ∃ u, t = .array u)) ∧ decode bytes pc = .ok (.areturn, 1)) ∨ (r = 5 ∧ rt = some .boolean ∧ decode bytes pc = .ok (.ireturn, 1))
/-- a call's road from the callee's contract -/
def zCallSnd (cl : List vw_C) (T : List FieldType) (G N : List Cond) (O : Nat → State → Heap → Prop) (E : zE) (own nm : String) (bytes : ByteArray) (nL pc : Nat) (y : MethodName) (b : ByteArray) (n' : Nat) (rt : Option FieldType) (hh : List (Nat × Nat × Nat × Nat)) (n kd : Nat) : Prop :=
  ∀ (p : Program) (l : Launch) (e : Env) (R : Room) (s : State) (m : MethodId) (args : Array Value) (below : List Frame) (meth : Method) (c : Code) (H : Heap) (locs : List Loc) (cells slots mc ms d : Nat) (ls : Array Slot) (vs rest : List Value) (Pc : Array Value → State → Prop) (Qc : Array Value → State → Outcome → State → Prop) (XC : String → State → State → Prop),
    zF cl T G N O E own nm bytes nL p s m args meth c → vx_Met l y (zcw y b n' rt hh :: G) (zrm d mc ms) Pc Qc XC mc ms (zA E) → FrameBlind Pc → (∀ U : State, U.heap = H → s.WarmedH U.vm → Pc vs.toArray U) →
    vs.length = n → ls.size = nL → (rest.map fun v => v.category).sum ≤ 8 → d + 2 ≤ R.frames → 8 + (n' + 11) + (31 * d + 40) ≤ R.locals → cells + mc ≤ R.cells → slots + ms ≤ R.slots →
    ((kd ≠ 2 ∧ kd ≠ 3 ∧ kd ≠ 6) → ∃ (b0 : Nat) (As : List Value) (cellB : Cell), vs = .ref b0 :: As ∧ H[b0]? = some cellB ∧ cellB.vm.isStatics = false ∧ s.vm.findClass y.cls = some cellB.cls) →
    vx_Run p l e R s m args below meth c H locs cells slots mc ms (F0 m pc ls (vs.reverse ++ rest)) rest (Qc vs.toArray) XC (zA E)
/-- a throw's road -/
def zThrSnd (cl : List vw_C) (T : List FieldType) (G N : List Cond) (O : Nat → State → Heap → Prop) (E : zE) (own nm : String) (bytes : ByteArray) (nL pc : Nat) (Ex : String) (hh : List (Nat × Nat × Nat × Nat)) (l : Launch) : Prop :=
  ∀ (p : Program) (e : Env) (R : Room) (s : State) (m : MethodId) (args : Array Value) (below : List Frame) (meth : Method) (c : Code) (H : Heap) (locs : List Loc) (cells slots mc ms : Nat) (ls : Array Slot) (rest : List Value) (Qc : Array Value → State → Outcome → State → Prop) (XC : String → State → State → Prop),
    zF cl T G N O E own nm bytes nL p s m args meth c → c.exceptionTable.toList = tableOf hh → va_S (zA E) s.heap H locs → ls.size = nL → (rest.map fun v => v.category).sum ≤ 8 → 7 ≤ R.frames → 120 ≤ R.locals → cells + 1 ≤ R.cells → slots + 6 ≤ R.slots → cells + 1 ≤ mc → slots + 6 ≤ ms →
    (∀ t : State, s.vm.Alike t.vm → H.size ≤ t.heap.size → (∀ q : Nat, q < H.size → t.heap[q]? = H[q]?) → XC Ex s t) →
    W p l e R s m args below meth c H locs cells slots (vx_MQ below Qc XC args s mc ms (zA E)) (F0 m pc ls rest)
/-- a handler's road: caught at pc, stored, on at pc' -/
def zHndSnd (cl : List vw_C) (T : List FieldType) (G N : List Cond) (O : Nat → State → Heap → Prop) (E : zE) (own nm : String) (bytes : ByteArray) (nL pc : Nat) (Ex : String) (pc' x : Nat) (hh : List (Nat × Nat × Nat × Nat)) : Prop :=
  ∀ (p : Program) (l : Launch) (e : Env) (R : Room) (s : State) (m : MethodId) (args : Array Value) (below : List Frame) (meth : Method) (c : Code) (Q : State → Prop) (H : Heap) (locs : List Loc) (cells slots : Nat) (ls : Array Slot) (rest : List Value) (q : Nat) (ce : Cell) (lv : List (Nat × Value)),
    zF cl T G N O E own nm bytes nL p s m args meth c → c.exceptionTable.toList = tableOf hh → lv_has ls nL lv → H[q]? = some ce → ce.vm = .none → s.vm.findClass Ex = some ce.cls →
    (∀ ls', lv_has ls' nL (lv.filter (fun q => !(q.1 == x) && !(q.1 + 1 == x && q.2.category == 2))) → W p l e R s m args below meth c H locs cells slots Q (F0 m pc' ls' [])) →
    vx_W p l e R s m args below meth c H locs cells slots Q (F0 m pc ls rest) q
def zNok (w : Cond) : Bool := match w with
  | .fieldLinkNest _ _ _ _ _ _ => true
  | .methodLinkNest _ _ _ _ => true
  | .arrayOver (.object _) => true
  | _ => false
theorem zNw_warm {w : Cond} (hw : zNok w = true) {s U : State} (hW : s.WarmedH U.vm) (h : va_Nw w s) : va_Nw w U := by
  unfold zNok at hw
  split at hw
  · exact va_Nw.warmF hW h
  · exact va_Nw.warmM hW h
  · exact va_AO.moved hW.alike h
  · cases hw
end
section
/-! THE SIMULATION: what the small machine's run comes to, the machine comes to -/
def zOK (cl : List vw_C) (T : List FieldType) (G N : List Cond) (O : Nat → State → Heap → Prop) (E : zE) (yy : Nat → MethodName) (bb : Nat → ByteArray) (nl cc : Nat → Nat) (rt : Nat → Option FieldType) (hh : Nat → List (Nat × Nat × Nat × Nat)) (l : Launch) (μ pc : Nat) (i : zI) : Prop := match i with
  | .inl op => zSnd cl T G N O E (yy μ).cls (yy μ).name (bb μ) (nl μ) pc op
  | .inr (.inl r) => zRetOK r (rt μ) (bb μ) pc
  | .inr (.inr (.inl Ex)) => zThrSnd cl T G N O E (yy μ).cls (yy μ).name (bb μ) (nl μ) pc Ex (hh μ) l
  | .inr (.inr (.inr (μ', n, kd))) => zCallSnd cl T G N O E (yy μ).cls (yy μ).name (bb μ) (nl μ) pc (yy μ') (bb μ') (nl μ') (rt μ') (hh μ') n kd ∧ nl μ' ≤ 12 ∧ plainName (yy μ').cls = true ∧ ((kd ≠ 2 ∧ kd ≠ 3 ∧ kd ≠ 6) → ∃ (Tc : u_T) (Nc : Nat), cl[cc μ']? = some ((yy μ').cls, Tc, Nc))
def zPre (cl : List vw_C) (T : List FieldType) (N : List Cond) (O : Nat → State → Heap → Prop) (E : zE) (h : zH) (vs : List Value) : Array Value → State → Prop :=
  va_Pc (vs.map (zV E)) (fun U => zK cl T E U ∧ (∀ w ∈ N, va_Nw w U) ∧ O (zb E) U U.heap ∧ va_X (zol E 0) (zLs E) (zxs E) U U.heap ∧ (∀ i, zol E i < zb E) ∧ zW cl E h U.heap)
def zQc (cl : List vw_C) (E : zE) (res : Option Value ⊕ String) (h' : zH) : Array Value → State → Outcome → State → Prop := fun _ st oc t => (∃ v, res = .inl v ∧ oc = .returned (v.map (zV E))) ∧ zW cl E h' t.heap ∧ va_F (zA E) st t
def zXc (cl : List vw_C) (E : zE) (res : Option Value ⊕ String) (h' : zH) : String → State → State → Prop := fun Ex st t => res = .inr Ex ∧ zW cl E h' t.heap ∧ va_F (zA E) st t
section ZSIM
variable {cl : List vw_C} {T : List FieldType} {G N : List Cond} {O : Nat → State → Heap → Prop} {E : zE} {yy : Nat → MethodName} {bb : Nat → ByteArray} {nl cc : Nat → Nat} {rt : Nat → Option FieldType} {hh : Nat → List (Nat × Nat × Nat × Nat)} {nh : Nat → Bool} {code : Nat → Nat → Option zI} {hn : Nat → Nat → String → Option (Nat × Nat)} {l : Launch}
/-- what the run from here owes -/
def zGoes (cl : List vw_C) (T : List FieldType) (G N : List Cond) (O : Nat → State → Heap → Prop) (E : zE) (yy : Nat → MethodName) (bb : Nat → ByteArray) (nl cc : Nat → Nat) (hh : Nat → List (Nat × Nat × Nat × Nat)) (nh : Nat → Bool) (code : Nat → Nat → Option zI) (hn : Nat → Nat → String → Option (Nat × Nat)) (l : Launch) (k : Nat) : Prop :=
  ∀ (d μ pc : Nat) (L : zLoc) (st : List Value) (h : zH) (res : Option Value ⊕ String) (h' : zH), zrun nl cc nh code hn k d μ pc L st h = some (res, h') →
    (h.2.2.1 ≤ h'.2.2.1 ∧ h.2.2.2.1 ≤ h'.2.2.2.1) ∧
    ∀ (p : Program) (e : Env) (R : Room) (s : State) (m : MethodId) (args : Array Value) (below : List Frame) (meth : Method) (c : Code) (Q : State → Prop), zF cl T G N O E (yy μ).cls (yy μ).name (bb μ) (nl μ) p s m args meth c → c.exceptionTable.toList = tableOf (hh μ) → d + 1 ≤ R.frames → 31 * d + 40 ≤ R.locals →
    ∀ (n0 S0 : Nat) (H : Heap) (locs : List Loc) (ls : Array Slot), lv_has ls (nl μ) (zLo E L) → zW cl E h H → va_S (zA E) s.heap H locs → n0 ≤ h.2.2.1 → S0 ≤ h.2.2.2.1 → h'.2.2.1 - n0 ≤ R.cells → h'.2.2.2.1 - S0 ≤ R.slots →
    (∀ (v : Option Value), res = .inl v → ∀ (pc' r : Nat) (H' : Heap) (locs' : List Loc) (ls' : Array Slot), code μ pc' = some (.inr (.inl r)) → ((r = 0 ∧ v = none) ∨ (r ≠ 0 ∧ ∃ x, v = some x ∧ zRk r x = true)) → zW cl E h' H' → va_S (zA E) s.heap H' locs' →
      W p l e R s m args below meth c H' locs' (h'.2.2.1 - n0) (h'.2.2.2.1 - S0) Q (F0 m pc' ls' (v.toList.map (zV E)))) →
    (∀ (Ex : String), res = .inr Ex → ∀ (pc' : Nat) (st' : List Value) (h1 : zH) (H' : Heap) (locs' : List Loc) (ls' : Array Slot), code μ pc' = some (.inr (.inr (.inl Ex))) → h' = zdead h1 → 6 ≤ d → n0 ≤ h1.2.2.1 → S0 ≤ h1.2.2.2.1 → zW cl E h1 H' → va_S (zA E) s.heap H' locs' → ls'.size = nl μ → (st'.map fun v => v.category).sum ≤ 8 →
      W p l e R s m args below meth c H' locs' (h1.2.2.1 - n0) (h1.2.2.2.1 - S0) Q (F0 m pc' ls' (st'.map (zV E)))) →
    (∀ (Ex : String), res = .inr Ex → nh μ = true → ∀ (pc' : Nat) (H' : Heap) (locs' : List Loc) (ls' : Array Slot) (rest : List Value) (q : Nat) (ce : Cell), zW cl E h' H' → va_S (zA E) s.heap H' locs' → H'[q]? = some ce → ce.vm = .none → s.vm.findClass Ex = some ce.cls →
      vx_W p l e R s m args below meth c H' locs' (h'.2.2.1 - n0) (h'.2.2.2.1 - S0) Q (F0 m pc' ls' rest) q) →
    W p l e R s m args below meth c H locs (h.2.2.1 - n0) (h.2.2.2.1 - S0) Q (F0 m pc ls (st.map (zV E)))
theorem zlv_args (E : zE) : ∀ (i : Nat) (vs : List Value), lv_args i (vs.map (zV E)) = zLo E (lv_args i vs)
  | _, [] => rfl
  | i, v :: vs => by
    show (i, zV E v) :: lv_args (if (zV E v).category = 2 then i + 2 else i + 1) (vs.map (zV E)) = (i, zV E v) :: zLo E (lv_args (if v.category = 2 then i + 2 else i + 1) vs)
    rw [zV_cat, zlv_args E _ vs]
theorem zlg_len (E : zE) (vs : List Value) : (lg_sl (vs.map (zV E))).length = (lg_sl vs).length := by
  induction vs with
  | nil => rfl
  | cons v vs ih =>
    simp only [lg_sl, List.map_cons, List.flatMap_cons, List.length_append, zV_cat] at ih ⊢
    rw [ih]
    split <;> rfl
theorem zNw_same {w : Cond} (hw : zNok w = true) {u U : State} (hvm : u.vm = U.vm) (h : va_Nw w u) : va_Nw w U := by
  unfold zNok at hw
  split at hw
  · exact va_Nw.same rfl hvm h
  · exact va_Nw.same rfl hvm h
  · exact va_AO.moved (by rw [hvm]; exact Vm.Alike.refl _) h
  · cases hw
theorem zPre_blind (hNk : ∀ w ∈ N, zNok w = true) (hOa : ∀ (b : Nat) (u U : State) (H : Heap), u.vm.Alike U.vm → O b u H → O b U H) (h : zH) (vs : List Value) : FrameBlind (zPre cl T N O E h vs) := by
  intro a U g mk ⟨e, h1, h2, h3, h4, h5, h6⟩
  have ha : U.vm.Alike (U.calling g mk a).vm := Vm.Alike.refl U.vm
  refine ⟨e, h1.moved ha, fun w hw => ?_, ?_, ?_, h5, h6⟩
  · exact zNw_same (u := U) (U := U.calling g mk a) (hNk w hw) rfl (h2 w hw)
  · exact hOa _ U (U.calling g mk a) _ ha h3
  · exact va_X.moved (u := U) (U := U.calling g mk a) ha h4
/-- the frame of a body that has just begun -/
theorem zF_of {μ : Nat} {e : Env} {p : Program} {s : State} {m : MethodId} {args : Array Value} {below : List Frame} {meth : Method} {c : Code} {s₁ : State} {vs : List Value} {h : zH} {rm : Room} (B : BodyLoose p l (yy μ) (headSpec (zcw (yy μ) (bb μ) (nl μ) (rt μ) (hh μ) :: G) rm) (bb μ) (nl μ) (rt μ) e s m args below meth c s₁) (hml : c.maxLocals = nl μ) (hp : zPre cl T N O E h vs args s) :
    zF cl T G N O E (yy μ).cls (yy μ).name (bb μ) (nl μ) p s m args meth c := by
  obtain ⟨e0, h1, h2, h3, h4, h5, h6⟩ := hp
  have hts := atoms_spec (ws := zcw (yy μ) (bb μ) (nl μ) (rt μ) (hh μ) :: G) B.pre
  exact ⟨B.exec, B.bytes, hml, findClass_of_methodNamed B.named, fun w hw => hts w (List.mem_cons_of_mem _ hw), h2, h1, h3, h4, h5, Nat.le_trans (Nat.le_add_right _ _) h6.2.1, B.notSynchronized, (name_of_methodNamed B.named B.method).1⟩
theorem zbody {k d μ : Nat} {vs : List Value} {h : zH} {res : Option Value ⊕ String} {h' : zH} (hnh : ∀ μ, nh μ = true → hh μ = []) (hOK : ∀ μ pc i, code μ pc = some i → zOK cl T G N O E yy bb nl cc rt hh l μ pc i) (ih : zGoes cl T G N O E yy bb nl cc hh nh code hn l k)
    (hr : zrun nl cc nh code hn k d μ 0 (lv_args 0 vs) [] h = some (res, h')) (hlen : (lg_sl vs).length ≤ nl μ)
    {p : Program} {e : Env} {s : State} {m : MethodId} {args : Array Value} {below : List Frame} {meth : Method} {c : Code} {s₁ : State} (B : BodyLoose p l (yy μ) (headSpec (zcw (yy μ) (bb μ) (nl μ) (rt μ) (hh μ) :: G) (zrm d (h'.2.2.1 - h.2.2.1) (h'.2.2.2.1 - h.2.2.2.1))) (bb μ) (nl μ) (rt μ) e s m args below meth c s₁) (hml : c.maxLocals = nl μ) (htab : c.exceptionTable.toList = tableOf (hh μ)) (hp : zPre cl T N O E h vs args s) :
    W p l e (zrm d (h'.2.2.1 - h.2.2.1) (h'.2.2.2.1 - h.2.2.2.1)) s m args below meth c s.heap [] 0 0 (vx_MQ below (zQc cl E res h') (zXc cl E res h') args s (h'.2.2.1 - h.2.2.1) (h'.2.2.2.1 - h.2.2.2.1) (zA E)) (entryFrame m args (nl μ)) := by
  have F := zF_of B hml hp
  have hret := B.returns
  obtain ⟨hargs, -, -, -, -, -, hW⟩ := hp
  obtain ⟨⟨hc1, hc2⟩, hgo⟩ := ih d μ 0 _ _ h res h' hr
  rw [hargs, lg_entry_eq]
  have hl := lv_entry (vs.map (zV E)) (n := nl μ) (by rw [zlg_len]; exact hlen)
  generalize (lg_sl (vs.map (zV E)) ++ List.replicate (nl μ - (lg_sl (vs.map (zV E))).length) Slot.unset).toArray = ls at hl ⊢
  rw [zlv_args] at hl
  rw [← hargs]
  have hS : va_S (zA E) s.heap s.heap [] := va_S.rf
  refine W.cs (cells' := h.2.2.1 - h.2.2.1) (slots' := h.2.2.2.1 - h.2.2.2.1) (Nat.sub_self _).symm (Nat.sub_self _).symm ?_
  refine hgo p e (zrm d (h'.2.2.1 - h.2.2.1) (h'.2.2.2.1 - h.2.2.2.1)) s m args below meth c _ F htab (Nat.le_refl _) (Nat.le_refl _) _ _ s.heap [] ls hl hW hS (Nat.le_refl _) (Nat.le_refl _) (Nat.le_refl _) (Nat.le_refl _) ?_ ?_ ?_
  · intro v hv pc' r H' locs' ls' hcode hk hW' hS'
    have hq : ∀ t : State, t.heap = H' → s.WarmedH t.vm → zQc cl E res h' args s (.returned (v.map (zV E))) t := fun t ht _ => ⟨⟨v, hv, rfl⟩, by rw [ht]; exact hW', hS'.F ht⟩
    have hok : zRetOK r (rt μ) (bb μ) pc' := hOK μ pc' _ hcode
    have hlocks := F.2.2.2.2.2.2.2.2.2.2.2.1
    refine vx_ret ?_
    rcases hk with ⟨rfl, rfl⟩ | ⟨hr0, x, rfl, hx⟩
    · rcases hok with ⟨-, h2, h3⟩ | ⟨h1, -⟩ | ⟨h1, -⟩ | ⟨h1, -⟩ | ⟨h1, -⟩ | ⟨h1, -⟩
      · rw [h2] at hret
        exact W.vret F.1 F.2.1 hret hq hS'.2.2 h3 hlocks
      all_goals exact absurd h1 (by decide)
    · rcases hok with ⟨h1, -⟩ | ⟨rfl, h2, h3⟩ | ⟨rfl, h2, h3⟩ | ⟨rfl, h2, h3⟩ | ⟨rfl, ⟨t, h2, h4⟩, h3⟩ | ⟨rfl, h2, h3⟩
      · exact absurd h1 hr0
      · rw [h2] at hret
        cases x <;> first | cases hx; done | exact W.iret F.1 F.2.1 hret hq hS'.2.2 h3 hlocks
      · rw [h2] at hret
        cases x <;> first | cases hx; done | exact W.lret F.1 F.2.1 hret hq hS'.2.2 h3 hlocks
      · rw [h2] at hret
        cases x <;> first | cases hx; done | exact W.dret F.1 F.2.1 hret hq hS'.2.2 h3 hlocks
      · rw [h2] at hret
        cases x with
        | null => exact W.aret F.1 F.2.1 hret h4 (Or.inl rfl) hq hS'.2.2 h3 hlocks
        | ref a => exact W.aret F.1 F.2.1 hret h4 (Or.inr ⟨_, rfl⟩) hq hS'.2.2 h3 hlocks
        | int => cases hx
        | long => cases hx
        | float => cases hx
        | double => cases hx
        | retAddr => cases hx
      · rw [h2] at hret
        cases x with
        | int x =>
          have h01 : x = 0 ∨ x = 1 := by simpa [zRk] using hx
          refine W.zret F.1 F.2.1 hret ?_ hq hS'.2.2 h3 hlocks
          rcases h01 with rfl | rfl <;> rfl
        | null => cases hx
        | ref => cases hx
        | long => cases hx
        | float => cases hx
        | double => cases hx
        | retAddr => cases hx
  · intro Ex hres pc' st' h1 H' locs' ls' hcode hdead hd6 hn1 hs1 hW1 hS' hsz hsum
    subst hdead
    have hthr : zThrSnd cl T G N O E (yy μ).cls (yy μ).name (bb μ) (nl μ) pc' Ex (hh μ) l := hOK μ pc' _ hcode
    have e1 : (zdead h1).2.2.1 = h1.2.2.1 + 1 := rfl
    have e2 : (zdead h1).2.2.2.1 = h1.2.2.2.1 + 6 := rfl
    refine hthr p e _ s m args below meth c H' locs' _ _ _ _ ls' (st'.map (zV E)) _ _ F htab hS' hsz ?_ ?_ ?_ ?_ ?_ ?_ ?_ ?_
    · rw [List.map_map]
      rw [show ((fun v => Value.category v) ∘ zV E) = fun v => Value.category v from funext fun v => zV_cat E v]
      exact hsum
    · show 7 ≤ d + 1
      omega
    · show 120 ≤ 31 * d + 40
      omega
    · show h1.2.2.1 - h.2.2.1 + 1 ≤ (zdead h1).2.2.1 - h.2.2.1
      rw [e1]; omega
    · show h1.2.2.2.1 - h.2.2.2.1 + 6 ≤ (zdead h1).2.2.2.1 - h.2.2.2.1
      rw [e2]; omega
    · rw [e1]; omega
    · rw [e2]; omega
    · intro t hvm hsz' hk
      refine ⟨hres, ⟨fun j hj => (hW1.1 j hj).kept (hk _ ?_), Nat.le_trans hW1.2.1 hsz', fun hv => by cases hv⟩, ⟨Nat.le_trans hS'.1 hsz', fun q hq1 hq2 => by rw [hk q (Nat.lt_of_lt_of_le hq1 hS'.1)]; exact hS'.2.1 q hq1 hq2⟩⟩
      have := hW1.2.1
      have hj' : j < h1.2.1 := hj
      omega
  · intro Ex hres hnm pc' H' locs' ls' rest q ce hW' hS' hce hcv hcl
    have ht0 : c.exceptionTable.toList = [] := by rw [htab, hnh μ hnm]; rfl
    refine vx_out (fun x hx => by rw [ht0] at hx; cases hx) F.2.2.2.2.2.2.2.2.2.2.2.1 hce hcv hcl (fun t ht _ => ⟨hres, by rw [ht]; exact hW', hS'.F ht⟩) hS'.2.2 (Nat.le_refl _) (Nat.le_refl _)
/-- the contract of a method whose run is known -/
theorem zmet {k d μ : Nat} {vs : List Value} {h : zH} {res : Option Value ⊕ String} {h' : zH} (hnh : ∀ μ, nh μ = true → hh μ = []) (hOK : ∀ μ pc i, code μ pc = some i → zOK cl T G N O E yy bb nl cc rt hh l μ pc i) (ih : zGoes cl T G N O E yy bb nl cc hh nh code hn l k) (hplain : plainName (yy μ).cls = true)
    (hr : zrun nl cc nh code hn k d μ 0 (lv_args 0 vs) [] h = some (res, h')) (hlen : (lg_sl vs).length ≤ nl μ) :
    vx_Met l (yy μ) (zcw (yy μ) (bb μ) (nl μ) (rt μ) (hh μ) :: G) (zrm d (h'.2.2.1 - h.2.2.1) (h'.2.2.2.1 - h.2.2.2.1)) (zPre cl T N O E h vs) (zQc cl E res h') (zXc cl E res h') (h'.2.2.1 - h.2.2.1) (h'.2.2.2.1 - h.2.2.2.1) (zA E) := by
  generalize hx : hh μ = x
  cases x with
  | nil =>
    refine vx_ofW (cc := bb μ) (maxL := nl μ) (ret := rt μ) hplain rfl ?_
    intro p e s m args below meth c s₁ B hml ht hp
    have B' : BodyLoose p l (yy μ) (headSpec (zcw (yy μ) (bb μ) (nl μ) (rt μ) (hh μ) :: G) (zrm d (h'.2.2.1 - h.2.2.1) (h'.2.2.2.1 - h.2.2.2.1))) (bb μ) (nl μ) (rt μ) e s m args below meth c s₁ := by rw [hx]; exact B
    refine zbody hnh hOK ih hr hlen B' hml ?_ hp
    rw [hx]
    exact List.eq_nil_iff_forall_not_mem.mpr fun a ha => ht a ha
  | cons a r =>
    refine vx_ofWH (cc := bb μ) (maxL := nl μ) (ret := rt μ) (hh := a :: r) hplain rfl ?_
    intro p e s m args below meth c s₁ B hml hp
    have B' : BodyLoose p l (yy μ) (headSpec (zcw (yy μ) (bb μ) (nl μ) (rt μ) (hh μ) :: G) (zrm d (h'.2.2.1 - h.2.2.1) (h'.2.2.2.1 - h.2.2.2.1))) (bb μ) (nl μ) (rt μ) e s m args below meth c s₁ := by rw [hx]; exact B
    refine zbody hnh hOK ih hr hlen B' hml ?_ hp
    rw [hx]
    exact vx_table (x := yy μ) B (atoms_spec (ws := Cond.codeWith (yy μ) (bb μ) (nl μ) (rt μ) (a :: r) :: G) B.pre _ List.mem_cons_self)
end ZSIM
end
section
/-! THE SIMULATION, closed by induction on the run's fuel -/
section ZSIM2
variable {cl : List vw_C} {T : List FieldType} {G N : List Cond} {O : Nat → State → Heap → Prop} {E : zE} {yy : Nat → MethodName} {bb : Nat → ByteArray} {nl cc : Nat → Nat} {rt : Nat → Option FieldType} {hh : Nat → List (Nat × Nat × Nat × Nat)} {nh : Nat → Bool} {code : Nat → Nat → Option zI} {hn : Nat → Nat → String → Option (Nat × Nat)} {l : Launch}
theorem zCan_spec {μ n kd : Nat} {st : List Value} {h : zH} (hc : zCan nl cc μ n kd st h = true) : n ≤ st.length ∧ (lg_sl (st.take n).reverse).length ≤ nl μ ∧ ((st.drop n).map fun v => v.category).sum ≤ 8 ∧
    ((kd ≠ 2 ∧ kd ≠ 3 ∧ kd ≠ 6) → ∃ (b : Nat) (As fs : List Value), (st.take n).reverse = .ref b :: As ∧ b < h.2.1 ∧ h.1 b = .inr (cc μ, fs)) := by
  unfold zCan at hc
  simp only [Bool.and_eq_true] at hc
  obtain ⟨⟨⟨h1, h2⟩, h3⟩, h4⟩ := hc
  refine ⟨Nat.le_of_ble_eq_true h1, Nat.le_of_ble_eq_true h2, Nat.le_of_ble_eq_true h3, fun ⟨k1, k2, k3⟩ => ?_⟩
  simp only [Bool.or_eq_true, beq_iff_eq, k1, k2, k3, false_or] at h4
  split at h4
  · rename_i b As hst
    simp only [Bool.and_eq_true] at h4
    obtain ⟨g1, g2⟩ := h4
    split at g2
    · rename_i c fs hh
      have hcc : c = cc μ := by simpa using g2
      subst hcc
      have g1' : b < h.2.1 := Nat.le_of_ble_eq_true g1
      exact ⟨b, As, fs, hst, g1', hh⟩
    · cases g2
  · cases h4
theorem zrev (E : zE) (st : List Value) (n : Nat) : ((st.take n).reverse.map (zV E)).reverse ++ (st.drop n).map (zV E) = st.map (zV E) := by
  rw [List.map_reverse, List.reverse_reverse, ← List.map_append, List.take_append_drop]
theorem zsim (hNk : ∀ w ∈ N, zNok w = true) (hOa : ∀ (b : Nat) (u U : State) (H : Heap), u.vm.Alike U.vm → O b u H → O b U H) (hOk : ∀ (b : Nat) (U : State) (H H1 : Heap), (∀ q : Nat, q < b → q < H.size → H1[q]? = H[q]?) → O b U H → O b U H1)
    (hnh : ∀ μ, nh μ = true → hh μ = []) (hOK : ∀ μ pc i, code μ pc = some i → zOK cl T G N O E yy bb nl cc rt hh l μ pc i) (hhn : ∀ μ pc Ex pc' x, hn μ pc Ex = some (pc', x) → zHndSnd cl T G N O E (yy μ).cls (yy μ).name (bb μ) (nl μ) pc Ex pc' x (hh μ)) :
    ∀ k, zGoes cl T G N O E yy bb nl cc hh nh code hn l k := by
  intro k
  induction k with
  | zero =>
    intro d μ pc L st h res h' hr
    cases hr
  | succ k ih =>
    intro d μ pc L st h res h' hr
    rw [zrun] at hr
    split at hr
    · cases hr
    · -- a step
      rename_i op hcode
      split at hr
      · cases hr
      · rename_i pc1 L1 st1 h1 hop
        obtain ⟨⟨m1, m2⟩, hgo⟩ := ih d μ pc1 L1 st1 h1 res h' hr
        have hsnd : zSnd cl T G N O E (yy μ).cls (yy μ).name (bb μ) (nl μ) pc op := hOK μ pc _ hcode
        obtain ⟨⟨n1, n2⟩, hstep⟩ := hsnd L st h pc1 L1 st1 h1 hop
        refine ⟨⟨Nat.le_trans n1 m1, Nat.le_trans n2 m2⟩, ?_⟩
        intro p e R s m args below meth c Q F htab hR1 hR2 n0 S0 H locs ls hl hW hS hn0 hS0 hcR hsR k1 k2 k3
        refine hstep p l e R s m args below meth c Q F (by omega) (by omega) n0 S0 H locs ls hl hW hS hn0 hS0 (by omega) (by omega) (fun H' locs' ls' hl' hW' hS' => ?_)
        exact hgo p e R s m args below meth c Q F htab hR1 hR2 n0 S0 H' locs' ls' hl' hW' hS' (Nat.le_trans hn0 n1) (Nat.le_trans hS0 n2) hcR hsR k1 k2 k3
    · -- a return
      rename_i r hcode
      have hrr : ∃ v, res = .inl v ∧ h' = h ∧ ((r = 0 ∧ v = none ∧ st = []) ∨ (r ≠ 0 ∧ ∃ x, v = some x ∧ zRk r x = true ∧ st = [x])) := by
        split at hr
        · cases hr
          exact ⟨none, rfl, rfl, Or.inl ⟨rfl, rfl, rfl⟩⟩
        · rename_i r' v
          split at hr
          · rename_i hk
            cases hr
            exact ⟨some v, rfl, rfl, Or.inr ⟨by omega, v, rfl, hk, rfl⟩⟩
          · cases hr
        · cases hr
      obtain ⟨v, rfl, rfl, hv⟩ := hrr
      refine ⟨⟨Nat.le_refl _, Nat.le_refl _⟩, ?_⟩
      intro p e R s m args below meth c Q F htab hR1 hR2 n0 S0 H locs ls hl hW hS hn0 hS0 hcR hsR k1 k2 k3
      rcases hv with ⟨h0, rfl, rfl⟩ | ⟨h0, x, rfl, hx, rfl⟩
      · exact k1 none rfl pc r H locs ls hcode (Or.inl ⟨h0, rfl⟩) hW hS
      · exact k1 (some x) rfl pc r H locs ls hcode (Or.inr ⟨h0, x, rfl, hx⟩) hW hS
    · -- a throw
      rename_i Ex hcode
      split at hr
      · rename_i hg
        cases hr
        simp only [Bool.and_eq_true] at hg
        refine ⟨⟨Nat.le_succ _, Nat.le_add_right _ _⟩, ?_⟩
        intro p e R s m args below meth c Q F htab hR1 hR2 n0 S0 H locs ls hl hW hS hn0 hS0 hcR hsR k1 k2 k3
        exact k2 Ex rfl pc st h H locs ls hcode rfl (Nat.le_of_ble_eq_true hg.1.1) hn0 hS0 hW hS hl.1 (Nat.le_of_ble_eq_true hg.2)
      · cases hr
    · -- a call
      rename_i μ' n kd hcode
      split at hr
      · cases hr
      · rename_i d'
        split at hr
        · rename_i hcan
          obtain ⟨hn1, hlg, hsum, hrecv⟩ := zCan_spec hcan
          have hcall := hOK μ pc _ hcode
          obtain ⟨hcs, hnl12, hplain, hclc⟩ := hcall
          -- the callee's run
          generalize hz : zrun nl cc nh code hn k d' μ' 0 (lv_args 0 (st.take n).reverse) [] h = z at hr
          match z, hz, hr with
          | none, _, hr => cases hr
          | some (res1, h1), hz, hr =>
            have hM := zmet hnh hOK ih hplain hz hlg
            obtain ⟨⟨m1, m2⟩, -⟩ := ih d' μ' 0 _ _ h res1 h1 hz
            have key : ∀ (p : Program) (e : Env) (R : Room) (s : State) (m : MethodId) (args : Array Value) (below : List Frame) (meth : Method) (c : Code), zF cl T G N O E (yy μ).cls (yy μ).name (bb μ) (nl μ) p s m args meth c → d' + 1 + 1 ≤ R.frames → 31 * (d' + 1) + 40 ≤ R.locals →
                ∀ (n0 S0 : Nat) (H : Heap) (locs : List Loc) (ls : Array Slot), ls.size = nl μ → zW cl E h H → va_S (zA E) s.heap H locs → n0 ≤ h.2.2.1 → S0 ≤ h.2.2.2.1 → h1.2.2.1 - n0 ≤ R.cells → h1.2.2.2.1 - S0 ≤ R.slots →
                vx_Run p l e R s m args below meth c H locs (h.2.2.1 - n0) (h.2.2.2.1 - S0) (h1.2.2.1 - h.2.2.1) (h1.2.2.2.1 - h.2.2.2.1) (F0 m pc ls (st.map (zV E))) ((st.drop n).map (zV E)) (zQc cl E res1 h1 ((st.take n).reverse.map (zV E)).toArray) (zXc cl E res1 h1) (zA E) := by
              intro p e R s m args below meth c F hR1 hR2 n0 S0 H locs ls hsz hW hS hn0 hS0 hcR hsR
              have hPc : ∀ U : State, U.heap = H → s.WarmedH U.vm → zPre cl T N O E h (st.take n).reverse ((st.take n).reverse.map (zV E)).toArray U := by
                intro U hU hWm
                refine ⟨rfl, F.2.2.2.2.2.2.1.moved hWm.alike, fun w hw => zNw_warm (hNk w hw) hWm (F.2.2.2.2.2.1 w hw), ?_, ?_, F.2.2.2.2.2.2.2.2.2.1, by rw [hU]; exact hW⟩
                · rw [hU]
                  exact hOa _ s U _ hWm.alike (hOk _ s s.heap H (fun q hq hq2 => hS.2.1 q hq2 (Nat.not_le.mpr hq)) F.2.2.2.2.2.2.2.1)
                · rw [hU]
                  have hb := F.2.2.2.2.2.2.2.2.2.1 0
                  exact va_X.moved hWm.alike (F.2.2.2.2.2.2.2.2.1.kept (hS.2.1 _ (Nat.lt_of_lt_of_le hb F.2.2.2.2.2.2.2.2.2.2.1) (Nat.not_le.mpr hb)))
              have hcat : (((st.drop n).map (zV E)).map fun v => v.category) = (st.drop n).map fun v => v.category := by
                rw [List.map_map]
                exact List.map_congr_left fun v _ => zV_cat E v
              have hrun := hcs p l e R s m args below meth c H locs (h.2.2.1 - n0) (h.2.2.2.1 - S0) (h1.2.2.1 - h.2.2.1) (h1.2.2.2.1 - h.2.2.2.1) d' ls ((st.take n).reverse.map (zV E)) ((st.drop n).map (zV E)) _ _ _ F hM (zPre_blind hNk hOa h _) hPc
                (by rw [List.length_map, List.length_reverse, List.length_take]; omega) hsz (by rw [hcat]; exact hsum) (by omega) (by omega) (by omega) (by omega) (fun hk => by
                  obtain ⟨b, As, fs, q1, q2, q3⟩ := hrecv hk
                  obtain ⟨Tc, Nc, hcl⟩ := hclc hk
                  have hP := hW.1 b q2
                  rw [q3] at hP
                  obtain ⟨r0, g1, cell, g2, g3, g4, -⟩ := hP
                  have hr0 := Option.some.inj (g1.symm.trans hcl)
                  refine ⟨zb E + b, As.map (zV E), cell, by rw [q1]; rfl, g2, by rw [g4]; rfl, ?_⟩
                  rw [g3]
                  exact (F.2.2.2.2.2.2.1.1 _ _ hcl).2.1)
              rw [zrev] at hrun
              exact hrun
            have keepS : ∀ {s st₀ t T' : State} {H : Heap} {locs L0 : List Loc}, st₀.heap = H → T'.heap = t.heap → va_S (zA E) s.heap H locs → (∀ q ∈ L0, zA E q.base) → va_F (zA E) st₀ t → va_S (zA E) s.heap T'.heap (locs ++ L0) := by
              intro s st₀ t T' H locs L0 h0 e1 hS hL hF
              exact (vx_keep h0 e1 hS (fun _ _ hq => hq) (fun _ hq => hq) hL hF).2.2
            match res1, hz, hM, hr with
            | .inl v, hz, hM, hr =>
              have hr : zrun nl cc nh code hn k (d' + 1) μ (pc + 3) L (v.toList ++ st.drop n) h1 = some (res, h') := hr
              obtain ⟨⟨k1', k2'⟩, hgo⟩ := ih (d' + 1) μ (pc + 3) L _ h1 res h' hr
              refine ⟨⟨Nat.le_trans m1 k1', Nat.le_trans m2 k2'⟩, ?_⟩
              intro p e R s m args below meth c Q F htab hR1 hR2 n0 S0 H locs ls hl hW hS hn0 hS0 hcR hsR k1 k2 k3
              intro T0 hT X
              rcases key p e R s m args below meth c F hR1 hR2 n0 S0 H locs ls hl.1 hW hS hn0 hS0 (by omega) (by omega) T0 hT X with ⟨w, st₀, t, T', L0, h0, X', hL, e1, e2, ⟨⟨v2, hv2, hoc⟩, hW1, hF⟩, st1⟩ | ⟨q, st₀, t, T', L0, Ex, ce, h0, X', hL, e1, e2, ⟨hbad, -, -⟩, -⟩
              · cases hv2
                have hw : w = v.map (zV E) := by cases hoc; rfl
                subst hw
                have q1 : h.2.2.1 - n0 + (h1.2.2.1 - h.2.2.1) = h1.2.2.1 - n0 := by omega
                have q2 : h.2.2.2.1 - S0 + (h1.2.2.2.1 - h.2.2.2.1) = h1.2.2.2.1 - S0 := by omega
                rw [q1, q2] at X'
                have hst : (v.map (zV E)).toList ++ (st.drop n).map (zV E) = (v.toList ++ st.drop n).map (zV E) := by
                  rw [List.map_append]
                  cases v <;> rfl
                rw [hst] at st1
                obtain ⟨t2, a1, b1⟩ := hgo p e R s m args below meth c Q F htab hR1 hR2 n0 S0 T'.heap (locs ++ L0) ls hl (by rw [e1]; exact hW1) (keepS h0 e1 hS hL hF) (by omega) (by omega) hcR hsR k1 k2 k3 T' rfl X'
                exact ⟨t2, st1 t2 a1, b1⟩
              · cases hbad
            | .inr Ex, hz, hM, hr =>
              have hr : (match hn μ pc Ex with
                | some (pc', x) => zrun nl cc nh code hn k (d' + 1) μ pc' (zF1 x L) [] h1
                | none => if nh μ = true then some (.inr Ex, h1) else none) = some (res, h') := hr
              split at hr
              · rename_i pc' x hhx
                obtain ⟨⟨k1', k2'⟩, hgo⟩ := ih (d' + 1) μ pc' _ _ h1 res h' hr
                refine ⟨⟨Nat.le_trans m1 k1', Nat.le_trans m2 k2'⟩, ?_⟩
                intro p e R s m args below meth c Q F htab hR1 hR2 n0 S0 H locs ls hl hW hS hn0 hS0 hcR hsR k1 k2 k3
                intro T0 hT X
                rcases key p e R s m args below meth c F hR1 hR2 n0 S0 H locs ls hl.1 hW hS hn0 hS0 (by omega) (by omega) T0 hT X with ⟨w, st₀, t, T', L0, h0, X', hL, e1, e2, ⟨⟨v2, hbad, -⟩, -, -⟩, st1⟩ | ⟨q, st₀, t, T', L0, Ex2, ce, h0, X', hL, e1, e2, ⟨hx2, hW1, hF⟩, hce, hcv, hcl, st1⟩
                · cases hbad
                · cases hx2
                  have q1 : h.2.2.1 - n0 + (h1.2.2.1 - h.2.2.1) = h1.2.2.1 - n0 := by omega
                  have q2 : h.2.2.2.1 - S0 + (h1.2.2.2.1 - h.2.2.2.1) = h1.2.2.2.1 - S0 := by omega
                  rw [q1, q2] at X'
                  have hHn := hhn μ pc Ex pc' x hhx p l e R s m args below meth c Q T'.heap (locs ++ L0) (h1.2.2.1 - n0) (h1.2.2.2.1 - S0) ls ((st.drop n).map (zV E)) q ce (zLo E L) F htab hl (by rw [e1]; exact hce) hcv hcl (fun ls' hl' => by
                    rw [zLo_filter] at hl'
                    exact hgo p e R s m args below meth c Q F htab hR1 hR2 n0 S0 T'.heap (locs ++ L0) ls' hl' (by rw [e1]; exact hW1) (keepS h0 e1 hS hL hF) (by omega) (by omega) hcR hsR k1 k2 k3)
                  obtain ⟨t2, a1, b1⟩ := hHn T' rfl X'
                  exact ⟨t2, st1.trans a1, b1⟩
              · split at hr
                · rename_i hnm
                  cases hr
                  refine ⟨⟨m1, m2⟩, ?_⟩
                  intro p e R s m args below meth c Q F htab hR1 hR2 n0 S0 H locs ls hl hW hS hn0 hS0 hcR hsR k1 k2 k3
                  intro T0 hT X
                  rcases key p e R s m args below meth c F hR1 hR2 n0 S0 H locs ls hl.1 hW hS hn0 hS0 (by omega) (by omega) T0 hT X with ⟨w, st₀, t, T', L0, h0, X', hL, e1, e2, ⟨⟨v2, hbad, -⟩, -, -⟩, st1⟩ | ⟨q, st₀, t, T', L0, Ex2, ce, h0, X', hL, e1, e2, ⟨hx2, hW1, hF⟩, hce, hcv, hcl, st1⟩
                  · cases hbad
                  · cases hx2
                    have q1 : h.2.2.1 - n0 + (h'.2.2.1 - h.2.2.1) = h'.2.2.1 - n0 := by omega
                    have q2 : h.2.2.2.1 - S0 + (h'.2.2.2.1 - h.2.2.2.1) = h'.2.2.2.1 - S0 := by omega
                    rw [q1, q2] at X'
                    obtain ⟨t2, a1, b1⟩ := k3 Ex rfl hnm pc T'.heap (locs ++ L0) ls ((st.drop n).map (zV E)) q ce (by rw [e1]; exact hW1) (keepS h0 e1 hS hL hF) (by rw [e1]; exact hce) hcv hcl T' rfl X'
                    exact ⟨t2, st1.trans a1, b1⟩
                · cases hr
        · cases hr
end ZSIM2
end
section
/-! CALLS, by their kinds: 0 virtual, 1 virtual of a nest mate, 2 static, 3 static of a nest mate, 4 a constructor, 5 a nest mate's, 6 static with handlers -/
section ZCALLS
variable {cl : List vw_C} {T : List FieldType} {G N : List Cond} {O : Nat → State → Heap → Prop} {E : zE} {own nm : String} {bytes : ByteArray} {nL pc : Nat} {y : MethodName} {b : ByteArray} {n' : Nat} {rt : Option FieldType}
theorem zgood (hG : ∀ w ∈ G, goodWord w = true) {w0 : Cond} (h0 : w0 ∈ G) : GoodIn G (w0 :: G) := by
  intro w hw
  rcases List.mem_cons.mp hw with rfl | h
  · exact ⟨h0, good_of_word (hG _ h0)⟩
  · exact ⟨h, good_of_word (hG _ h)⟩
theorem zapp_ref (As : List Value) (b0 : Nat) (rest : List Value) : (Value.ref b0 :: As).reverse ++ rest = As.reverse ++ .ref b0 :: rest := by simp
theorem zcs0 {i n : Nat} (hG : ∀ w ∈ G, goodWord w = true) (hcode : Cond.code y b n' rt ∈ G) (hini : Cond.initialized y.cls ∈ G) (hlink : Cond.methodLink own i y ∈ G) (hinst : Cond.instanceMethod y ∈ G) (hsel : Cond.selects y.cls y y ∈ G) (hd1 : y.cls ≠ "java/lang/invoke/MethodHandle" ∧ y.cls ≠ "java/lang/invoke/VarHandle" ∧ (parseMethodDescriptor y.desc).map (fun d => d.parameters.length) = some n)
    (hd : decode bytes pc = .ok (.invokevirtual i, 3)) : zCallSnd cl T G N O E own nm bytes nL pc y b n' rt [] (n + 1) 0 := by
  intro p l e R s m args below meth c H locs cells slots mc ms d ls vs rest Pc Qc XC F hM hbl hPc hlen hsz hsum hRf hRl hRc hRs hrecv
  obtain ⟨b0, As, cellB, rfl, hc1, hc2, hc3⟩ := hrecv ⟨by decide, by decide, by decide⟩
  rw [zapp_ref]
  exact vx_runV (Ts := G) ⟨F.1, F.2.1, F.2.2.1, F.2.2.2.1, F.2.2.2.2.1⟩ hM ⟨callB_of n F.2.2.2.2.1 (zgood hG hcode) rfl rfl rfl (F.2.2.2.2.1 _ hini) (F.2.2.2.2.1 _ hlink) hd1 ⟨hRf, hRl⟩, F.2.2.2.2.1 _ hinst, F.2.2.2.2.1 _ hsel⟩ ⟨hbl, ⟨cellB, hc1, hc2, hc3⟩, hPc⟩ rfl (Nat.succ.inj hlen) hsz rfl (lv_room hsum) hd ⟨hRc, hRs⟩
theorem zcs1 {i n : Nat} {host : String} (hG : ∀ w ∈ G, goodWord w = true) (hcode : Cond.code y b n' rt ∈ G) (hini : Cond.initialized y.cls ∈ G) (hlink : Cond.methodLinkNest own i y host ∈ N) (hinst : Cond.instanceMethod y ∈ G) (hsel : Cond.selects y.cls y y ∈ G) (hd1 : y.cls ≠ "java/lang/invoke/MethodHandle" ∧ y.cls ≠ "java/lang/invoke/VarHandle" ∧ (parseMethodDescriptor y.desc).map (fun d => d.parameters.length) = some n)
    (hd : decode bytes pc = .ok (.invokevirtual i, 3)) : zCallSnd cl T G N O E own nm bytes nL pc y b n' rt [] (n + 1) 1 := by
  intro p l e R s m args below meth c H locs cells slots mc ms d ls vs rest Pc Qc XC F hM hbl hPc hlen hsz hsum hRf hRl hRc hRs hrecv
  obtain ⟨b0, As, cellB, rfl, hc1, hc2, hc3⟩ := hrecv ⟨by decide, by decide, by decide⟩
  rw [zapp_ref]
  exact vx_runVN (Ts := G) ⟨F.1, F.2.1, F.2.2.1, F.2.2.2.1, F.2.2.2.2.1⟩ hM ⟨va_cnB n F.2.2.2.2.1 (zgood hG hcode) rfl rfl rfl (F.2.2.2.2.2.1 _ hlink) (F.2.2.2.2.1 _ hini) hd1 ⟨hRf, hRl⟩, F.2.2.2.2.1 _ hinst, F.2.2.2.2.1 _ hsel⟩ ⟨hbl, ⟨cellB, hc1, hc2, hc3⟩, hPc⟩ rfl (Nat.succ.inj hlen) hsz rfl (lv_room hsum) hd ⟨hRc, hRs⟩
theorem zcs2 {i n : Nat} (hG : ∀ w ∈ G, goodWord w = true) (hcode : Cond.code y b n' rt ∈ G) (hini : Cond.initialized y.cls ∈ G) (hlink : Cond.methodLink own i y ∈ G) (hst : Cond.static y ∈ G) (hd1 : y.cls ≠ "java/lang/invoke/MethodHandle" ∧ y.cls ≠ "java/lang/invoke/VarHandle" ∧ (parseMethodDescriptor y.desc).map (fun d => d.parameters.length) = some n)
    (hd : decode bytes pc = .ok (.invokestatic i, 3)) : zCallSnd cl T G N O E own nm bytes nL pc y b n' rt [] n 2 := by
  intro p l e R s m args below meth c H locs cells slots mc ms d ls vs rest Pc Qc XC F hM hbl hPc hlen hsz hsum hRf hRl hRc hRs hrecv
  exact vx_runS (Ts := G) ⟨F.1, F.2.1, F.2.2.1, F.2.2.2.1, F.2.2.2.2.1⟩ hM ⟨callB_of n F.2.2.2.2.1 (zgood hG hcode) rfl rfl rfl (F.2.2.2.2.1 _ hini) (F.2.2.2.2.1 _ hlink) hd1 ⟨hRf, hRl⟩, F.2.2.2.2.1 _ hst⟩ ⟨hbl, hPc⟩ rfl hlen hsz rfl (lv_room hsum) hd ⟨hRc, hRs⟩
theorem zcs3 {i n : Nat} {host : String} (hG : ∀ w ∈ G, goodWord w = true) (hcode : Cond.code y b n' rt ∈ G) (hini : Cond.initialized y.cls ∈ G) (hlink : Cond.methodLinkNest own i y host ∈ N) (hst : Cond.static y ∈ G) (hd1 : y.cls ≠ "java/lang/invoke/MethodHandle" ∧ y.cls ≠ "java/lang/invoke/VarHandle" ∧ (parseMethodDescriptor y.desc).map (fun d => d.parameters.length) = some n)
    (hd : decode bytes pc = .ok (.invokestatic i, 3)) : zCallSnd cl T G N O E own nm bytes nL pc y b n' rt [] n 3 := by
  intro p l e R s m args below meth c H locs cells slots mc ms d ls vs rest Pc Qc XC F hM hbl hPc hlen hsz hsum hRf hRl hRc hRs hrecv
  exact vx_runSN (Ts := G) ⟨F.1, F.2.1, F.2.2.1, F.2.2.2.1, F.2.2.2.2.1⟩ hM ⟨va_cnB n F.2.2.2.2.1 (zgood hG hcode) rfl rfl rfl (F.2.2.2.2.2.1 _ hlink) (F.2.2.2.2.1 _ hini) hd1 ⟨hRf, hRl⟩, F.2.2.2.2.1 _ hst, trivial⟩ ⟨hbl, hPc⟩ rfl hlen hsz rfl (lv_room hsum) hd ⟨hRc, hRs⟩
theorem zcs4 {i n : Nat} (hG : ∀ w ∈ G, goodWord w = true) (hcode : Cond.code y b n' none ∈ G) (hini : Cond.initialized y.cls ∈ G) (hlink : Cond.methodLink own i y ∈ G) (hinst : Cond.instanceMethod y ∈ G) (hname : y.name = "<init>") (hd1 : y.cls ≠ "java/lang/invoke/MethodHandle" ∧ y.cls ≠ "java/lang/invoke/VarHandle" ∧ (parseMethodDescriptor y.desc).map (fun d => d.parameters.length) = some n)
    (hd : decode bytes pc = .ok (.invokespecial i, 3)) : zCallSnd cl T G N O E own nm bytes nL pc y b n' none [] (n + 1) 4 := by
  intro p l e R s m args below meth c H locs cells slots mc ms d ls vs rest Pc Qc XC F hM hbl hPc hlen hsz hsum hRf hRl hRc hRs hrecv
  obtain ⟨b0, As, cellB, rfl, hc1, hc2, hc3⟩ := hrecv ⟨by decide, by decide, by decide⟩
  rw [zapp_ref]
  exact vx_runI (Ts := G) ⟨F.1, F.2.1, F.2.2.1, F.2.2.2.1, F.2.2.2.2.1⟩ hM ⟨callB_of n F.2.2.2.2.1 (zgood hG hcode) rfl rfl rfl (F.2.2.2.2.1 _ hini) (F.2.2.2.2.1 _ hlink) hd1 ⟨hRf, hRl⟩, hname, F.2.2.2.2.1 _ hinst⟩ ⟨hbl, hPc⟩ rfl (Nat.succ.inj hlen) hsz rfl (lv_room hsum) hd ⟨hRc, hRs⟩
theorem zcs5 {i n : Nat} {host : String} (hG : ∀ w ∈ G, goodWord w = true) (hcode : Cond.code y b n' none ∈ G) (hini : Cond.initialized y.cls ∈ G) (hlink : Cond.methodLinkNest own i y host ∈ N) (hinst : Cond.instanceMethod y ∈ G) (hname : y.name = "<init>") (hd1 : y.cls ≠ "java/lang/invoke/MethodHandle" ∧ y.cls ≠ "java/lang/invoke/VarHandle" ∧ (parseMethodDescriptor y.desc).map (fun d => d.parameters.length) = some n)
    (hd : decode bytes pc = .ok (.invokespecial i, 3)) : zCallSnd cl T G N O E own nm bytes nL pc y b n' none [] (n + 1) 5 := by
  intro p l e R s m args below meth c H locs cells slots mc ms d ls vs rest Pc Qc XC F hM hbl hPc hlen hsz hsum hRf hRl hRc hRs hrecv
  obtain ⟨b0, As, cellB, rfl, hc1, hc2, hc3⟩ := hrecv ⟨by decide, by decide, by decide⟩
  rw [zapp_ref]
  exact vx_runIN (Ts := G) ⟨F.1, F.2.1, F.2.2.1, F.2.2.2.1, F.2.2.2.2.1⟩ hM ⟨va_cnB n F.2.2.2.2.1 (zgood hG hcode) rfl rfl rfl (F.2.2.2.2.2.1 _ hlink) (F.2.2.2.2.1 _ hini) hd1 ⟨hRf, hRl⟩, hname, F.2.2.2.2.1 _ hinst⟩ ⟨hbl, hPc⟩ rfl (Nat.succ.inj hlen) hsz rfl (lv_room hsum) hd ⟨hRc, hRs⟩
theorem zcs6 {i n : Nat} {h0 : Nat × Nat × Nat × Nat} {hr : List (Nat × Nat × Nat × Nat)} (hG : ∀ w ∈ G, goodWord w = true) (hcode : Cond.codeWith y b n' rt (h0 :: hr) ∈ G) (hini : Cond.initialized y.cls ∈ G) (hlink : Cond.methodLink own i y ∈ G) (hst : Cond.static y ∈ G) (hd1 : y.cls ≠ "java/lang/invoke/MethodHandle" ∧ y.cls ≠ "java/lang/invoke/VarHandle" ∧ (parseMethodDescriptor y.desc).map (fun d => d.parameters.length) = some n)
    (hd : decode bytes pc = .ok (.invokestatic i, 3)) : zCallSnd cl T G N O E own nm bytes nL pc y b n' rt (h0 :: hr) n 6 := by
  intro p l e R s m args below meth c H locs cells slots mc ms d ls vs rest Pc Qc XC F hM hbl hPc hlen hsz hsum hRf hRl hRc hRs hrecv
  have hcw : vx_CSW R s args own i y b n' rt (h0 :: hr) (zcw y b n' rt (h0 :: hr) :: G) (zrm d mc ms) mc ms n := by
    have hg := zgood hG hcode
    refine ⟨⟨rfl, rfl, hRf, hRl, pay_in F.2.2.2.2.1 hg, List.mem_cons_self⟩, F.2.2.2.2.1 _ hcode, F.2.2.2.2.1 _ hini, ⟨hd1.1, hd1.2.1⟩, fun sig h => ?_, F.2.2.2.2.1 _ hlink, F.2.2.2.2.1 _ hst⟩
    have h2 := hd1.2.2
    rw [h] at h2
    exact (Option.some.inj h2).symm
  exact vx_runSX (Ts := G) ⟨F.1, F.2.1, F.2.2.1, F.2.2.2.1, F.2.2.2.2.1⟩ hM hcw ⟨hbl, hPc⟩ rfl hlen hsz rfl (lv_room hsum) hd ⟨hRc, hRs⟩
end ZCALLS
end
section
/-! Math.min, max, abs of ints, as steps -/
section ZMATH
variable {cl : List vw_C} {T : List FieldType} {G N : List Cond} {O : Nat → State → Heap → Prop} {E : zE} {own nm : String} {bytes : ByteArray} {nL pc : Nat}
theorem zsnd3 {f : List Value → zH → Option (Nat × List Value)} (hf : ∀ (st : List Value) (h : zH) (pc' : Nat) (st' : List Value), f st h = some (pc', st') → ∀ (p : Program) (l : Launch) (e : Env) (R : Room) (s : State) (m : MethodId) (args : Array Value) (below : List Frame) (meth : Method) (c : Code) (Q : State → Prop) (H : Heap) (locs : List Loc) (cells slots : Nat) (ls : Array Slot), zF cl T G N O E own nm bytes nL p s m args meth c → 1 ≤ R.frames → 40 ≤ R.locals → ls.size = nL → cells ≤ R.cells → slots ≤ R.slots →
      W p l e R s m args below meth c H locs cells slots Q (F0 m pc' ls (st'.map (zV E))) → W p l e R s m args below meth c H locs cells slots Q (F0 m pc ls (st.map (zV E)))) : zSnd cl T G N O E own nm bytes nL pc (zS2 f) := by
  intro L st h pc' L' st' h' hop
  simp only [zS2] at hop
  split at hop
  · rename_i a b heq
    cases hop
    refine ⟨⟨Nat.le_refl _, Nat.le_refl _⟩, ?_⟩
    intro p l e R s m args below meth c Q F hr1 hr2 n0 S0 H locs ls hl hW hS _ _ hc hs k
    exact hf _ _ _ _ heq p l e R s m args below meth c Q H locs _ _ ls F hr1 hr2 hl.1 hc hs (k H locs ls hl hW hS)
  · cases hop
abbrev zMax (pc' : Nat) : List Value → zH → Option (Nat × List Value) := fun st _ => match st with
  | .int y :: .int x :: r => if (r.map fun v => v.category).sum ≤ 8 then some (pc', .int (if x < y then y else x) :: r) else none
  | _ => none
abbrev zMin (pc' : Nat) : List Value → zH → Option (Nat × List Value) := fun st _ => match st with
  | .int y :: .int x :: r => if (r.map fun v => v.category).sum ≤ 8 then some (pc', .int (if y < x then y else x) :: r) else none
  | _ => none
abbrev zAbs (pc' : Nat) : List Value → zH → Option (Nat × List Value) := fun st _ => match st with
  | .int x :: r => if (r.map fun v => v.category).sum ≤ 8 then some (pc', .int (if 0 ≤ x then x else 0 - x) :: r) else none
  | _ => none
theorem zcats (E : zE) (r : List Value) : ((r.map (zV E)).map fun v => v.category) = r.map fun v => v.category := by
  rw [List.map_map]
  exact List.map_congr_left fun v _ => zV_cat E v
theorem zs_max {i : Nat} (h1 : Cond.methodLink own i Lib.Math.max.name ∈ G) (h2 : Cond.static Lib.Math.max.name ∈ G) (h3 : Cond.initialized "java/lang/Math" ∈ G) (h4 : Cond.code Lib.Math.max.name Lib.Math.max.code 2 (some .int) ∈ G) (hd : decode bytes pc = .ok (.invokestatic i, 3)) : zSnd cl T G N O E own nm bytes nL pc (zS2 (zMax (pc + 3))) :=
  zsnd3 fun st h pc1 st1 hg p l e R s m args below meth c Q H locs cells slots ls F hr1 hr2 hsz hc hs k => by
    simp only [zMax] at hg
    split at hg
    · split at hg
      · rename_i hsum
        cases hg
        exact va_mmax F.1 F.2.1 (F.2.2.1.trans hsz.symm) F.2.2.2.1 (F.2.2.2.2.1 _ h1) (F.2.2.2.2.1 _ h2) (F.2.2.2.2.1 _ h3) (F.2.2.2.2.1 _ h4) hr1 (by rw [zcats]; omega) hc hs hd k
      · cases hg
    · cases hg
theorem zs_min {i : Nat} (h1 : Cond.methodLink own i Lib.Math.min.name ∈ G) (h2 : Cond.static Lib.Math.min.name ∈ G) (h3 : Cond.initialized "java/lang/Math" ∈ G) (h4 : Cond.code Lib.Math.min.name Lib.Math.min.code 2 (some .int) ∈ G) (hd : decode bytes pc = .ok (.invokestatic i, 3)) : zSnd cl T G N O E own nm bytes nL pc (zS2 (zMin (pc + 3))) :=
  zsnd3 fun st h pc1 st1 hg p l e R s m args below meth c Q H locs cells slots ls F hr1 hr2 hsz hc hs k => by
    simp only [zMin] at hg
    split at hg
    · split at hg
      · rename_i hsum
        cases hg
        exact va_mmin F.1 F.2.1 (F.2.2.1.trans hsz.symm) F.2.2.2.1 (F.2.2.2.2.1 _ h1) (F.2.2.2.2.1 _ h2) (F.2.2.2.2.1 _ h3) (F.2.2.2.2.1 _ h4) hr1 (by rw [zcats]; omega) hc hs hd k
      · cases hg
    · cases hg
theorem zs_abs {i : Nat} (h1 : Cond.methodLink own i Lib.Math.abs.name ∈ G) (h2 : Cond.static Lib.Math.abs.name ∈ G) (h3 : Cond.initialized "java/lang/Math" ∈ G) (h4 : Cond.code Lib.Math.abs.name Lib.Math.abs.code 1 (some .int) ∈ G) (hd : decode bytes pc = .ok (.invokestatic i, 3)) : zSnd cl T G N O E own nm bytes nL pc (zS2 (zAbs (pc + 3))) :=
  zsnd3 fun st h pc1 st1 hg p l e R s m args below meth c Q H locs cells slots ls F hr1 hr2 hsz hc hs k => by
    simp only [zAbs] at hg
    split at hg
    · split at hg
      · rename_i hsum
        cases hg
        exact va_mabs F.1 F.2.1 (F.2.2.1.trans hsz.symm) F.2.2.2.1 (F.2.2.2.2.1 _ h1) (F.2.2.2.2.1 _ h2) (F.2.2.2.2.1 _ h3) (F.2.2.2.2.1 _ h4) hr1 (by rw [zcats]; omega) hc hs hd k
      · cases hg
    · cases hg
end ZMATH
end
section
/-! ===== BEGIN printed: names, fields, word lists, decode rows ===== -/
def RX0 : String := "Creasebook$Form"
def TX0 : u_T := fun k => match k with
  | 0 => ("Creasebook$Form", "cells", "I", false)
  | 1 => ("Creasebook$Form", "columns", "I", false)
  | 2 => ("Creasebook$Form", "rows", "I", false)
  | 3 => ("Creasebook$Form", "column", "[I", true)
  | 4 => ("Creasebook$Form", "row", "[I", true)
  | 5 => ("Creasebook$Form", "layer", "[I", true)
  | 6 => ("Creasebook$Form", "isUp", "[Z", true)
  | _ => ("Creasebook$Form", "height", "[I", true)
def tyX0 : Nat → FieldType := fun k => match k with
  | 0 => .int
  | 1 => .int
  | 2 => .int
  | 3 => .array .int
  | 4 => .array .int
  | 5 => .array .int
  | 6 => .array .boolean
  | _ => .array .int
abbrev wsX00 : List Cond := u_ws RX0 TX0 8
theorem nmX0 : ∀ a, a < 8 → ∀ b, b < 8 → a ≠ b → (TX0 a).2.1 ≠ (TX0 b).2.1 := by decide +kernel
theorem tyX0_ok : ∀ k, k < 8 → parseFieldDescriptor (TX0 k).2.2.1 = some (tyX0 k) := by decide +kernel
abbrev cX0_init : ByteArray := prog_2_method_1_code
def yX0_init : MethodName := ⟨RX0, "<init>", "()V"⟩
abbrev cX0_spread : ByteArray := prog_2_method_2_code
def yX0_spread : MethodName := ⟨RX0, "spread", "(II)V"⟩
abbrev cX0_copyFrom : ByteArray := prog_2_method_3_code
def yX0_copyFrom : MethodName := ⟨RX0, "copyFrom", "(LCreasebook$Form;)V"⟩
abbrev cX0_becomeFolded : ByteArray := prog_2_method_4_code
def yX0_becomeFolded : MethodName := ⟨RX0, "becomeFolded", "(LCreasebook$Form;I)V"⟩
abbrev cX0_layerBehind : ByteArray := prog_2_method_5_code
def yX0_layerBehind : MethodName := ⟨RX0, "layerBehind", "(II)I"⟩
abbrev cX0_turnOver : ByteArray := prog_2_method_6_code
def yX0_turnOver : MethodName := ⟨RX0, "turnOver", "()V"⟩
abbrev cX0_turnRound : ByteArray := prog_2_method_7_code
def yX0_turnRound : MethodName := ⟨RX0, "turnRound", "()V"⟩
abbrev cX0_measurePiles : ByteArray := prog_2_method_8_code
def yX0_measurePiles : MethodName := ⟨RX0, "measurePiles", "()V"⟩
abbrev cX0_places : ByteArray := prog_2_method_9_code
def yX0_places : MethodName := ⟨RX0, "places", "()I"⟩
abbrev cX0_hasPlace : ByteArray := prog_2_method_10_code
def yX0_hasPlace : MethodName := ⟨RX0, "hasPlace", "(II)Z"⟩
abbrev cX0_hasLine : ByteArray := prog_2_method_11_code
def yX0_hasLine : MethodName := ⟨RX0, "hasLine", "(II)Z"⟩
abbrev cX0_heightAt : ByteArray := prog_2_method_12_code
def yX0_heightAt : MethodName := ⟨RX0, "heightAt", "(II)I"⟩
abbrev cX0_liesAt : ByteArray := prog_2_method_13_code
def yX0_liesAt : MethodName := ⟨RX0, "liesAt", "(III)Z"⟩
abbrev cX0_cellAt : ByteArray := prog_2_method_14_code
def yX0_cellAt : MethodName := ⟨RX0, "cellAt", "(III)I"⟩
abbrev cX0_highestAt : ByteArray := prog_2_method_15_code
def yX0_highestAt : MethodName := ⟨RX0, "highestAt", "(II)I"⟩
abbrev cX0_layerFromAbove : ByteArray := prog_2_method_16_code
def yX0_layerFromAbove : MethodName := ⟨RX0, "layerFromAbove", "(I)I"⟩
abbrev cX0_isOutermost : ByteArray := prog_2_method_17_code
def yX0_isOutermost : MethodName := ⟨RX0, "isOutermost", "(IZ)Z"⟩
abbrev cX0_isFrontUp : ByteArray := prog_2_method_18_code
def yX0_isFrontUp : MethodName := ⟨RX0, "isFrontUp", "(I)Z"⟩
abbrev cX0_isJustUpon : ByteArray := prog_2_method_19_code
def yX0_isJustUpon : MethodName := ⟨RX0, "isJustUpon", "(II)Z"⟩
abbrev cX0_goes : ByteArray := prog_2_method_20_code
def yX0_goes : MethodName := ⟨RX0, "goes", "(II)Z"⟩
abbrev cX0_mirroredColumn : ByteArray := prog_2_method_21_code
def yX0_mirroredColumn : MethodName := ⟨RX0, "mirroredColumn", "(II)I"⟩
abbrev cX0_mirroredRow : ByteArray := prog_2_method_22_code
def yX0_mirroredRow : MethodName := ⟨RX0, "mirroredRow", "(II)I"⟩
abbrev cX0_isLineBetween : ByteArray := prog_2_method_23_code
def yX0_isLineBetween : MethodName := ⟨RX0, "isLineBetween", "(III)Z"⟩
abbrev cX0_highestPile : ByteArray := prog_2_method_24_code
def yX0_highestPile : MethodName := ⟨RX0, "highestPile", "()I"⟩
abbrev cX0_frontsSeenFromAbove : ByteArray := prog_2_method_25_code
def yX0_frontsSeenFromAbove : MethodName := ⟨RX0, "frontsSeenFromAbove", "()I"⟩
abbrev cX0_frontsSeenFromBelow : ByteArray := prog_2_method_26_code
def yX0_frontsSeenFromBelow : MethodName := ⟨RX0, "frontsSeenFromBelow", "()I"⟩
def RX1 : String := "Creasebook$Paper"
def TX1 : u_T := fun k => match k with
  | 0 => ("Creasebook$Paper", "wide", "I", false)
  | 1 => ("Creasebook$Paper", "high", "I", false)
  | 2 => ("Creasebook$Paper", "cells", "I", false)
  | 3 => ("Creasebook$Paper", "crease", "[I", true)
  | 4 => ("Creasebook$Paper", "creasedBy", "[I", true)
  | 5 => ("Creasebook$Paper", "marks", "[I", true)
  | 6 => ("Creasebook$Paper", "ink", "[I", true)
  | 7 => ("Creasebook$Paper", "holes", "[I", true)
  | _ => ("Creasebook$Paper", "glued", "[I", true)
def tyX1 : Nat → FieldType := fun k => match k with
  | 0 => .int
  | 1 => .int
  | 2 => .int
  | 3 => .array .int
  | 4 => .array .int
  | 5 => .array .int
  | 6 => .array .int
  | 7 => .array .int
  | _ => .array .int
abbrev wsX10 : List Cond := u_ws RX1 TX1 9
theorem nmX1 : ∀ a, a < 9 → ∀ b, b < 9 → a ≠ b → (TX1 a).2.1 ≠ (TX1 b).2.1 := by decide +kernel
theorem tyX1_ok : ∀ k, k < 9 → parseFieldDescriptor (TX1 k).2.2.1 = some (tyX1 k) := by decide +kernel
abbrev cX1_init : ByteArray := prog_3_method_1_code
def yX1_init : MethodName := ⟨RX1, "<init>", "()V"⟩
abbrev cX1_renew : ByteArray := prog_3_method_2_code
def yX1_renew : MethodName := ⟨RX1, "renew", "(II)V"⟩
abbrev cX1_hasCell : ByteArray := prog_3_method_3_code
def yX1_hasCell : MethodName := ⟨RX1, "hasCell", "(I)Z"⟩
abbrev cX1_cellBeside : ByteArray := prog_3_method_4_code
def yX1_cellBeside : MethodName := ⟨RX1, "cellBeside", "(IZ)I"⟩
abbrev cX1_press : ByteArray := prog_3_method_5_code
def yX1_press : MethodName := ⟨RX1, "press", "(III)V"⟩
abbrev cX1_smoothCreasesOf : ByteArray := prog_3_method_6_code
def yX1_smoothCreasesOf : MethodName := ⟨RX1, "smoothCreasesOf", "(I)V"⟩
abbrev cX1_creasesOf : ByteArray := prog_3_method_7_code
def yX1_creasesOf : MethodName := ⟨RX1, "creasesOf", "(I)I"⟩
abbrev cX1_tellPair : ByteArray := prog_3_method_8_code
def yX1_tellPair : MethodName := ⟨RX1, "tellPair", "(II)I"⟩
abbrev cX1_countCreases : ByteArray := prog_3_method_9_code
def yX1_countCreases : MethodName := ⟨RX1, "countCreases", "(I)I"⟩
abbrev cX1_sumOfMarks : ByteArray := prog_3_method_10_code
def yX1_sumOfMarks : MethodName := ⟨RX1, "sumOfMarks", "()I"⟩
abbrev cX1_isWet : ByteArray := prog_3_method_11_code
def yX1_isWet : MethodName := ⟨RX1, "isWet", "(I)Z"⟩
abbrev cX1_wet : ByteArray := prog_3_method_12_code
def yX1_wet : MethodName := ⟨RX1, "wet", "(I)Z"⟩
abbrev cX1_dryAll : ByteArray := prog_3_method_13_code
def yX1_dryAll : MethodName := ⟨RX1, "dryAll", "()I"⟩
abbrev cX1_countSides : ByteArray := prog_3_method_14_code
def yX1_countSides : MethodName := ⟨RX1, "countSides", "(I)I"⟩
abbrev cX1_sumOfHoles : ByteArray := prog_3_method_15_code
def yX1_sumOfHoles : MethodName := ⟨RX1, "sumOfHoles", "()I"⟩
abbrev cX1_areGlued : ByteArray := prog_3_method_16_code
def yX1_areGlued : MethodName := ⟨RX1, "areGlued", "(II)Z"⟩
abbrev cX1_stick : ByteArray := prog_3_method_17_code
def yX1_stick : MethodName := ⟨RX1, "stick", "(II)V"⟩
def RX2 : String := "Creasebook"
def TX2 : u_T := fun k => match k with
  | 0 => ("Creasebook", "paper", "LCreasebook$Paper;", true)
  | 1 => ("Creasebook", "form", "LCreasebook$Form;", true)
  | 2 => ("Creasebook", "trial", "LCreasebook$Form;", true)
  | 3 => ("Creasebook", "past", "[LCreasebook$Form;", true)
  | 4 => ("Creasebook", "pastCode", "[I", true)
  | 5 => ("Creasebook", "folds", "I", false)
  | 6 => ("Creasebook", "blots", "I", false)
  | _ => ("Creasebook", "refusals", "I", false)
def tyX2 : Nat → FieldType := fun k => match k with
  | 0 => .object "Creasebook$Paper"
  | 1 => .object "Creasebook$Form"
  | 2 => .object "Creasebook$Form"
  | 3 => .array (.object "Creasebook$Form")
  | 4 => .array .int
  | 5 => .int
  | 6 => .int
  | _ => .int
abbrev wsX20 : List Cond := u_ws RX2 TX2 8
theorem nmX2 : ∀ a, a < 8 → ∀ b, b < 8 → a ≠ b → (TX2 a).2.1 ≠ (TX2 b).2.1 := by decide +kernel
theorem tyX2_ok : ∀ k, k < 8 → parseFieldDescriptor (TX2 k).2.2.1 = some (tyX2 k) := by decide +kernel
abbrev cX2_init : ByteArray := prog_1_method_1_code
def yX2_init : MethodName := ⟨RX2, "<init>", "()V"⟩
abbrev cX2_sheet : ByteArray := prog_1_method_2_code
def yX2_sheet : MethodName := ⟨RX2, "sheet", "(II)I"⟩
abbrev cX2_fold : ByteArray := prog_1_method_3_code
def yX2_fold : MethodName := ⟨RX2, "fold", "(IIZZ)I"⟩
abbrev cX2_unfold : ByteArray := prog_1_method_4_code
def yX2_unfold : MethodName := ⟨RX2, "unfold", "()I"⟩
abbrev cX2_turn : ByteArray := prog_1_method_5_code
def yX2_turn : MethodName := ⟨RX2, "turn", "()I"⟩
abbrev cX2_round : ByteArray := prog_1_method_6_code
def yX2_round : MethodName := ⟨RX2, "round", "()I"⟩
abbrev cX2_ink : ByteArray := prog_1_method_7_code
def yX2_ink : MethodName := ⟨RX2, "ink", "(II)Z"⟩
abbrev cX2_dry : ByteArray := prog_1_method_8_code
def yX2_dry : MethodName := ⟨RX2, "dry", "()I"⟩
abbrev cX2_punch : ByteArray := prog_1_method_9_code
def yX2_punch : MethodName := ⟨RX2, "punch", "(II)I"⟩
abbrev cX2_glue : ByteArray := prog_1_method_10_code
def yX2_glue : MethodName := ⟨RX2, "glue", "(II)I"⟩
abbrev cX2_ofPlace : ByteArray := prog_1_method_11_code
def yX2_ofPlace : MethodName := ⟨RX2, "ofPlace", "(III)I"⟩
abbrev cX2_at : ByteArray := prog_1_method_12_code
def yX2_at : MethodName := ⟨RX2, "at", "(III)I"⟩
abbrev cX2_ofCell : ByteArray := prog_1_method_13_code
def yX2_ofCell : MethodName := ⟨RX2, "ofCell", "(II)I"⟩
abbrev cX2_ofPair : ByteArray := prog_1_method_14_code
def yX2_ofPair : MethodName := ⟨RX2, "ofPair", "(IZI)I"⟩
abbrev cX2_ofCorner : ByteArray := prog_1_method_15_code
def yX2_ofCorner : MethodName := ⟨RX2, "ofCorner", "(III)I"⟩
abbrev cX2_many : ByteArray := prog_1_method_16_code
def yX2_many : MethodName := ⟨RX2, "many", "(I)I"⟩
abbrev cX2_weight : ByteArray := prog_1_method_17_code
def yX2_weight : MethodName := ⟨RX2, "weight", "(I)D"⟩
abbrev cX2_would : ByteArray := prog_1_method_18_code
def yX2_would : MethodName := ⟨RX2, "would", "(IIZZI)I"⟩
abbrev cX2_bestFold : ByteArray := prog_1_method_19_code
def yX2_bestFold : MethodName := ⟨RX2, "bestFold", "()I"⟩
abbrev cX2_bring : ByteArray := prog_1_method_20_code
def yX2_bring : MethodName := ⟨RX2, "bring", "(II)I"⟩
abbrev cX2_fewest : ByteArray := prog_1_method_21_code
def yX2_fewest : MethodName := ⟨RX2, "fewest", "()I"⟩
abbrev cX2_digest : ByteArray := prog_1_method_22_code
def yX2_digest : MethodName := ⟨RX2, "digest", "()J"⟩
abbrev cX2_begin : ByteArray := prog_1_method_23_code
def yX2_begin : MethodName := ⟨RX2, "begin", "(II)V"⟩
abbrev cX2_requireLine : ByteArray := prog_1_method_24_code
def yX2_requireLine : MethodName := ⟨RX2, "requireLine", "(II)V"⟩
abbrev cX2_requirePlace : ByteArray := prog_1_method_25_code
def yX2_requirePlace : MethodName := ⟨RX2, "requirePlace", "(II)V"⟩
abbrev cX2_requireCell : ByteArray := prog_1_method_26_code
def yX2_requireCell : MethodName := ⟨RX2, "requireCell", "(I)V"⟩
abbrev cX2_requireWhat : ByteArray := prog_1_method_27_code
def yX2_requireWhat : MethodName := ⟨RX2, "requireWhat", "(II)V"⟩
abbrev cX2_creaseAlong : ByteArray := prog_1_method_28_code
def yX2_creaseAlong : MethodName := ⟨RX2, "creaseAlong", "(I)I"⟩
abbrev cX2_creasePair : ByteArray := prog_1_method_29_code
def yX2_creasePair : MethodName := ⟨RX2, "creasePair", "(IZI)Z"⟩
abbrev cX2_spreadInk : ByteArray := prog_1_method_30_code
def yX2_spreadInk : MethodName := ⟨RX2, "spreadInk", "(I)I"⟩
abbrev cX2_countBlots : ByteArray := prog_1_method_31_code
def yX2_countBlots : MethodName := ⟨RX2, "countBlots", "(I)I"⟩
abbrev cX2_cellThatMeets : ByteArray := prog_1_method_32_code
def yX2_cellThatMeets : MethodName := ⟨RX2, "cellThatMeets", "(II)I"⟩
abbrev cX2_isBlot : ByteArray := prog_1_method_33_code
def yX2_isBlot : MethodName := ⟨RX2, "isBlot", "(III)Z"⟩
abbrev cX2_outerSide : ByteArray := prog_1_method_34_code
def yX2_outerSide : MethodName := ⟨RX2, "outerSide", "(IZ)I"⟩
abbrev cX2_isHeldByGlue : ByteArray := prog_1_method_35_code
def yX2_isHeldByGlue : MethodName := ⟨RX2, "isHeldByGlue", "()Z"⟩
abbrev cX2_holesAt : ByteArray := prog_1_method_36_code
def yX2_holesAt : MethodName := ⟨RX2, "holesAt", "(II)I"⟩
abbrev cX2_gluedAt : ByteArray := prog_1_method_37_code
def yX2_gluedAt : MethodName := ⟨RX2, "gluedAt", "(II)I"⟩
abbrev cX2_digestOfCell : ByteArray := prog_1_method_38_code
def yX2_digestOfCell : MethodName := ⟨RX2, "digestOfCell", "(JI)J"⟩
abbrev cX2_digestOfPlace : ByteArray := prog_1_method_39_code
def yX2_digestOfPlace : MethodName := ⟨RX2, "digestOfPlace", "(JII)J"⟩
abbrev cX2_nearestOfTwoTheEven : ByteArray := prog_1_method_40_code
def yX2_nearestOfTwoTheEven : MethodName := ⟨RX2, "nearestOfTwoTheEven", "(II)I"⟩
abbrev cX2_halvings : ByteArray := prog_1_method_41_code
def yX2_halvings : MethodName := ⟨RX2, "halvings", "(I)I"⟩
abbrev cX2_numberOf : ByteArray := prog_1_method_42_code
def yX2_numberOf : MethodName := ⟨RX2, "numberOf", "(Z)I"⟩
abbrev cX2_codeOf : ByteArray := prog_1_method_43_code
def yX2_codeOf : MethodName := ⟨RX2, "codeOf", "(IIZZ)I"⟩
abbrev cX2_lineOf : ByteArray := prog_1_method_44_code
def yX2_lineOf : MethodName := ⟨RX2, "lineOf", "(I)I"⟩
abbrev cX2_axisOf : ByteArray := prog_1_method_45_code
def yX2_axisOf : MethodName := ⟨RX2, "axisOf", "(I)I"⟩
abbrev cX2_isFar : ByteArray := prog_1_method_46_code
def yX2_isFar : MethodName := ⟨RX2, "isFar", "(I)Z"⟩
abbrev cX2_isOver : ByteArray := prog_1_method_47_code
def yX2_isOver : MethodName := ⟨RX2, "isOver", "(I)Z"⟩
abbrev cX2_pairOf : ByteArray := prog_1_method_48_code
def yX2_pairOf : MethodName := ⟨RX2, "pairOf", "(IZ)I"⟩
abbrev cX2_sideOf : ByteArray := prog_1_method_49_code
def yX2_sideOf : MethodName := ⟨RX2, "sideOf", "(IZ)I"⟩
def RX3 : String := "CreasebookModel$Form"
def TX3 : u_T := fun k => match k with
  | 0 => ("CreasebookModel$Form", "columns", "I", false)
  | 1 => ("CreasebookModel$Form", "rows", "I", false)
  | 2 => ("CreasebookModel$Form", "x", "[I", true)
  | 3 => ("CreasebookModel$Form", "y", "[I", true)
  | 4 => ("CreasebookModel$Form", "layer", "[I", true)
  | 5 => ("CreasebookModel$Form", "isUp", "[Z", true)
  | _ => ("CreasebookModel$Form", "creases", "[I", true)
def tyX3 : Nat → FieldType := fun k => match k with
  | 0 => .int
  | 1 => .int
  | 2 => .array .int
  | 3 => .array .int
  | 4 => .array .int
  | 5 => .array .boolean
  | _ => .array .int
abbrev wsX30 : List Cond := u_ws RX3 TX3 7
theorem nmX3 : ∀ a, a < 7 → ∀ b, b < 7 → a ≠ b → (TX3 a).2.1 ≠ (TX3 b).2.1 := by decide +kernel
theorem tyX3_ok : ∀ k, k < 7 → parseFieldDescriptor (TX3 k).2.2.1 = some (tyX3 k) := by decide +kernel
abbrev cX3_init : ByteArray := prog_6_method_1_code
def yX3_init : MethodName := ⟨RX3, "<init>", "(I)V"⟩
abbrev cX3_init_ : ByteArray := prog_6_method_2_code
def yX3_init_ : MethodName := ⟨RX3, "<init>", "(II)V"⟩
abbrev cX3_copy : ByteArray := prog_6_method_3_code
def yX3_copy : MethodName := ⟨RX3, "copy", "()LCreasebookModel$Form;"⟩
abbrev cX3_height : ByteArray := prog_6_method_4_code
def yX3_height : MethodName := ⟨RX3, "height", "(II)I"⟩
abbrev cX3_at : ByteArray := prog_6_method_5_code
def yX3_at : MethodName := ⟨RX3, "at", "(III)I"⟩
abbrev cX3_top : ByteArray := prog_6_method_6_code
def yX3_top : MethodName := ⟨RX3, "top", "(II)I"⟩
abbrev cX3_sideAt : ByteArray := prog_6_method_7_code
def yX3_sideAt : MethodName := ⟨RX3, "sideAt", "(IZ)I"⟩
abbrev cX3_goes : ByteArray := prog_6_method_8_code
def yX3_goes : MethodName := ⟨RX3, "goes", "(IIIZ)Z"⟩
abbrev cX3_folded : ByteArray := prog_6_method_9_code
def yX3_folded : MethodName := ⟨RX3, "folded", "(IIZZ)LCreasebookModel$Form;"⟩
abbrev cX3_turn : ByteArray := prog_6_method_10_code
def yX3_turn : MethodName := ⟨RX3, "turn", "(Z)V"⟩
abbrev cX3_seen : ByteArray := prog_6_method_11_code
def yX3_seen : MethodName := ⟨RX3, "seen", "(Z)I"⟩
abbrev cX3_highest : ByteArray := prog_6_method_12_code
def yX3_highest : MethodName := ⟨RX3, "highest", "()I"⟩
abbrev cX3_area : ByteArray := prog_6_method_13_code
def yX3_area : MethodName := ⟨RX3, "area", "()I"⟩
abbrev cX3_lines : ByteArray := prog_6_method_14_code
def yX3_lines : MethodName := ⟨RX3, "lines", "(I)I"⟩
def RX4 : String := "CreasebookModel"
def TX4 : u_T := fun k => match k with
  | 0 => ("CreasebookModel", "thrown", "I", false)
  | 1 => ("CreasebookModel", "wide", "I", false)
  | 2 => ("CreasebookModel", "high", "I", false)
  | 3 => ("CreasebookModel", "form", "LCreasebookModel$Form;", false)
  | 4 => ("CreasebookModel", "past", "Ljava/util/ArrayList;", true)
  | 5 => ("CreasebookModel", "went", "Ljava/util/ArrayList;", true)
  | 6 => ("CreasebookModel", "marks", "[I", false)
  | 7 => ("CreasebookModel", "ink", "[I", false)
  | 8 => ("CreasebookModel", "holes", "[I", false)
  | 9 => ("CreasebookModel", "glued", "[I", false)
  | 10 => ("CreasebookModel", "blots", "I", false)
  | 11 => ("CreasebookModel", "nones", "I", false)
  | _ => ("CreasebookModel", "sum", "J", false)
def tyX4 : Nat → FieldType := fun k => match k with
  | 0 => .int
  | 1 => .int
  | 2 => .int
  | 3 => .object "CreasebookModel$Form"
  | 4 => .object "java/util/ArrayList"
  | 5 => .object "java/util/ArrayList"
  | 6 => .array .int
  | 7 => .array .int
  | 8 => .array .int
  | 9 => .array .int
  | 10 => .int
  | 11 => .int
  | _ => .long
abbrev wsX40 : List Cond := u_ws RX4 TX4 13
theorem nmX4 : ∀ a, a < 13 → ∀ b, b < 13 → a ≠ b → (TX4 a).2.1 ≠ (TX4 b).2.1 := by decide +kernel
theorem tyX4_ok : ∀ k, k < 13 → parseFieldDescriptor (TX4 k).2.2.1 = some (tyX4 k) := by decide +kernel
abbrev cX4_init : ByteArray := prog_5_method_1_code
def yX4_init : MethodName := ⟨RX4, "<init>", "()V"⟩
abbrev cX4_thrown : ByteArray := prog_5_method_2_code
def yX4_thrown : MethodName := ⟨RX4, "thrown", "()I"⟩
abbrev cX4_refuse : ByteArray := prog_5_method_3_code
def yX4_refuse : MethodName := ⟨RX4, "refuse", "(I)I"⟩
abbrev cX4_is : ByteArray := prog_5_method_4_code
def yX4_is : MethodName := ⟨RX4, "is", "(III)Z"⟩
abbrev cX4_cells : ByteArray := prog_5_method_5_code
def yX4_cells : MethodName := ⟨RX4, "cells", "()I"⟩
abbrev cX4_isPlace : ByteArray := prog_5_method_6_code
def yX4_isPlace : MethodName := ⟨RX4, "isPlace", "(II)Z"⟩
abbrev cX4_isCell : ByteArray := prog_5_method_7_code
def yX4_isCell : MethodName := ⟨RX4, "isCell", "(I)Z"⟩
abbrev cX4_isLine : ByteArray := prog_5_method_8_code
def yX4_isLine : MethodName := ⟨RX4, "isLine", "(II)Z"⟩
abbrev cX4_beside : ByteArray := prog_5_method_9_code
def yX4_beside : MethodName := ⟨RX4, "beside", "(IZ)I"⟩
abbrev cX4_sheet : ByteArray := prog_5_method_10_code
def yX4_sheet : MethodName := ⟨RX4, "sheet", "(II)I"⟩
abbrev cX4_blot : ByteArray := prog_5_method_11_code
def yX4_blot : MethodName := ⟨RX4, "blot", "(IIZZZ)I"⟩
abbrev cX4_fold : ByteArray := prog_5_method_12_code
def yX4_fold : MethodName := ⟨RX4, "fold", "(IIZZ)I"⟩
abbrev cX4_isAcross : ByteArray := prog_5_method_13_code
def yX4_isAcross : MethodName := ⟨RX4, "isAcross", "(IIII)Z"⟩
abbrev cX4_unfold : ByteArray := prog_5_method_14_code
def yX4_unfold : MethodName := ⟨RX4, "unfold", "()I"⟩
abbrev cX4_turn : ByteArray := prog_5_method_15_code
def yX4_turn : MethodName := ⟨RX4, "turn", "()I"⟩
abbrev cX4_round : ByteArray := prog_5_method_16_code
def yX4_round : MethodName := ⟨RX4, "round", "()I"⟩
abbrev cX4_ink : ByteArray := prog_5_method_17_code
def yX4_ink : MethodName := ⟨RX4, "ink", "(II)Z"⟩
abbrev cX4_inked : ByteArray := prog_5_method_18_code
def yX4_inked : MethodName := ⟨RX4, "inked", "(I)I"⟩
abbrev cX4_dry : ByteArray := prog_5_method_19_code
def yX4_dry : MethodName := ⟨RX4, "dry", "()I"⟩
abbrev cX4_punch : ByteArray := prog_5_method_20_code
def yX4_punch : MethodName := ⟨RX4, "punch", "(II)I"⟩
abbrev cX4_gluedAt : ByteArray := prog_5_method_21_code
def yX4_gluedAt : MethodName := ⟨RX4, "gluedAt", "(II)I"⟩
abbrev cX4_glue : ByteArray := prog_5_method_22_code
def yX4_glue : MethodName := ⟨RX4, "glue", "(II)I"⟩
abbrev cX4_holesAt : ByteArray := prog_5_method_23_code
def yX4_holesAt : MethodName := ⟨RX4, "holesAt", "(II)I"⟩
abbrev cX4_ofPlaceNow : ByteArray := prog_5_method_24_code
def yX4_ofPlaceNow : MethodName := ⟨RX4, "ofPlaceNow", "(III)I"⟩
abbrev cX4_ofPlace : ByteArray := prog_5_method_25_code
def yX4_ofPlace : MethodName := ⟨RX4, "ofPlace", "(III)I"⟩
abbrev cX4_at : ByteArray := prog_5_method_26_code
def yX4_at : MethodName := ⟨RX4, "at", "(III)I"⟩
abbrev cX4_creased : ByteArray := prog_5_method_27_code
def yX4_creased : MethodName := ⟨RX4, "creased", "(I)I"⟩
abbrev cX4_ofCellNow : ByteArray := prog_5_method_28_code
def yX4_ofCellNow : MethodName := ⟨RX4, "ofCellNow", "(II)I"⟩
abbrev cX4_ofCell : ByteArray := prog_5_method_29_code
def yX4_ofCell : MethodName := ⟨RX4, "ofCell", "(II)I"⟩
abbrev cX4_ofPairNow : ByteArray := prog_5_method_30_code
def yX4_ofPairNow : MethodName := ⟨RX4, "ofPairNow", "(IZI)I"⟩
abbrev cX4_ofPair : ByteArray := prog_5_method_31_code
def yX4_ofPair : MethodName := ⟨RX4, "ofPair", "(IZI)I"⟩
abbrev cX4_ofCorner : ByteArray := prog_5_method_32_code
def yX4_ofCorner : MethodName := ⟨RX4, "ofCorner", "(III)I"⟩
abbrev cX4_creases : ByteArray := prog_5_method_33_code
def yX4_creases : MethodName := ⟨RX4, "creases", "(I)I"⟩
abbrev cX4_sum : ByteArray := prog_5_method_34_code
def yX4_sum : MethodName := ⟨RX4, "sum", "([I)I"⟩
abbrev cX4_manyNow : ByteArray := prog_5_method_35_code
def yX4_manyNow : MethodName := ⟨RX4, "manyNow", "(I)I"⟩
abbrev cX4_many : ByteArray := prog_5_method_36_code
def yX4_many : MethodName := ⟨RX4, "many", "(I)I"⟩
abbrev cX4_weight : ByteArray := prog_5_method_37_code
def yX4_weight : MethodName := ⟨RX4, "weight", "(I)D"⟩
abbrev cX4_would : ByteArray := prog_5_method_38_code
def yX4_would : MethodName := ⟨RX4, "would", "(IIZZI)I"⟩
abbrev cX4_byCode : ByteArray := prog_5_method_39_code
def yX4_byCode : MethodName := ⟨RX4, "byCode", "(I)LCreasebookModel$Form;"⟩
abbrev cX4_isCode : ByteArray := prog_5_method_40_code
def yX4_isCode : MethodName := ⟨RX4, "isCode", "(I)Z"⟩
abbrev cX4_bestNow : ByteArray := prog_5_method_41_code
def yX4_bestNow : MethodName := ⟨RX4, "bestNow", "()I"⟩
abbrev cX4_bestFold : ByteArray := prog_5_method_42_code
def yX4_bestFold : MethodName := ⟨RX4, "bestFold", "()I"⟩
abbrev cX4_isUpon : ByteArray := prog_5_method_43_code
def yX4_isUpon : MethodName := ⟨RX4, "isUpon", "(LCreasebookModel$Form;II)Z"⟩
abbrev cX4_bringNow : ByteArray := prog_5_method_44_code
def yX4_bringNow : MethodName := ⟨RX4, "bringNow", "(II)I"⟩
abbrev cX4_bring : ByteArray := prog_5_method_45_code
def yX4_bring : MethodName := ⟨RX4, "bring", "(II)I"⟩
abbrev cX4_fewestNow : ByteArray := prog_5_method_46_code
def yX4_fewestNow : MethodName := ⟨RX4, "fewestNow", "()I"⟩
abbrev cX4_fewest : ByteArray := prog_5_method_47_code
def yX4_fewest : MethodName := ⟨RX4, "fewest", "()I"⟩
abbrev cX4_add : ByteArray := prog_5_method_48_code
def yX4_add : MethodName := ⟨RX4, "add", "(I)V"⟩
abbrev cX4_digest : ByteArray := prog_5_method_49_code
def yX4_digest : MethodName := ⟨RX4, "digest", "()J"⟩
def RJx145de : String := "java/io/Serializable"
def TJx145de : u_T := fun k => match k with
  | _ => ("", "", "", false)
def tyJx145de : Nat → FieldType := fun k => match k with
  | _ => .int
abbrev wsJx145de0 : List Cond := u_ws RJx145de TJx145de 0
theorem nmJx145de : ∀ a, a < 0 → ∀ b, b < 0 → a ≠ b → (TJx145de a).2.1 ≠ (TJx145de b).2.1 := by decide +kernel
theorem tyJx145de_ok : ∀ k, k < 0 → parseFieldDescriptor (TJx145de k).2.2.1 = some (tyJx145de k) := by decide +kernel
def RJx8e188 : String := "java/lang/Cloneable"
def TJx8e188 : u_T := fun k => match k with
  | _ => ("", "", "", false)
def tyJx8e188 : Nat → FieldType := fun k => match k with
  | _ => .int
abbrev wsJx8e1880 : List Cond := u_ws RJx8e188 TJx8e188 0
theorem nmJx8e188 : ∀ a, a < 0 → ∀ b, b < 0 → a ≠ b → (TJx8e188 a).2.1 ≠ (TJx8e188 b).2.1 := by decide +kernel
theorem tyJx8e188_ok : ∀ k, k < 0 → parseFieldDescriptor (TJx8e188 k).2.2.1 = some (tyJx8e188 k) := by decide +kernel
def RJxab1ab : String := "java/lang/Iterable"
def TJxab1ab : u_T := fun k => match k with
  | _ => ("", "", "", false)
def tyJxab1ab : Nat → FieldType := fun k => match k with
  | _ => .int
abbrev wsJxab1ab0 : List Cond := u_ws RJxab1ab TJxab1ab 0
theorem nmJxab1ab : ∀ a, a < 0 → ∀ b, b < 0 → a ≠ b → (TJxab1ab a).2.1 ≠ (TJxab1ab b).2.1 := by decide +kernel
theorem tyJxab1ab_ok : ∀ k, k < 0 → parseFieldDescriptor (TJxab1ab k).2.2.1 = some (tyJxab1ab k) := by decide +kernel
def RJ9 : String := "java/lang/Math"
def TJ9 : u_T := fun k => match k with
  | _ => ("", "", "", false)
def tyJ9 : Nat → FieldType := fun k => match k with
  | _ => .int
abbrev wsJ90 : List Cond := u_ws RJ9 TJ9 0
theorem nmJ9 : ∀ a, a < 0 → ∀ b, b < 0 → a ≠ b → (TJ9 a).2.1 ≠ (TJ9 b).2.1 := by decide +kernel
theorem tyJ9_ok : ∀ k, k < 0 → parseFieldDescriptor (TJ9 k).2.2.1 = some (tyJ9 k) := by decide +kernel
abbrev cJ9_max_7cf53 : ByteArray := prog_14_method_65_code
def yJ9_max_7cf53 : MethodName := ⟨RJ9, "max", "(II)I"⟩
abbrev cJ9_min_7cf53 : ByteArray := prog_14_method_69_code
def yJ9_min_7cf53 : MethodName := ⟨RJ9, "min", "(II)I"⟩
def RJ0 : String := "java/lang/String"
def TJ0 : u_T := fun k => match k with
  | _ => ("", "", "", false)
def tyJ0 : Nat → FieldType := fun k => match k with
  | _ => .int
abbrev wsJ00 : List Cond := u_ws RJ0 TJ0 0
theorem nmJ0 : ∀ a, a < 0 → ∀ b, b < 0 → a ≠ b → (TJ0 a).2.1 ≠ (TJ0 b).2.1 := by decide +kernel
theorem tyJ0_ok : ∀ k, k < 0 → parseFieldDescriptor (TJ0 k).2.2.1 = some (tyJ0 k) := by decide +kernel
def RJ10 : String := "java/lang/System"
def TJ10 : u_T := fun k => match k with
  | _ => ("", "", "", false)
def tyJ10 : Nat → FieldType := fun k => match k with
  | _ => .int
abbrev wsJ100 : List Cond := u_ws RJ10 TJ10 0
theorem nmJ10 : ∀ a, a < 0 → ∀ b, b < 0 → a ≠ b → (TJ10 a).2.1 ≠ (TJ10 b).2.1 := by decide +kernel
theorem tyJ10_ok : ∀ k, k < 0 → parseFieldDescriptor (TJ10 k).2.2.1 = some (tyJ10 k) := by decide +kernel
def RJxa1e45 : String := "java/util/AbstractCollection"
def TJxa1e45 : u_T := fun k => match k with
  | _ => ("", "", "", false)
def tyJxa1e45 : Nat → FieldType := fun k => match k with
  | _ => .int
abbrev wsJxa1e450 : List Cond := u_ws RJxa1e45 TJxa1e45 0
theorem nmJxa1e45 : ∀ a, a < 0 → ∀ b, b < 0 → a ≠ b → (TJxa1e45 a).2.1 ≠ (TJxa1e45 b).2.1 := by decide +kernel
theorem tyJxa1e45_ok : ∀ k, k < 0 → parseFieldDescriptor (TJxa1e45 k).2.2.1 = some (tyJxa1e45 k) := by decide +kernel
abbrev cJxa1e45_init_da8c8 : ByteArray := prog_19_method_1_code
def yJxa1e45_init_da8c8 : MethodName := ⟨RJxa1e45, "<init>", "()V"⟩
def RJxc12de : String := "java/util/AbstractList"
def TJxc12de : u_T := fun k => match k with
  | _ => ("", "", "", false)
def tyJxc12de : Nat → FieldType := fun k => match k with
  | _ => .int
abbrev wsJxc12de0 : List Cond := u_ws RJxc12de TJxc12de 0
theorem nmJxc12de : ∀ a, a < 0 → ∀ b, b < 0 → a ≠ b → (TJxc12de a).2.1 ≠ (TJxc12de b).2.1 := by decide +kernel
theorem tyJxc12de_ok : ∀ k, k < 0 → parseFieldDescriptor (TJxc12de k).2.2.1 = some (tyJxc12de k) := by decide +kernel
abbrev cJxc12de_init_da8c8 : ByteArray := prog_20_method_1_code
def yJxc12de_init_da8c8 : MethodName := ⟨RJxc12de, "<init>", "()V"⟩
def RJx4a65c : String := "java/util/ArrayList"
def TJx4a65c : u_T := fun k => match k with
  | 0 => ("java/util/AbstractList", "modCount", "I", false)
  | 1 => ("java/util/ArrayList", "elementData", "[Ljava/lang/Object;", false)
  | _ => ("java/util/ArrayList", "size", "I", false)
def tyJx4a65c : Nat → FieldType := fun k => match k with
  | 0 => .int
  | 1 => .array (.object "java/lang/Object")
  | _ => .int
abbrev wsJx4a65c0 : List Cond := u_ws RJx4a65c TJx4a65c 3
theorem nmJx4a65c : ∀ a, a < 3 → ∀ b, b < 3 → a ≠ b → (TJx4a65c a).2.1 ≠ (TJx4a65c b).2.1 := by decide +kernel
theorem tyJx4a65c_ok : ∀ k, k < 3 → parseFieldDescriptor (TJx4a65c k).2.2.1 = some (tyJx4a65c k) := by decide +kernel
abbrev cJx4a65c_init_da8c8 : ByteArray := prog_21_method_2_code
def yJx4a65c_init_da8c8 : MethodName := ⟨RJx4a65c, "<init>", "()V"⟩
abbrev cJx4a65c_grow_92f84 : ByteArray := prog_21_method_6_code
def yJx4a65c_grow_92f84 : MethodName := ⟨RJx4a65c, "grow", "(I)[Ljava/lang/Object;"⟩
abbrev cJx4a65c_grow_d5877 : ByteArray := prog_21_method_7_code
def yJx4a65c_grow_d5877 : MethodName := ⟨RJx4a65c, "grow", "()[Ljava/lang/Object;"⟩
abbrev cJx4a65c_size_8abf5 : ByteArray := prog_21_method_8_code
def yJx4a65c_size_8abf5 : MethodName := ⟨RJx4a65c, "size", "()I"⟩
abbrev cJx4a65c_elementData_915e3 : ByteArray := prog_21_method_18_code
def yJx4a65c_elementData_915e3 : MethodName := ⟨RJx4a65c, "elementData", "(I)Ljava/lang/Object;"⟩
abbrev cJx4a65c_get_915e3 : ByteArray := prog_21_method_20_code
def yJx4a65c_get_915e3 : MethodName := ⟨RJx4a65c, "get", "(I)Ljava/lang/Object;"⟩
abbrev cJx4a65c_add_72be8 : ByteArray := prog_21_method_24_code
def yJx4a65c_add_72be8 : MethodName := ⟨RJx4a65c, "add", "(Ljava/lang/Object;[Ljava/lang/Object;I)V"⟩
abbrev cJx4a65c_add_9ea2d : ByteArray := prog_21_method_25_code
def yJx4a65c_add_9ea2d : MethodName := ⟨RJx4a65c, "add", "(Ljava/lang/Object;)Z"⟩
abbrev cJx4a65c_remove_915e3 : ByteArray := prog_21_method_29_code
def yJx4a65c_remove_915e3 : MethodName := ⟨RJx4a65c, "remove", "(I)Ljava/lang/Object;"⟩
abbrev cJx4a65c_fastRemove_b59b0 : ByteArray := prog_21_method_39_code
def yJx4a65c_fastRemove_b59b0 : MethodName := ⟨RJx4a65c, "fastRemove", "([Ljava/lang/Object;I)V"⟩
abbrev cJx4a65c_clear_da8c8 : ByteArray := prog_21_method_40_code
def yJx4a65c_clear_da8c8 : MethodName := ⟨RJx4a65c, "clear", "()V"⟩
def RJ7 : String := "java/util/Arrays"
def TJ7 : u_T := fun k => match k with
  | _ => ("", "", "", false)
def tyJ7 : Nat → FieldType := fun k => match k with
  | _ => .int
abbrev wsJ70 : List Cond := u_ws RJ7 TJ7 0
theorem nmJ7 : ∀ a, a < 0 → ∀ b, b < 0 → a ≠ b → (TJ7 a).2.1 ≠ (TJ7 b).2.1 := by decide +kernel
theorem tyJ7_ok : ∀ k, k < 0 → parseFieldDescriptor (TJ7 k).2.2.1 = some (tyJ7 k) := by decide +kernel
abbrev cJ7_copyOf_1904c : ByteArray := prog_22_method_119_code
def yJ7_copyOf_1904c : MethodName := ⟨RJ7, "copyOf", "([Ljava/lang/Object;I)[Ljava/lang/Object;"⟩
abbrev cJ7_copyOf_6403c : ByteArray := prog_22_method_120_code
def yJ7_copyOf_6403c : MethodName := ⟨RJ7, "copyOf", "([Ljava/lang/Object;ILjava/lang/Class;)[Ljava/lang/Object;"⟩
def RJx5ef63 : String := "java/util/Collection"
def TJx5ef63 : u_T := fun k => match k with
  | _ => ("", "", "", false)
def tyJx5ef63 : Nat → FieldType := fun k => match k with
  | _ => .int
abbrev wsJx5ef630 : List Cond := u_ws RJx5ef63 TJx5ef63 0
theorem nmJx5ef63 : ∀ a, a < 0 → ∀ b, b < 0 → a ≠ b → (TJx5ef63 a).2.1 ≠ (TJx5ef63 b).2.1 := by decide +kernel
theorem tyJx5ef63_ok : ∀ k, k < 0 → parseFieldDescriptor (TJx5ef63 k).2.2.1 = some (tyJx5ef63 k) := by decide +kernel
def RJxbd725 : String := "java/util/List"
def TJxbd725 : u_T := fun k => match k with
  | _ => ("", "", "", false)
def tyJxbd725 : Nat → FieldType := fun k => match k with
  | _ => .int
abbrev wsJxbd7250 : List Cond := u_ws RJxbd725 TJxbd725 0
theorem nmJxbd725 : ∀ a, a < 0 → ∀ b, b < 0 → a ≠ b → (TJxbd725 a).2.1 ≠ (TJxbd725 b).2.1 := by decide +kernel
theorem tyJxbd725_ok : ∀ k, k < 0 → parseFieldDescriptor (TJxbd725 k).2.2.1 = some (tyJxbd725 k) := by decide +kernel
def RJ15 : String := "java/util/Objects"
def TJ15 : u_T := fun k => match k with
  | _ => ("", "", "", false)
def tyJ15 : Nat → FieldType := fun k => match k with
  | _ => .int
abbrev wsJ150 : List Cond := u_ws RJ15 TJ15 0
theorem nmJ15 : ∀ a, a < 0 → ∀ b, b < 0 → a ≠ b → (TJ15 a).2.1 ≠ (TJ15 b).2.1 := by decide +kernel
theorem tyJ15_ok : ∀ k, k < 0 → parseFieldDescriptor (TJ15 k).2.2.1 = some (tyJ15 k) := by decide +kernel
abbrev cJ15_checkIndex_7cf53 : ByteArray := prog_25_method_17_code
def yJ15_checkIndex_7cf53 : MethodName := ⟨RJ15, "checkIndex", "(II)I"⟩
def RJxf0a74 : String := "java/util/RandomAccess"
def TJxf0a74 : u_T := fun k => match k with
  | _ => ("", "", "", false)
def tyJxf0a74 : Nat → FieldType := fun k => match k with
  | _ => .int
abbrev wsJxf0a740 : List Cond := u_ws RJxf0a74 TJxf0a74 0
theorem nmJxf0a74 : ∀ a, a < 0 → ∀ b, b < 0 → a ≠ b → (TJxf0a74 a).2.1 ≠ (TJxf0a74 b).2.1 := by decide +kernel
theorem tyJxf0a74_ok : ∀ k, k < 0 → parseFieldDescriptor (TJxf0a74 k).2.2.1 = some (tyJxf0a74 k) := by decide +kernel
def RJxa66e6 : String := "java/util/SequencedCollection"
def TJxa66e6 : u_T := fun k => match k with
  | _ => ("", "", "", false)
def tyJxa66e6 : Nat → FieldType := fun k => match k with
  | _ => .int
abbrev wsJxa66e60 : List Cond := u_ws RJxa66e6 TJxa66e6 0
theorem nmJxa66e6 : ∀ a, a < 0 → ∀ b, b < 0 → a ≠ b → (TJxa66e6 a).2.1 ≠ (TJxa66e6 b).2.1 := by decide +kernel
theorem tyJxa66e6_ok : ∀ k, k < 0 → parseFieldDescriptor (TJxa66e6 k).2.2.1 = some (tyJxa66e6 k) := by decide +kernel
def RJ8 : String := "jdk/internal/util/ArraysSupport"
def TJ8 : u_T := fun k => match k with
  | _ => ("", "", "", false)
def tyJ8 : Nat → FieldType := fun k => match k with
  | _ => .int
abbrev wsJ80 : List Cond := u_ws RJ8 TJ8 0
theorem nmJ8 : ∀ a, a < 0 → ∀ b, b < 0 → a ≠ b → (TJ8 a).2.1 ≠ (TJ8 b).2.1 := by decide +kernel
theorem tyJ8_ok : ∀ k, k < 0 → parseFieldDescriptor (TJ8 k).2.2.1 = some (tyJ8 k) := by decide +kernel
abbrev cJ8_newLength_cabcc : ByteArray := prog_28_method_27_code
def yJ8_newLength_cabcc : MethodName := ⟨RJ8, "newLength", "(III)I"⟩
abbrev cJ8_hugeLength_7cf53 : ByteArray := prog_28_method_28_code
def yJ8_hugeLength_7cf53 : MethodName := ⟨RJ8, "hugeLength", "(II)I"⟩
def RJ3 : String := "jdk/internal/util/Preconditions"
def TJ3 : u_T := fun k => match k with
  | _ => ("", "", "", false)
def tyJ3 : Nat → FieldType := fun k => match k with
  | _ => .int
abbrev wsJ30 : List Cond := u_ws RJ3 TJ3 0
theorem nmJ3 : ∀ a, a < 0 → ∀ b, b < 0 → a ≠ b → (TJ3 a).2.1 ≠ (TJ3 b).2.1 := by decide +kernel
theorem tyJ3_ok : ∀ k, k < 0 → parseFieldDescriptor (TJ3 k).2.2.1 = some (tyJ3 k) := by decide +kernel
abbrev cJ3_checkIndex_8e157 : ByteArray := prog_29_method_11_code
def yJ3_checkIndex_8e157 : MethodName := ⟨RJ3, "checkIndex", "(IILjava/util/function/BiFunction;)I"⟩
def RL : String := "CreasebookLaw"
abbrev cL_sheet : ByteArray := method_3_code
def yL_sheet : MethodName := ⟨RL, "sheet", "(LCreasebook;II[J)I"⟩
abbrev cL_fold : ByteArray := method_4_code
def yL_fold : MethodName := ⟨RL, "fold", "(LCreasebook;IIZZ[J)I"⟩
abbrev cL_ink : ByteArray := method_5_code
def yL_ink : MethodName := ⟨RL, "ink", "(LCreasebook;II[J)I"⟩
abbrev cL_punch : ByteArray := method_6_code
def yL_punch : MethodName := ⟨RL, "punch", "(LCreasebook;II[J)I"⟩
abbrev cL_glue : ByteArray := method_7_code
def yL_glue : MethodName := ⟨RL, "glue", "(LCreasebook;II[J)I"⟩
abbrev cL_ofPlace : ByteArray := method_8_code
def yL_ofPlace : MethodName := ⟨RL, "ofPlace", "(LCreasebook;III[J)I"⟩
abbrev cL_at : ByteArray := method_9_code
def yL_at : MethodName := ⟨RL, "at", "(LCreasebook;III[J)I"⟩
abbrev cL_ofCell : ByteArray := method_10_code
def yL_ofCell : MethodName := ⟨RL, "ofCell", "(LCreasebook;II[J)I"⟩
abbrev cL_ofPair : ByteArray := method_11_code
def yL_ofPair : MethodName := ⟨RL, "ofPair", "(LCreasebook;IZI[J)I"⟩
abbrev cL_ofCorner : ByteArray := method_12_code
def yL_ofCorner : MethodName := ⟨RL, "ofCorner", "(LCreasebook;III[J)I"⟩
abbrev cL_many : ByteArray := method_13_code
def yL_many : MethodName := ⟨RL, "many", "(LCreasebook;I[J)I"⟩
abbrev cL_weight : ByteArray := method_14_code
def yL_weight : MethodName := ⟨RL, "weight", "(LCreasebook;I[D)I"⟩
abbrev cL_would : ByteArray := method_15_code
def yL_would : MethodName := ⟨RL, "would", "(LCreasebook;IIZZI[J)I"⟩
abbrev cL_bring : ByteArray := method_16_code
def yL_bring : MethodName := ⟨RL, "bring", "(LCreasebook;II[J)I"⟩
abbrev cL_law : ByteArray := code
def yL_law : MethodName := ⟨RL, "law", "([I)Z"⟩
end
section
/-! The claim's own tables: classes, component types, words, nest links (laid by a program out of the claim's texts) -/
abbrev z_cl : List vw_C := [(RX0, TX0, 8), (RX1, TX1, 9), (RX2, TX2, 8)]
abbrev z_T : List FieldType := [.int, .boolean, .long, .double, .object "Creasebook$Form"]
def z_G : List Cond := lw_tbl.filter goodWord
def z_N : List Cond := lw_tbl.filter zNok
theorem z_good : ∀ w ∈ z_G, goodWord w = true := fun w h => (List.mem_filter.mp h).2
theorem z_nok : ∀ w ∈ z_N, zNok w = true := fun w h => (List.mem_filter.mp h).2
theorem zinG {w : Cond} (i : Nat) (h : lw_tbl[i]? = some w) (hg : goodWord w = true) : w ∈ z_G := List.mem_filter.mpr ⟨List.mem_of_getElem? h, hg⟩
theorem zinN {w : Cond} (i : Nat) (h : lw_tbl[i]? = some w) (hg : zNok w = true) : w ∈ z_N := List.mem_filter.mpr ⟨List.mem_of_getElem? h, hg⟩
theorem zinX0 : ∀ w ∈ u_ws RX0 TX0 8, w ∈ z_G := by
  intro w hw
  have h1 : w ∈ ([Cond.lays "Creasebook$Form" "Creasebook$Form" "cells" "I", Cond.lays "Creasebook$Form" "Creasebook$Form" "columns" "I", Cond.lays "Creasebook$Form" "Creasebook$Form" "rows" "I", Cond.laysFinal "Creasebook$Form" "Creasebook$Form" "column" "[I", Cond.laysFinal "Creasebook$Form" "Creasebook$Form" "row" "[I", Cond.laysFinal "Creasebook$Form" "Creasebook$Form" "layer" "[I", Cond.laysFinal "Creasebook$Form" "Creasebook$Form" "isUp" "[Z", Cond.laysFinal "Creasebook$Form" "Creasebook$Form" "height" "[I"] : List Cond) := hw
  simp only [List.mem_cons, List.not_mem_nil, or_false] at h1
  rcases h1 with rfl | rfl | rfl | rfl | rfl | rfl | rfl | rfl
  · exact zinG 175 (by decide +kernel) (by decide +kernel)
  · exact zinG 177 (by decide +kernel) (by decide +kernel)
  · exact zinG 179 (by decide +kernel) (by decide +kernel)
  · exact zinG 181 (by decide +kernel) (by decide +kernel)
  · exact zinG 183 (by decide +kernel) (by decide +kernel)
  · exact zinG 185 (by decide +kernel) (by decide +kernel)
  · exact zinG 187 (by decide +kernel) (by decide +kernel)
  · exact zinG 189 (by decide +kernel) (by decide +kernel)
theorem zinX1 : ∀ w ∈ u_ws RX1 TX1 9, w ∈ z_G := by
  intro w hw
  have h1 : w ∈ ([Cond.lays "Creasebook$Paper" "Creasebook$Paper" "wide" "I", Cond.lays "Creasebook$Paper" "Creasebook$Paper" "high" "I", Cond.lays "Creasebook$Paper" "Creasebook$Paper" "cells" "I", Cond.laysFinal "Creasebook$Paper" "Creasebook$Paper" "crease" "[I", Cond.laysFinal "Creasebook$Paper" "Creasebook$Paper" "creasedBy" "[I", Cond.laysFinal "Creasebook$Paper" "Creasebook$Paper" "marks" "[I", Cond.laysFinal "Creasebook$Paper" "Creasebook$Paper" "ink" "[I", Cond.laysFinal "Creasebook$Paper" "Creasebook$Paper" "holes" "[I", Cond.laysFinal "Creasebook$Paper" "Creasebook$Paper" "glued" "[I"] : List Cond) := hw
  simp only [List.mem_cons, List.not_mem_nil, or_false] at h1
  rcases h1 with rfl | rfl | rfl | rfl | rfl | rfl | rfl | rfl | rfl
  · exact zinG 136 (by decide +kernel) (by decide +kernel)
  · exact zinG 138 (by decide +kernel) (by decide +kernel)
  · exact zinG 140 (by decide +kernel) (by decide +kernel)
  · exact zinG 142 (by decide +kernel) (by decide +kernel)
  · exact zinG 144 (by decide +kernel) (by decide +kernel)
  · exact zinG 146 (by decide +kernel) (by decide +kernel)
  · exact zinG 148 (by decide +kernel) (by decide +kernel)
  · exact zinG 150 (by decide +kernel) (by decide +kernel)
  · exact zinG 152 (by decide +kernel) (by decide +kernel)
theorem zinX2 : ∀ w ∈ u_ws RX2 TX2 8, w ∈ z_G := by
  intro w hw
  have h1 : w ∈ ([Cond.laysFinal "Creasebook" "Creasebook" "paper" "LCreasebook$Paper;", Cond.laysFinal "Creasebook" "Creasebook" "form" "LCreasebook$Form;", Cond.laysFinal "Creasebook" "Creasebook" "trial" "LCreasebook$Form;", Cond.laysFinal "Creasebook" "Creasebook" "past" "[LCreasebook$Form;", Cond.laysFinal "Creasebook" "Creasebook" "pastCode" "[I", Cond.lays "Creasebook" "Creasebook" "folds" "I", Cond.lays "Creasebook" "Creasebook" "blots" "I", Cond.lays "Creasebook" "Creasebook" "refusals" "I"] : List Cond) := hw
  simp only [List.mem_cons, List.not_mem_nil, or_false] at h1
  rcases h1 with rfl | rfl | rfl | rfl | rfl | rfl | rfl | rfl
  · exact zinG 222 (by decide +kernel) (by decide +kernel)
  · exact zinG 224 (by decide +kernel) (by decide +kernel)
  · exact zinG 226 (by decide +kernel) (by decide +kernel)
  · exact zinG 228 (by decide +kernel) (by decide +kernel)
  · exact zinG 230 (by decide +kernel) (by decide +kernel)
  · exact zinG 232 (by decide +kernel) (by decide +kernel)
  · exact zinG 234 (by decide +kernel) (by decide +kernel)
  · exact zinG 236 (by decide +kernel) (by decide +kernel)
theorem zw_0 : (Jvm.Cond.methodLink "Creasebook$Form" (3 : Nat) ({ cls := "java/lang/Object", name := "<init>", desc := "()V" } : Jvm.MethodName)) ∈ z_G := zinG 161 (by decide +kernel) (by decide +kernel)
theorem zw_1 : (Jvm.Cond.instanceMethod ({ cls := "java/lang/Object", name := "<init>", desc := "()V" } : Jvm.MethodName)) ∈ z_G := zinG 112 (by decide +kernel) (by decide +kernel)
theorem zw_2 : (Jvm.Cond.code ({ cls := "java/lang/Object", name := "<init>", desc := "()V" } : Jvm.MethodName) object_method_1_code (1 : Nat) (Option.none : Option Jvm.ClassFile.FieldType)) ∈ z_G := zinG 113 (by decide +kernel) (by decide +kernel)
theorem zw_3 : (Jvm.Cond.arrayClass Jvm.ClassFile.FieldType.int) ∈ z_G := zinG 155 (by decide +kernel) (by decide +kernel)
theorem zw_4 : (Jvm.Cond.fieldLink "Creasebook$Form" (9 : Nat) "Creasebook$Form" "column" "[I") ∈ z_G := zinG 167 (by decide +kernel) (by decide +kernel)
theorem zw_5 : (Jvm.Cond.fieldLink "Creasebook$Form" (15 : Nat) "Creasebook$Form" "row" "[I") ∈ z_G := zinG 169 (by decide +kernel) (by decide +kernel)
theorem zw_6 : (Jvm.Cond.fieldLink "Creasebook$Form" (18 : Nat) "Creasebook$Form" "layer" "[I") ∈ z_G := zinG 171 (by decide +kernel) (by decide +kernel)
theorem zw_7 : (Jvm.Cond.arrayClass Jvm.ClassFile.FieldType.boolean) ∈ z_G := zinG 192 (by decide +kernel) (by decide +kernel)
theorem zw_8 : (Jvm.Cond.fieldLink "Creasebook$Form" (21 : Nat) "Creasebook$Form" "isUp" "[Z") ∈ z_G := zinG 173 (by decide +kernel) (by decide +kernel)
theorem zw_9 : (Jvm.Cond.fieldLink "Creasebook$Form" (25 : Nat) "Creasebook$Form" "height" "[I") ∈ z_G := zinG 174 (by decide +kernel) (by decide +kernel)
theorem zw_10 : (Jvm.Cond.fieldLink "Creasebook$Form" (28 : Nat) "Creasebook$Form" "cells" "I") ∈ z_G := zinG 162 (by decide +kernel) (by decide +kernel)
theorem zw_11 : (Jvm.Cond.fieldLink "Creasebook$Form" (32 : Nat) "Creasebook$Form" "columns" "I") ∈ z_G := zinG 163 (by decide +kernel) (by decide +kernel)
theorem zw_12 : (Jvm.Cond.fieldLink "Creasebook$Form" (35 : Nat) "Creasebook$Form" "rows" "I") ∈ z_G := zinG 165 (by decide +kernel) (by decide +kernel)
theorem zw_13 : (Jvm.Cond.code ({ cls := "Creasebook$Form", name := "measurePiles", desc := "()V" } : Jvm.MethodName) prog_2_method_8_code (2 : Nat) (Option.none : Option Jvm.ClassFile.FieldType)) ∈ z_G := zinG 209 (by decide +kernel) (by decide +kernel)
theorem zw_14 : (Jvm.Cond.initialized "Creasebook$Form") ∈ z_G := zinG 88 (by decide +kernel) (by decide +kernel)
theorem zw_15 : (Jvm.Cond.methodLink "Creasebook$Form" (38 : Nat) ({ cls := "Creasebook$Form", name := "measurePiles", desc := "()V" } : Jvm.MethodName)) ∈ z_G := zinG 206 (by decide +kernel) (by decide +kernel)
theorem zw_16 : (Jvm.Cond.instanceMethod ({ cls := "Creasebook$Form", name := "measurePiles", desc := "()V" } : Jvm.MethodName)) ∈ z_G := zinG 208 (by decide +kernel) (by decide +kernel)
theorem zw_17 : (Jvm.Cond.selects "Creasebook$Form" (⟨"Creasebook$Form", "measurePiles", "()V"⟩ : MethodName) (⟨"Creasebook$Form", "measurePiles", "()V"⟩ : MethodName)) ∈ z_G := zinG 3 (by decide +kernel) (by decide +kernel)
theorem zw_18 : (Jvm.Cond.code ({ cls := "Creasebook", name := "axisOf", desc := "(I)I" } : Jvm.MethodName) prog_1_method_45_code (1 : Nat) (Option.some Jvm.ClassFile.FieldType.int)) ∈ z_G := zinG 261 (by decide +kernel) (by decide +kernel)
theorem zw_19 : (Jvm.Cond.initialized "Creasebook") ∈ z_G := zinG 86 (by decide +kernel) (by decide +kernel)
theorem zw_20 : (Jvm.Cond.methodLinkNest "Creasebook$Form" (41 : Nat) ({ cls := "Creasebook", name := "axisOf", desc := "(I)I" } : Jvm.MethodName) "Creasebook") ∈ z_N := zinN 259 (by decide +kernel) rfl
theorem zw_21 : (Jvm.Cond.static ({ cls := "Creasebook", name := "axisOf", desc := "(I)I" } : Jvm.MethodName)) ∈ z_G := zinG 260 (by decide +kernel) (by decide +kernel)
theorem zw_22 : (Jvm.Cond.code ({ cls := "Creasebook", name := "lineOf", desc := "(I)I" } : Jvm.MethodName) prog_1_method_44_code (1 : Nat) (Option.some Jvm.ClassFile.FieldType.int)) ∈ z_G := zinG 267 (by decide +kernel) (by decide +kernel)
theorem zw_23 : (Jvm.Cond.methodLinkNest "Creasebook$Form" (45 : Nat) ({ cls := "Creasebook", name := "lineOf", desc := "(I)I" } : Jvm.MethodName) "Creasebook") ∈ z_N := zinN 265 (by decide +kernel) rfl
theorem zw_24 : (Jvm.Cond.static ({ cls := "Creasebook", name := "lineOf", desc := "(I)I" } : Jvm.MethodName)) ∈ z_G := zinG 266 (by decide +kernel) (by decide +kernel)
theorem zw_25 : (Jvm.Cond.code ({ cls := "Creasebook", name := "isFar", desc := "(I)Z" } : Jvm.MethodName) prog_1_method_46_code (1 : Nat) (Option.some Jvm.ClassFile.FieldType.boolean)) ∈ z_G := zinG 264 (by decide +kernel) (by decide +kernel)
theorem zw_26 : (Jvm.Cond.methodLinkNest "Creasebook$Form" (48 : Nat) ({ cls := "Creasebook", name := "isFar", desc := "(I)Z" } : Jvm.MethodName) "Creasebook") ∈ z_N := zinN 262 (by decide +kernel) rfl
theorem zw_27 : (Jvm.Cond.static ({ cls := "Creasebook", name := "isFar", desc := "(I)Z" } : Jvm.MethodName)) ∈ z_G := zinG 263 (by decide +kernel) (by decide +kernel)
theorem zw_28 : (Jvm.Cond.methodLink "Creasebook$Form" (52 : Nat) ({ cls := "java/lang/Math", name := "min", desc := "(II)I" } : Jvm.MethodName)) ∈ z_G := zinG 346 (by decide +kernel) (by decide +kernel)
theorem zw_29 : (Jvm.Cond.static ({ cls := "java/lang/Math", name := "min", desc := "(II)I" } : Jvm.MethodName)) ∈ z_G := zinG 347 (by decide +kernel) (by decide +kernel)
theorem zw_30 : (Jvm.Cond.initialized "java/lang/Math") ∈ z_G := zinG 99 (by decide +kernel) (by decide +kernel)
theorem zw_31 : (Jvm.Cond.code ({ cls := "java/lang/Math", name := "min", desc := "(II)I" } : Jvm.MethodName) prog_14_method_69_code (2 : Nat) (Option.some Jvm.ClassFile.FieldType.int)) ∈ z_G := zinG 348 (by decide +kernel) (by decide +kernel)
theorem zw_32 : (Jvm.Cond.methodLink "Creasebook$Form" (58 : Nat) ({ cls := "java/lang/Math", name := "max", desc := "(II)I" } : Jvm.MethodName)) ∈ z_G := zinG 349 (by decide +kernel) (by decide +kernel)
theorem zw_33 : (Jvm.Cond.static ({ cls := "java/lang/Math", name := "max", desc := "(II)I" } : Jvm.MethodName)) ∈ z_G := zinG 350 (by decide +kernel) (by decide +kernel)
theorem zw_34 : (Jvm.Cond.code ({ cls := "java/lang/Math", name := "max", desc := "(II)I" } : Jvm.MethodName) prog_14_method_65_code (2 : Nat) (Option.some Jvm.ClassFile.FieldType.int)) ∈ z_G := zinG 351 (by decide +kernel) (by decide +kernel)
theorem zw_35 : (Jvm.Cond.code ({ cls := "Creasebook$Form", name := "goes", desc := "(II)Z" } : Jvm.MethodName) prog_2_method_20_code (4 : Nat) (Option.some Jvm.ClassFile.FieldType.boolean)) ∈ z_G := zinG 258 (by decide +kernel) (by decide +kernel)
theorem zw_36 : (Jvm.Cond.methodLink "Creasebook$Form" (61 : Nat) ({ cls := "Creasebook$Form", name := "goes", desc := "(II)Z" } : Jvm.MethodName)) ∈ z_G := zinG 352 (by decide +kernel) (by decide +kernel)
theorem zw_37 : (Jvm.Cond.instanceMethod ({ cls := "Creasebook$Form", name := "goes", desc := "(II)Z" } : Jvm.MethodName)) ∈ z_G := zinG 257 (by decide +kernel) (by decide +kernel)
theorem zw_38 : (Jvm.Cond.selects "Creasebook$Form" (⟨"Creasebook$Form", "goes", "(II)Z"⟩ : MethodName) (⟨"Creasebook$Form", "goes", "(II)Z"⟩ : MethodName)) ∈ z_G := zinG 8 (by decide +kernel) (by decide +kernel)
theorem zw_39 : (Jvm.Cond.code ({ cls := "Creasebook$Form", name := "mirroredColumn", desc := "(II)I" } : Jvm.MethodName) prog_2_method_21_code (3 : Nat) (Option.some Jvm.ClassFile.FieldType.int)) ∈ z_G := zinG 356 (by decide +kernel) (by decide +kernel)
theorem zw_40 : (Jvm.Cond.methodLink "Creasebook$Form" (65 : Nat) ({ cls := "Creasebook$Form", name := "mirroredColumn", desc := "(II)I" } : Jvm.MethodName)) ∈ z_G := zinG 353 (by decide +kernel) (by decide +kernel)
theorem zw_41 : (Jvm.Cond.instanceMethod ({ cls := "Creasebook$Form", name := "mirroredColumn", desc := "(II)I" } : Jvm.MethodName)) ∈ z_G := zinG 355 (by decide +kernel) (by decide +kernel)
theorem zw_42 : (Jvm.Cond.selects "Creasebook$Form" (⟨"Creasebook$Form", "mirroredColumn", "(II)I"⟩ : MethodName) (⟨"Creasebook$Form", "mirroredColumn", "(II)I"⟩ : MethodName)) ∈ z_G := zinG 24 (by decide +kernel) (by decide +kernel)
theorem zw_43 : (Jvm.Cond.code ({ cls := "Creasebook$Form", name := "mirroredRow", desc := "(II)I" } : Jvm.MethodName) prog_2_method_22_code (3 : Nat) (Option.some Jvm.ClassFile.FieldType.int)) ∈ z_G := zinG 360 (by decide +kernel) (by decide +kernel)
theorem zw_44 : (Jvm.Cond.methodLink "Creasebook$Form" (68 : Nat) ({ cls := "Creasebook$Form", name := "mirroredRow", desc := "(II)I" } : Jvm.MethodName)) ∈ z_G := zinG 357 (by decide +kernel) (by decide +kernel)
theorem zw_45 : (Jvm.Cond.instanceMethod ({ cls := "Creasebook$Form", name := "mirroredRow", desc := "(II)I" } : Jvm.MethodName)) ∈ z_G := zinG 359 (by decide +kernel) (by decide +kernel)
theorem zw_46 : (Jvm.Cond.selects "Creasebook$Form" (⟨"Creasebook$Form", "mirroredRow", "(II)I"⟩ : MethodName) (⟨"Creasebook$Form", "mirroredRow", "(II)I"⟩ : MethodName)) ∈ z_G := zinG 25 (by decide +kernel) (by decide +kernel)
theorem zw_47 : (Jvm.Cond.code ({ cls := "Creasebook$Form", name := "layerBehind", desc := "(II)I" } : Jvm.MethodName) prog_2_method_5_code (7 : Nat) (Option.some Jvm.ClassFile.FieldType.int)) ∈ z_G := zinG 364 (by decide +kernel) (by decide +kernel)
theorem zw_48 : (Jvm.Cond.methodLink "Creasebook$Form" (71 : Nat) ({ cls := "Creasebook$Form", name := "layerBehind", desc := "(II)I" } : Jvm.MethodName)) ∈ z_G := zinG 361 (by decide +kernel) (by decide +kernel)
theorem zw_49 : (Jvm.Cond.instanceMethod ({ cls := "Creasebook$Form", name := "layerBehind", desc := "(II)I" } : Jvm.MethodName)) ∈ z_G := zinG 363 (by decide +kernel) (by decide +kernel)
theorem zw_50 : (Jvm.Cond.selects "Creasebook$Form" (⟨"Creasebook$Form", "layerBehind", "(II)I"⟩ : MethodName) (⟨"Creasebook$Form", "layerBehind", "(II)I"⟩ : MethodName)) ∈ z_G := zinG 26 (by decide +kernel) (by decide +kernel)
theorem zw_51 : (Jvm.Cond.code ({ cls := "Creasebook$Form", name := "layerFromAbove", desc := "(I)I" } : Jvm.MethodName) prog_2_method_16_code (2 : Nat) (Option.some Jvm.ClassFile.FieldType.int)) ∈ z_G := zinG 287 (by decide +kernel) (by decide +kernel)
theorem zw_52 : (Jvm.Cond.methodLink "Creasebook$Form" (74 : Nat) ({ cls := "Creasebook$Form", name := "layerFromAbove", desc := "(I)I" } : Jvm.MethodName)) ∈ z_G := zinG 284 (by decide +kernel) (by decide +kernel)
theorem zw_53 : (Jvm.Cond.instanceMethod ({ cls := "Creasebook$Form", name := "layerFromAbove", desc := "(I)I" } : Jvm.MethodName)) ∈ z_G := zinG 286 (by decide +kernel) (by decide +kernel)
theorem zw_54 : (Jvm.Cond.selects "Creasebook$Form" (⟨"Creasebook$Form", "layerFromAbove", "(I)I"⟩ : MethodName) (⟨"Creasebook$Form", "layerFromAbove", "(I)I"⟩ : MethodName)) ∈ z_G := zinG 12 (by decide +kernel) (by decide +kernel)
theorem zw_55 : (Jvm.Cond.code ({ cls := "Creasebook", name := "isOver", desc := "(I)Z" } : Jvm.MethodName) prog_1_method_47_code (1 : Nat) (Option.some Jvm.ClassFile.FieldType.boolean)) ∈ z_G := zinG 367 (by decide +kernel) (by decide +kernel)
theorem zw_56 : (Jvm.Cond.methodLinkNest "Creasebook$Form" (77 : Nat) ({ cls := "Creasebook", name := "isOver", desc := "(I)Z" } : Jvm.MethodName) "Creasebook") ∈ z_N := zinN 365 (by decide +kernel) rfl
theorem zw_57 : (Jvm.Cond.static ({ cls := "Creasebook", name := "isOver", desc := "(I)Z" } : Jvm.MethodName)) ∈ z_G := zinG 366 (by decide +kernel) (by decide +kernel)
theorem zw_58 : (Jvm.Cond.code ({ cls := "Creasebook$Form", name := "heightAt", desc := "(II)I" } : Jvm.MethodName) prog_2_method_12_code (3 : Nat) (Option.some Jvm.ClassFile.FieldType.int)) ∈ z_G := zinG 291 (by decide +kernel) (by decide +kernel)
theorem zw_59 : (Jvm.Cond.methodLink "Creasebook$Form" (80 : Nat) ({ cls := "Creasebook$Form", name := "heightAt", desc := "(II)I" } : Jvm.MethodName)) ∈ z_G := zinG 288 (by decide +kernel) (by decide +kernel)
theorem zw_60 : (Jvm.Cond.instanceMethod ({ cls := "Creasebook$Form", name := "heightAt", desc := "(II)I" } : Jvm.MethodName)) ∈ z_G := zinG 290 (by decide +kernel) (by decide +kernel)
theorem zw_61 : (Jvm.Cond.selects "Creasebook$Form" (⟨"Creasebook$Form", "heightAt", "(II)I"⟩ : MethodName) (⟨"Creasebook$Form", "heightAt", "(II)I"⟩ : MethodName)) ∈ z_G := zinG 13 (by decide +kernel) (by decide +kernel)
theorem zw_62 : (Jvm.Cond.code ({ cls := "Creasebook$Form", name := "hasPlace", desc := "(II)Z" } : Jvm.MethodName) prog_2_method_10_code (3 : Nat) (Option.some Jvm.ClassFile.FieldType.boolean)) ∈ z_G := zinG 213 (by decide +kernel) (by decide +kernel)
theorem zw_63 : (Jvm.Cond.methodLink "Creasebook$Form" (83 : Nat) ({ cls := "Creasebook$Form", name := "hasPlace", desc := "(II)Z" } : Jvm.MethodName)) ∈ z_G := zinG 210 (by decide +kernel) (by decide +kernel)
theorem zw_64 : (Jvm.Cond.instanceMethod ({ cls := "Creasebook$Form", name := "hasPlace", desc := "(II)Z" } : Jvm.MethodName)) ∈ z_G := zinG 212 (by decide +kernel) (by decide +kernel)
theorem zw_65 : (Jvm.Cond.selects "Creasebook$Form" (⟨"Creasebook$Form", "hasPlace", "(II)Z"⟩ : MethodName) (⟨"Creasebook$Form", "hasPlace", "(II)Z"⟩ : MethodName)) ∈ z_G := zinG 4 (by decide +kernel) (by decide +kernel)
theorem zw_66 : (Jvm.Cond.code ({ cls := "Creasebook$Form", name := "liesAt", desc := "(III)Z" } : Jvm.MethodName) prog_2_method_13_code (4 : Nat) (Option.some Jvm.ClassFile.FieldType.boolean)) ∈ z_G := zinG 319 (by decide +kernel) (by decide +kernel)
theorem zw_67 : (Jvm.Cond.methodLink "Creasebook$Form" (86 : Nat) ({ cls := "Creasebook$Form", name := "liesAt", desc := "(III)Z" } : Jvm.MethodName)) ∈ z_G := zinG 316 (by decide +kernel) (by decide +kernel)
theorem zw_68 : (Jvm.Cond.instanceMethod ({ cls := "Creasebook$Form", name := "liesAt", desc := "(III)Z" } : Jvm.MethodName)) ∈ z_G := zinG 318 (by decide +kernel) (by decide +kernel)
theorem zw_69 : (Jvm.Cond.selects "Creasebook$Form" (⟨"Creasebook$Form", "liesAt", "(III)Z"⟩ : MethodName) (⟨"Creasebook$Form", "liesAt", "(III)Z"⟩ : MethodName)) ∈ z_G := zinG 19 (by decide +kernel) (by decide +kernel)
theorem zw_70 : (Jvm.Cond.code ({ cls := "Creasebook$Form", name := "cellAt", desc := "(III)I" } : Jvm.MethodName) prog_2_method_14_code (5 : Nat) (Option.some Jvm.ClassFile.FieldType.int)) ∈ z_G := zinG 315 (by decide +kernel) (by decide +kernel)
theorem zw_71 : (Jvm.Cond.methodLink "Creasebook$Form" (90 : Nat) ({ cls := "Creasebook$Form", name := "cellAt", desc := "(III)I" } : Jvm.MethodName)) ∈ z_G := zinG 312 (by decide +kernel) (by decide +kernel)
theorem zw_72 : (Jvm.Cond.instanceMethod ({ cls := "Creasebook$Form", name := "cellAt", desc := "(III)I" } : Jvm.MethodName)) ∈ z_G := zinG 314 (by decide +kernel) (by decide +kernel)
theorem zw_73 : (Jvm.Cond.selects "Creasebook$Form" (⟨"Creasebook$Form", "cellAt", "(III)I"⟩ : MethodName) (⟨"Creasebook$Form", "cellAt", "(III)I"⟩ : MethodName)) ∈ z_G := zinG 18 (by decide +kernel) (by decide +kernel)
theorem zw_74 : (Jvm.Cond.code ({ cls := "Creasebook$Form", name := "isOutermost", desc := "(IZ)Z" } : Jvm.MethodName) prog_2_method_17_code (3 : Nat) (Option.some Jvm.ClassFile.FieldType.boolean)) ∈ z_G := zinG 299 (by decide +kernel) (by decide +kernel)
theorem zw_75 : (Jvm.Cond.methodLink "Creasebook$Form" (94 : Nat) ({ cls := "Creasebook$Form", name := "isOutermost", desc := "(IZ)Z" } : Jvm.MethodName)) ∈ z_G := zinG 296 (by decide +kernel) (by decide +kernel)
theorem zw_76 : (Jvm.Cond.instanceMethod ({ cls := "Creasebook$Form", name := "isOutermost", desc := "(IZ)Z" } : Jvm.MethodName)) ∈ z_G := zinG 298 (by decide +kernel) (by decide +kernel)
theorem zw_77 : (Jvm.Cond.selects "Creasebook$Form" (⟨"Creasebook$Form", "isOutermost", "(IZ)Z"⟩ : MethodName) (⟨"Creasebook$Form", "isOutermost", "(IZ)Z"⟩ : MethodName)) ∈ z_G := zinG 15 (by decide +kernel) (by decide +kernel)
theorem zw_78 : (Jvm.Cond.methodLink "Creasebook$Paper" (3 : Nat) ({ cls := "java/lang/Object", name := "<init>", desc := "()V" } : Jvm.MethodName)) ∈ z_G := zinG 119 (by decide +kernel) (by decide +kernel)
theorem zw_79 : (Jvm.Cond.fieldLink "Creasebook$Paper" (9 : Nat) "Creasebook$Paper" "crease" "[I") ∈ z_G := zinG 126 (by decide +kernel) (by decide +kernel)
theorem zw_80 : (Jvm.Cond.fieldLink "Creasebook$Paper" (15 : Nat) "Creasebook$Paper" "creasedBy" "[I") ∈ z_G := zinG 128 (by decide +kernel) (by decide +kernel)
theorem zw_81 : (Jvm.Cond.fieldLink "Creasebook$Paper" (18 : Nat) "Creasebook$Paper" "marks" "[I") ∈ z_G := zinG 129 (by decide +kernel) (by decide +kernel)
theorem zw_82 : (Jvm.Cond.fieldLink "Creasebook$Paper" (21 : Nat) "Creasebook$Paper" "ink" "[I") ∈ z_G := zinG 131 (by decide +kernel) (by decide +kernel)
theorem zw_83 : (Jvm.Cond.fieldLink "Creasebook$Paper" (24 : Nat) "Creasebook$Paper" "holes" "[I") ∈ z_G := zinG 133 (by decide +kernel) (by decide +kernel)
theorem zw_84 : (Jvm.Cond.fieldLink "Creasebook$Paper" (27 : Nat) "Creasebook$Paper" "glued" "[I") ∈ z_G := zinG 135 (by decide +kernel) (by decide +kernel)
theorem zw_85 : (Jvm.Cond.fieldLink "Creasebook$Paper" (30 : Nat) "Creasebook$Paper" "wide" "I") ∈ z_G := zinG 120 (by decide +kernel) (by decide +kernel)
theorem zw_86 : (Jvm.Cond.fieldLink "Creasebook$Paper" (34 : Nat) "Creasebook$Paper" "high" "I") ∈ z_G := zinG 122 (by decide +kernel) (by decide +kernel)
theorem zw_87 : (Jvm.Cond.fieldLink "Creasebook$Paper" (37 : Nat) "Creasebook$Paper" "cells" "I") ∈ z_G := zinG 124 (by decide +kernel) (by decide +kernel)
theorem zw_88 : (Jvm.Cond.code ({ cls := "Creasebook$Paper", name := "hasCell", desc := "(I)Z" } : Jvm.MethodName) prog_3_method_3_code (2 : Nat) (Option.some Jvm.ClassFile.FieldType.boolean)) ∈ z_G := zinG 254 (by decide +kernel) (by decide +kernel)
theorem zw_89 : (Jvm.Cond.initialized "Creasebook$Paper") ∈ z_G := zinG 87 (by decide +kernel) (by decide +kernel)
theorem zw_90 : (Jvm.Cond.methodLink "Creasebook$Paper" (40 : Nat) ({ cls := "Creasebook$Paper", name := "hasCell", desc := "(I)Z" } : Jvm.MethodName)) ∈ z_G := zinG 251 (by decide +kernel) (by decide +kernel)
theorem zw_91 : (Jvm.Cond.instanceMethod ({ cls := "Creasebook$Paper", name := "hasCell", desc := "(I)Z" } : Jvm.MethodName)) ∈ z_G := zinG 253 (by decide +kernel) (by decide +kernel)
theorem zw_92 : (Jvm.Cond.selects "Creasebook$Paper" (⟨"Creasebook$Paper", "hasCell", "(I)Z"⟩ : MethodName) (⟨"Creasebook$Paper", "hasCell", "(I)Z"⟩ : MethodName)) ∈ z_G := zinG 7 (by decide +kernel) (by decide +kernel)
theorem zw_93 : (Jvm.Cond.code ({ cls := "Creasebook", name := "pairOf", desc := "(IZ)I" } : Jvm.MethodName) prog_1_method_48_code (2 : Nat) (Option.some Jvm.ClassFile.FieldType.int)) ∈ z_G := zinG 529 (by decide +kernel) (by decide +kernel)
theorem zw_94 : (Jvm.Cond.methodLinkNest "Creasebook$Paper" (44 : Nat) ({ cls := "Creasebook", name := "pairOf", desc := "(IZ)I" } : Jvm.MethodName) "Creasebook") ∈ z_N := zinN 527 (by decide +kernel) rfl
theorem zw_95 : (Jvm.Cond.static ({ cls := "Creasebook", name := "pairOf", desc := "(IZ)I" } : Jvm.MethodName)) ∈ z_G := zinG 528 (by decide +kernel) (by decide +kernel)
theorem zw_96 : (Jvm.Cond.code ({ cls := "Creasebook$Paper", name := "cellBeside", desc := "(IZ)I" } : Jvm.MethodName) prog_3_method_4_code (4 : Nat) (Option.some Jvm.ClassFile.FieldType.int)) ∈ z_G := zinG 533 (by decide +kernel) (by decide +kernel)
theorem zw_97 : (Jvm.Cond.methodLink "Creasebook$Paper" (48 : Nat) ({ cls := "Creasebook$Paper", name := "cellBeside", desc := "(IZ)I" } : Jvm.MethodName)) ∈ z_G := zinG 530 (by decide +kernel) (by decide +kernel)
theorem zw_98 : (Jvm.Cond.instanceMethod ({ cls := "Creasebook$Paper", name := "cellBeside", desc := "(IZ)I" } : Jvm.MethodName)) ∈ z_G := zinG 532 (by decide +kernel) (by decide +kernel)
theorem zw_99 : (Jvm.Cond.selects "Creasebook$Paper" (⟨"Creasebook$Paper", "cellBeside", "(IZ)I"⟩ : MethodName) (⟨"Creasebook$Paper", "cellBeside", "(IZ)I"⟩ : MethodName)) ∈ z_G := zinG 39 (by decide +kernel) (by decide +kernel)
theorem zw_100 : (Jvm.Cond.code ({ cls := "Creasebook", name := "numberOf", desc := "(Z)I" } : Jvm.MethodName) prog_1_method_42_code (1 : Nat) (Option.some Jvm.ClassFile.FieldType.int)) ∈ z_G := zinG 519 (by decide +kernel) (by decide +kernel)
theorem zw_101 : (Jvm.Cond.methodLinkNest "Creasebook$Paper" (51 : Nat) ({ cls := "Creasebook", name := "numberOf", desc := "(Z)I" } : Jvm.MethodName) "Creasebook") ∈ z_N := zinN 717 (by decide +kernel) rfl
theorem zw_102 : (Jvm.Cond.static ({ cls := "Creasebook", name := "numberOf", desc := "(Z)I" } : Jvm.MethodName)) ∈ z_G := zinG 518 (by decide +kernel) (by decide +kernel)
theorem zw_103 : (Jvm.Cond.code ({ cls := "Creasebook$Paper", name := "isWet", desc := "(I)Z" } : Jvm.MethodName) prog_3_method_11_code (2 : Nat) (Option.some Jvm.ClassFile.FieldType.boolean)) ∈ z_G := zinG 331 (by decide +kernel) (by decide +kernel)
theorem zw_104 : (Jvm.Cond.methodLink "Creasebook$Paper" (55 : Nat) ({ cls := "Creasebook$Paper", name := "isWet", desc := "(I)Z" } : Jvm.MethodName)) ∈ z_G := zinG 328 (by decide +kernel) (by decide +kernel)
theorem zw_105 : (Jvm.Cond.instanceMethod ({ cls := "Creasebook$Paper", name := "isWet", desc := "(I)Z" } : Jvm.MethodName)) ∈ z_G := zinG 330 (by decide +kernel) (by decide +kernel)
theorem zw_106 : (Jvm.Cond.selects "Creasebook$Paper" (⟨"Creasebook$Paper", "isWet", "(I)Z"⟩ : MethodName) (⟨"Creasebook$Paper", "isWet", "(I)Z"⟩ : MethodName)) ∈ z_G := zinG 21 (by decide +kernel) (by decide +kernel)
theorem zw_107 : (Jvm.Cond.methodLink "Creasebook" (1 : Nat) ({ cls := "java/lang/Object", name := "<init>", desc := "()V" } : Jvm.MethodName)) ∈ z_G := zinG 111 (by decide +kernel) (by decide +kernel)
theorem zw_108 : (Jvm.Cond.classLink "Creasebook" (7 : Nat) "Creasebook$Paper") ∈ z_G := zinG 114 (by decide +kernel) (by decide +kernel)
theorem zw_109 : (Jvm.Cond.instantiable "Creasebook$Paper" (9 : Nat)) ∈ z_G := zinG 115 (by decide +kernel) (by decide +kernel)
theorem zw_110 : (Jvm.Cond.code ({ cls := "Creasebook$Paper", name := "<init>", desc := "()V" } : Jvm.MethodName) prog_3_method_1_code (1 : Nat) (Option.none : Option Jvm.ClassFile.FieldType)) ∈ z_G := zinG 118 (by decide +kernel) (by decide +kernel)
theorem zw_111 : (Jvm.Cond.methodLinkNest "Creasebook" (9 : Nat) ({ cls := "Creasebook$Paper", name := "<init>", desc := "()V" } : Jvm.MethodName) "Creasebook") ∈ z_N := zinN 116 (by decide +kernel) rfl
theorem zw_112 : (Jvm.Cond.instanceMethod ({ cls := "Creasebook$Paper", name := "<init>", desc := "()V" } : Jvm.MethodName)) ∈ z_G := zinG 117 (by decide +kernel) (by decide +kernel)
theorem zw_113 : (Jvm.Cond.fieldLink "Creasebook" (10 : Nat) "Creasebook" "paper" "LCreasebook$Paper;") ∈ z_G := zinG 214 (by decide +kernel) (by decide +kernel)
theorem zw_114 : (Jvm.Cond.classLink "Creasebook" (16 : Nat) "Creasebook$Form") ∈ z_G := zinG 156 (by decide +kernel) (by decide +kernel)
theorem zw_115 : (Jvm.Cond.instantiable "Creasebook$Form" (8 : Nat)) ∈ z_G := zinG 157 (by decide +kernel) (by decide +kernel)
theorem zw_116 : (Jvm.Cond.code ({ cls := "Creasebook$Form", name := "<init>", desc := "()V" } : Jvm.MethodName) prog_2_method_1_code (1 : Nat) (Option.none : Option Jvm.ClassFile.FieldType)) ∈ z_G := zinG 160 (by decide +kernel) (by decide +kernel)
theorem zw_117 : (Jvm.Cond.methodLinkNest "Creasebook" (18 : Nat) ({ cls := "Creasebook$Form", name := "<init>", desc := "()V" } : Jvm.MethodName) "Creasebook") ∈ z_N := zinN 158 (by decide +kernel) rfl
theorem zw_118 : (Jvm.Cond.instanceMethod ({ cls := "Creasebook$Form", name := "<init>", desc := "()V" } : Jvm.MethodName)) ∈ z_G := zinG 159 (by decide +kernel) (by decide +kernel)
theorem zw_119 : (Jvm.Cond.fieldLink "Creasebook" (19 : Nat) "Creasebook" "form" "LCreasebook$Form;") ∈ z_G := zinG 215 (by decide +kernel) (by decide +kernel)
theorem zw_120 : (Jvm.Cond.fieldLink "Creasebook" (23 : Nat) "Creasebook" "trial" "LCreasebook$Form;") ∈ z_G := zinG 216 (by decide +kernel) (by decide +kernel)
theorem zw_121 : (Jvm.Cond.arrayOver (Jvm.ClassFile.FieldType.object "Creasebook$Form")) ∈ z_N := zinN 193 (by decide +kernel) rfl
theorem zw_122 : (Jvm.Cond.fieldLink "Creasebook" (26 : Nat) "Creasebook" "past" "[LCreasebook$Form;") ∈ z_G := zinG 217 (by decide +kernel) (by decide +kernel)
theorem zw_123 : (Jvm.Cond.fieldLink "Creasebook" (30 : Nat) "Creasebook" "pastCode" "[I") ∈ z_G := zinG 218 (by decide +kernel) (by decide +kernel)
theorem zw_124 : (Jvm.Cond.code ({ cls := "Creasebook", name := "begin", desc := "(II)V" } : Jvm.MethodName) prog_1_method_23_code (3 : Nat) (Option.none : Option Jvm.ClassFile.FieldType)) ∈ z_G := zinG 197 (by decide +kernel) (by decide +kernel)
theorem zw_125 : (Jvm.Cond.methodLink "Creasebook" (34 : Nat) ({ cls := "Creasebook", name := "begin", desc := "(II)V" } : Jvm.MethodName)) ∈ z_G := zinG 194 (by decide +kernel) (by decide +kernel)
theorem zw_126 : (Jvm.Cond.instanceMethod ({ cls := "Creasebook", name := "begin", desc := "(II)V" } : Jvm.MethodName)) ∈ z_G := zinG 196 (by decide +kernel) (by decide +kernel)
theorem zw_127 : (Jvm.Cond.selects "Creasebook" (⟨"Creasebook", "begin", "(II)V"⟩ : MethodName) (⟨"Creasebook", "begin", "(II)V"⟩ : MethodName)) ∈ z_G := zinG 0 (by decide +kernel) (by decide +kernel)
theorem zw_128 : (Jvm.Cond.fieldLinkNest "Creasebook" (47 : Nat) "Creasebook$Paper" "cells" "I" "Creasebook") ∈ z_N := zinN 125 (by decide +kernel) rfl
theorem zw_129 : (Jvm.Cond.code ({ cls := "Creasebook", name := "requireLine", desc := "(II)V" } : Jvm.MethodName) prog_1_method_24_code (3 : Nat) (Option.none : Option Jvm.ClassFile.FieldType)) ∈ z_G := zinG 597 (by decide +kernel) (by decide +kernel)
theorem zw_130 : (Jvm.Cond.methodLink "Creasebook" (51 : Nat) ({ cls := "Creasebook", name := "requireLine", desc := "(II)V" } : Jvm.MethodName)) ∈ z_G := zinG 594 (by decide +kernel) (by decide +kernel)
theorem zw_131 : (Jvm.Cond.instanceMethod ({ cls := "Creasebook", name := "requireLine", desc := "(II)V" } : Jvm.MethodName)) ∈ z_G := zinG 596 (by decide +kernel) (by decide +kernel)
theorem zw_132 : (Jvm.Cond.selects "Creasebook" (⟨"Creasebook", "requireLine", "(II)V"⟩ : MethodName) (⟨"Creasebook", "requireLine", "(II)V"⟩ : MethodName)) ∈ z_G := zinG 45 (by decide +kernel) (by decide +kernel)
theorem zw_133 : (Jvm.Cond.fieldLink "Creasebook" (54 : Nat) "Creasebook" "folds" "I") ∈ z_G := zinG 219 (by decide +kernel) (by decide +kernel)
theorem zw_134 : (Jvm.Cond.code ({ cls := "Creasebook", name := "codeOf", desc := "(IIZZ)I" } : Jvm.MethodName) prog_1_method_43_code (4 : Nat) (Option.some Jvm.ClassFile.FieldType.int)) ∈ z_G := zinG 617 (by decide +kernel) (by decide +kernel)
theorem zw_135 : (Jvm.Cond.methodLink "Creasebook" (62 : Nat) ({ cls := "Creasebook", name := "codeOf", desc := "(IIZZ)I" } : Jvm.MethodName)) ∈ z_G := zinG 615 (by decide +kernel) (by decide +kernel)
theorem zw_136 : (Jvm.Cond.static ({ cls := "Creasebook", name := "codeOf", desc := "(IIZZ)I" } : Jvm.MethodName)) ∈ z_G := zinG 616 (by decide +kernel) (by decide +kernel)
theorem zw_137 : (Jvm.Cond.code ({ cls := "Creasebook$Form", name := "copyFrom", desc := "(LCreasebook$Form;)V" } : Jvm.MethodName) prog_2_method_3_code (3 : Nat) (Option.none : Option Jvm.ClassFile.FieldType)) ∈ z_G := zinG 275 (by decide +kernel) (by decide +kernel)
theorem zw_138 : (Jvm.Cond.methodLinkNest "Creasebook" (66 : Nat) ({ cls := "Creasebook$Form", name := "copyFrom", desc := "(LCreasebook$Form;)V" } : Jvm.MethodName) "Creasebook") ∈ z_N := zinN 272 (by decide +kernel) rfl
theorem zw_139 : (Jvm.Cond.instanceMethod ({ cls := "Creasebook$Form", name := "copyFrom", desc := "(LCreasebook$Form;)V" } : Jvm.MethodName)) ∈ z_G := zinG 274 (by decide +kernel) (by decide +kernel)
theorem zw_140 : (Jvm.Cond.selects "Creasebook$Form" (⟨"Creasebook$Form", "copyFrom", "(LCreasebook$Form;)V"⟩ : MethodName) (⟨"Creasebook$Form", "copyFrom", "(LCreasebook$Form;)V"⟩ : MethodName)) ∈ z_G := zinG 10 (by decide +kernel) (by decide +kernel)
theorem zw_141 : (Jvm.Cond.fieldLink "Creasebook" (70 : Nat) "Creasebook" "blots" "I") ∈ z_G := zinG 220 (by decide +kernel) (by decide +kernel)
theorem zw_142 : (Jvm.Cond.code ({ cls := "Creasebook", name := "spreadInk", desc := "(I)I" } : Jvm.MethodName) prog_1_method_30_code (5 : Nat) (Option.some Jvm.ClassFile.FieldType.int)) ∈ z_G := zinG 621 (by decide +kernel) (by decide +kernel)
theorem zw_143 : (Jvm.Cond.methodLink "Creasebook" (73 : Nat) ({ cls := "Creasebook", name := "spreadInk", desc := "(I)I" } : Jvm.MethodName)) ∈ z_G := zinG 618 (by decide +kernel) (by decide +kernel)
theorem zw_144 : (Jvm.Cond.instanceMethod ({ cls := "Creasebook", name := "spreadInk", desc := "(I)I" } : Jvm.MethodName)) ∈ z_G := zinG 620 (by decide +kernel) (by decide +kernel)
theorem zw_145 : (Jvm.Cond.selects "Creasebook" (⟨"Creasebook", "spreadInk", "(I)I"⟩ : MethodName) (⟨"Creasebook", "spreadInk", "(I)I"⟩ : MethodName)) ∈ z_G := zinG 46 (by decide +kernel) (by decide +kernel)
theorem zw_146 : (Jvm.Cond.code ({ cls := "Creasebook", name := "creaseAlong", desc := "(I)I" } : Jvm.MethodName) prog_1_method_28_code (4 : Nat) (Option.some Jvm.ClassFile.FieldType.int)) ∈ z_G := zinG 646 (by decide +kernel) (by decide +kernel)
theorem zw_147 : (Jvm.Cond.methodLink "Creasebook" (77 : Nat) ({ cls := "Creasebook", name := "creaseAlong", desc := "(I)I" } : Jvm.MethodName)) ∈ z_G := zinG 643 (by decide +kernel) (by decide +kernel)
theorem zw_148 : (Jvm.Cond.instanceMethod ({ cls := "Creasebook", name := "creaseAlong", desc := "(I)I" } : Jvm.MethodName)) ∈ z_G := zinG 645 (by decide +kernel) (by decide +kernel)
theorem zw_149 : (Jvm.Cond.selects "Creasebook" (⟨"Creasebook", "creaseAlong", "(I)I"⟩ : MethodName) (⟨"Creasebook", "creaseAlong", "(I)I"⟩ : MethodName)) ∈ z_G := zinG 51 (by decide +kernel) (by decide +kernel)
theorem zw_150 : (Jvm.Cond.code ({ cls := "Creasebook$Form", name := "becomeFolded", desc := "(LCreasebook$Form;I)V" } : Jvm.MethodName) prog_2_method_4_code (12 : Nat) (Option.none : Option Jvm.ClassFile.FieldType)) ∈ z_G := zinG 345 (by decide +kernel) (by decide +kernel)
theorem zw_151 : (Jvm.Cond.methodLinkNest "Creasebook" (80 : Nat) ({ cls := "Creasebook$Form", name := "becomeFolded", desc := "(LCreasebook$Form;I)V" } : Jvm.MethodName) "Creasebook") ∈ z_N := zinN 342 (by decide +kernel) rfl
theorem zw_152 : (Jvm.Cond.instanceMethod ({ cls := "Creasebook$Form", name := "becomeFolded", desc := "(LCreasebook$Form;I)V" } : Jvm.MethodName)) ∈ z_G := zinG 344 (by decide +kernel) (by decide +kernel)
theorem zw_153 : (Jvm.Cond.selects "Creasebook$Form" (⟨"Creasebook$Form", "becomeFolded", "(LCreasebook$Form;I)V"⟩ : MethodName) (⟨"Creasebook$Form", "becomeFolded", "(LCreasebook$Form;I)V"⟩ : MethodName)) ∈ z_G := zinG 23 (by decide +kernel) (by decide +kernel)
theorem zw_154 : (Jvm.Cond.code ({ cls := "Creasebook", name := "isHeldByGlue", desc := "()Z" } : Jvm.MethodName) prog_1_method_35_code (5 : Nat) (Option.some Jvm.ClassFile.FieldType.boolean)) ∈ z_G := zinG 246 (by decide +kernel) (by decide +kernel)
theorem zw_155 : (Jvm.Cond.methodLink "Creasebook" (84 : Nat) ({ cls := "Creasebook", name := "isHeldByGlue", desc := "()Z" } : Jvm.MethodName)) ∈ z_G := zinG 243 (by decide +kernel) (by decide +kernel)
theorem zw_156 : (Jvm.Cond.instanceMethod ({ cls := "Creasebook", name := "isHeldByGlue", desc := "()Z" } : Jvm.MethodName)) ∈ z_G := zinG 245 (by decide +kernel) (by decide +kernel)
theorem zw_157 : (Jvm.Cond.selects "Creasebook" (⟨"Creasebook", "isHeldByGlue", "()Z"⟩ : MethodName) (⟨"Creasebook", "isHeldByGlue", "()Z"⟩ : MethodName)) ∈ z_G := zinG 5 (by decide +kernel) (by decide +kernel)
theorem zw_158 : (Jvm.Cond.fieldLink "Creasebook" (88 : Nat) "Creasebook" "refusals" "I") ∈ z_G := zinG 221 (by decide +kernel) (by decide +kernel)
theorem zw_159 : (Jvm.Cond.code ({ cls := "Creasebook$Paper", name := "smoothCreasesOf", desc := "(I)V" } : Jvm.MethodName) prog_3_method_6_code (3 : Nat) (Option.none : Option Jvm.ClassFile.FieldType)) ∈ z_G := zinG 271 (by decide +kernel) (by decide +kernel)
theorem zw_160 : (Jvm.Cond.methodLinkNest "Creasebook" (91 : Nat) ({ cls := "Creasebook$Paper", name := "smoothCreasesOf", desc := "(I)V" } : Jvm.MethodName) "Creasebook") ∈ z_N := zinN 268 (by decide +kernel) rfl
theorem zw_161 : (Jvm.Cond.instanceMethod ({ cls := "Creasebook$Paper", name := "smoothCreasesOf", desc := "(I)V" } : Jvm.MethodName)) ∈ z_G := zinG 270 (by decide +kernel) (by decide +kernel)
theorem zw_162 : (Jvm.Cond.selects "Creasebook$Paper" (⟨"Creasebook$Paper", "smoothCreasesOf", "(I)V"⟩ : MethodName) (⟨"Creasebook$Paper", "smoothCreasesOf", "(I)V"⟩ : MethodName)) ∈ z_G := zinG 9 (by decide +kernel) (by decide +kernel)
theorem zw_163 : (Jvm.Cond.code ({ cls := "Creasebook$Form", name := "turnOver", desc := "()V" } : Jvm.MethodName) prog_2_method_6_code (2 : Nat) (Option.none : Option Jvm.ClassFile.FieldType)) ∈ z_G := zinG 283 (by decide +kernel) (by decide +kernel)
theorem zw_164 : (Jvm.Cond.methodLinkNest "Creasebook" (95 : Nat) ({ cls := "Creasebook$Form", name := "turnOver", desc := "()V" } : Jvm.MethodName) "Creasebook") ∈ z_N := zinN 280 (by decide +kernel) rfl
theorem zw_165 : (Jvm.Cond.instanceMethod ({ cls := "Creasebook$Form", name := "turnOver", desc := "()V" } : Jvm.MethodName)) ∈ z_G := zinG 282 (by decide +kernel) (by decide +kernel)
theorem zw_166 : (Jvm.Cond.selects "Creasebook$Form" (⟨"Creasebook$Form", "turnOver", "()V"⟩ : MethodName) (⟨"Creasebook$Form", "turnOver", "()V"⟩ : MethodName)) ∈ z_G := zinG 11 (by decide +kernel) (by decide +kernel)
theorem zw_167 : (Jvm.Cond.code ({ cls := "Creasebook$Form", name := "frontsSeenFromAbove", desc := "()I" } : Jvm.MethodName) prog_2_method_25_code (3 : Nat) (Option.some Jvm.ClassFile.FieldType.int)) ∈ z_G := zinG 295 (by decide +kernel) (by decide +kernel)
theorem zw_168 : (Jvm.Cond.methodLinkNest "Creasebook" (98 : Nat) ({ cls := "Creasebook$Form", name := "frontsSeenFromAbove", desc := "()I" } : Jvm.MethodName) "Creasebook") ∈ z_N := zinN 292 (by decide +kernel) rfl
theorem zw_169 : (Jvm.Cond.instanceMethod ({ cls := "Creasebook$Form", name := "frontsSeenFromAbove", desc := "()I" } : Jvm.MethodName)) ∈ z_G := zinG 294 (by decide +kernel) (by decide +kernel)
theorem zw_170 : (Jvm.Cond.selects "Creasebook$Form" (⟨"Creasebook$Form", "frontsSeenFromAbove", "()I"⟩ : MethodName) (⟨"Creasebook$Form", "frontsSeenFromAbove", "()I"⟩ : MethodName)) ∈ z_G := zinG 14 (by decide +kernel) (by decide +kernel)
theorem zw_171 : (Jvm.Cond.code ({ cls := "Creasebook$Form", name := "turnRound", desc := "()V" } : Jvm.MethodName) prog_2_method_7_code (2 : Nat) (Option.none : Option Jvm.ClassFile.FieldType)) ∈ z_G := zinG 307 (by decide +kernel) (by decide +kernel)
theorem zw_172 : (Jvm.Cond.methodLinkNest "Creasebook" (102 : Nat) ({ cls := "Creasebook$Form", name := "turnRound", desc := "()V" } : Jvm.MethodName) "Creasebook") ∈ z_N := zinN 304 (by decide +kernel) rfl
theorem zw_173 : (Jvm.Cond.instanceMethod ({ cls := "Creasebook$Form", name := "turnRound", desc := "()V" } : Jvm.MethodName)) ∈ z_G := zinG 306 (by decide +kernel) (by decide +kernel)
theorem zw_174 : (Jvm.Cond.selects "Creasebook$Form" (⟨"Creasebook$Form", "turnRound", "()V"⟩ : MethodName) (⟨"Creasebook$Form", "turnRound", "()V"⟩ : MethodName)) ∈ z_G := zinG 16 (by decide +kernel) (by decide +kernel)
theorem zw_175 : (Jvm.Cond.code ({ cls := "Creasebook$Form", name := "highestAt", desc := "(II)I" } : Jvm.MethodName) prog_2_method_15_code (3 : Nat) (Option.some Jvm.ClassFile.FieldType.int)) ∈ z_G := zinG 311 (by decide +kernel) (by decide +kernel)
theorem zw_176 : (Jvm.Cond.methodLinkNest "Creasebook" (105 : Nat) ({ cls := "Creasebook$Form", name := "highestAt", desc := "(II)I" } : Jvm.MethodName) "Creasebook") ∈ z_N := zinN 308 (by decide +kernel) rfl
theorem zw_177 : (Jvm.Cond.instanceMethod ({ cls := "Creasebook$Form", name := "highestAt", desc := "(II)I" } : Jvm.MethodName)) ∈ z_G := zinG 310 (by decide +kernel) (by decide +kernel)
theorem zw_178 : (Jvm.Cond.selects "Creasebook$Form" (⟨"Creasebook$Form", "highestAt", "(II)I"⟩ : MethodName) (⟨"Creasebook$Form", "highestAt", "(II)I"⟩ : MethodName)) ∈ z_G := zinG 17 (by decide +kernel) (by decide +kernel)
theorem zw_179 : (Jvm.Cond.code ({ cls := "Creasebook", name := "requirePlace", desc := "(II)V" } : Jvm.MethodName) prog_1_method_25_code (3 : Nat) (Option.none : Option Jvm.ClassFile.FieldType)) ∈ z_G := zinG 551 (by decide +kernel) (by decide +kernel)
theorem zw_180 : (Jvm.Cond.methodLink "Creasebook" (109 : Nat) ({ cls := "Creasebook", name := "requirePlace", desc := "(II)V" } : Jvm.MethodName)) ∈ z_G := zinG 548 (by decide +kernel) (by decide +kernel)
theorem zw_181 : (Jvm.Cond.instanceMethod ({ cls := "Creasebook", name := "requirePlace", desc := "(II)V" } : Jvm.MethodName)) ∈ z_G := zinG 550 (by decide +kernel) (by decide +kernel)
theorem zw_182 : (Jvm.Cond.selects "Creasebook" (⟨"Creasebook", "requirePlace", "(II)V"⟩ : MethodName) (⟨"Creasebook", "requirePlace", "(II)V"⟩ : MethodName)) ∈ z_G := zinG 41 (by decide +kernel) (by decide +kernel)
theorem zw_183 : (Jvm.Cond.code ({ cls := "Creasebook", name := "outerSide", desc := "(IZ)I" } : Jvm.MethodName) prog_1_method_34_code (3 : Nat) (Option.some Jvm.ClassFile.FieldType.int)) ∈ z_G := zinG 637 (by decide +kernel) (by decide +kernel)
theorem zw_184 : (Jvm.Cond.methodLink "Creasebook" (112 : Nat) ({ cls := "Creasebook", name := "outerSide", desc := "(IZ)I" } : Jvm.MethodName)) ∈ z_G := zinG 634 (by decide +kernel) (by decide +kernel)
theorem zw_185 : (Jvm.Cond.instanceMethod ({ cls := "Creasebook", name := "outerSide", desc := "(IZ)I" } : Jvm.MethodName)) ∈ z_G := zinG 636 (by decide +kernel) (by decide +kernel)
theorem zw_186 : (Jvm.Cond.selects "Creasebook" (⟨"Creasebook", "outerSide", "(IZ)I"⟩ : MethodName) (⟨"Creasebook", "outerSide", "(IZ)I"⟩ : MethodName)) ∈ z_G := zinG 49 (by decide +kernel) (by decide +kernel)
theorem zw_187 : (Jvm.Cond.code ({ cls := "Creasebook$Paper", name := "wet", desc := "(I)Z" } : Jvm.MethodName) prog_3_method_12_code (3 : Nat) (Option.some Jvm.ClassFile.FieldType.boolean)) ∈ z_G := zinG 642 (by decide +kernel) (by decide +kernel)
theorem zw_188 : (Jvm.Cond.methodLinkNest "Creasebook" (116 : Nat) ({ cls := "Creasebook$Paper", name := "wet", desc := "(I)Z" } : Jvm.MethodName) "Creasebook") ∈ z_N := zinN 639 (by decide +kernel) rfl
theorem zw_189 : (Jvm.Cond.instanceMethod ({ cls := "Creasebook$Paper", name := "wet", desc := "(I)Z" } : Jvm.MethodName)) ∈ z_G := zinG 641 (by decide +kernel) (by decide +kernel)
theorem zw_190 : (Jvm.Cond.selects "Creasebook$Paper" (⟨"Creasebook$Paper", "wet", "(I)Z"⟩ : MethodName) (⟨"Creasebook$Paper", "wet", "(I)Z"⟩ : MethodName)) ∈ z_G := zinG 50 (by decide +kernel) (by decide +kernel)
theorem zw_191 : (Jvm.Cond.code ({ cls := "Creasebook$Paper", name := "dryAll", desc := "()I" } : Jvm.MethodName) prog_3_method_13_code (3 : Nat) (Option.some Jvm.ClassFile.FieldType.int)) ∈ z_G := zinG 327 (by decide +kernel) (by decide +kernel)
theorem zw_192 : (Jvm.Cond.methodLinkNest "Creasebook" (120 : Nat) ({ cls := "Creasebook$Paper", name := "dryAll", desc := "()I" } : Jvm.MethodName) "Creasebook") ∈ z_N := zinN 324 (by decide +kernel) rfl
theorem zw_193 : (Jvm.Cond.instanceMethod ({ cls := "Creasebook$Paper", name := "dryAll", desc := "()I" } : Jvm.MethodName)) ∈ z_G := zinG 326 (by decide +kernel) (by decide +kernel)
theorem zw_194 : (Jvm.Cond.selects "Creasebook$Paper" (⟨"Creasebook$Paper", "dryAll", "()I"⟩ : MethodName) (⟨"Creasebook$Paper", "dryAll", "()I"⟩ : MethodName)) ∈ z_G := zinG 20 (by decide +kernel) (by decide +kernel)
theorem zw_195 : (Jvm.Cond.methodLinkNest "Creasebook" (123 : Nat) ({ cls := "Creasebook$Form", name := "liesAt", desc := "(III)Z" } : Jvm.MethodName) "Creasebook") ∈ z_N := zinN 560 (by decide +kernel) rfl
theorem zw_196 : (Jvm.Cond.fieldLinkNest "Creasebook" (127 : Nat) "Creasebook$Paper" "holes" "[I" "Creasebook") ∈ z_N := zinN 134 (by decide +kernel) rfl
theorem zw_197 : (Jvm.Cond.methodLinkNest "Creasebook" (130 : Nat) ({ cls := "Creasebook$Form", name := "heightAt", desc := "(II)I" } : Jvm.MethodName) "Creasebook") ∈ z_N := zinN 554 (by decide +kernel) rfl
theorem zw_198 : (Jvm.Cond.methodLinkNest "Creasebook" (133 : Nat) ({ cls := "Creasebook$Form", name := "cellAt", desc := "(III)I" } : Jvm.MethodName) "Creasebook") ∈ z_N := zinN 555 (by decide +kernel) rfl
theorem zw_199 : (Jvm.Cond.code ({ cls := "Creasebook$Paper", name := "areGlued", desc := "(II)Z" } : Jvm.MethodName) prog_3_method_16_code (3 : Nat) (Option.some Jvm.ClassFile.FieldType.boolean)) ∈ z_G := zinG 250 (by decide +kernel) (by decide +kernel)
theorem zw_200 : (Jvm.Cond.methodLinkNest "Creasebook" (137 : Nat) ({ cls := "Creasebook$Paper", name := "areGlued", desc := "(II)Z" } : Jvm.MethodName) "Creasebook") ∈ z_N := zinN 247 (by decide +kernel) rfl
theorem zw_201 : (Jvm.Cond.instanceMethod ({ cls := "Creasebook$Paper", name := "areGlued", desc := "(II)Z" } : Jvm.MethodName)) ∈ z_G := zinG 249 (by decide +kernel) (by decide +kernel)
theorem zw_202 : (Jvm.Cond.selects "Creasebook$Paper" (⟨"Creasebook$Paper", "areGlued", "(II)Z"⟩ : MethodName) (⟨"Creasebook$Paper", "areGlued", "(II)Z"⟩ : MethodName)) ∈ z_G := zinG 6 (by decide +kernel) (by decide +kernel)
theorem zw_203 : (Jvm.Cond.code ({ cls := "Creasebook$Paper", name := "stick", desc := "(II)V" } : Jvm.MethodName) prog_3_method_17_code (3 : Nat) (Option.none : Option Jvm.ClassFile.FieldType)) ∈ z_G := zinG 684 (by decide +kernel) (by decide +kernel)
theorem zw_204 : (Jvm.Cond.methodLinkNest "Creasebook" (141 : Nat) ({ cls := "Creasebook$Paper", name := "stick", desc := "(II)V" } : Jvm.MethodName) "Creasebook") ∈ z_N := zinN 681 (by decide +kernel) rfl
theorem zw_205 : (Jvm.Cond.instanceMethod ({ cls := "Creasebook$Paper", name := "stick", desc := "(II)V" } : Jvm.MethodName)) ∈ z_G := zinG 683 (by decide +kernel) (by decide +kernel)
theorem zw_206 : (Jvm.Cond.selects "Creasebook$Paper" (⟨"Creasebook$Paper", "stick", "(II)V"⟩ : MethodName) (⟨"Creasebook$Paper", "stick", "(II)V"⟩ : MethodName)) ∈ z_G := zinG 55 (by decide +kernel) (by decide +kernel)
theorem zw_207 : (Jvm.Cond.code ({ cls := "Creasebook", name := "requireWhat", desc := "(II)V" } : Jvm.MethodName) prog_1_method_27_code (2 : Nat) (Option.none : Option Jvm.ClassFile.FieldType)) ∈ z_G := zinG 391 (by decide +kernel) (by decide +kernel)
theorem zw_208 : (Jvm.Cond.methodLink "Creasebook" (144 : Nat) ({ cls := "Creasebook", name := "requireWhat", desc := "(II)V" } : Jvm.MethodName)) ∈ z_G := zinG 389 (by decide +kernel) (by decide +kernel)
theorem zw_209 : (Jvm.Cond.static ({ cls := "Creasebook", name := "requireWhat", desc := "(II)V" } : Jvm.MethodName)) ∈ z_G := zinG 390 (by decide +kernel) (by decide +kernel)
theorem zw_210 : (Jvm.Cond.code ({ cls := "Creasebook$Form", name := "isFrontUp", desc := "(I)Z" } : Jvm.MethodName) prog_2_method_18_code (2 : Nat) (Option.some Jvm.ClassFile.FieldType.boolean)) ∈ z_G := zinG 516 (by decide +kernel) (by decide +kernel)
theorem zw_211 : (Jvm.Cond.methodLinkNest "Creasebook" (147 : Nat) ({ cls := "Creasebook$Form", name := "isFrontUp", desc := "(I)Z" } : Jvm.MethodName) "Creasebook") ∈ z_N := zinN 513 (by decide +kernel) rfl
theorem zw_212 : (Jvm.Cond.instanceMethod ({ cls := "Creasebook$Form", name := "isFrontUp", desc := "(I)Z" } : Jvm.MethodName)) ∈ z_G := zinG 515 (by decide +kernel) (by decide +kernel)
theorem zw_213 : (Jvm.Cond.selects "Creasebook$Form" (⟨"Creasebook$Form", "isFrontUp", "(I)Z"⟩ : MethodName) (⟨"Creasebook$Form", "isFrontUp", "(I)Z"⟩ : MethodName)) ∈ z_G := zinG 37 (by decide +kernel) (by decide +kernel)
theorem zw_214 : (Jvm.Cond.methodLink "Creasebook" (150 : Nat) ({ cls := "Creasebook", name := "numberOf", desc := "(Z)I" } : Jvm.MethodName)) ∈ z_G := zinG 517 (by decide +kernel) (by decide +kernel)
theorem zw_215 : (Jvm.Cond.code ({ cls := "Creasebook", name := "holesAt", desc := "(II)I" } : Jvm.MethodName) prog_1_method_36_code (5 : Nat) (Option.some Jvm.ClassFile.FieldType.int)) ∈ z_G := zinG 559 (by decide +kernel) (by decide +kernel)
theorem zw_216 : (Jvm.Cond.methodLink "Creasebook" (154 : Nat) ({ cls := "Creasebook", name := "holesAt", desc := "(II)I" } : Jvm.MethodName)) ∈ z_G := zinG 556 (by decide +kernel) (by decide +kernel)
theorem zw_217 : (Jvm.Cond.instanceMethod ({ cls := "Creasebook", name := "holesAt", desc := "(II)I" } : Jvm.MethodName)) ∈ z_G := zinG 558 (by decide +kernel) (by decide +kernel)
theorem zw_218 : (Jvm.Cond.selects "Creasebook" (⟨"Creasebook", "holesAt", "(II)I"⟩ : MethodName) (⟨"Creasebook", "holesAt", "(II)I"⟩ : MethodName)) ∈ z_G := zinG 42 (by decide +kernel) (by decide +kernel)
theorem zw_219 : (Jvm.Cond.code ({ cls := "Creasebook", name := "gluedAt", desc := "(II)I" } : Jvm.MethodName) prog_1_method_37_code (5 : Nat) (Option.some Jvm.ClassFile.FieldType.int)) ∈ z_G := zinG 564 (by decide +kernel) (by decide +kernel)
theorem zw_220 : (Jvm.Cond.methodLink "Creasebook" (157 : Nat) ({ cls := "Creasebook", name := "gluedAt", desc := "(II)I" } : Jvm.MethodName)) ∈ z_G := zinG 561 (by decide +kernel) (by decide +kernel)
theorem zw_221 : (Jvm.Cond.instanceMethod ({ cls := "Creasebook", name := "gluedAt", desc := "(II)I" } : Jvm.MethodName)) ∈ z_G := zinG 563 (by decide +kernel) (by decide +kernel)
theorem zw_222 : (Jvm.Cond.selects "Creasebook" (⟨"Creasebook", "gluedAt", "(II)I"⟩ : MethodName) (⟨"Creasebook", "gluedAt", "(II)I"⟩ : MethodName)) ∈ z_G := zinG 43 (by decide +kernel) (by decide +kernel)
theorem zw_223 : (Jvm.Cond.code ({ cls := "Creasebook", name := "requireCell", desc := "(I)V" } : Jvm.MethodName) prog_1_method_26_code (2 : Nat) (Option.none : Option Jvm.ClassFile.FieldType)) ∈ z_G := zinG 495 (by decide +kernel) (by decide +kernel)
theorem zw_224 : (Jvm.Cond.methodLink "Creasebook" (165 : Nat) ({ cls := "Creasebook", name := "requireCell", desc := "(I)V" } : Jvm.MethodName)) ∈ z_G := zinG 492 (by decide +kernel) (by decide +kernel)
theorem zw_225 : (Jvm.Cond.instanceMethod ({ cls := "Creasebook", name := "requireCell", desc := "(I)V" } : Jvm.MethodName)) ∈ z_G := zinG 494 (by decide +kernel) (by decide +kernel)
theorem zw_226 : (Jvm.Cond.selects "Creasebook" (⟨"Creasebook", "requireCell", "(I)V"⟩ : MethodName) (⟨"Creasebook", "requireCell", "(I)V"⟩ : MethodName)) ∈ z_G := zinG 36 (by decide +kernel) (by decide +kernel)
theorem zw_227 : (Jvm.Cond.fieldLinkNest "Creasebook" (168 : Nat) "Creasebook$Form" "column" "[I" "Creasebook") ∈ z_N := zinN 168 (by decide +kernel) rfl
theorem zw_228 : (Jvm.Cond.fieldLinkNest "Creasebook" (171 : Nat) "Creasebook$Form" "row" "[I" "Creasebook") ∈ z_N := zinN 170 (by decide +kernel) rfl
theorem zw_229 : (Jvm.Cond.fieldLinkNest "Creasebook" (174 : Nat) "Creasebook$Form" "layer" "[I" "Creasebook") ∈ z_N := zinN 172 (by decide +kernel) rfl
theorem zw_230 : (Jvm.Cond.fieldLinkNest "Creasebook" (177 : Nat) "Creasebook$Paper" "ink" "[I" "Creasebook") ∈ z_N := zinN 132 (by decide +kernel) rfl
theorem zw_231 : (Jvm.Cond.code ({ cls := "Creasebook", name := "sideOf", desc := "(IZ)I" } : Jvm.MethodName) prog_1_method_49_code (2 : Nat) (Option.some Jvm.ClassFile.FieldType.int)) ∈ z_G := zinG 522 (by decide +kernel) (by decide +kernel)
theorem zw_232 : (Jvm.Cond.methodLink "Creasebook" (180 : Nat) ({ cls := "Creasebook", name := "sideOf", desc := "(IZ)I" } : Jvm.MethodName)) ∈ z_G := zinG 520 (by decide +kernel) (by decide +kernel)
theorem zw_233 : (Jvm.Cond.static ({ cls := "Creasebook", name := "sideOf", desc := "(IZ)I" } : Jvm.MethodName)) ∈ z_G := zinG 521 (by decide +kernel) (by decide +kernel)
theorem zw_234 : (Jvm.Cond.code ({ cls := "Creasebook$Paper", name := "creasesOf", desc := "(I)I" } : Jvm.MethodName) prog_3_method_7_code (4 : Nat) (Option.some Jvm.ClassFile.FieldType.int)) ∈ z_G := zinG 526 (by decide +kernel) (by decide +kernel)
theorem zw_235 : (Jvm.Cond.methodLinkNest "Creasebook" (183 : Nat) ({ cls := "Creasebook$Paper", name := "creasesOf", desc := "(I)I" } : Jvm.MethodName) "Creasebook") ∈ z_N := zinN 523 (by decide +kernel) rfl
theorem zw_236 : (Jvm.Cond.instanceMethod ({ cls := "Creasebook$Paper", name := "creasesOf", desc := "(I)I" } : Jvm.MethodName)) ∈ z_G := zinG 525 (by decide +kernel) (by decide +kernel)
theorem zw_237 : (Jvm.Cond.selects "Creasebook$Paper" (⟨"Creasebook$Paper", "creasesOf", "(I)I"⟩ : MethodName) (⟨"Creasebook$Paper", "creasesOf", "(I)I"⟩ : MethodName)) ∈ z_G := zinG 38 (by decide +kernel) (by decide +kernel)
theorem zw_238 : (Jvm.Cond.methodLinkNest "Creasebook" (186 : Nat) ({ cls := "Creasebook$Paper", name := "cellBeside", desc := "(IZ)I" } : Jvm.MethodName) "Creasebook") ∈ z_N := zinN 538 (by decide +kernel) rfl
theorem zw_239 : (Jvm.Cond.methodLink "Creasebook" (189 : Nat) ({ cls := "Creasebook", name := "pairOf", desc := "(IZ)I" } : Jvm.MethodName)) ∈ z_G := zinG 539 (by decide +kernel) (by decide +kernel)
theorem zw_240 : (Jvm.Cond.fieldLinkNest "Creasebook" (192 : Nat) "Creasebook$Paper" "crease" "[I" "Creasebook") ∈ z_N := zinN 127 (by decide +kernel) rfl
theorem zw_241 : (Jvm.Cond.fieldLinkNest "Creasebook" (195 : Nat) "Creasebook$Paper" "marks" "[I" "Creasebook") ∈ z_N := zinN 130 (by decide +kernel) rfl
theorem zw_242 : (Jvm.Cond.fieldLinkNest "Creasebook" (198 : Nat) "Creasebook$Paper" "wide" "I" "Creasebook") ∈ z_N := zinN 121 (by decide +kernel) rfl
theorem zw_243 : (Jvm.Cond.fieldLinkNest "Creasebook" (201 : Nat) "Creasebook$Paper" "high" "I" "Creasebook") ∈ z_N := zinN 123 (by decide +kernel) rfl
theorem zw_244 : (Jvm.Cond.code ({ cls := "Creasebook$Paper", name := "tellPair", desc := "(II)I" } : Jvm.MethodName) prog_3_method_8_code (3 : Nat) (Option.some Jvm.ClassFile.FieldType.int)) ∈ z_G := zinG 716 (by decide +kernel) (by decide +kernel)
theorem zw_245 : (Jvm.Cond.methodLinkNest "Creasebook" (206 : Nat) ({ cls := "Creasebook$Paper", name := "tellPair", desc := "(II)I" } : Jvm.MethodName) "Creasebook") ∈ z_N := zinN 713 (by decide +kernel) rfl
theorem zw_246 : (Jvm.Cond.instanceMethod ({ cls := "Creasebook$Paper", name := "tellPair", desc := "(II)I" } : Jvm.MethodName)) ∈ z_G := zinG 715 (by decide +kernel) (by decide +kernel)
theorem zw_247 : (Jvm.Cond.selects "Creasebook$Paper" (⟨"Creasebook$Paper", "tellPair", "(II)I"⟩ : MethodName) (⟨"Creasebook$Paper", "tellPair", "(II)I"⟩ : MethodName)) ∈ z_G := zinG 56 (by decide +kernel) (by decide +kernel)
theorem zw_248 : (Jvm.Cond.fieldLinkNest "Creasebook" (209 : Nat) "Creasebook$Form" "columns" "I" "Creasebook") ∈ z_N := zinN 164 (by decide +kernel) rfl
theorem zw_249 : (Jvm.Cond.fieldLinkNest "Creasebook" (212 : Nat) "Creasebook$Form" "rows" "I" "Creasebook") ∈ z_N := zinN 166 (by decide +kernel) rfl
theorem zw_250 : (Jvm.Cond.code ({ cls := "Creasebook$Paper", name := "countCreases", desc := "(I)I" } : Jvm.MethodName) prog_3_method_9_code (4 : Nat) (Option.some Jvm.ClassFile.FieldType.int)) ∈ z_G := zinG 463 (by decide +kernel) (by decide +kernel)
theorem zw_251 : (Jvm.Cond.methodLinkNest "Creasebook" (215 : Nat) ({ cls := "Creasebook$Paper", name := "countCreases", desc := "(I)I" } : Jvm.MethodName) "Creasebook") ∈ z_N := zinN 460 (by decide +kernel) rfl
theorem zw_252 : (Jvm.Cond.instanceMethod ({ cls := "Creasebook$Paper", name := "countCreases", desc := "(I)I" } : Jvm.MethodName)) ∈ z_G := zinG 462 (by decide +kernel) (by decide +kernel)
theorem zw_253 : (Jvm.Cond.selects "Creasebook$Paper" (⟨"Creasebook$Paper", "countCreases", "(I)I"⟩ : MethodName) (⟨"Creasebook$Paper", "countCreases", "(I)I"⟩ : MethodName)) ∈ z_G := zinG 29 (by decide +kernel) (by decide +kernel)
theorem zw_254 : (Jvm.Cond.code ({ cls := "Creasebook$Paper", name := "sumOfMarks", desc := "()I" } : Jvm.MethodName) prog_3_method_10_code (3 : Nat) (Option.some Jvm.ClassFile.FieldType.int)) ∈ z_G := zinG 467 (by decide +kernel) (by decide +kernel)
theorem zw_255 : (Jvm.Cond.methodLinkNest "Creasebook" (218 : Nat) ({ cls := "Creasebook$Paper", name := "sumOfMarks", desc := "()I" } : Jvm.MethodName) "Creasebook") ∈ z_N := zinN 464 (by decide +kernel) rfl
theorem zw_256 : (Jvm.Cond.instanceMethod ({ cls := "Creasebook$Paper", name := "sumOfMarks", desc := "()I" } : Jvm.MethodName)) ∈ z_G := zinG 466 (by decide +kernel) (by decide +kernel)
theorem zw_257 : (Jvm.Cond.selects "Creasebook$Paper" (⟨"Creasebook$Paper", "sumOfMarks", "()I"⟩ : MethodName) (⟨"Creasebook$Paper", "sumOfMarks", "()I"⟩ : MethodName)) ∈ z_G := zinG 30 (by decide +kernel) (by decide +kernel)
theorem zw_258 : (Jvm.Cond.code ({ cls := "Creasebook$Paper", name := "countSides", desc := "(I)I" } : Jvm.MethodName) prog_3_method_14_code (4 : Nat) (Option.some Jvm.ClassFile.FieldType.int)) ∈ z_G := zinG 471 (by decide +kernel) (by decide +kernel)
theorem zw_259 : (Jvm.Cond.methodLinkNest "Creasebook" (221 : Nat) ({ cls := "Creasebook$Paper", name := "countSides", desc := "(I)I" } : Jvm.MethodName) "Creasebook") ∈ z_N := zinN 468 (by decide +kernel) rfl
theorem zw_260 : (Jvm.Cond.instanceMethod ({ cls := "Creasebook$Paper", name := "countSides", desc := "(I)I" } : Jvm.MethodName)) ∈ z_G := zinG 470 (by decide +kernel) (by decide +kernel)
theorem zw_261 : (Jvm.Cond.selects "Creasebook$Paper" (⟨"Creasebook$Paper", "countSides", "(I)I"⟩ : MethodName) (⟨"Creasebook$Paper", "countSides", "(I)I"⟩ : MethodName)) ∈ z_G := zinG 31 (by decide +kernel) (by decide +kernel)
theorem zw_262 : (Jvm.Cond.code ({ cls := "Creasebook$Paper", name := "sumOfHoles", desc := "()I" } : Jvm.MethodName) prog_3_method_15_code (3 : Nat) (Option.some Jvm.ClassFile.FieldType.int)) ∈ z_G := zinG 475 (by decide +kernel) (by decide +kernel)
theorem zw_263 : (Jvm.Cond.methodLinkNest "Creasebook" (224 : Nat) ({ cls := "Creasebook$Paper", name := "sumOfHoles", desc := "()I" } : Jvm.MethodName) "Creasebook") ∈ z_N := zinN 472 (by decide +kernel) rfl
theorem zw_264 : (Jvm.Cond.instanceMethod ({ cls := "Creasebook$Paper", name := "sumOfHoles", desc := "()I" } : Jvm.MethodName)) ∈ z_G := zinG 474 (by decide +kernel) (by decide +kernel)
theorem zw_265 : (Jvm.Cond.selects "Creasebook$Paper" (⟨"Creasebook$Paper", "sumOfHoles", "()I"⟩ : MethodName) (⟨"Creasebook$Paper", "sumOfHoles", "()I"⟩ : MethodName)) ∈ z_G := zinG 32 (by decide +kernel) (by decide +kernel)
theorem zw_266 : (Jvm.Cond.code ({ cls := "Creasebook$Form", name := "highestPile", desc := "()I" } : Jvm.MethodName) prog_2_method_24_code (3 : Nat) (Option.some Jvm.ClassFile.FieldType.int)) ∈ z_G := zinG 479 (by decide +kernel) (by decide +kernel)
theorem zw_267 : (Jvm.Cond.methodLinkNest "Creasebook" (227 : Nat) ({ cls := "Creasebook$Form", name := "highestPile", desc := "()I" } : Jvm.MethodName) "Creasebook") ∈ z_N := zinN 476 (by decide +kernel) rfl
theorem zw_268 : (Jvm.Cond.instanceMethod ({ cls := "Creasebook$Form", name := "highestPile", desc := "()I" } : Jvm.MethodName)) ∈ z_G := zinG 478 (by decide +kernel) (by decide +kernel)
theorem zw_269 : (Jvm.Cond.selects "Creasebook$Form" (⟨"Creasebook$Form", "highestPile", "()I"⟩ : MethodName) (⟨"Creasebook$Form", "highestPile", "()I"⟩ : MethodName)) ∈ z_G := zinG 33 (by decide +kernel) (by decide +kernel)
theorem zw_270 : (Jvm.Cond.code ({ cls := "Creasebook$Form", name := "frontsSeenFromBelow", desc := "()I" } : Jvm.MethodName) prog_2_method_26_code (3 : Nat) (Option.some Jvm.ClassFile.FieldType.int)) ∈ z_G := zinG 483 (by decide +kernel) (by decide +kernel)
theorem zw_271 : (Jvm.Cond.methodLinkNest "Creasebook" (230 : Nat) ({ cls := "Creasebook$Form", name := "frontsSeenFromBelow", desc := "()I" } : Jvm.MethodName) "Creasebook") ∈ z_N := zinN 480 (by decide +kernel) rfl
theorem zw_272 : (Jvm.Cond.instanceMethod ({ cls := "Creasebook$Form", name := "frontsSeenFromBelow", desc := "()I" } : Jvm.MethodName)) ∈ z_G := zinG 482 (by decide +kernel) (by decide +kernel)
theorem zw_273 : (Jvm.Cond.selects "Creasebook$Form" (⟨"Creasebook$Form", "frontsSeenFromBelow", "()I"⟩ : MethodName) (⟨"Creasebook$Form", "frontsSeenFromBelow", "()I"⟩ : MethodName)) ∈ z_G := zinG 34 (by decide +kernel) (by decide +kernel)
theorem zw_274 : (Jvm.Cond.code ({ cls := "Creasebook", name := "nearestOfTwoTheEven", desc := "(II)I" } : Jvm.MethodName) prog_1_method_40_code (5 : Nat) (Option.some Jvm.ClassFile.FieldType.int)) ∈ z_G := zinG 732 (by decide +kernel) (by decide +kernel)
theorem zw_275 : (Jvm.Cond.methodLink "Creasebook" (235 : Nat) ({ cls := "Creasebook", name := "nearestOfTwoTheEven", desc := "(II)I" } : Jvm.MethodName)) ∈ z_G := zinG 730 (by decide +kernel) (by decide +kernel)
theorem zw_276 : (Jvm.Cond.static ({ cls := "Creasebook", name := "nearestOfTwoTheEven", desc := "(II)I" } : Jvm.MethodName)) ∈ z_G := zinG 731 (by decide +kernel) (by decide +kernel)
theorem zw_277 : (Jvm.Cond.constantDouble "Creasebook" (238 : Nat) (4616189618054758400 : UInt64)) ∈ z_G := zinG 733 (by decide +kernel) (by decide +kernel)
theorem zw_278 : (Jvm.Cond.code ({ cls := "Creasebook", name := "countBlots", desc := "(I)I" } : Jvm.MethodName) prog_1_method_31_code (4 : Nat) (Option.some Jvm.ClassFile.FieldType.int)) ∈ z_G := zinG 744 (by decide +kernel) (by decide +kernel)
theorem zw_279 : (Jvm.Cond.methodLink "Creasebook" (240 : Nat) ({ cls := "Creasebook", name := "countBlots", desc := "(I)I" } : Jvm.MethodName)) ∈ z_G := zinG 741 (by decide +kernel) (by decide +kernel)
theorem zw_280 : (Jvm.Cond.instanceMethod ({ cls := "Creasebook", name := "countBlots", desc := "(I)I" } : Jvm.MethodName)) ∈ z_G := zinG 743 (by decide +kernel) (by decide +kernel)
theorem zw_281 : (Jvm.Cond.selects "Creasebook" (⟨"Creasebook", "countBlots", "(I)I"⟩ : MethodName) (⟨"Creasebook", "countBlots", "(I)I"⟩ : MethodName)) ∈ z_G := zinG 57 (by decide +kernel) (by decide +kernel)
theorem zw_282 : (Jvm.Cond.code ({ cls := "Creasebook$Form", name := "places", desc := "()I" } : Jvm.MethodName) prog_2_method_9_code (1 : Nat) (Option.some Jvm.ClassFile.FieldType.int)) ∈ z_G := zinG 371 (by decide +kernel) (by decide +kernel)
theorem zw_283 : (Jvm.Cond.methodLinkNest "Creasebook" (243 : Nat) ({ cls := "Creasebook$Form", name := "places", desc := "()I" } : Jvm.MethodName) "Creasebook") ∈ z_N := zinN 368 (by decide +kernel) rfl
theorem zw_284 : (Jvm.Cond.instanceMethod ({ cls := "Creasebook$Form", name := "places", desc := "()I" } : Jvm.MethodName)) ∈ z_G := zinG 370 (by decide +kernel) (by decide +kernel)
theorem zw_285 : (Jvm.Cond.selects "Creasebook$Form" (⟨"Creasebook$Form", "places", "()I"⟩ : MethodName) (⟨"Creasebook$Form", "places", "()I"⟩ : MethodName)) ∈ z_G := zinG 27 (by decide +kernel) (by decide +kernel)
theorem zw_286 : (Jvm.Cond.methodLink "Creasebook" (246 : Nat) ({ cls := "Creasebook", name := "axisOf", desc := "(I)I" } : Jvm.MethodName)) ∈ z_G := zinG 336 (by decide +kernel) (by decide +kernel)
theorem zw_287 : (Jvm.Cond.methodLink "Creasebook" (249 : Nat) ({ cls := "Creasebook", name := "lineOf", desc := "(I)I" } : Jvm.MethodName)) ∈ z_G := zinG 337 (by decide +kernel) (by decide +kernel)
theorem zw_288 : (Jvm.Cond.code ({ cls := "Creasebook$Form", name := "hasLine", desc := "(II)Z" } : Jvm.MethodName) prog_2_method_11_code (3 : Nat) (Option.some Jvm.ClassFile.FieldType.boolean)) ∈ z_G := zinG 341 (by decide +kernel) (by decide +kernel)
theorem zw_289 : (Jvm.Cond.methodLinkNest "Creasebook" (252 : Nat) ({ cls := "Creasebook$Form", name := "hasLine", desc := "(II)Z" } : Jvm.MethodName) "Creasebook") ∈ z_N := zinN 338 (by decide +kernel) rfl
theorem zw_290 : (Jvm.Cond.instanceMethod ({ cls := "Creasebook$Form", name := "hasLine", desc := "(II)Z" } : Jvm.MethodName)) ∈ z_G := zinG 340 (by decide +kernel) (by decide +kernel)
theorem zw_291 : (Jvm.Cond.selects "Creasebook$Form" (⟨"Creasebook$Form", "hasLine", "(II)Z"⟩ : MethodName) (⟨"Creasebook$Form", "hasLine", "(II)Z"⟩ : MethodName)) ∈ z_G := zinG 22 (by decide +kernel) (by decide +kernel)
theorem zw_292 : (Jvm.Cond.code ({ cls := "Creasebook$Form", name := "isJustUpon", desc := "(II)Z" } : Jvm.MethodName) prog_2_method_19_code (3 : Nat) (Option.some Jvm.ClassFile.FieldType.boolean)) ∈ z_G := zinG 575 (by decide +kernel) (by decide +kernel)
theorem zw_293 : (Jvm.Cond.methodLinkNest "Creasebook" (257 : Nat) ({ cls := "Creasebook$Form", name := "isJustUpon", desc := "(II)Z" } : Jvm.MethodName) "Creasebook") ∈ z_N := zinN 572 (by decide +kernel) rfl
theorem zw_294 : (Jvm.Cond.instanceMethod ({ cls := "Creasebook$Form", name := "isJustUpon", desc := "(II)Z" } : Jvm.MethodName)) ∈ z_G := zinG 574 (by decide +kernel) (by decide +kernel)
theorem zw_295 : (Jvm.Cond.selects "Creasebook$Form" (⟨"Creasebook$Form", "isJustUpon", "(II)Z"⟩ : MethodName) (⟨"Creasebook$Form", "isJustUpon", "(II)Z"⟩ : MethodName)) ∈ z_G := zinG 44 (by decide +kernel) (by decide +kernel)
theorem zw_296 : (Jvm.Cond.code ({ cls := "Creasebook", name := "halvings", desc := "(I)I" } : Jvm.MethodName) prog_1_method_41_code (3 : Nat) (Option.some Jvm.ClassFile.FieldType.int)) ∈ z_G := zinG 378 (by decide +kernel) (by decide +kernel)
theorem zw_297 : (Jvm.Cond.methodLink "Creasebook" (260 : Nat) ({ cls := "Creasebook", name := "halvings", desc := "(I)I" } : Jvm.MethodName)) ∈ z_G := zinG 376 (by decide +kernel) (by decide +kernel)
theorem zw_298 : (Jvm.Cond.static ({ cls := "Creasebook", name := "halvings", desc := "(I)I" } : Jvm.MethodName)) ∈ z_G := zinG 377 (by decide +kernel) (by decide +kernel)
theorem zw_299 : (Jvm.Cond.constantLong "Creasebook" (263 : Nat) (58302 : Int64)) ∈ z_G := zinG 383 (by decide +kernel) (by decide +kernel)
theorem zw_300 : (Jvm.Cond.constantLong "Creasebook" (265 : Nat) (31 : Int64)) ∈ z_G := zinG 384 (by decide +kernel) (by decide +kernel)
theorem zw_301 : (Jvm.Cond.code ({ cls := "Creasebook", name := "many", desc := "(I)I" } : Jvm.MethodName) prog_1_method_16_code (2 : Nat) (Option.some Jvm.ClassFile.FieldType.int)) ∈ z_G := zinG 388 (by decide +kernel) (by decide +kernel)
theorem zw_302 : (Jvm.Cond.methodLink "Creasebook" (267 : Nat) ({ cls := "Creasebook", name := "many", desc := "(I)I" } : Jvm.MethodName)) ∈ z_G := zinG 385 (by decide +kernel) (by decide +kernel)
theorem zw_303 : (Jvm.Cond.instanceMethod ({ cls := "Creasebook", name := "many", desc := "(I)I" } : Jvm.MethodName)) ∈ z_G := zinG 386 (by decide +kernel) (by decide +kernel)
theorem zw_304 : (Jvm.Cond.selects "Creasebook" ({ cls := "Creasebook", name := "many", desc := "(I)I" } : Jvm.MethodName) ({ cls := "Creasebook", name := "many", desc := "(I)I" } : Jvm.MethodName)) ∈ z_G := zinG 387 (by decide +kernel) (by decide +kernel)
theorem zw_305 : (Jvm.Cond.code ({ cls := "Creasebook", name := "digestOfCell", desc := "(JI)J" } : Jvm.MethodName) prog_1_method_38_code (7 : Nat) (Option.some Jvm.ClassFile.FieldType.long)) ∈ z_G := zinG 487 (by decide +kernel) (by decide +kernel)
theorem zw_306 : (Jvm.Cond.methodLink "Creasebook" (270 : Nat) ({ cls := "Creasebook", name := "digestOfCell", desc := "(JI)J" } : Jvm.MethodName)) ∈ z_G := zinG 484 (by decide +kernel) (by decide +kernel)
theorem zw_307 : (Jvm.Cond.instanceMethod ({ cls := "Creasebook", name := "digestOfCell", desc := "(JI)J" } : Jvm.MethodName)) ∈ z_G := zinG 486 (by decide +kernel) (by decide +kernel)
theorem zw_308 : (Jvm.Cond.selects "Creasebook" (⟨"Creasebook", "digestOfCell", "(JI)J"⟩ : MethodName) (⟨"Creasebook", "digestOfCell", "(JI)J"⟩ : MethodName)) ∈ z_G := zinG 35 (by decide +kernel) (by decide +kernel)
theorem zw_309 : (Jvm.Cond.code ({ cls := "Creasebook", name := "digestOfPlace", desc := "(JII)J" } : Jvm.MethodName) prog_1_method_39_code (8 : Nat) (Option.some Jvm.ClassFile.FieldType.long)) ∈ z_G := zinG 543 (by decide +kernel) (by decide +kernel)
theorem zw_310 : (Jvm.Cond.methodLink "Creasebook" (274 : Nat) ({ cls := "Creasebook", name := "digestOfPlace", desc := "(JII)J" } : Jvm.MethodName)) ∈ z_G := zinG 540 (by decide +kernel) (by decide +kernel)
theorem zw_311 : (Jvm.Cond.instanceMethod ({ cls := "Creasebook", name := "digestOfPlace", desc := "(JII)J" } : Jvm.MethodName)) ∈ z_G := zinG 542 (by decide +kernel) (by decide +kernel)
theorem zw_312 : (Jvm.Cond.selects "Creasebook" (⟨"Creasebook", "digestOfPlace", "(JII)J"⟩ : MethodName) (⟨"Creasebook", "digestOfPlace", "(JII)J"⟩ : MethodName)) ∈ z_G := zinG 40 (by decide +kernel) (by decide +kernel)
theorem zw_313 : (Jvm.Cond.code ({ cls := "Creasebook", name := "bestFold", desc := "()I" } : Jvm.MethodName) prog_1_method_19_code (7 : Nat) (Option.some Jvm.ClassFile.FieldType.int)) ∈ z_G := zinG 335 (by decide +kernel) (by decide +kernel)
theorem zw_314 : (Jvm.Cond.methodLink "Creasebook" (278 : Nat) ({ cls := "Creasebook", name := "bestFold", desc := "()I" } : Jvm.MethodName)) ∈ z_G := zinG 565 (by decide +kernel) (by decide +kernel)
theorem zw_315 : (Jvm.Cond.instanceMethod ({ cls := "Creasebook", name := "bestFold", desc := "()I" } : Jvm.MethodName)) ∈ z_G := zinG 333 (by decide +kernel) (by decide +kernel)
theorem zw_316 : (Jvm.Cond.selects "Creasebook" ({ cls := "Creasebook", name := "bestFold", desc := "()I" } : Jvm.MethodName) ({ cls := "Creasebook", name := "bestFold", desc := "()I" } : Jvm.MethodName)) ∈ z_G := zinG 334 (by decide +kernel) (by decide +kernel)
theorem zw_317 : (Jvm.Cond.code ({ cls := "Creasebook", name := "fewest", desc := "()I" } : Jvm.MethodName) prog_1_method_21_code (1 : Nat) (Option.some Jvm.ClassFile.FieldType.int)) ∈ z_G := zinG 375 (by decide +kernel) (by decide +kernel)
theorem zw_318 : (Jvm.Cond.methodLink "Creasebook" (281 : Nat) ({ cls := "Creasebook", name := "fewest", desc := "()I" } : Jvm.MethodName)) ∈ z_G := zinG 566 (by decide +kernel) (by decide +kernel)
theorem zw_319 : (Jvm.Cond.instanceMethod ({ cls := "Creasebook", name := "fewest", desc := "()I" } : Jvm.MethodName)) ∈ z_G := zinG 373 (by decide +kernel) (by decide +kernel)
theorem zw_320 : (Jvm.Cond.selects "Creasebook" ({ cls := "Creasebook", name := "fewest", desc := "()I" } : Jvm.MethodName) ({ cls := "Creasebook", name := "fewest", desc := "()I" } : Jvm.MethodName)) ∈ z_G := zinG 374 (by decide +kernel) (by decide +kernel)
theorem zw_321 : (Jvm.Cond.code ({ cls := "Creasebook", name := "bring", desc := "(II)I" } : Jvm.MethodName) prog_1_method_20_code (4 : Nat) (Option.some Jvm.ClassFile.FieldType.int)) ∈ z_G := zinG 570 (by decide +kernel) (by decide +kernel)
theorem zw_322 : (Jvm.Cond.methodLink "Creasebook" (284 : Nat) ({ cls := "Creasebook", name := "bring", desc := "(II)I" } : Jvm.MethodName)) ∈ z_G := zinG 567 (by decide +kernel) (by decide +kernel)
theorem zw_323 : (Jvm.Cond.instanceMethod ({ cls := "Creasebook", name := "bring", desc := "(II)I" } : Jvm.MethodName)) ∈ z_G := zinG 568 (by decide +kernel) (by decide +kernel)
theorem zw_324 : (Jvm.Cond.selects "Creasebook" ({ cls := "Creasebook", name := "bring", desc := "(II)I" } : Jvm.MethodName) ({ cls := "Creasebook", name := "bring", desc := "(II)I" } : Jvm.MethodName)) ∈ z_G := zinG 569 (by decide +kernel) (by decide +kernel)
theorem zw_325 : (Jvm.Cond.code ({ cls := "Creasebook$Paper", name := "renew", desc := "(II)V" } : Jvm.MethodName) prog_3_method_2_code (4 : Nat) (Option.none : Option Jvm.ClassFile.FieldType)) ∈ z_G := zinG 201 (by decide +kernel) (by decide +kernel)
theorem zw_326 : (Jvm.Cond.methodLinkNest "Creasebook" (287 : Nat) ({ cls := "Creasebook$Paper", name := "renew", desc := "(II)V" } : Jvm.MethodName) "Creasebook") ∈ z_N := zinN 198 (by decide +kernel) rfl
theorem zw_327 : (Jvm.Cond.instanceMethod ({ cls := "Creasebook$Paper", name := "renew", desc := "(II)V" } : Jvm.MethodName)) ∈ z_G := zinG 200 (by decide +kernel) (by decide +kernel)
theorem zw_328 : (Jvm.Cond.selects "Creasebook$Paper" (⟨"Creasebook$Paper", "renew", "(II)V"⟩ : MethodName) (⟨"Creasebook$Paper", "renew", "(II)V"⟩ : MethodName)) ∈ z_G := zinG 1 (by decide +kernel) (by decide +kernel)
theorem zw_329 : (Jvm.Cond.code ({ cls := "Creasebook$Form", name := "spread", desc := "(II)V" } : Jvm.MethodName) prog_2_method_2_code (6 : Nat) (Option.none : Option Jvm.ClassFile.FieldType)) ∈ z_G := zinG 205 (by decide +kernel) (by decide +kernel)
theorem zw_330 : (Jvm.Cond.methodLinkNest "Creasebook" (290 : Nat) ({ cls := "Creasebook$Form", name := "spread", desc := "(II)V" } : Jvm.MethodName) "Creasebook") ∈ z_N := zinN 202 (by decide +kernel) rfl
theorem zw_331 : (Jvm.Cond.instanceMethod ({ cls := "Creasebook$Form", name := "spread", desc := "(II)V" } : Jvm.MethodName)) ∈ z_G := zinG 204 (by decide +kernel) (by decide +kernel)
theorem zw_332 : (Jvm.Cond.selects "Creasebook$Form" (⟨"Creasebook$Form", "spread", "(II)V"⟩ : MethodName) (⟨"Creasebook$Form", "spread", "(II)V"⟩ : MethodName)) ∈ z_G := zinG 2 (by decide +kernel) (by decide +kernel)
theorem zw_333 : (Jvm.Cond.methodLinkNest "Creasebook" (295 : Nat) ({ cls := "Creasebook$Form", name := "hasPlace", desc := "(II)Z" } : Jvm.MethodName) "Creasebook") ∈ z_N := zinN 552 (by decide +kernel) rfl
theorem zw_334 : (Jvm.Cond.methodLinkNest "Creasebook" (300 : Nat) ({ cls := "Creasebook$Paper", name := "hasCell", desc := "(I)Z" } : Jvm.MethodName) "Creasebook") ∈ z_N := zinN 496 (by decide +kernel) rfl
theorem zw_335 : (Jvm.Cond.code ({ cls := "Creasebook", name := "creasePair", desc := "(IZI)Z" } : Jvm.MethodName) prog_1_method_29_code (8 : Nat) (Option.some Jvm.ClassFile.FieldType.boolean)) ∈ z_G := zinG 650 (by decide +kernel) (by decide +kernel)
theorem zw_336 : (Jvm.Cond.methodLink "Creasebook" (307 : Nat) ({ cls := "Creasebook", name := "creasePair", desc := "(IZI)Z" } : Jvm.MethodName)) ∈ z_G := zinG 647 (by decide +kernel) (by decide +kernel)
theorem zw_337 : (Jvm.Cond.instanceMethod ({ cls := "Creasebook", name := "creasePair", desc := "(IZI)Z" } : Jvm.MethodName)) ∈ z_G := zinG 649 (by decide +kernel) (by decide +kernel)
theorem zw_338 : (Jvm.Cond.selects "Creasebook" (⟨"Creasebook", "creasePair", "(IZI)Z"⟩ : MethodName) (⟨"Creasebook", "creasePair", "(IZI)Z"⟩ : MethodName)) ∈ z_G := zinG 52 (by decide +kernel) (by decide +kernel)
theorem zw_339 : (Jvm.Cond.code ({ cls := "Creasebook$Form", name := "isLineBetween", desc := "(III)Z" } : Jvm.MethodName) prog_2_method_23_code (6 : Nat) (Option.some Jvm.ClassFile.FieldType.boolean)) ∈ z_G := zinG 654 (by decide +kernel) (by decide +kernel)
theorem zw_340 : (Jvm.Cond.methodLinkNest "Creasebook" (311 : Nat) ({ cls := "Creasebook$Form", name := "isLineBetween", desc := "(III)Z" } : Jvm.MethodName) "Creasebook") ∈ z_N := zinN 651 (by decide +kernel) rfl
theorem zw_341 : (Jvm.Cond.instanceMethod ({ cls := "Creasebook$Form", name := "isLineBetween", desc := "(III)Z" } : Jvm.MethodName)) ∈ z_G := zinG 653 (by decide +kernel) (by decide +kernel)
theorem zw_342 : (Jvm.Cond.selects "Creasebook$Form" (⟨"Creasebook$Form", "isLineBetween", "(III)Z"⟩ : MethodName) (⟨"Creasebook$Form", "isLineBetween", "(III)Z"⟩ : MethodName)) ∈ z_G := zinG 53 (by decide +kernel) (by decide +kernel)
theorem zw_343 : (Jvm.Cond.methodLinkNest "Creasebook" (314 : Nat) ({ cls := "Creasebook$Form", name := "goes", desc := "(II)Z" } : Jvm.MethodName) "Creasebook") ∈ z_N := zinN 255 (by decide +kernel) rfl
theorem zw_344 : (Jvm.Cond.methodLink "Creasebook" (317 : Nat) ({ cls := "Creasebook", name := "isOver", desc := "(I)Z" } : Jvm.MethodName)) ∈ z_G := zinG 626 (by decide +kernel) (by decide +kernel)
theorem zw_345 : (Jvm.Cond.code ({ cls := "Creasebook$Paper", name := "press", desc := "(III)V" } : Jvm.MethodName) prog_3_method_5_code (4 : Nat) (Option.none : Option Jvm.ClassFile.FieldType)) ∈ z_G := zinG 658 (by decide +kernel) (by decide +kernel)
theorem zw_346 : (Jvm.Cond.methodLinkNest "Creasebook" (320 : Nat) ({ cls := "Creasebook$Paper", name := "press", desc := "(III)V" } : Jvm.MethodName) "Creasebook") ∈ z_N := zinN 655 (by decide +kernel) rfl
theorem zw_347 : (Jvm.Cond.instanceMethod ({ cls := "Creasebook$Paper", name := "press", desc := "(III)V" } : Jvm.MethodName)) ∈ z_G := zinG 657 (by decide +kernel) (by decide +kernel)
theorem zw_348 : (Jvm.Cond.selects "Creasebook$Paper" (⟨"Creasebook$Paper", "press", "(III)V"⟩ : MethodName) (⟨"Creasebook$Paper", "press", "(III)V"⟩ : MethodName)) ∈ z_G := zinG 54 (by decide +kernel) (by decide +kernel)
theorem zw_349 : (Jvm.Cond.code ({ cls := "Creasebook", name := "cellThatMeets", desc := "(II)I" } : Jvm.MethodName) prog_1_method_32_code (6 : Nat) (Option.some Jvm.ClassFile.FieldType.int)) ∈ z_G := zinG 625 (by decide +kernel) (by decide +kernel)
theorem zw_350 : (Jvm.Cond.methodLink "Creasebook" (324 : Nat) ({ cls := "Creasebook", name := "cellThatMeets", desc := "(II)I" } : Jvm.MethodName)) ∈ z_G := zinG 622 (by decide +kernel) (by decide +kernel)
theorem zw_351 : (Jvm.Cond.instanceMethod ({ cls := "Creasebook", name := "cellThatMeets", desc := "(II)I" } : Jvm.MethodName)) ∈ z_G := zinG 624 (by decide +kernel) (by decide +kernel)
theorem zw_352 : (Jvm.Cond.selects "Creasebook" (⟨"Creasebook", "cellThatMeets", "(II)I"⟩ : MethodName) (⟨"Creasebook", "cellThatMeets", "(II)I"⟩ : MethodName)) ∈ z_G := zinG 47 (by decide +kernel) (by decide +kernel)
theorem zw_353 : (Jvm.Cond.code ({ cls := "Creasebook", name := "isBlot", desc := "(III)Z" } : Jvm.MethodName) prog_1_method_33_code (5 : Nat) (Option.some Jvm.ClassFile.FieldType.boolean)) ∈ z_G := zinG 633 (by decide +kernel) (by decide +kernel)
theorem zw_354 : (Jvm.Cond.methodLink "Creasebook" (327 : Nat) ({ cls := "Creasebook", name := "isBlot", desc := "(III)Z" } : Jvm.MethodName)) ∈ z_G := zinG 630 (by decide +kernel) (by decide +kernel)
theorem zw_355 : (Jvm.Cond.instanceMethod ({ cls := "Creasebook", name := "isBlot", desc := "(III)Z" } : Jvm.MethodName)) ∈ z_G := zinG 632 (by decide +kernel) (by decide +kernel)
theorem zw_356 : (Jvm.Cond.selects "Creasebook" (⟨"Creasebook", "isBlot", "(III)Z"⟩ : MethodName) (⟨"Creasebook", "isBlot", "(III)Z"⟩ : MethodName)) ∈ z_G := zinG 48 (by decide +kernel) (by decide +kernel)
theorem zw_357 : (Jvm.Cond.methodLinkNest "Creasebook" (330 : Nat) ({ cls := "Creasebook$Form", name := "isOutermost", desc := "(IZ)Z" } : Jvm.MethodName) "Creasebook") ∈ z_N := zinN 627 (by decide +kernel) rfl
theorem zw_358 : (Jvm.Cond.methodLinkNest "Creasebook" (334 : Nat) ({ cls := "Creasebook$Form", name := "mirroredColumn", desc := "(II)I" } : Jvm.MethodName) "Creasebook") ∈ z_N := zinN 628 (by decide +kernel) rfl
theorem zw_359 : (Jvm.Cond.methodLinkNest "Creasebook" (337 : Nat) ({ cls := "Creasebook$Form", name := "mirroredRow", desc := "(II)I" } : Jvm.MethodName) "Creasebook") ∈ z_N := zinN 629 (by decide +kernel) rfl
theorem zw_360 : (Jvm.Cond.methodLinkNest "Creasebook" (340 : Nat) ({ cls := "Creasebook$Paper", name := "isWet", desc := "(I)Z" } : Jvm.MethodName) "Creasebook") ∈ z_N := zinN 638 (by decide +kernel) rfl
theorem zw_361 : (Jvm.Cond.code ({ cls := "Creasebook", name := "ofCell", desc := "(II)I" } : Jvm.MethodName) prog_1_method_13_code (3 : Nat) (Option.some Jvm.ClassFile.FieldType.int)) ∈ z_G := zinG 491 (by decide +kernel) (by decide +kernel)
theorem zw_362 : (Jvm.Cond.methodLink "Creasebook" (343 : Nat) ({ cls := "Creasebook", name := "ofCell", desc := "(II)I" } : Jvm.MethodName)) ∈ z_G := zinG 488 (by decide +kernel) (by decide +kernel)
theorem zw_363 : (Jvm.Cond.instanceMethod ({ cls := "Creasebook", name := "ofCell", desc := "(II)I" } : Jvm.MethodName)) ∈ z_G := zinG 489 (by decide +kernel) (by decide +kernel)
theorem zw_364 : (Jvm.Cond.selects "Creasebook" ({ cls := "Creasebook", name := "ofCell", desc := "(II)I" } : Jvm.MethodName) ({ cls := "Creasebook", name := "ofCell", desc := "(II)I" } : Jvm.MethodName)) ∈ z_G := zinG 490 (by decide +kernel) (by decide +kernel)
theorem zw_365 : (Jvm.Cond.code ({ cls := "Creasebook", name := "ofPair", desc := "(IZI)I" } : Jvm.MethodName) prog_1_method_14_code (5 : Nat) (Option.some Jvm.ClassFile.FieldType.int)) ∈ z_G := zinG 537 (by decide +kernel) (by decide +kernel)
theorem zw_366 : (Jvm.Cond.methodLink "Creasebook" (346 : Nat) ({ cls := "Creasebook", name := "ofPair", desc := "(IZI)I" } : Jvm.MethodName)) ∈ z_G := zinG 534 (by decide +kernel) (by decide +kernel)
theorem zw_367 : (Jvm.Cond.instanceMethod ({ cls := "Creasebook", name := "ofPair", desc := "(IZI)I" } : Jvm.MethodName)) ∈ z_G := zinG 535 (by decide +kernel) (by decide +kernel)
theorem zw_368 : (Jvm.Cond.selects "Creasebook" ({ cls := "Creasebook", name := "ofPair", desc := "(IZI)I" } : Jvm.MethodName) ({ cls := "Creasebook", name := "ofPair", desc := "(IZI)I" } : Jvm.MethodName)) ∈ z_G := zinG 536 (by decide +kernel) (by decide +kernel)
theorem zw_369 : (Jvm.Cond.code ({ cls := "Creasebook", name := "ofPlace", desc := "(III)I" } : Jvm.MethodName) prog_1_method_11_code (4 : Nat) (Option.some Jvm.ClassFile.FieldType.int)) ∈ z_G := zinG 547 (by decide +kernel) (by decide +kernel)
theorem zw_370 : (Jvm.Cond.methodLink "Creasebook" (350 : Nat) ({ cls := "Creasebook", name := "ofPlace", desc := "(III)I" } : Jvm.MethodName)) ∈ z_G := zinG 544 (by decide +kernel) (by decide +kernel)
theorem zw_371 : (Jvm.Cond.instanceMethod ({ cls := "Creasebook", name := "ofPlace", desc := "(III)I" } : Jvm.MethodName)) ∈ z_G := zinG 545 (by decide +kernel) (by decide +kernel)
theorem zw_372 : (Jvm.Cond.selects "Creasebook" ({ cls := "Creasebook", name := "ofPlace", desc := "(III)I" } : Jvm.MethodName) ({ cls := "Creasebook", name := "ofPlace", desc := "(III)I" } : Jvm.MethodName)) ∈ z_G := zinG 546 (by decide +kernel) (by decide +kernel)
end
