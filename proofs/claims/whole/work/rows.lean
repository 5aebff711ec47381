section
-- ===== PART A: goes FIRST, ahead of the names: the tables' words, and 'selects' of the private methods out of them =====
/-- a private method of a class that the tables say can be made, by its rows of tables_1 -/
def lw_okq (q : MethodName × Nat) : Prop := (q.1.cls ≠ "java/lang/invoke/MethodHandle" ∧ q.1.cls ≠ "java/lang/invoke/VarHandle") ∧ Cond.instantiable q.1.cls q.2 ∈ tables_1 ∧ Cond.privateMethod q.1 ∈ tables_1 ∧ Cond.instanceMethod q.1 ∈ tables_1
theorem lw_p0 : lw_okq (⟨"FreeParts", "finding", "(I)I"⟩, 18) := ⟨⟨by decide +kernel, by decide +kernel⟩, List.mem_of_getElem? (i := 11) (by decide +kernel), List.mem_of_getElem? (i := 146) (by decide +kernel), List.mem_of_getElem? (i := 147) (by decide +kernel)⟩
theorem lw_p1 : lw_okq (⟨"FreeParts", "fine", "(I)I"⟩, 18) := ⟨⟨by decide +kernel, by decide +kernel⟩, List.mem_of_getElem? (i := 11) (by decide +kernel), List.mem_of_getElem? (i := 154) (by decide +kernel), List.mem_of_getElem? (i := 155) (by decide +kernel)⟩
theorem lw_p2 : lw_okq (⟨"FreeParts", "noRun", "(III)Z"⟩, 18) := ⟨⟨by decide +kernel, by decide +kernel⟩, List.mem_of_getElem? (i := 11) (by decide +kernel), List.mem_of_getElem? (i := 170) (by decide +kernel), List.mem_of_getElem? (i := 171) (by decide +kernel)⟩
theorem lw_p3 : lw_okq (⟨"FreeParts", "labelLikeItems", "([JII)V"⟩, 18) := ⟨⟨by decide +kernel, by decide +kernel⟩, List.mem_of_getElem? (i := 11) (by decide +kernel), List.mem_of_getElem? (i := 188) (by decide +kernel), List.mem_of_getElem? (i := 189) (by decide +kernel)⟩
theorem lw_p4 : lw_okq (⟨"FreeParts", "shelve", "(ILFreeParts$Thing;)I"⟩, 18) := ⟨⟨by decide +kernel, by decide +kernel⟩, List.mem_of_getElem? (i := 11) (by decide +kernel), List.mem_of_getElem? (i := 247) (by decide +kernel), List.mem_of_getElem? (i := 248) (by decide +kernel)⟩
theorem lw_p5 : lw_okq (⟨"FreeParts", "meetOf", "(LFreeParts$Thing;LFreeParts$Thing;)LFreeParts$Thing;"⟩, 18) := ⟨⟨by decide +kernel, by decide +kernel⟩, List.mem_of_getElem? (i := 11) (by decide +kernel), List.mem_of_getElem? (i := 270) (by decide +kernel), List.mem_of_getElem? (i := 271) (by decide +kernel)⟩
theorem lw_p6 : lw_okq (⟨"FreeParts", "joinOf", "(LFreeParts$Thing;LFreeParts$Thing;)LFreeParts$Thing;"⟩, 18) := ⟨⟨by decide +kernel, by decide +kernel⟩, List.mem_of_getElem? (i := 11) (by decide +kernel), List.mem_of_getElem? (i := 274) (by decide +kernel), List.mem_of_getElem? (i := 275) (by decide +kernel)⟩
theorem lw_p7 : lw_okq (⟨"FreeParts", "complementOf", "(LFreeParts$Thing;)LFreeParts$Thing;"⟩, 18) := ⟨⟨by decide +kernel, by decide +kernel⟩, List.mem_of_getElem? (i := 11) (by decide +kernel), List.mem_of_getElem? (i := 278) (by decide +kernel), List.mem_of_getElem? (i := 279) (by decide +kernel)⟩
theorem lw_p8 : lw_okq (⟨"FreeParts$Thing", "labelRing", "([III)V"⟩, 5) := ⟨⟨by decide +kernel, by decide +kernel⟩, List.mem_of_getElem? (i := 191) (by decide +kernel), List.mem_of_getElem? (i := 287) (by decide +kernel), List.mem_of_getElem? (i := 288) (by decide +kernel)⟩
theorem lw_p9 : lw_okq (⟨"FreeParts$Thing", "aheadInBlock", "(I)I"⟩, 5) := ⟨⟨by decide +kernel, by decide +kernel⟩, List.mem_of_getElem? (i := 191) (by decide +kernel), List.mem_of_getElem? (i := 291) (by decide +kernel), List.mem_of_getElem? (i := 292) (by decide +kernel)⟩
theorem lw_p10 : lw_okq (⟨"FreeParts", "turnedBy", "(LFreeParts$Thing;I)LFreeParts$Thing;"⟩, 18) := ⟨⟨by decide +kernel, by decide +kernel⟩, List.mem_of_getElem? (i := 11) (by decide +kernel), List.mem_of_getElem? (i := 295) (by decide +kernel), List.mem_of_getElem? (i := 296) (by decide +kernel)⟩
theorem lw_p11 : lw_okq (⟨"FreeParts", "sizeOf", "(LFreeParts$Thing;)I"⟩, 18) := ⟨⟨by decide +kernel, by decide +kernel⟩, List.mem_of_getElem? (i := 11) (by decide +kernel), List.mem_of_getElem? (i := 323) (by decide +kernel), List.mem_of_getElem? (i := 324) (by decide +kernel)⟩
theorem lw_p12 : lw_okq (⟨"FreeParts", "body11", "(LFreeParts$Thing;)I"⟩, 18) := ⟨⟨by decide +kernel, by decide +kernel⟩, List.mem_of_getElem? (i := 11) (by decide +kernel), List.mem_of_getElem? (i := 327) (by decide +kernel), List.mem_of_getElem? (i := 328) (by decide +kernel)⟩
theorem lw_p13 : lw_okq (⟨"FreeParts", "leaveTrace", "(I)V"⟩, 18) := ⟨⟨by decide +kernel, by decide +kernel⟩, List.mem_of_getElem? (i := 11) (by decide +kernel), List.mem_of_getElem? (i := 331) (by decide +kernel), List.mem_of_getElem? (i := 332) (by decide +kernel)⟩
theorem lw_p14 : lw_okq (⟨"FreeParts", "body10", "(LFreeParts$Thing;)I"⟩, 18) := ⟨⟨by decide +kernel, by decide +kernel⟩, List.mem_of_getElem? (i := 11) (by decide +kernel), List.mem_of_getElem? (i := 335) (by decide +kernel), List.mem_of_getElem? (i := 336) (by decide +kernel)⟩
theorem lw_p15 : lw_okq (⟨"FreeParts", "body12", "(LFreeParts$Thing;)I"⟩, 18) := ⟨⟨by decide +kernel, by decide +kernel⟩, List.mem_of_getElem? (i := 11) (by decide +kernel), List.mem_of_getElem? (i := 339) (by decide +kernel), List.mem_of_getElem? (i := 340) (by decide +kernel)⟩
def lw_privs_1 : List (MethodName × Nat) := [(⟨"FreeParts", "finding", "(I)I"⟩, 18), (⟨"FreeParts", "fine", "(I)I"⟩, 18), (⟨"FreeParts", "noRun", "(III)Z"⟩, 18), (⟨"FreeParts", "labelLikeItems", "([JII)V"⟩, 18), (⟨"FreeParts", "shelve", "(ILFreeParts$Thing;)I"⟩, 18), (⟨"FreeParts", "meetOf", "(LFreeParts$Thing;LFreeParts$Thing;)LFreeParts$Thing;"⟩, 18), (⟨"FreeParts", "joinOf", "(LFreeParts$Thing;LFreeParts$Thing;)LFreeParts$Thing;"⟩, 18), (⟨"FreeParts", "complementOf", "(LFreeParts$Thing;)LFreeParts$Thing;"⟩, 18), (⟨"FreeParts$Thing", "labelRing", "([III)V"⟩, 5), (⟨"FreeParts$Thing", "aheadInBlock", "(I)I"⟩, 5), (⟨"FreeParts", "turnedBy", "(LFreeParts$Thing;I)LFreeParts$Thing;"⟩, 18), (⟨"FreeParts", "sizeOf", "(LFreeParts$Thing;)I"⟩, 18), (⟨"FreeParts", "body11", "(LFreeParts$Thing;)I"⟩, 18), (⟨"FreeParts", "leaveTrace", "(I)V"⟩, 18), (⟨"FreeParts", "body10", "(LFreeParts$Thing;)I"⟩, 18), (⟨"FreeParts", "body12", "(LFreeParts$Thing;)I"⟩, 18)]
theorem lw_r1 : ∀ q ∈ lw_privs_1, lw_okq q := List.forall_mem_cons.mpr ⟨lw_p0, List.forall_mem_cons.mpr ⟨lw_p1, List.forall_mem_cons.mpr ⟨lw_p2, List.forall_mem_cons.mpr ⟨lw_p3, List.forall_mem_cons.mpr ⟨lw_p4, List.forall_mem_cons.mpr ⟨lw_p5, List.forall_mem_cons.mpr ⟨lw_p6, List.forall_mem_cons.mpr ⟨lw_p7, List.forall_mem_cons.mpr ⟨lw_p8, List.forall_mem_cons.mpr ⟨lw_p9, List.forall_mem_cons.mpr ⟨lw_p10, List.forall_mem_cons.mpr ⟨lw_p11, List.forall_mem_cons.mpr ⟨lw_p12, List.forall_mem_cons.mpr ⟨lw_p13, List.forall_mem_cons.mpr ⟨lw_p14, List.forall_mem_cons.mpr ⟨lw_p15, fun _ h => absurd h List.not_mem_nil⟩⟩⟩⟩⟩⟩⟩⟩⟩⟩⟩⟩⟩⟩⟩⟩
theorem lw_p16 : lw_okq (⟨"FreeParts", "body13", "(LFreeParts$Thing;)I"⟩, 18) := ⟨⟨by decide +kernel, by decide +kernel⟩, List.mem_of_getElem? (i := 11) (by decide +kernel), List.mem_of_getElem? (i := 343) (by decide +kernel), List.mem_of_getElem? (i := 344) (by decide +kernel)⟩
theorem lw_p17 : lw_okq (⟨"FreeParts", "body21", "(LFreeParts$Thing;)I"⟩, 18) := ⟨⟨by decide +kernel, by decide +kernel⟩, List.mem_of_getElem? (i := 11) (by decide +kernel), List.mem_of_getElem? (i := 347) (by decide +kernel), List.mem_of_getElem? (i := 348) (by decide +kernel)⟩
theorem lw_p18 : lw_okq (⟨"FreeParts", "body20", "(LFreeParts$Thing;)I"⟩, 18) := ⟨⟨by decide +kernel, by decide +kernel⟩, List.mem_of_getElem? (i := 11) (by decide +kernel), List.mem_of_getElem? (i := 351) (by decide +kernel), List.mem_of_getElem? (i := 352) (by decide +kernel)⟩
theorem lw_p19 : lw_okq (⟨"FreeParts", "body14", "(LFreeParts$Thing;)I"⟩, 18) := ⟨⟨by decide +kernel, by decide +kernel⟩, List.mem_of_getElem? (i := 11) (by decide +kernel), List.mem_of_getElem? (i := 355) (by decide +kernel), List.mem_of_getElem? (i := 356) (by decide +kernel)⟩
theorem lw_p20 : lw_okq (⟨"FreeParts", "handlesOf", "(LFreeParts$Thing;)I"⟩, 18) := ⟨⟨by decide +kernel, by decide +kernel⟩, List.mem_of_getElem? (i := 11) (by decide +kernel), List.mem_of_getElem? (i := 359) (by decide +kernel), List.mem_of_getElem? (i := 360) (by decide +kernel)⟩
theorem lw_p21 : lw_okq (⟨"FreeParts", "markOf", "(LFreeParts$Thing;)I"⟩, 18) := ⟨⟨by decide +kernel, by decide +kernel⟩, List.mem_of_getElem? (i := 11) (by decide +kernel), List.mem_of_getElem? (i := 363) (by decide +kernel), List.mem_of_getElem? (i := 364) (by decide +kernel)⟩
theorem lw_p22 : lw_okq (⟨"FreeParts", "body22", "(LFreeParts$Thing;)I"⟩, 18) := ⟨⟨by decide +kernel, by decide +kernel⟩, List.mem_of_getElem? (i := 11) (by decide +kernel), List.mem_of_getElem? (i := 367) (by decide +kernel), List.mem_of_getElem? (i := 368) (by decide +kernel)⟩
theorem lw_p23 : lw_okq (⟨"FreeParts$Cumulants", "sumOfFiner", "(II[J[J)J"⟩, 3) := ⟨⟨by decide +kernel, by decide +kernel⟩, List.mem_of_getElem? (i := 48) (by decide +kernel), List.mem_of_getElem? (i := 426) (by decide +kernel), List.mem_of_getElem? (i := 427) (by decide +kernel)⟩
theorem lw_p24 : lw_okq (⟨"FreeParts$Cumulants", "keepPowers", "(IIJ)V"⟩, 3) := ⟨⟨by decide +kernel, by decide +kernel⟩, List.mem_of_getElem? (i := 48) (by decide +kernel), List.mem_of_getElem? (i := 434) (by decide +kernel), List.mem_of_getElem? (i := 435) (by decide +kernel)⟩
theorem lw_p25 : lw_okq (⟨"FreeParts", "multiplyByPowers", "(I[J[JJJ)V"⟩, 18) := ⟨⟨by decide +kernel, by decide +kernel⟩, List.mem_of_getElem? (i := 11) (by decide +kernel), List.mem_of_getElem? (i := 467) (by decide +kernel), List.mem_of_getElem? (i := 468) (by decide +kernel)⟩
theorem lw_p26 : lw_okq (⟨"FreeParts", "determinant", "(I)J"⟩, 18) := ⟨⟨by decide +kernel, by decide +kernel⟩, List.mem_of_getElem? (i := 11) (by decide +kernel), List.mem_of_getElem? (i := 475) (by decide +kernel), List.mem_of_getElem? (i := 476) (by decide +kernel)⟩
theorem lw_p27 : lw_okq (⟨"FreeParts", "swapRows", "(III)V"⟩, 18) := ⟨⟨by decide +kernel, by decide +kernel⟩, List.mem_of_getElem? (i := 11) (by decide +kernel), List.mem_of_getElem? (i := 479) (by decide +kernel), List.mem_of_getElem? (i := 480) (by decide +kernel)⟩
theorem lw_p28 : lw_okq (⟨"FreeParts", "clearColumnBelow", "(II)V"⟩, 18) := ⟨⟨by decide +kernel, by decide +kernel⟩, List.mem_of_getElem? (i := 11) (by decide +kernel), List.mem_of_getElem? (i := 483) (by decide +kernel), List.mem_of_getElem? (i := 484) (by decide +kernel)⟩
theorem lw_p29 : lw_okq (⟨"FreeParts", "power", "(JJ)J"⟩, 18) := ⟨⟨by decide +kernel, by decide +kernel⟩, List.mem_of_getElem? (i := 11) (by decide +kernel), List.mem_of_getElem? (i := 487) (by decide +kernel), List.mem_of_getElem? (i := 488) (by decide +kernel)⟩
theorem lw_p30 : lw_okq (⟨"FreeParts", "walkOneStep", "(I)V"⟩, 18) := ⟨⟨by decide +kernel, by decide +kernel⟩, List.mem_of_getElem? (i := 11) (by decide +kernel), List.mem_of_getElem? (i := 510) (by decide +kernel), List.mem_of_getElem? (i := 511) (by decide +kernel)⟩
theorem lw_p31 : lw_okq (⟨"FreeParts", "countSheets", "()I"⟩, 18) := ⟨⟨by decide +kernel, by decide +kernel⟩, List.mem_of_getElem? (i := 11) (by decide +kernel), List.mem_of_getElem? (i := 518) (by decide +kernel), List.mem_of_getElem? (i := 519) (by decide +kernel)⟩
def lw_privs_2 : List (MethodName × Nat) := [(⟨"FreeParts", "body13", "(LFreeParts$Thing;)I"⟩, 18), (⟨"FreeParts", "body21", "(LFreeParts$Thing;)I"⟩, 18), (⟨"FreeParts", "body20", "(LFreeParts$Thing;)I"⟩, 18), (⟨"FreeParts", "body14", "(LFreeParts$Thing;)I"⟩, 18), (⟨"FreeParts", "handlesOf", "(LFreeParts$Thing;)I"⟩, 18), (⟨"FreeParts", "markOf", "(LFreeParts$Thing;)I"⟩, 18), (⟨"FreeParts", "body22", "(LFreeParts$Thing;)I"⟩, 18), (⟨"FreeParts$Cumulants", "sumOfFiner", "(II[J[J)J"⟩, 3), (⟨"FreeParts$Cumulants", "keepPowers", "(IIJ)V"⟩, 3), (⟨"FreeParts", "multiplyByPowers", "(I[J[JJJ)V"⟩, 18), (⟨"FreeParts", "determinant", "(I)J"⟩, 18), (⟨"FreeParts", "swapRows", "(III)V"⟩, 18), (⟨"FreeParts", "clearColumnBelow", "(II)V"⟩, 18), (⟨"FreeParts", "power", "(JJ)J"⟩, 18), (⟨"FreeParts", "walkOneStep", "(I)V"⟩, 18), (⟨"FreeParts", "countSheets", "()I"⟩, 18)]
theorem lw_r2 : ∀ q ∈ lw_privs_2, lw_okq q := List.forall_mem_cons.mpr ⟨lw_p16, List.forall_mem_cons.mpr ⟨lw_p17, List.forall_mem_cons.mpr ⟨lw_p18, List.forall_mem_cons.mpr ⟨lw_p19, List.forall_mem_cons.mpr ⟨lw_p20, List.forall_mem_cons.mpr ⟨lw_p21, List.forall_mem_cons.mpr ⟨lw_p22, List.forall_mem_cons.mpr ⟨lw_p23, List.forall_mem_cons.mpr ⟨lw_p24, List.forall_mem_cons.mpr ⟨lw_p25, List.forall_mem_cons.mpr ⟨lw_p26, List.forall_mem_cons.mpr ⟨lw_p27, List.forall_mem_cons.mpr ⟨lw_p28, List.forall_mem_cons.mpr ⟨lw_p29, List.forall_mem_cons.mpr ⟨lw_p30, List.forall_mem_cons.mpr ⟨lw_p31, fun _ h => absurd h List.not_mem_nil⟩⟩⟩⟩⟩⟩⟩⟩⟩⟩⟩⟩⟩⟩⟩⟩
theorem lw_p32 : lw_okq (⟨"FreeParts", "countThings", "(I)I"⟩, 18) := ⟨⟨by decide +kernel, by decide +kernel⟩, List.mem_of_getElem? (i := 11) (by decide +kernel), List.mem_of_getElem? (i := 522) (by decide +kernel), List.mem_of_getElem? (i := 523) (by decide +kernel)⟩
theorem lw_p33 : lw_okq (⟨"FreePartsModel", "found", "(I)I"⟩, 24) := ⟨⟨by decide +kernel, by decide +kernel⟩, List.mem_of_getElem? (i := 533) (by decide +kernel), List.mem_of_getElem? (i := 632) (by decide +kernel), List.mem_of_getElem? (i := 633) (by decide +kernel)⟩
theorem lw_p34 : lw_okq (⟨"FreePartsModel", "lay", "(III)I"⟩, 24) := ⟨⟨by decide +kernel, by decide +kernel⟩, List.mem_of_getElem? (i := 533) (by decide +kernel), List.mem_of_getElem? (i := 659) (by decide +kernel), List.mem_of_getElem? (i := 660) (by decide +kernel)⟩
theorem lw_p35 : lw_okq (⟨"FreePartsModel", "number", "(II)V"⟩, 24) := ⟨⟨by decide +kernel, by decide +kernel⟩, List.mem_of_getElem? (i := 533) (by decide +kernel), List.mem_of_getElem? (i := 663) (by decide +kernel), List.mem_of_getElem? (i := 664) (by decide +kernel)⟩
theorem lw_p36 : lw_okq (⟨"FreePartsModel", "kindOf", "(II)I"⟩, 24) := ⟨⟨by decide +kernel, by decide +kernel⟩, List.mem_of_getElem? (i := 533) (by decide +kernel), List.mem_of_getElem? (i := 668) (by decide +kernel), List.mem_of_getElem? (i := 669) (by decide +kernel)⟩
theorem lw_p37 : lw_okq (⟨"FreePartsModel", "isFree", "(II)Z"⟩, 24) := ⟨⟨by decide +kernel, by decide +kernel⟩, List.mem_of_getElem? (i := 533) (by decide +kernel), List.mem_of_getElem? (i := 672) (by decide +kernel), List.mem_of_getElem? (i := 673) (by decide +kernel)⟩
theorem lw_p38 : lw_okq (⟨"FreePartsModel", "crossedAt", "(II)I"⟩, 24) := ⟨⟨by decide +kernel, by decide +kernel⟩, List.mem_of_getElem? (i := 533) (by decide +kernel), List.mem_of_getElem? (i := 676) (by decide +kernel), List.mem_of_getElem? (i := 677) (by decide +kernel)⟩
theorem lw_p39 : lw_okq (⟨"FreePartsModel", "isOfPairs", "(II)Z"⟩, 24) := ⟨⟨by decide +kernel, by decide +kernel⟩, List.mem_of_getElem? (i := 533) (by decide +kernel), List.mem_of_getElem? (i := 680) (by decide +kernel), List.mem_of_getElem? (i := 681) (by decide +kernel)⟩
theorem lw_p40 : lw_okq (⟨"FreePartsModel", "sizeOf", "(III)I"⟩, 24) := ⟨⟨by decide +kernel, by decide +kernel⟩, List.mem_of_getElem? (i := 533) (by decide +kernel), List.mem_of_getElem? (i := 684) (by decide +kernel), List.mem_of_getElem? (i := 685) (by decide +kernel)⟩
theorem lw_p41 : lw_okq (⟨"FreePartsModel", "first", "(II)V"⟩, 24) := ⟨⟨by decide +kernel, by decide +kernel⟩, List.mem_of_getElem? (i := 533) (by decide +kernel), List.mem_of_getElem? (i := 693) (by decide +kernel), List.mem_of_getElem? (i := 694) (by decide +kernel)⟩
theorem lw_p42 : lw_okq (⟨"FreePartsModel", "nextFree", "(II)Z"⟩, 24) := ⟨⟨by decide +kernel, by decide +kernel⟩, List.mem_of_getElem? (i := 533) (by decide +kernel), List.mem_of_getElem? (i := 697) (by decide +kernel), List.mem_of_getElem? (i := 698) (by decide +kernel)⟩
theorem lw_p43 : lw_okq (⟨"FreePartsModel", "next", "(II)Z"⟩, 24) := ⟨⟨by decide +kernel, by decide +kernel⟩, List.mem_of_getElem? (i := 533) (by decide +kernel), List.mem_of_getElem? (i := 701) (by decide +kernel), List.mem_of_getElem? (i := 702) (by decide +kernel)⟩
theorem lw_p44 : lw_okq (⟨"FreePartsModel", "asked", "(II)I"⟩, 24) := ⟨⟨by decide +kernel, by decide +kernel⟩, List.mem_of_getElem? (i := 533) (by decide +kernel), List.mem_of_getElem? (i := 709) (by decide +kernel), List.mem_of_getElem? (i := 710) (by decide +kernel)⟩
theorem lw_p45 : lw_okq (⟨"FreePartsModel", "load", "(II)V"⟩, 24) := ⟨⟨by decide +kernel, by decide +kernel⟩, List.mem_of_getElem? (i := 533) (by decide +kernel), List.mem_of_getElem? (i := 716) (by decide +kernel), List.mem_of_getElem? (i := 717) (by decide +kernel)⟩
theorem lw_p46 : lw_okq (⟨"FreePartsModel", "crossing", "(III)Z"⟩, 24) := ⟨⟨by decide +kernel, by decide +kernel⟩, List.mem_of_getElem? (i := 533) (by decide +kernel), List.mem_of_getElem? (i := 720) (by decide +kernel), List.mem_of_getElem? (i := 721) (by decide +kernel)⟩
theorem lw_p47 : lw_okq (⟨"FreePartsModel", "mix", "(III)V"⟩, 24) := ⟨⟨by decide +kernel, by decide +kernel⟩, List.mem_of_getElem? (i := 533) (by decide +kernel), List.mem_of_getElem? (i := 724) (by decide +kernel), List.mem_of_getElem? (i := 725) (by decide +kernel)⟩
def lw_privs_3 : List (MethodName × Nat) := [(⟨"FreeParts", "countThings", "(I)I"⟩, 18), (⟨"FreePartsModel", "found", "(I)I"⟩, 24), (⟨"FreePartsModel", "lay", "(III)I"⟩, 24), (⟨"FreePartsModel", "number", "(II)V"⟩, 24), (⟨"FreePartsModel", "kindOf", "(II)I"⟩, 24), (⟨"FreePartsModel", "isFree", "(II)Z"⟩, 24), (⟨"FreePartsModel", "crossedAt", "(II)I"⟩, 24), (⟨"FreePartsModel", "isOfPairs", "(II)Z"⟩, 24), (⟨"FreePartsModel", "sizeOf", "(III)I"⟩, 24), (⟨"FreePartsModel", "first", "(II)V"⟩, 24), (⟨"FreePartsModel", "nextFree", "(II)Z"⟩, 24), (⟨"FreePartsModel", "next", "(II)Z"⟩, 24), (⟨"FreePartsModel", "asked", "(II)I"⟩, 24), (⟨"FreePartsModel", "load", "(II)V"⟩, 24), (⟨"FreePartsModel", "crossing", "(III)Z"⟩, 24), (⟨"FreePartsModel", "mix", "(III)V"⟩, 24)]
theorem lw_r3 : ∀ q ∈ lw_privs_3, lw_okq q := List.forall_mem_cons.mpr ⟨lw_p32, List.forall_mem_cons.mpr ⟨lw_p33, List.forall_mem_cons.mpr ⟨lw_p34, List.forall_mem_cons.mpr ⟨lw_p35, List.forall_mem_cons.mpr ⟨lw_p36, List.forall_mem_cons.mpr ⟨lw_p37, List.forall_mem_cons.mpr ⟨lw_p38, List.forall_mem_cons.mpr ⟨lw_p39, List.forall_mem_cons.mpr ⟨lw_p40, List.forall_mem_cons.mpr ⟨lw_p41, List.forall_mem_cons.mpr ⟨lw_p42, List.forall_mem_cons.mpr ⟨lw_p43, List.forall_mem_cons.mpr ⟨lw_p44, List.forall_mem_cons.mpr ⟨lw_p45, List.forall_mem_cons.mpr ⟨lw_p46, List.forall_mem_cons.mpr ⟨lw_p47, fun _ h => absurd h List.not_mem_nil⟩⟩⟩⟩⟩⟩⟩⟩⟩⟩⟩⟩⟩⟩⟩⟩
theorem lw_p48 : lw_okq (⟨"FreePartsModel", "complement", "(II)V"⟩, 24) := ⟨⟨by decide +kernel, by decide +kernel⟩, List.mem_of_getElem? (i := 533) (by decide +kernel), List.mem_of_getElem? (i := 732) (by decide +kernel), List.mem_of_getElem? (i := 733) (by decide +kernel)⟩
theorem lw_p49 : lw_okq (⟨"FreePartsModel", "blocksAt", "(I)I"⟩, 24) := ⟨⟨by decide +kernel, by decide +kernel⟩, List.mem_of_getElem? (i := 533) (by decide +kernel), List.mem_of_getElem? (i := 753) (by decide +kernel), List.mem_of_getElem? (i := 754) (by decide +kernel)⟩
theorem lw_p50 : lw_okq (⟨"FreePartsModel", "blocks", "(II)I"⟩, 24) := ⟨⟨by decide +kernel, by decide +kernel⟩, List.mem_of_getElem? (i := 533) (by decide +kernel), List.mem_of_getElem? (i := 757) (by decide +kernel), List.mem_of_getElem? (i := 758) (by decide +kernel)⟩
theorem lw_p51 : lw_okq (⟨"FreePartsModel", "sized", "(I)I"⟩, 24) := ⟨⟨by decide +kernel, by decide +kernel⟩, List.mem_of_getElem? (i := 533) (by decide +kernel), List.mem_of_getElem? (i := 765) (by decide +kernel), List.mem_of_getElem? (i := 766) (by decide +kernel)⟩
theorem lw_p52 : lw_okq (⟨"FreePartsModel", "began", "(I)V"⟩, 24) := ⟨⟨by decide +kernel, by decide +kernel⟩, List.mem_of_getElem? (i := 533) (by decide +kernel), List.mem_of_getElem? (i := 769) (by decide +kernel), List.mem_of_getElem? (i := 770) (by decide +kernel)⟩
theorem lw_p53 : lw_okq (⟨"FreePartsModel", "plainMark", "(I)I"⟩, 24) := ⟨⟨by decide +kernel, by decide +kernel⟩, List.mem_of_getElem? (i := 533) (by decide +kernel), List.mem_of_getElem? (i := 773) (by decide +kernel), List.mem_of_getElem? (i := 774) (by decide +kernel)⟩
theorem lw_p54 : lw_okq (⟨"FreePartsModel", "handlesOf", "(I)I"⟩, 24) := ⟨⟨by decide +kernel, by decide +kernel⟩, List.mem_of_getElem? (i := 533) (by decide +kernel), List.mem_of_getElem? (i := 777) (by decide +kernel), List.mem_of_getElem? (i := 778) (by decide +kernel)⟩
theorem lw_p55 : lw_okq (⟨"FreePartsModel", "handlesBy", "(II)I"⟩, 24) := ⟨⟨by decide +kernel, by decide +kernel⟩, List.mem_of_getElem? (i := 533) (by decide +kernel), List.mem_of_getElem? (i := 781) (by decide +kernel), List.mem_of_getElem? (i := 782) (by decide +kernel)⟩
theorem lw_p56 : lw_okq (⟨"FreePartsModel", "marked", "(I)I"⟩, 24) := ⟨⟨by decide +kernel, by decide +kernel⟩, List.mem_of_getElem? (i := 533) (by decide +kernel), List.mem_of_getElem? (i := 785) (by decide +kernel), List.mem_of_getElem? (i := 786) (by decide +kernel)⟩
theorem lw_p57 : lw_okq (⟨"FreePartsModel", "product", "(III)I"⟩, 24) := ⟨⟨by decide +kernel, by decide +kernel⟩, List.mem_of_getElem? (i := 533) (by decide +kernel), List.mem_of_getElem? (i := 802) (by decide +kernel), List.mem_of_getElem? (i := 803) (by decide +kernel)⟩
theorem lw_p58 : lw_okq (⟨"FreePartsModel", "isFiner", "(III)Z"⟩, 24) := ⟨⟨by decide +kernel, by decide +kernel⟩, List.mem_of_getElem? (i := 533) (by decide +kernel), List.mem_of_getElem? (i := 806) (by decide +kernel), List.mem_of_getElem? (i := 807) (by decide +kernel)⟩
theorem lw_p59 : lw_okq (⟨"FreePartsModel", "isSame", "(I)Z"⟩, 24) := ⟨⟨by decide +kernel, by decide +kernel⟩, List.mem_of_getElem? (i := 533) (by decide +kernel), List.mem_of_getElem? (i := 810) (by decide +kernel), List.mem_of_getElem? (i := 811) (by decide +kernel)⟩
theorem lw_p60 : lw_okq (⟨"FreePartsModel", "modulo", "(J)J"⟩, 24) := ⟨⟨by decide +kernel, by decide +kernel⟩, List.mem_of_getElem? (i := 533) (by decide +kernel), List.mem_of_getElem? (i := 830) (by decide +kernel), List.mem_of_getElem? (i := 831) (by decide +kernel)⟩
theorem lw_p61 : lw_okq (⟨"FreePartsModel", "findMoments", "(IIII)V"⟩, 24) := ⟨⟨by decide +kernel, by decide +kernel⟩, List.mem_of_getElem? (i := 533) (by decide +kernel), List.mem_of_getElem? (i := 834) (by decide +kernel), List.mem_of_getElem? (i := 835) (by decide +kernel)⟩
theorem lw_p62 : lw_okq (⟨"FreePartsModel", "lesser", "(IIII)J"⟩, 24) := ⟨⟨by decide +kernel, by decide +kernel⟩, List.mem_of_getElem? (i := 533) (by decide +kernel), List.mem_of_getElem? (i := 838) (by decide +kernel), List.mem_of_getElem? (i := 839) (by decide +kernel)⟩
theorem lw_p63 : lw_okq (⟨"FreePartsModel", "m", "(II)J"⟩, 24) := ⟨⟨by decide +kernel, by decide +kernel⟩, List.mem_of_getElem? (i := 533) (by decide +kernel), List.mem_of_getElem? (i := 842) (by decide +kernel), List.mem_of_getElem? (i := 843) (by decide +kernel)⟩
def lw_privs_4 : List (MethodName × Nat) := [(⟨"FreePartsModel", "complement", "(II)V"⟩, 24), (⟨"FreePartsModel", "blocksAt", "(I)I"⟩, 24), (⟨"FreePartsModel", "blocks", "(II)I"⟩, 24), (⟨"FreePartsModel", "sized", "(I)I"⟩, 24), (⟨"FreePartsModel", "began", "(I)V"⟩, 24), (⟨"FreePartsModel", "plainMark", "(I)I"⟩, 24), (⟨"FreePartsModel", "handlesOf", "(I)I"⟩, 24), (⟨"FreePartsModel", "handlesBy", "(II)I"⟩, 24), (⟨"FreePartsModel", "marked", "(I)I"⟩, 24), (⟨"FreePartsModel", "product", "(III)I"⟩, 24), (⟨"FreePartsModel", "isFiner", "(III)Z"⟩, 24), (⟨"FreePartsModel", "isSame", "(I)Z"⟩, 24), (⟨"FreePartsModel", "modulo", "(J)J"⟩, 24), (⟨"FreePartsModel", "findMoments", "(IIII)V"⟩, 24), (⟨"FreePartsModel", "lesser", "(IIII)J"⟩, 24), (⟨"FreePartsModel", "m", "(II)J"⟩, 24)]
theorem lw_r4 : ∀ q ∈ lw_privs_4, lw_okq q := List.forall_mem_cons.mpr ⟨lw_p48, List.forall_mem_cons.mpr ⟨lw_p49, List.forall_mem_cons.mpr ⟨lw_p50, List.forall_mem_cons.mpr ⟨lw_p51, List.forall_mem_cons.mpr ⟨lw_p52, List.forall_mem_cons.mpr ⟨lw_p53, List.forall_mem_cons.mpr ⟨lw_p54, List.forall_mem_cons.mpr ⟨lw_p55, List.forall_mem_cons.mpr ⟨lw_p56, List.forall_mem_cons.mpr ⟨lw_p57, List.forall_mem_cons.mpr ⟨lw_p58, List.forall_mem_cons.mpr ⟨lw_p59, List.forall_mem_cons.mpr ⟨lw_p60, List.forall_mem_cons.mpr ⟨lw_p61, List.forall_mem_cons.mpr ⟨lw_p62, List.forall_mem_cons.mpr ⟨lw_p63, fun _ h => absurd h List.not_mem_nil⟩⟩⟩⟩⟩⟩⟩⟩⟩⟩⟩⟩⟩⟩⟩⟩
theorem lw_p64 : lw_okq (⟨"FreePartsModel", "findCumulants", "(III)V"⟩, 24) := ⟨⟨by decide +kernel, by decide +kernel⟩, List.mem_of_getElem? (i := 533) (by decide +kernel), List.mem_of_getElem? (i := 853) (by decide +kernel), List.mem_of_getElem? (i := 854) (by decide +kernel)⟩
theorem lw_p65 : lw_okq (⟨"FreePartsModel", "mixed", "(I)J"⟩, 24) := ⟨⟨by decide +kernel, by decide +kernel⟩, List.mem_of_getElem? (i := 533) (by decide +kernel), List.mem_of_getElem? (i := 861) (by decide +kernel), List.mem_of_getElem? (i := 862) (by decide +kernel)⟩
theorem lw_p66 : lw_okq (⟨"FreePartsModel", "inverse", "(J)J"⟩, 24) := ⟨⟨by decide +kernel, by decide +kernel⟩, List.mem_of_getElem? (i := 533) (by decide +kernel), List.mem_of_getElem? (i := 873) (by decide +kernel), List.mem_of_getElem? (i := 874) (by decide +kernel)⟩
theorem lw_p67 : lw_okq (⟨"FreePartsModel", "findPairings", "()V"⟩, 24) := ⟨⟨by decide +kernel, by decide +kernel⟩, List.mem_of_getElem? (i := 533) (by decide +kernel), List.mem_of_getElem? (i := 885) (by decide +kernel), List.mem_of_getElem? (i := 886) (by decide +kernel)⟩
def lw_privs_5 : List (MethodName × Nat) := [(⟨"FreePartsModel", "findCumulants", "(III)V"⟩, 24), (⟨"FreePartsModel", "mixed", "(I)J"⟩, 24), (⟨"FreePartsModel", "inverse", "(J)J"⟩, 24), (⟨"FreePartsModel", "findPairings", "()V"⟩, 24)]
theorem lw_r5 : ∀ q ∈ lw_privs_5, lw_okq q := List.forall_mem_cons.mpr ⟨lw_p64, List.forall_mem_cons.mpr ⟨lw_p65, List.forall_mem_cons.mpr ⟨lw_p66, List.forall_mem_cons.mpr ⟨lw_p67, fun _ h => absurd h List.not_mem_nil⟩⟩⟩⟩
def lw_privs : List (MethodName × Nat) := lw_privs_1 ++ (lw_privs_2 ++ (lw_privs_3 ++ (lw_privs_4 ++ (lw_privs_5))))
def lw_tbl : List Cond := k2_sels lw_privs ++ tables_1
theorem lw_privs_ok : ∀ q ∈ lw_privs, lw_okq q := by
  show ∀ q ∈ lw_privs_1 ++ (lw_privs_2 ++ (lw_privs_3 ++ (lw_privs_4 ++ (lw_privs_5)))), lw_okq q
  exact List.forall_mem_append.mpr ⟨lw_r1, List.forall_mem_append.mpr ⟨lw_r2, List.forall_mem_append.mpr ⟨lw_r3, List.forall_mem_append.mpr ⟨lw_r4, lw_r5⟩⟩⟩⟩
end
section
/-! THE ABSTRACT MACHINE: values are integers and cell numbers; memory is one function for numbers, one for references; am_wp is what must hold at a place of the code so that it comes to its end. -/
abbrev am_Ref : Type := Option (Nat ⊕ (Nat × Int))
abbrev AV : Type := Int ⊕ (Int ⊕ am_Ref)
abbrev CI : Type := Bool × Nat × Instr × Nat × Int × List Nat
abbrev AMem : Type := (Nat → Int → Int) × (Nat → Int → Option Nat) × Nat
abbrev am_L : Type := List (Option AV)
abbrev vI (z : Int) : AV := .inl z
abbrev vJ (z : Int) : AV := .inr (.inl z)
abbrev vR (a : Nat) : AV := .inr (.inr (some (.inl a)))
abbrev vW (a : Nat) (i : Int) : AV := .inr (.inr (some (.inr (a, i))))
abbrev vN : AV := .inr (.inr none)
abbrev am_in32 (z : Int) : Prop := -2147483648 ≤ z ∧ z ≤ 2147483647
abbrev am_in64 (z : Int) : Prop := -9223372036854775808 ≤ z ∧ z ≤ 9223372036854775807
/-- one number, one reference is changed -/
def am_up (V : Nat → Int → Int) (a : Nat) (k x : Int) : Nat → Int → Int := fun b j => if b = a then (if j = k then x else V b j) else V b j
def am_upR (R : Nat → Int → Option Nat) (a : Nat) (k : Int) (x : Option Nat) : Nat → Int → Option Nat := fun b j => if b = a then (if j = k then x else R b j) else R b j
def am_zero (V : Nat → Int → Int) (a : Nat) : Nat → Int → Int := fun b j => if b = a then 0 else V b j
def am_zeroR (R : Nat → Int → Option Nat) (a : Nat) : Nat → Int → Option Nat := fun b j => if b = a then none else R b j
def am_zeroRn (R : Nat → Int → Option Nat) (a n : Nat) : Nat → Int → Option Nat := fun b j => if a ≤ b ∧ b < a + n then none else R b j
def am_cpy (V : Nat → Int → Int) (a : Nat) (sp : Int) (b : Nat) (dp n : Int) : Nat → Int → Int := fun x j => if x = b then (if dp ≤ j ∧ j < dp + n then V a (sp + (j - dp)) else V x j) else V x j
def am_at : List CI → Nat → List CI
  | [], _ => []
  | q :: l, t => match Nat.beq q.2.1 t with
    | true => q :: l
    | false => am_at l t
def am_go : List CI → List CI
  | [] => []
  | q :: l => (false, q.2) :: l
def am_cats : List AV → Nat
  | [] => 0
  | .inr (.inl _) :: l => 2 + am_cats l
  | _ :: l => 1 + am_cats l
def am_get : am_L → Nat → Option AV
  | [], _ => none
  | v :: _, 0 => v
  | _ :: l, n + 1 => am_get l n
def am_set : am_L → Nat → Option AV → am_L
  | [], _, _ => []
  | _ :: l, 0, x => x :: l
  | v :: l, n + 1, x => v :: am_set l n x
/-- a store: one slot; the second half of a long that stood here dies with it -/
def am_cut : am_L → Nat → am_L
  | l, 0 => l
  | l, n + 1 => match am_get l n with
    | some (.inr (.inl _)) => am_set l n none
    | _ => l
def am_st1 (l : am_L) (i : Nat) (v : AV) : am_L := am_set (am_cut l i) i (some v)
def am_st2 (l : am_L) (i : Nat) (v : AV) : am_L := am_set (am_set (am_cut l i) i (some v)) (i + 1) none
def am_br (c : ClassFile.Cond) (a b : Int) (X Y : Prop) : Prop := match c with
  | .eq => (a = b → X) ∧ (¬ a = b → Y)
  | .ne => (¬ a = b → X) ∧ (a = b → Y)
  | .lt => (a < b → X) ∧ (b ≤ a → Y)
  | .ge => (b ≤ a → X) ∧ (a < b → Y)
  | .gt => (b < a → X) ∧ (a ≤ b → Y)
  | .le => (a ≤ b → X) ∧ (b < a → Y)
def am_ldi (l : am_L) (i : Nat) (k : AV → Prop) : Prop := match am_get l i with
  | some (.inl z) => k (.inl z)
  | _ => False
def am_ldl (l : am_L) (i : Nat) (k : AV → Prop) : Prop := match am_get l i with
  | some (.inr (.inl z)) => k (.inr (.inl z))
  | _ => False
def am_ldr (l : am_L) (i : Nat) (k : AV → Prop) : Prop := match am_get l i with
  | some (.inr (.inr r)) => k (.inr (.inr r))
  | _ => False
def am_pi (st : List AV) (k : Int → List AV → Prop) : Prop := match st with
  | .inl b :: r => k b r
  | _ => False
def am_pl (st : List AV) (k : Int → List AV → Prop) : Prop := match st with
  | .inr (.inl b) :: r => k b r
  | _ => False
def am_pr (st : List AV) (k : am_Ref → List AV → Prop) : Prop := match st with
  | .inr (.inr b) :: r => k b r
  | _ => False
def am_if (b : Bool) (P : Prop) : Prop := match b with
  | true => P
  | false => False
def am_push (r : Option AV) (st : List AV) : List AV := match r with
  | some v => v :: st
  | none => st
def am_nth : List Nat → Nat → Nat
  | [], _ => 0
  | a :: _, 0 => a
  | _ :: l, n + 1 => am_nth l n
def am_nthZ : List Nat → Int → Nat → Nat
  | [], _, d => d
  | a :: l, z, d => match decide (z = 0) with
    | true => a
    | false => am_nthZ l (z - 1) d
abbrev am_V : Type := Nat → Int → Int
abbrev am_T : Type := Nat → Int → Option Nat
/-- what stands at a cell: its kind (0 ints, 1 longs, 2 booleans, 3 a table of longs, 4 of ints, 5 Things, 6 and 7 a row of a table, 10 + c an object of class c), how many places; a table: how wide; a row: of which table, which one -/
def am_layT : List (Nat × Nat × Nat × Nat) := [(0, 0, 0, 0), (0, 11, 0, 0), (0, 11, 0, 0), (14, 18, 0, 0), (3, 8, 40, 0), (6, 40, 4, 0), (6, 40, 4, 1), (6, 40, 4, 2), (6, 40, 4, 3), (6, 40, 4, 4), (6, 40, 4, 5), (6, 40, 4, 6), (6, 40, 4, 7), (0, 8, 0, 0), (0, 8, 0, 0), (5, 10, 0, 0), (11, 2, 0, 0), (4, 11, 11, 0), (7, 11, 17, 0), (7, 11, 17, 1), (7, 11, 17, 2), (7, 11, 17, 3), (7, 11, 17, 4), (7, 11, 17, 5), (7, 11, 17, 6), (7, 11, 17, 7), (7, 11, 17, 8), (7, 11, 17, 9), (7, 11, 17, 10), (0, 10, 0, 0), (0, 10, 0, 0), (0, 16, 0, 0), (3, 8, 9, 0), (6, 9, 32, 0), (6, 9, 32, 1), (6, 9, 32, 2), (6, 9, 32, 3), (6, 9, 32, 4), (6, 9, 32, 5), (6, 9, 32, 6), (6, 9, 32, 7), (0, 8, 0, 0), (1, 9, 0, 0), (1, 9, 0, 0), (3, 5, 5, 0), (6, 5, 44, 0), (6, 5, 44, 1), (6, 5, 44, 2), (6, 5, 44, 3), (6, 5, 44, 4), (3, 11, 6, 0), (6, 6, 50, 0), (6, 6, 50, 1), (6, 6, 50, 2), (6, 6, 50, 3), (6, 6, 50, 4), (6, 6, 50, 5), (6, 6, 50, 6), (6, 6, 50, 7), (6, 6, 50, 8), (6, 6, 50, 9), (6, 6, 50, 10), (1, 14, 0, 0), (10, 3, 0, 0), (12, 2, 0, 0), (3, 9, 9, 0), (6, 9, 65, 0), (6, 9, 65, 1), (6, 9, 65, 2), (6, 9, 65, 3), (6, 9, 65, 4), (6, 9, 65, 5), (6, 9, 65, 6), (6, 9, 65, 7), (6, 9, 65, 8), (12, 2, 0, 0), (3, 9, 9, 0), (6, 9, 76, 0), (6, 9, 76, 1), (6, 9, 76, 2), (6, 9, 76, 3), (6, 9, 76, 4), (6, 9, 76, 5), (6, 9, 76, 6), (6, 9, 76, 7), (6, 9, 76, 8), (15, 24, 0, 0), (0, 8, 0, 0), (0, 8, 0, 0), (1, 320, 0, 0), (0, 10, 0, 0), (0, 10, 0, 0), (0, 100, 0, 0), (0, 30, 0, 0), (0, 10, 0, 0), (0, 16, 0, 0), (0, 11, 0, 0), (2, 20, 0, 0), (0, 8, 0, 0), (1, 72, 0, 0), (1, 27, 0, 0), (1, 9, 0, 0), (1, 9, 0, 0), (1, 25, 0, 0), (1, 66, 0, 0), (1, 14, 0, 0), (1, 14, 0, 0)]
def am_layG : List (Nat × Nat × Nat × Nat) → Nat → Nat × Nat × Nat × Nat
  | [], _ => (9, 0, 0, 0)
  | q :: _, 0 => q
  | _ :: l, n + 1 => am_layG l n
def am_lay (a : Nat) : Nat × Nat × Nat × Nat := match Nat.ble 107 a with
  | true => (match Nat.beq ((a - 107) % 2) 0 with
    | true => (13, 5, 0, 0)
    | false => (0, 10, 0, 0))
  | false => am_layG am_layT a
def am_rsT : List (Nat × Nat × Nat) := [(3, 1, 4), (3, 2, 13), (3, 3, 14), (3, 4, 15), (3, 5, 16), (16, 0, 17), (16, 1, 29), (3, 6, 30), (3, 7, 31), (3, 9, 32), (3, 10, 41), (3, 12, 42), (3, 13, 43), (3, 14, 44), (3, 15, 50), (3, 16, 62), (3, 11, 63), (63, 1, 64), (64, 1, 65), (63, 2, 75), (75, 1, 76), (86, 3, 87), (86, 4, 88), (86, 5, 89), (86, 6, 90), (86, 7, 91), (86, 8, 92), (86, 9, 93), (86, 10, 94), (86, 11, 95), (86, 13, 96), (86, 14, 97), (86, 15, 98), (86, 16, 99), (86, 17, 100), (86, 18, 101), (86, 19, 102), (86, 20, 103), (86, 21, 104), (86, 22, 105), (86, 23, 106)]
def am_rsG : List (Nat × Nat × Nat) → Nat → Nat → Option Nat
  | [], _, _ => none
  | (x, y, b) :: l, a, k => match Nat.beq x a && Nat.beq y k with
    | true => some b
    | false => am_rsG l a k
/-- the references as the constructors leave them; sh: THE SHELF -/
def am_RF (sh : Int → Option Nat) : am_T := fun a k => match Nat.beq a 15 with
  | true => sh k
  | false => (match Nat.ble 107 a with
    | true => (match Nat.beq ((a - 107) % 2) 0 with
      | true => (match k with
        | 2 => some (a + 1)
        | _ => none)
      | false => none)
    | false => am_rsG am_rsT a k.toNat)
/-- a place in an array of ints (longs, booleans): the number, where it lies -/
def am_ix (ka kg : Nat) (V : am_V) (r : am_Ref) (i : Int) (k : Nat → Int → Prop) : Prop := match r with
  | some (.inl a) => (match am_lay a with
    | (kd, n, _, _) => am_if (Nat.beq kd ka) (match Nat.beq a 0 with
      | true => (0 ≤ i ∧ i < V 0 (-1)) ∧ k a i
      | false => (0 ≤ i ∧ i < (n : Int)) ∧ k a i))
  | some (.inr (a, q)) => (match am_lay a with
    | (kd, _, w, _) => am_if (Nat.beq kd kg) ((0 ≤ i ∧ i < (w : Int)) ∧ k a (64 * q + i)))
  | none => False
def am_sw : List Nat → Int → Int → (Nat → Prop) → Nat → Prop
  | [], _, _, k, d => k d
  | t :: l, z, lo, k, d => (z = lo → k t) ∧ (¬ z = lo → am_sw l z (lo + 1) k d)
def am_room (b c : Nat) (cc cs Bc Bs : Nat) (P : Prop) : Prop := match Nat.beq (b + c) 0 with
  | true => P
  | false => (cc + b ≤ Bc ∧ cs + c ≤ Bs) ∧ P
/-- a stretch of an array of longs: up to m -/
def am_seg (r : am_Ref) (m : Int) (k : Nat → Int → Prop) : Prop := match r with
  | some (.inl a) => (match am_lay a with
    | (kd, n, _, _) => am_if (Nat.beq kd 1) (m ≤ (n : Int) ∧ k a 0))
  | some (.inr (a, q)) => (match am_lay a with
    | (kd, _, w, _) => am_if (Nat.beq kd 3) (m ≤ (w : Int) ∧ k a (64 * q)))
  | none => False
/-- the kind that a field of a class holds -/
def am_fits (c k kd : Nat) : Bool := match c with
  | 0 => Nat.beq kd 12
  | 1 => (match k with
    | 0 => Nat.beq kd 4
    | _ => Nat.beq kd 0)
  | 2 => Nat.beq kd 3
  | 3 => Nat.beq kd 0
  | 4 => (match k with
    | 1 => Nat.beq kd 3
    | 4 => Nat.beq kd 5
    | 5 => Nat.beq kd 11
    | 9 => Nat.beq kd 3
    | 11 => Nat.beq kd 10
    | 12 => Nat.beq kd 1
    | 13 => Nat.beq kd 1
    | 14 => Nat.beq kd 3
    | 15 => Nat.beq kd 3
    | 16 => Nat.beq kd 1
    | _ => Nat.beq kd 0)
  | _ => (match k with
    | 5 => Nat.beq kd 1
    | 14 => Nat.beq kd 2
    | 16 => Nat.beq kd 1
    | 17 => Nat.beq kd 1
    | 18 => Nat.beq kd 1
    | 19 => Nat.beq kd 1
    | 20 => Nat.beq kd 1
    | 21 => Nat.beq kd 1
    | 22 => Nat.beq kd 1
    | 23 => Nat.beq kd 1
    | _ => Nat.beq kd 0)
def am_isr (c : Nat) (st : List AV) : Bool := match st with
  | .inr (.inr (some (.inl a))) :: _ => Nat.beq (am_lay a).1 (10 + c)
  | _ => false
/-- what must hold so that the code comes to an end with Qr, or to a loop's head with Qc; K: what calls do -/
def am_wp (C : List CI) (rb : Bool) (Bc Bs : Nat) (K : Nat → List AV → am_V → am_T → Nat → (Option AV → am_V → am_T → Nat → Prop) → Prop) (Qc : Nat → am_L → List AV → am_V → am_T → Nat → Nat → Nat → Prop) (Qr : Option AV → am_V → am_T → Nat → Prop) : Nat → List CI → am_L → List AV → am_V → am_T → Nat → Nat → Nat → Prop
  | 0, _, _, _, _, _, _, _, _ => False
  | _ + 1, [], _, _, _, _, _, _, _ => False
  | _ + 1, (true, pc, _) :: _, ls, st, V, R, T, cc, cs => Qc pc ls st V R T cc cs
  | n0 + 1, (false, _, ins, _, z, aux) :: cd, ls, st, V, R, T, cc, cs => match ins with
    | .iload_n i => am_ldi ls i.val (fun v => am_wp C rb Bc Bs K Qc Qr n0 cd ls (v :: st) V R T cc cs)
    | .iload i => am_ldi ls i (fun v => am_wp C rb Bc Bs K Qc Qr n0 cd ls (v :: st) V R T cc cs)
    | .lload_n i => am_ldl ls i.val (fun v => am_wp C rb Bc Bs K Qc Qr n0 cd ls (v :: st) V R T cc cs)
    | .lload i => am_ldl ls i (fun v => am_wp C rb Bc Bs K Qc Qr n0 cd ls (v :: st) V R T cc cs)
    | .aload_n i => am_ldr ls i.val (fun v => am_wp C rb Bc Bs K Qc Qr n0 cd ls (v :: st) V R T cc cs)
    | .aload i => am_ldr ls i (fun v => am_wp C rb Bc Bs K Qc Qr n0 cd ls (v :: st) V R T cc cs)
    | .istore_n i => am_pi st (fun b r => am_wp C rb Bc Bs K Qc Qr n0 cd (am_st1 ls i.val (.inl b)) r V R T cc cs)
    | .istore i => am_pi st (fun b r => am_wp C rb Bc Bs K Qc Qr n0 cd (am_st1 ls i (.inl b)) r V R T cc cs)
    | .lstore_n i => am_pl st (fun b r => am_wp C rb Bc Bs K Qc Qr n0 cd (am_st2 ls i.val (.inr (.inl b))) r V R T cc cs)
    | .lstore i => am_pl st (fun b r => am_wp C rb Bc Bs K Qc Qr n0 cd (am_st2 ls i (.inr (.inl b))) r V R T cc cs)
    | .astore_n i => am_pr st (fun b r => am_wp C rb Bc Bs K Qc Qr n0 cd (am_st1 ls i.val (.inr (.inr b))) r V R T cc cs)
    | .astore i => am_pr st (fun b r => am_wp C rb Bc Bs K Qc Qr n0 cd (am_st1 ls i (.inr (.inr b))) r V R T cc cs)
    | .iinc i x => am_ldi ls i (fun v => am_pi [v] (fun b _ => am_wp C rb Bc Bs K Qc Qr n0 cd (am_st1 ls i (.inl (b + x))) st V R T cc cs))
    | .iconst x => am_wp C rb Bc Bs K Qc Qr n0 cd ls (.inl x :: st) V R T cc cs
    | .bipush x => am_wp C rb Bc Bs K Qc Qr n0 cd ls (.inl x :: st) V R T cc cs
    | .sipush x => am_wp C rb Bc Bs K Qc Qr n0 cd ls (.inl x :: st) V R T cc cs
    | .lconst _ => am_wp C rb Bc Bs K Qc Qr n0 cd ls (.inr (.inl z) :: st) V R T cc cs
    | .ldc _ => am_wp C rb Bc Bs K Qc Qr n0 cd ls (.inl z :: st) V R T cc cs
    | .ldc_w _ => am_wp C rb Bc Bs K Qc Qr n0 cd ls (.inl z :: st) V R T cc cs
    | .ldc2_w _ => am_wp C rb Bc Bs K Qc Qr n0 cd ls (.inr (.inl z) :: st) V R T cc cs
    | .aconst_null => am_wp C rb Bc Bs K Qc Qr n0 cd ls (.inr (.inr none) :: st) V R T cc cs
    | .iadd => am_pi st (fun b r => am_pi r (fun a r => am_wp C rb Bc Bs K Qc Qr n0 cd ls (.inl (a + b) :: r) V R T cc cs))
    | .isub => am_pi st (fun b r => am_pi r (fun a r => am_wp C rb Bc Bs K Qc Qr n0 cd ls (.inl (a - b) :: r) V R T cc cs))
    | .imul => am_pi st (fun b r => am_pi r (fun a r => am_wp C rb Bc Bs K Qc Qr n0 cd ls (.inl (a * b) :: r) V R T cc cs))
    | .ineg => am_pi st (fun b r => am_wp C rb Bc Bs K Qc Qr n0 cd ls (.inl (-b) :: r) V R T cc cs)
    | .idiv => am_pi st (fun b r => am_pi r (fun a r => ((0 ≤ a ∧ a ≤ 2147483647) ∧ (0 < b ∧ b ≤ 2147483647)) ∧ am_wp C rb Bc Bs K Qc Qr n0 cd ls (.inl (a / b) :: r) V R T cc cs))
    | .irem => am_pi st (fun b r => am_pi r (fun a r => ((0 ≤ a ∧ a ≤ 2147483647) ∧ (0 < b ∧ b ≤ 2147483647)) ∧ am_wp C rb Bc Bs K Qc Qr n0 cd ls (.inl (a % b) :: r) V R T cc cs))
    | .iand => am_pi st (fun b r => am_pi r (fun a r => b = 31 ∧ am_wp C rb Bc Bs K Qc Qr n0 cd ls (.inl (a % 32) :: r) V R T cc cs))
    | .i2l => am_pi st (fun a r => am_in32 a ∧ am_wp C rb Bc Bs K Qc Qr n0 cd ls (.inr (.inl a) :: r) V R T cc cs)
    | .i2b => am_pi st (fun a r => am_wp C rb Bc Bs K Qc Qr n0 cd ls (.inl (Int.bmod a 256) :: r) V R T cc cs)
    | .l2i => am_pl st (fun a r => am_wp C rb Bc Bs K Qc Qr n0 cd ls (.inl (Int.bmod a 4294967296) :: r) V R T cc cs)
    | .ladd => am_pl st (fun b r => am_pl r (fun a r => am_wp C rb Bc Bs K Qc Qr n0 cd ls (.inr (.inl (a + b)) :: r) V R T cc cs))
    | .lsub => am_pl st (fun b r => am_pl r (fun a r => am_wp C rb Bc Bs K Qc Qr n0 cd ls (.inr (.inl (a - b)) :: r) V R T cc cs))
    | .lmul => am_pl st (fun b r => am_pl r (fun a r => am_wp C rb Bc Bs K Qc Qr n0 cd ls (.inr (.inl (a * b)) :: r) V R T cc cs))
    | .ldiv => am_pl st (fun b r => am_pl r (fun a r => ((0 ≤ a ∧ a ≤ 9223372036854775807) ∧ (0 < b ∧ b ≤ 9223372036854775807)) ∧ am_wp C rb Bc Bs K Qc Qr n0 cd ls (.inr (.inl (a / b)) :: r) V R T cc cs))
    | .lrem => am_pl st (fun b r => am_pl r (fun a r => (am_in64 a ∧ (0 < b ∧ b ≤ 9223372036854775807)) ∧ am_wp C rb Bc Bs K Qc Qr n0 cd ls (.inr (.inl (Int.tmod a b)) :: r) V R T cc cs))
    | .land => am_pl st (fun b r => am_pl r (fun a r => b = 4294967295 ∧ am_wp C rb Bc Bs K Qc Qr n0 cd ls (.inr (.inl (a % 4294967296)) :: r) V R T cc cs))
    | .lor => am_pl st (fun b r => am_pl r (fun a r => (a % 4294967296 = 0 ∧ (0 ≤ b ∧ b < 4294967296)) ∧ am_wp C rb Bc Bs K Qc Qr n0 cd ls (.inr (.inl (a + b)) :: r) V R T cc cs))
    | .lxor => am_pl st (fun b r => am_pl r (fun a r => (am_in64 a ∧ am_in64 b) ∧ (∀ x : Int, am_in64 x → (x < 0 ↔ ((a < 0 ∧ 0 ≤ b) ∨ (0 ≤ a ∧ b < 0))) → am_wp C rb Bc Bs K Qc Qr n0 cd ls (.inr (.inl x) :: r) V R T cc cs)))
    | .lshl => am_pi st (fun b r => am_pl r (fun a r => b = 32 ∧ am_wp C rb Bc Bs K Qc Qr n0 cd ls (.inr (.inl (a * 4294967296)) :: r) V R T cc cs))
    | .dup => (match st with
      | .inr (.inl _) :: _ => False
      | v :: r => am_wp C rb Bc Bs K Qc Qr n0 cd ls (v :: v :: r) V R T cc cs
      | [] => False)
    | .dup2 => (match st with
      | .inl b :: .inr (.inr a) :: r => am_wp C rb Bc Bs K Qc Qr n0 cd ls (.inl b :: .inr (.inr a) :: .inl b :: .inr (.inr a) :: r) V R T cc cs
      | _ => False)
    | .pop => (match st with
      | .inr (.inl _) :: _ => False
      | _ :: r => am_wp C rb Bc Bs K Qc Qr n0 cd ls r V R T cc cs
      | [] => False)
    | .goto _ => am_wp C rb Bc Bs K Qc Qr n0 (am_at C (am_nth aux 0)) ls st V R T cc cs
    | .if_icmp c _ => am_pi st (fun b r => am_pi r (fun a r => (am_in32 a ∧ am_in32 b) ∧ am_br c a b (am_wp C rb Bc Bs K Qc Qr n0 (am_at C (am_nth aux 0)) ls r V R T cc cs) (am_wp C rb Bc Bs K Qc Qr n0 cd ls r V R T cc cs)))
    | .ifCond c _ => am_pi st (fun a r => am_in32 a ∧ am_br c a 0 (am_wp C rb Bc Bs K Qc Qr n0 (am_at C (am_nth aux 0)) ls r V R T cc cs) (am_wp C rb Bc Bs K Qc Qr n0 cd ls r V R T cc cs))
    | .ifnull _ => am_pr st (fun b r => (b = none → am_wp C rb Bc Bs K Qc Qr n0 (am_at C (am_nth aux 0)) ls r V R T cc cs) ∧ (∀ x, b = some x → am_wp C rb Bc Bs K Qc Qr n0 cd ls r V R T cc cs))
    | .ifnonnull _ => am_pr st (fun b r => (∀ x, b = some x → am_wp C rb Bc Bs K Qc Qr n0 (am_at C (am_nth aux 0)) ls r V R T cc cs) ∧ (b = none → am_wp C rb Bc Bs K Qc Qr n0 cd ls r V R T cc cs))
    | .lcmp => (match cd with
      | (_, _, .ifCond c _, _, _, aux2) :: cd2 => am_pl st (fun b r => am_pl r (fun a r => (am_in64 a ∧ am_in64 b) ∧ am_br c a b (am_wp C rb Bc Bs K Qc Qr n0 (am_at C (am_nth aux2 0)) ls r V R T cc cs) (am_wp C rb Bc Bs K Qc Qr n0 cd2 ls r V R T cc cs)))
      | _ => False)
    | .tableswitch _ _ _ _ => am_pi st (fun a r => am_in32 a ∧ am_sw (aux.drop 1) a z (fun t => am_wp C rb Bc Bs K Qc Qr n0 (am_at C t) ls r V R T cc cs) (am_nth aux 0))
    | .getfield _ => am_pr st (fun b r => (match b with
      | some (.inl o) => am_if (Nat.beq (am_lay o).1 (10 + am_nth aux 2)) (match am_nth aux 1 with
        | 0 => am_wp C rb Bc Bs K Qc Qr n0 cd ls (.inl (V o z) :: r) V R T cc cs
        | 1 => am_wp C rb Bc Bs K Qc Qr n0 cd ls (.inr (.inl (V o z)) :: r) V R T cc cs
        | 2 => am_wp C rb Bc Bs K Qc Qr n0 cd ls (.inl (V o z) :: r) V R T cc cs
        | _ => (match R o z with
          | some q => am_wp C rb Bc Bs K Qc Qr n0 cd ls (.inr (.inr (some (.inl q))) :: r) V R T cc cs
          | none => False))
      | _ => False))
    | .putfield _ => (match am_nth aux 1 with
      | 0 => am_pi st (fun x r => am_pr r (fun b r => (match b with
        | some (.inl o) => am_if (Nat.beq (am_lay o).1 (10 + am_nth aux 2)) (am_wp C rb Bc Bs K Qc Qr n0 cd ls r (am_up V o z x) R T cc cs)
        | _ => False)))
      | 1 => am_pl st (fun x r => am_pr r (fun b r => (match b with
        | some (.inl o) => am_if (Nat.beq (am_lay o).1 (10 + am_nth aux 2)) (am_wp C rb Bc Bs K Qc Qr n0 cd ls r (am_up V o z x) R T cc cs)
        | _ => False)))
      | 2 => am_pi st (fun x r => am_pr r (fun b r => (match b with
        | some (.inl o) => am_if (Nat.beq (am_lay o).1 (10 + am_nth aux 2)) ((x = 0 ∨ x = 1) ∧ am_wp C rb Bc Bs K Qc Qr n0 cd ls r (am_up V o z x) R T cc cs)
        | _ => False)))
      | _ => am_pr st (fun x r => am_pr r (fun b r => (match b, x with
        | some (.inl o), some (.inl q) => am_if (Nat.beq (am_lay o).1 (10 + am_nth aux 2)) (am_if (am_fits (am_nth aux 2) (am_nth aux 0) (am_lay q).1) (am_wp C rb Bc Bs K Qc Qr n0 cd ls r V (am_upR R o z (some q)) T cc cs))
        | _, _ => False))))
    | .getstatic _ => (match aux with
      | a :: _ => am_wp C rb Bc Bs K Qc Qr n0 cd ls (.inr (.inr (some (.inl a))) :: st) V R T cc cs
      | [] => False)
    | .iaload => am_pi st (fun i r => am_pr r (fun b r => am_ix 0 4 V b i (fun a j => am_wp C rb Bc Bs K Qc Qr n0 cd ls (.inl (V a j) :: r) V R T cc cs)))
    | .laload => am_pi st (fun i r => am_pr r (fun b r => am_ix 1 3 V b i (fun a j => am_wp C rb Bc Bs K Qc Qr n0 cd ls (.inr (.inl (V a j)) :: r) V R T cc cs)))
    | .baload => am_pi st (fun i r => am_pr r (fun b r => am_ix 2 99 V b i (fun a j => am_wp C rb Bc Bs K Qc Qr n0 cd ls (.inl (V a j) :: r) V R T cc cs)))
    | .iastore => am_pi st (fun x r => am_pi r (fun i r => am_pr r (fun b r => am_ix 0 4 V b i (fun a j => am_if (Nat.ble 3 a) (am_wp C rb Bc Bs K Qc Qr n0 cd ls r (am_up V a j x) R T cc cs)))))
    | .lastore => am_pl st (fun x r => am_pi r (fun i r => am_pr r (fun b r => am_ix 1 3 V b i (fun a j => am_wp C rb Bc Bs K Qc Qr n0 cd ls r (am_up V a j x) R T cc cs))))
    | .bastore => am_pi st (fun x r => am_pi r (fun i r => am_pr r (fun b r => am_ix 2 99 V b i (fun a j => (x = 0 ∨ x = 1) ∧ am_wp C rb Bc Bs K Qc Qr n0 cd ls r (am_up V a j x) R T cc cs))))
    | .aaload => am_pi st (fun i r => am_pr r (fun b r => (match b with
      | some (.inl a) => (match am_lay a with
        | (3, n, _, _) => (0 ≤ i ∧ i < (n : Int)) ∧ am_wp C rb Bc Bs K Qc Qr n0 cd ls (.inr (.inr (some (.inr (a, i)))) :: r) V R T cc cs
        | (4, n, _, _) => (0 ≤ i ∧ i < (n : Int)) ∧ am_wp C rb Bc Bs K Qc Qr n0 cd ls (.inr (.inr (some (.inr (a, i)))) :: r) V R T cc cs
        | (5, n, _, _) => (0 ≤ i ∧ i < (n : Int)) ∧ (R a i = none → am_wp C rb Bc Bs K Qc Qr n0 cd ls (.inr (.inr none) :: r) V R T cc cs) ∧ (∀ x, R a i = some x → am_wp C rb Bc Bs K Qc Qr n0 cd ls (.inr (.inr (some (.inl x))) :: r) V R T cc cs)
        | _ => False)
      | _ => False)))
    | .aastore => am_pr st (fun x r => am_pi r (fun i r => am_pr r (fun b r => (match b with
      | some (.inl a) => (match am_lay a with
      | (kd, n, _, _) => am_if (Nat.beq kd 5) ((0 ≤ i ∧ i < (n : Int)) ∧ (match x with
        | none => am_wp C rb Bc Bs K Qc Qr n0 cd ls r V (am_upR R a i none) T cc cs
        | some (.inl q) => am_if (Nat.beq (am_lay q).1 13) (am_wp C rb Bc Bs K Qc Qr n0 cd ls r V (am_upR R a i (some q)) T cc cs)
        | _ => False)))
      | _ => False))))
    | .arraylength => am_pr st (fun b r => (match b with
      | some (.inl a) => (match am_lay a with
        | (kd, n, _, _) => am_if (Nat.ble kd 5) (match Nat.beq a 0 with
          | true => am_wp C rb Bc Bs K Qc Qr n0 cd ls (.inl (V 0 (-1)) :: r) V R T cc cs
          | false => am_wp C rb Bc Bs K Qc Qr n0 cd ls (.inl (n : Int) :: r) V R T cc cs))
      | some (.inr (a, _)) => (match am_lay a with
        | (_, _, w, _) => am_wp C rb Bc Bs K Qc Qr n0 cd ls (.inl (w : Int) :: r) V R T cc cs)
      | none => False))
    | .new _ => (match am_lay T with
      | (kd, m, _, _) => am_if (Nat.beq kd (10 + am_nth aux 0)) ((cc + 1 ≤ Bc ∧ cs + m ≤ Bs) ∧ am_wp C rb Bc Bs K Qc Qr n0 cd ls (.inr (.inr (some (.inl T))) :: st) (am_zero V T) (am_zeroR R T) (T + 1) (cc + 1) (cs + m)))
    | .newarray _ => am_pi st (fun i r => (match am_lay T with
      | (kd, m, _, _) => am_if (Nat.beq kd (am_nth aux 0) && decide (i = (m : Int))) ((cc + 1 ≤ Bc ∧ cs + m ≤ Bs) ∧ am_wp C rb Bc Bs K Qc Qr n0 cd ls (.inr (.inr (some (.inl T))) :: r) (am_zero V T) (am_zeroR R T) (T + 1) (cc + 1) (cs + m))))
    | .anewarray _ => am_pi st (fun i r => (match am_lay T with
      | (kd, m, _, _) => am_if (Nat.beq kd 5 && decide (i = (m : Int))) ((cc + 1 ≤ Bc ∧ cs + m ≤ Bs) ∧ am_wp C rb Bc Bs K Qc Qr n0 cd ls (.inr (.inr (some (.inl T))) :: r) V (am_zeroR R T) (T + 1) (cc + 1) (cs + m))))
    | .multianewarray _ _ => am_pi st (fun w r => am_pi r (fun i r => (match am_lay T with
      | (kd, m, y, _) => am_if (Nat.beq kd (4 - am_nth aux 0) && (decide (i = (m : Int)) && decide (w = (y : Int)))) ((cc + (1 + m) ≤ Bc ∧ cs + (m + m * y) ≤ Bs) ∧ am_wp C rb Bc Bs K Qc Qr n0 cd ls (.inr (.inr (some (.inl T))) :: r) (am_zero V T) (am_zeroRn R T (1 + m)) (T + (1 + m)) (cc + (1 + m)) (cs + (m + m * y))))))
    | .invokevirtual _ => am_if (am_isr (am_nth aux 10) (st.drop (am_nth aux 1 - 1))) (am_if (Nat.ble (am_cats (st.drop (am_nth aux 1))) 8) (am_room (am_nth aux 3) (am_nth aux 4) cc cs Bc Bs (K (am_nth aux 0) (st.take (am_nth aux 1)).reverse V R T (fun q V R T => am_wp C rb Bc Bs K Qc Qr n0 cd ls (am_push q (st.drop (am_nth aux 1))) V R T (cc + am_nth aux 3) (cs + am_nth aux 4)))))
    | .invokestatic _ => (match Nat.beq (am_nth aux 0) 1000 with
      | true => (match st with
        | .inl m :: .inl dp :: .inr (.inr b) :: .inl sp :: .inr (.inr a) :: r => (am_if (Nat.ble (am_cats r) 8) ((0 ≤ sp ∧ 0 ≤ dp ∧ 0 ≤ m) ∧ am_seg a (sp + m) (fun p o => am_seg b (dp + m) (fun q o2 => am_wp C rb Bc Bs K Qc Qr n0 cd ls r (am_cpy V p (o + sp) q (o2 + dp) m) R T cc cs))))
        | _ => False)
      | false => (match Nat.ble 1002 (am_nth aux 0) with
        | true => (match Nat.beq (am_nth aux 0) 1002 with
          | true => (match st with
            | .inl b :: .inl a :: r => am_if (Nat.ble (am_cats r) 8) ((am_in32 a ∧ am_in32 b) ∧ (a < b → am_wp C rb Bc Bs K Qc Qr n0 cd ls (.inl b :: r) V R T cc cs) ∧ (b ≤ a → am_wp C rb Bc Bs K Qc Qr n0 cd ls (.inl a :: r) V R T cc cs))
            | _ => False)
          | false => (match Nat.beq (am_nth aux 0) 1003 with
            | true => (match st with
              | .inl b :: .inl a :: r => am_if (Nat.ble (am_cats r) 8) ((am_in32 a ∧ am_in32 b) ∧ (a ≤ b → am_wp C rb Bc Bs K Qc Qr n0 cd ls (.inl a :: r) V R T cc cs) ∧ (b < a → am_wp C rb Bc Bs K Qc Qr n0 cd ls (.inl b :: r) V R T cc cs))
              | _ => False)
            | false => (match st with
              | .inr (.inl b) :: .inr (.inl a) :: r => am_if (Nat.ble (am_cats r) 8) ((am_in64 a ∧ (0 < b ∧ b ≤ 9223372036854775807)) ∧ am_wp C rb Bc Bs K Qc Qr n0 cd ls (.inr (.inl (a % b)) :: r) V R T cc cs)
              | _ => False)))
        | false => am_if (Nat.ble (am_nth aux 1) st.length) (am_if (Nat.ble (am_cats (st.drop (am_nth aux 1))) 8) (am_room (am_nth aux 3) (am_nth aux 4) cc cs Bc Bs (K (am_nth aux 0) (st.take (am_nth aux 1)).reverse V R T (fun q V R T => am_wp C rb Bc Bs K Qc Qr n0 cd ls (am_push q (st.drop (am_nth aux 1))) V R T (cc + am_nth aux 3) (cs + am_nth aux 4)))))))
    | .invokespecial _ => (match Nat.beq (am_nth aux 0) 1001 with
      | true => (match st with
        | .inr (.inr (some (.inl _))) :: r => am_if (Nat.ble (am_cats r) 8) (am_wp C rb Bc Bs K Qc Qr n0 cd ls r V R T cc cs)
        | _ => False)
      | false => am_if (am_isr (am_nth aux 10) (st.drop (am_nth aux 1 - 1))) (am_if (Nat.ble (am_cats (st.drop (am_nth aux 1))) 8) (am_room (am_nth aux 3) (am_nth aux 4) cc cs Bc Bs (K (am_nth aux 0) (st.take (am_nth aux 1)).reverse V R T (fun q V R T => am_wp C rb Bc Bs K Qc Qr n0 cd ls (am_push q (st.drop (am_nth aux 1))) V R T (cc + am_nth aux 3) (cs + am_nth aux 4))))))
    | .ireturn => (match st with
      | [.inl a] => (match rb with
        | true => (a = 0 ∨ a = 1) ∧ Qr (some (.inl a)) V R T
        | false => Qr (some (.inl a)) V R T)
      | _ => False)
    | .lreturn => (match st with
      | [.inr (.inl a)] => Qr (some (.inr (.inl a))) V R T
      | _ => False)
    | .areturn => (match st with
      | [.inr (.inr (some (.inl o)))] => am_if (Nat.beq (am_lay o).1 13) (Qr (some (.inr (.inr (some (.inl o))))) V R T)
      | _ => False)
    | .return_ => (match st with
      | [] => Qr none V R T
      | _ => False)
    | _ => False
end
section
def cd_F_init : List CI := [(false, 0, .aload_n 0, 1, 0, []),
  (false, 1, .invokespecial 1, 3, 0, [1001, 1, 3, 0, 0, 83, 84, 85]),
  (false, 4, .aload_n 0, 1, 0, []),
  (false, 5, .bipush 8, 2, 0, []),
  (false, 7, .bipush 40, 2, 0, []),
  (false, 9, .multianewarray 9 2, 4, 0, [1, 86, 108]),
  (false, 13, .putfield 11, 3, 1, [1, 3, 4, 151]),
  (false, 16, .aload_n 0, 1, 0, []),
  (false, 17, .bipush 8, 2, 0, []),
  (false, 19, .newarray .int, 2, 0, [0, 109]),
  (false, 21, .putfield 14, 3, 2, [2, 3, 4, 152]),
  (false, 24, .aload_n 0, 1, 0, []),
  (false, 25, .bipush 8, 2, 0, []),
  (false, 27, .newarray .int, 2, 0, [0, 109]),
  (false, 29, .putfield 18, 3, 3, [3, 3, 4, 153]),
  (false, 32, .aload_n 0, 1, 0, []),
  (false, 33, .bipush 10, 2, 0, []),
  (false, 35, .anewarray 21, 3, 0, [88]),
  (false, 38, .putfield 23, 3, 4, [4, 3, 4, 154]),
  (false, 41, .aload_n 0, 1, 0, []),
  (false, 42, .new 27, 3, 0, [1, 90, 91, 70]),
  (false, 45, .dup, 1, 0, []),
  (false, 46, .invokespecial 29, 3, 0, [145, 1, 3, 13, 142, 92, 93, 0, 94, 70, 1]),
  (false, 49, .putfield 30, 3, 5, [5, 3, 4, 155]),
  (false, 52, .aload_n 0, 1, 0, []),
  (false, 53, .bipush 10, 2, 0, []),
  (false, 55, .newarray .int, 2, 0, [0, 109]),
  (false, 57, .putfield 34, 3, 6, [6, 3, 4, 156]),
  (false, 60, .aload_n 0, 1, 0, []),
  (false, 61, .bipush 16, 2, 0, []),
  (false, 63, .newarray .int, 2, 0, [0, 109]),
  (false, 65, .putfield 37, 3, 7, [7, 3, 4, 157]),
  (false, 68, .aload_n 0, 1, 0, []),
  (false, 69, .iconst 0, 1, 0, []),
  (false, 70, .putfield 40, 3, 8, [8, 0, 4, 158]),
  (false, 73, .aload_n 0, 1, 0, []),
  (false, 74, .bipush 8, 2, 0, []),
  (false, 76, .bipush 9, 2, 0, []),
  (false, 78, .multianewarray 9 2, 4, 0, [1, 86, 108]),
  (false, 82, .putfield 44, 3, 9, [9, 3, 4, 159]),
  (false, 85, .aload_n 0, 1, 0, []),
  (false, 86, .bipush 8, 2, 0, []),
  (false, 88, .newarray .int, 2, 0, [0, 109]),
  (false, 90, .putfield 47, 3, 10, [10, 3, 4, 160]),
  (false, 93, .aload_n 0, 1, 0, []),
  (false, 94, .bipush 9, 2, 0, []),
  (false, 96, .newarray .long, 2, 0, [1, 108]),
  (false, 98, .putfield 50, 3, 12, [12, 3, 4, 162]),
  (false, 101, .aload_n 0, 1, 0, []),
  (false, 102, .bipush 9, 2, 0, []),
  (false, 104, .newarray .long, 2, 0, [1, 108]),
  (false, 106, .putfield 54, 3, 13, [13, 3, 4, 163]),
  (false, 109, .aload_n 0, 1, 0, []),
  (false, 110, .iconst 5, 1, 0, []),
  (false, 111, .iconst 5, 1, 0, []),
  (false, 112, .multianewarray 9 2, 4, 0, [1, 86, 108]),
  (false, 116, .putfield 57, 3, 14, [14, 3, 4, 164]),
  (false, 119, .aload_n 0, 1, 0, []),
  (false, 120, .bipush 11, 2, 0, []),
  (false, 122, .bipush 6, 2, 0, []),
  (false, 124, .multianewarray 9 2, 4, 0, [1, 86, 108]),
  (false, 128, .putfield 60, 3, 15, [15, 3, 4, 165]),
  (false, 131, .aload_n 0, 1, 0, []),
  (false, 132, .bipush 14, 2, 0, []),
  (false, 134, .newarray .long, 2, 0, [1, 108]),
  (false, 136, .putfield 63, 3, 16, [16, 3, 4, 166]),
  (false, 139, .aload_n 0, 1, 0, []),
  (false, 140, .iconst 0, 1, 0, []),
  (false, 141, .putfield 66, 3, 17, [17, 0, 4, 167]),
  (false, 144, .iload_n 1, 1, 0, []),
  (false, 145, .bipush 101, 2, 0, []),
  (false, 147, .if_icmp .lt 20, 3, 0, [167]),
  (false, 150, .iload_n 1, 1, 0, []),
  (false, 151, .ldc 69, 2, 2000000000, [110]),
  (false, 153, .if_icmp .gt 14, 3, 0, [167]),
  (false, 156, .iload_n 1, 1, 0, []),
  (false, 157, .invokestatic 70, 3, 0, [59, 1, 0, 0, 0, 111, 112, 0, 113, 69, 4]),
  (false, 160, .ifCond .eq 7, 3, 0, [167]),
  (false, 163, .iconst 1, 1, 0, []),
  (false, 164, .goto 4, 3, 0, [168]),
  (false, 167, .iconst 0, 1, 0, []),
  (false, 168, .istore_n 2, 1, 0, []),
  (false, 169, .aload_n 0, 1, 0, []),
  (false, 170, .iload_n 2, 1, 0, []),
  (false, 171, .ifCond .eq 8, 3, 0, [179]),
  (false, 174, .iload_n 1, 1, 0, []),
  (false, 175, .i2l, 1, 0, []),
  (false, 176, .goto 6, 3, 0, [182]),
  (false, 179, .ldc2_w 74, 3, 998244353, [114]),
  (false, 182, .putfield 76, 3, 0, [0, 1, 4, 150]),
  (false, 185, .aload_n 0, 1, 0, []),
  (false, 186, .new 80, 3, 0, [0, 115, 116, 72]),
  (false, 189, .dup, 1, 0, []),
  (false, 190, .aload_n 0, 1, 0, []),
  (false, 191, .getfield 76, 3, 0, [0, 1, 4, 150]),
  (false, 194, .invokespecial 82, 3, 0, [139, 2, 3, 22, 184, 117, 118, 0, 119, 72, 0]),
  (false, 197, .putfield 85, 3, 11, [11, 3, 4, 161]),
  (false, 200, .aload_n 0, 1, 0, []),
  (false, 201, .getfield 18, 3, 3, [3, 3, 4, 153]),
  (false, 204, .iconst (-1), 1, 0, []),
  (false, 205, .invokestatic 89, 3, 0, [169, 2, 3, 0, 0, 145, 99, 0, 100, 71, 0]),
  (false, 208, .aload_n 0, 1, 0, []),
  (false, 209, .getfield 47, 3, 10, [10, 3, 4, 160]),
  (false, 212, .iconst 1, 1, 0, []),
  (false, 213, .invokestatic 89, 3, 0, [169, 2, 3, 0, 0, 145, 99, 0, 100, 71, 0]),
  (false, 216, .iconst 0, 1, 0, []),
  (false, 217, .istore_n 3, 1, 0, []),
  (true, 218, .iload_n 3, 1, 0, []),
  (false, 219, .bipush 8, 2, 0, []),
  (false, 221, .if_icmp .ge 18, 3, 0, [239]),
  (false, 224, .aload_n 0, 1, 0, []),
  (false, 225, .getfield 44, 3, 9, [9, 3, 4, 159]),
  (false, 228, .iload_n 3, 1, 0, []),
  (false, 229, .aaload, 1, 0, []),
  (false, 230, .iconst 0, 1, 0, []),
  (false, 231, .lconst 1, 1, 1, []),
  (false, 232, .lastore, 1, 0, []),
  (false, 233, .iinc 3 1, 3, 0, []),
  (false, 236, .goto (-18), 3, 0, [218]),
  (false, 239, .aload_n 0, 1, 0, []),
  (false, 240, .getfield 60, 3, 15, [15, 3, 4, 165]),
  (false, 243, .invokestatic 95, 3, 0, [65, 1, 3, 0, 0, 146, 147, 0, 148, 69, 4]),
  (false, 246, .return_, 1, 0, [])]
def cd_F_sheet : List CI := [(false, 0, .iload_n 1, 1, 0, []),
  (false, 1, .invokestatic 99, 3, 0, [30, 1, 0, 0, 0, 209, 210, 0, 211, 69, 4]),
  (false, 4, .ifCond .ne 18, 3, 0, [22]),
  (false, 7, .iload_n 2, 1, 0, []),
  (false, 8, .ifCond .lt 14, 3, 0, [22]),
  (false, 11, .iload_n 2, 1, 0, []),
  (false, 12, .iconst 2, 1, 0, []),
  (false, 13, .if_icmp .gt 9, 3, 0, [22]),
  (false, 16, .iload_n 3, 1, 0, []),
  (false, 17, .bipush 40, 2, 0, []),
  (false, 19, .if_icmp .le 6, 3, 0, [25]),
  (false, 22, .ldc 102, 2, (-1000001), [212]),
  (false, 24, .ireturn, 1, 0, []),
  (false, 25, .iload_n 3, 1, 0, []),
  (false, 26, .ifCond .ge 9, 3, 0, [35]),
  (false, 29, .aload_n 0, 1, 0, []),
  (false, 30, .iconst 4, 1, 0, []),
  (false, 31, .invokevirtual 103, 3, 0, [36, 2, 0, 0, 0, 213, 215, 0, 216, 69, 4]),
  (false, 34, .ireturn, 1, 0, []),
  (false, 35, .aload_n 0, 1, 0, []),
  (false, 36, .getfield 14, 3, 2, [2, 3, 4, 152]),
  (false, 39, .iload_n 1, 1, 0, []),
  (false, 40, .iload_n 2, 1, 0, []),
  (false, 41, .iastore, 1, 0, []),
  (false, 42, .aload_n 0, 1, 0, []),
  (false, 43, .getfield 18, 3, 3, [3, 3, 4, 153]),
  (false, 46, .iload_n 1, 1, 0, []),
  (false, 47, .iload_n 3, 1, 0, []),
  (false, 48, .iastore, 1, 0, []),
  (false, 49, .aload_n 0, 1, 0, []),
  (false, 50, .getfield 11, 3, 1, [1, 3, 4, 151]),
  (false, 53, .iload_n 1, 1, 0, []),
  (false, 54, .aaload, 1, 0, []),
  (false, 55, .lconst 0, 1, 0, []),
  (false, 56, .invokestatic 107, 3, 0, [170, 2, 3, 0, 0, 218, 219, 0, 220, 71, 0]),
  (false, 59, .aload_n 0, 1, 0, []),
  (false, 60, .iload_n 3, 1, 0, []),
  (false, 61, .invokevirtual 110, 3, 0, [37, 2, 0, 0, 0, 221, 223, 1, 224, 69, 4]),
  (false, 64, .ireturn, 1, 0, [])]
def cd_F_set : List CI := [(false, 0, .iload_n 1, 1, 0, []),
  (false, 1, .invokestatic 99, 3, 0, [30, 1, 0, 0, 0, 209, 210, 0, 211, 69, 4]),
  (false, 4, .ifCond .eq 7, 3, 0, [11]),
  (false, 7, .ldc2_w 113, 3, (-1000001), [229]),
  (false, 10, .lreturn, 1, 0, []),
  (false, 11, .aload_n 0, 1, 0, []),
  (false, 12, .getfield 18, 3, 3, [3, 3, 4, 153]),
  (false, 15, .iload_n 1, 1, 0, []),
  (false, 16, .iaload, 1, 0, []),
  (false, 17, .iconst (-1), 1, 0, []),
  (false, 18, .if_icmp .ne 10, 3, 0, [28]),
  (false, 21, .aload_n 0, 1, 0, []),
  (false, 22, .iconst 1, 1, 0, []),
  (false, 23, .invokevirtual 103, 3, 0, [36, 2, 0, 0, 0, 213, 215, 0, 216, 69, 4]),
  (false, 26, .i2l, 1, 0, []),
  (false, 27, .lreturn, 1, 0, []),
  (false, 28, .iload_n 2, 1, 0, []),
  (false, 29, .ifCond .lt 13, 3, 0, [42]),
  (false, 32, .iload_n 2, 1, 0, []),
  (false, 33, .aload_n 0, 1, 0, []),
  (false, 34, .getfield 18, 3, 3, [3, 3, 4, 153]),
  (false, 37, .iload_n 1, 1, 0, []),
  (false, 38, .iaload, 1, 0, []),
  (false, 39, .if_icmp .lt 10, 3, 0, [49]),
  (false, 42, .aload_n 0, 1, 0, []),
  (false, 43, .iconst 2, 1, 0, []),
  (false, 44, .invokevirtual 103, 3, 0, [36, 2, 0, 0, 0, 213, 215, 0, 216, 69, 4]),
  (false, 47, .i2l, 1, 0, []),
  (false, 48, .lreturn, 1, 0, []),
  (false, 49, .aload_n 0, 1, 0, []),
  (false, 50, .iconst 0, 1, 0, []),
  (false, 51, .putfield 66, 3, 17, [17, 0, 4, 167]),
  (false, 54, .aload_n 0, 1, 0, []),
  (false, 55, .getfield 11, 3, 1, [1, 3, 4, 151]),
  (false, 58, .iload_n 1, 1, 0, []),
  (false, 59, .aaload, 1, 0, []),
  (false, 60, .iload_n 2, 1, 0, []),
  (false, 61, .aload_n 0, 1, 0, []),
  (false, 62, .getfield 14, 3, 2, [2, 3, 4, 152]),
  (false, 65, .iload_n 1, 1, 0, []),
  (false, 66, .iaload, 1, 0, []),
  (false, 67, .lload_n 3, 1, 0, []),
  (false, 68, .invokestatic 115, 3, 0, [38, 2, 1, 0, 0, 230, 231, 0, 232, 69, 4]),
  (false, 71, .lastore, 1, 0, []),
  (false, 72, .aload_n 0, 1, 0, []),
  (false, 73, .getfield 11, 3, 1, [1, 3, 4, 151]),
  (false, 76, .iload_n 1, 1, 0, []),
  (false, 77, .aaload, 1, 0, []),
  (false, 78, .iload_n 2, 1, 0, []),
  (false, 79, .laload, 1, 0, []),
  (false, 80, .lreturn, 1, 0, [])]
def cd_F_copy : List CI := [(false, 0, .iload_n 1, 1, 0, []),
  (false, 1, .invokestatic 99, 3, 0, [30, 1, 0, 0, 0, 209, 210, 0, 211, 69, 4]),
  (false, 4, .ifCond .ne 10, 3, 0, [14]),
  (false, 7, .iload_n 3, 1, 0, []),
  (false, 8, .invokestatic 99, 3, 0, [30, 1, 0, 0, 0, 209, 210, 0, 211, 69, 4]),
  (false, 11, .ifCond .eq 6, 3, 0, [17]),
  (false, 14, .ldc 102, 2, (-1000001), [212]),
  (false, 16, .ireturn, 1, 0, []),
  (false, 17, .aload_n 0, 1, 0, []),
  (false, 18, .getfield 18, 3, 3, [3, 3, 4, 153]),
  (false, 21, .iload_n 1, 1, 0, []),
  (false, 22, .iaload, 1, 0, []),
  (false, 23, .iconst (-1), 1, 0, []),
  (false, 24, .if_icmp .eq 13, 3, 0, [37]),
  (false, 27, .aload_n 0, 1, 0, []),
  (false, 28, .getfield 18, 3, 3, [3, 3, 4, 153]),
  (false, 31, .iload_n 3, 1, 0, []),
  (false, 32, .iaload, 1, 0, []),
  (false, 33, .iconst (-1), 1, 0, []),
  (false, 34, .if_icmp .ne 9, 3, 0, [43]),
  (false, 37, .aload_n 0, 1, 0, []),
  (false, 38, .iconst 1, 1, 0, []),
  (false, 39, .invokevirtual 103, 3, 0, [36, 2, 0, 0, 0, 213, 215, 0, 216, 69, 4]),
  (false, 42, .ireturn, 1, 0, []),
  (false, 43, .aload_n 0, 1, 0, []),
  (false, 44, .getfield 14, 3, 2, [2, 3, 4, 152]),
  (false, 47, .iload_n 1, 1, 0, []),
  (false, 48, .iaload, 1, 0, []),
  (false, 49, .aload_n 0, 1, 0, []),
  (false, 50, .getfield 14, 3, 2, [2, 3, 4, 152]),
  (false, 53, .iload_n 3, 1, 0, []),
  (false, 54, .iaload, 1, 0, []),
  (false, 55, .if_icmp .eq 9, 3, 0, [64]),
  (false, 58, .aload_n 0, 1, 0, []),
  (false, 59, .iconst 5, 1, 0, []),
  (false, 60, .invokevirtual 103, 3, 0, [36, 2, 0, 0, 0, 213, 215, 0, 216, 69, 4]),
  (false, 63, .ireturn, 1, 0, []),
  (false, 64, .aload_n 0, 1, 0, []),
  (false, 65, .iload_n 1, 1, 0, []),
  (false, 66, .iload_n 2, 1, 0, []),
  (false, 67, .iload 5, 2, 0, []),
  (false, 69, .invokevirtual 119, 3, 0, [35, 4, 0, 0, 0, 237, 239, 2, 240, 69, 4]),
  (false, 72, .ifCond .ne 15, 3, 0, [87]),
  (false, 75, .aload_n 0, 1, 0, []),
  (false, 76, .iload_n 3, 1, 0, []),
  (false, 77, .iload 4, 2, 0, []),
  (false, 79, .iload 5, 2, 0, []),
  (false, 81, .invokevirtual 119, 3, 0, [35, 4, 0, 0, 0, 237, 239, 2, 240, 69, 4]),
  (false, 84, .ifCond .eq 9, 3, 0, [93]),
  (false, 87, .aload_n 0, 1, 0, []),
  (false, 88, .iconst 2, 1, 0, []),
  (false, 89, .invokevirtual 103, 3, 0, [36, 2, 0, 0, 0, 213, 215, 0, 216, 69, 4]),
  (false, 92, .ireturn, 1, 0, []),
  (false, 93, .aload_n 0, 1, 0, []),
  (false, 94, .getfield 11, 3, 1, [1, 3, 4, 151]),
  (false, 97, .iload_n 1, 1, 0, []),
  (false, 98, .aaload, 1, 0, []),
  (false, 99, .iload_n 2, 1, 0, []),
  (false, 100, .aload_n 0, 1, 0, []),
  (false, 101, .getfield 11, 3, 1, [1, 3, 4, 151]),
  (false, 104, .iload_n 3, 1, 0, []),
  (false, 105, .aaload, 1, 0, []),
  (false, 106, .iload 4, 2, 0, []),
  (false, 108, .iload 5, 2, 0, []),
  (false, 110, .invokestatic 123, 3, 0, [1000, 5, 3, 0, 0, 241, 243, 242, 75]),
  (false, 113, .aload_n 0, 1, 0, []),
  (false, 114, .iload 5, 2, 0, []),
  (false, 116, .invokevirtual 110, 3, 0, [37, 2, 0, 0, 0, 221, 223, 1, 224, 69, 4]),
  (false, 119, .ireturn, 1, 0, [])]
def cd_F_drop : List CI := [(false, 0, .iload_n 1, 1, 0, []),
  (false, 1, .invokestatic 99, 3, 0, [30, 1, 0, 0, 0, 209, 210, 0, 211, 69, 4]),
  (false, 4, .ifCond .eq 6, 3, 0, [10]),
  (false, 7, .ldc 102, 2, (-1000001), [212]),
  (false, 9, .ireturn, 1, 0, []),
  (false, 10, .aload_n 0, 1, 0, []),
  (false, 11, .getfield 18, 3, 3, [3, 3, 4, 153]),
  (false, 14, .iload_n 1, 1, 0, []),
  (false, 15, .iaload, 1, 0, []),
  (false, 16, .iconst (-1), 1, 0, []),
  (false, 17, .if_icmp .ne 9, 3, 0, [26]),
  (false, 20, .aload_n 0, 1, 0, []),
  (false, 21, .iconst 1, 1, 0, []),
  (false, 22, .invokevirtual 103, 3, 0, [36, 2, 0, 0, 0, 213, 215, 0, 216, 69, 4]),
  (false, 25, .ireturn, 1, 0, []),
  (false, 26, .aload_n 0, 1, 0, []),
  (false, 27, .getfield 18, 3, 3, [3, 3, 4, 153]),
  (false, 30, .iload_n 1, 1, 0, []),
  (false, 31, .iaload, 1, 0, []),
  (false, 32, .istore_n 2, 1, 0, []),
  (false, 33, .aload_n 0, 1, 0, []),
  (false, 34, .getfield 18, 3, 3, [3, 3, 4, 153]),
  (false, 37, .iload_n 1, 1, 0, []),
  (false, 38, .iconst (-1), 1, 0, []),
  (false, 39, .iastore, 1, 0, []),
  (false, 40, .aload_n 0, 1, 0, []),
  (false, 41, .iload_n 2, 1, 0, []),
  (false, 42, .invokevirtual 110, 3, 0, [37, 2, 0, 0, 0, 221, 223, 1, 224, 69, 4]),
  (false, 45, .ireturn, 1, 0, [])]
def cd_F_part : List CI := [(false, 0, .iload_n 1, 1, 0, []),
  (false, 1, .invokestatic 129, 3, 0, [31, 1, 0, 0, 0, 252, 253, 0, 254, 69, 4]),
  (false, 4, .ifCond .ne 23, 3, 0, [27]),
  (false, 7, .iload_n 2, 1, 0, []),
  (false, 8, .invokestatic 99, 3, 0, [30, 1, 0, 0, 0, 209, 210, 0, 211, 69, 4]),
  (false, 11, .ifCond .ne 16, 3, 0, [27]),
  (false, 14, .iload 4, 2, 0, []),
  (false, 16, .iconst 1, 1, 0, []),
  (false, 17, .if_icmp .lt 10, 3, 0, [27]),
  (false, 20, .iload 4, 2, 0, []),
  (false, 22, .bipush 10, 2, 0, []),
  (false, 24, .if_icmp .le 6, 3, 0, [30]),
  (false, 27, .ldc 102, 2, (-1000001), [212]),
  (false, 29, .ireturn, 1, 0, []),
  (false, 30, .aload_n 0, 1, 0, []),
  (false, 31, .getfield 18, 3, 3, [3, 3, 4, 153]),
  (false, 34, .iload_n 2, 1, 0, []),
  (false, 35, .iaload, 1, 0, []),
  (false, 36, .iconst (-1), 1, 0, []),
  (false, 37, .if_icmp .ne 9, 3, 0, [46]),
  (false, 40, .aload_n 0, 1, 0, []),
  (false, 41, .iconst 1, 1, 0, []),
  (false, 42, .invokevirtual 103, 3, 0, [36, 2, 0, 0, 0, 213, 215, 0, 216, 69, 4]),
  (false, 45, .ireturn, 1, 0, []),
  (false, 46, .aload_n 0, 1, 0, []),
  (false, 47, .iload_n 2, 1, 0, []),
  (false, 48, .iload_n 3, 1, 0, []),
  (false, 49, .iload 4, 2, 0, []),
  (false, 51, .invokevirtual 119, 3, 0, [35, 4, 0, 0, 0, 237, 239, 2, 240, 69, 4]),
  (false, 54, .ifCond .eq 9, 3, 0, [63]),
  (false, 57, .aload_n 0, 1, 0, []),
  (false, 58, .iconst 2, 1, 0, []),
  (false, 59, .invokevirtual 103, 3, 0, [36, 2, 0, 0, 0, 213, 215, 0, 216, 69, 4]),
  (false, 62, .ireturn, 1, 0, []),
  (false, 63, .aload_n 0, 1, 0, []),
  (false, 64, .aload_n 0, 1, 0, []),
  (false, 65, .getfield 11, 3, 1, [1, 3, 4, 151]),
  (false, 68, .iload_n 2, 1, 0, []),
  (false, 69, .aaload, 1, 0, []),
  (false, 70, .iload_n 3, 1, 0, []),
  (false, 71, .iload 4, 2, 0, []),
  (false, 73, .invokevirtual 132, 3, 0, [39, 4, 3, 0, 0, 255, 257, 3, 258, 69, 4]),
  (false, 76, .aload_n 0, 1, 0, []),
  (false, 77, .iload_n 1, 1, 0, []),
  (false, 78, .new 21, 3, 0, [3, 88, 259, 76]),
  (false, 81, .dup, 1, 0, []),
  (false, 82, .aload_n 0, 1, 0, []),
  (false, 83, .getfield 34, 3, 6, [6, 3, 4, 156]),
  (false, 86, .iload 4, 2, 0, []),
  (false, 88, .invokespecial 136, 3, 0, [153, 3, 3, 1, 10, 260, 261, 0, 262, 76, 3]),
  (false, 91, .invokevirtual 138, 3, 0, [40, 3, 0, 0, 0, 314, 316, 4, 317, 69, 4]),
  (false, 94, .ireturn, 1, 0, [])]
def cd_F_nth : List CI := [(false, 0, .iload_n 1, 1, 0, []),
  (false, 1, .invokestatic 129, 3, 0, [31, 1, 0, 0, 0, 252, 253, 0, 254, 69, 4]),
  (false, 4, .ifCond .ne 14, 3, 0, [18]),
  (false, 7, .iload_n 2, 1, 0, []),
  (false, 8, .iconst 1, 1, 0, []),
  (false, 9, .if_icmp .lt 9, 3, 0, [18]),
  (false, 12, .iload_n 2, 1, 0, []),
  (false, 13, .bipush 10, 2, 0, []),
  (false, 15, .if_icmp .le 6, 3, 0, [21]),
  (false, 18, .ldc 102, 2, (-1000001), [212]),
  (false, 20, .ireturn, 1, 0, []),
  (false, 21, .iload_n 3, 1, 0, []),
  (false, 22, .ifCond .lt 12, 3, 0, [34]),
  (false, 25, .iload_n 3, 1, 0, []),
  (false, 26, .getstatic 142, 3, 0, [1, 322]),
  (false, 29, .iload_n 2, 1, 0, []),
  (false, 30, .iaload, 1, 0, []),
  (false, 31, .if_icmp .lt 10, 3, 0, [41]),
  (false, 34, .aload_n 0, 1, 0, []),
  (false, 35, .ldc 145, 2, (-1000000), [324]),
  (false, 37, .invokevirtual 110, 3, 0, [37, 2, 0, 0, 0, 221, 223, 1, 224, 69, 4]),
  (false, 40, .ireturn, 1, 0, []),
  (false, 41, .aload_n 0, 1, 0, []),
  (false, 42, .getfield 30, 3, 5, [5, 3, 4, 155]),
  (false, 45, .iload_n 2, 1, 0, []),
  (false, 46, .iload_n 3, 1, 0, []),
  (false, 47, .aload_n 0, 1, 0, []),
  (false, 48, .getfield 34, 3, 6, [6, 3, 4, 156]),
  (false, 51, .invokevirtual 146, 3, 0, [147, 4, 3, 0, 0, 325, 326, 327, 328, 70, 1]),
  (false, 54, .aload_n 0, 1, 0, []),
  (false, 55, .iload_n 1, 1, 0, []),
  (false, 56, .new 21, 3, 0, [3, 88, 259, 76]),
  (false, 59, .dup, 1, 0, []),
  (false, 60, .aload_n 0, 1, 0, []),
  (false, 61, .getfield 34, 3, 6, [6, 3, 4, 156]),
  (false, 64, .iload_n 2, 1, 0, []),
  (false, 65, .invokespecial 136, 3, 0, [153, 3, 3, 1, 10, 260, 261, 0, 262, 76, 3]),
  (false, 68, .invokevirtual 138, 3, 0, [40, 3, 0, 0, 0, 314, 316, 4, 317, 69, 4]),
  (false, 71, .ireturn, 1, 0, [])]
def cd_F_both : List CI := [(false, 0, .iload_n 1, 1, 0, []),
  (false, 1, .invokestatic 129, 3, 0, [31, 1, 0, 0, 0, 252, 253, 0, 254, 69, 4]),
  (false, 4, .ifCond .ne 28, 3, 0, [32]),
  (false, 7, .iload_n 2, 1, 0, []),
  (false, 8, .invokestatic 129, 3, 0, [31, 1, 0, 0, 0, 252, 253, 0, 254, 69, 4]),
  (false, 11, .ifCond .ne 21, 3, 0, [32]),
  (false, 14, .iload_n 3, 1, 0, []),
  (false, 15, .invokestatic 129, 3, 0, [31, 1, 0, 0, 0, 252, 253, 0, 254, 69, 4]),
  (false, 18, .ifCond .ne 14, 3, 0, [32]),
  (false, 21, .iload 4, 2, 0, []),
  (false, 23, .ifCond .lt 9, 3, 0, [32]),
  (false, 26, .iload 4, 2, 0, []),
  (false, 28, .iconst 1, 1, 0, []),
  (false, 29, .if_icmp .le 6, 3, 0, [35]),
  (false, 32, .ldc 102, 2, (-1000001), [212]),
  (false, 34, .ireturn, 1, 0, []),
  (false, 35, .aload_n 0, 1, 0, []),
  (false, 36, .getfield 23, 3, 4, [4, 3, 4, 154]),
  (false, 39, .iload_n 2, 1, 0, []),
  (false, 40, .aaload, 1, 0, []),
  (false, 41, .astore 5, 2, 0, []),
  (false, 43, .aload_n 0, 1, 0, []),
  (false, 44, .getfield 23, 3, 4, [4, 3, 4, 154]),
  (false, 47, .iload_n 3, 1, 0, []),
  (false, 48, .aaload, 1, 0, []),
  (false, 49, .astore 6, 2, 0, []),
  (false, 51, .aload 5, 2, 0, []),
  (false, 53, .ifnonnull 9, 3, 0, [62]),
  (false, 56, .aload_n 0, 1, 0, []),
  (false, 57, .iconst 1, 1, 0, []),
  (false, 58, .invokevirtual 103, 3, 0, [36, 2, 0, 0, 0, 213, 215, 0, 216, 69, 4]),
  (false, 61, .ireturn, 1, 0, []),
  (false, 62, .aload 5, 2, 0, []),
  (false, 64, .iconst 1, 1, 0, []),
  (false, 65, .invokevirtual 150, 3, 0, [161, 2, 0, 0, 0, 333, 334, 335, 336, 76, 3]),
  (false, 68, .ifCond .ne 9, 3, 0, [77]),
  (false, 71, .aload_n 0, 1, 0, []),
  (false, 72, .iconst 3, 1, 0, []),
  (false, 73, .invokevirtual 103, 3, 0, [36, 2, 0, 0, 0, 213, 215, 0, 216, 69, 4]),
  (false, 76, .ireturn, 1, 0, []),
  (false, 77, .aload 6, 2, 0, []),
  (false, 79, .ifnonnull 9, 3, 0, [88]),
  (false, 82, .aload_n 0, 1, 0, []),
  (false, 83, .iconst 1, 1, 0, []),
  (false, 84, .invokevirtual 103, 3, 0, [36, 2, 0, 0, 0, 213, 215, 0, 216, 69, 4]),
  (false, 87, .ireturn, 1, 0, []),
  (false, 88, .aload 6, 2, 0, []),
  (false, 90, .iconst 1, 1, 0, []),
  (false, 91, .invokevirtual 150, 3, 0, [161, 2, 0, 0, 0, 333, 334, 335, 336, 76, 3]),
  (false, 94, .ifCond .ne 9, 3, 0, [103]),
  (false, 97, .aload_n 0, 1, 0, []),
  (false, 98, .iconst 3, 1, 0, []),
  (false, 99, .invokevirtual 103, 3, 0, [36, 2, 0, 0, 0, 213, 215, 0, 216, 69, 4]),
  (false, 102, .ireturn, 1, 0, []),
  (false, 103, .aload 5, 2, 0, []),
  (false, 105, .getfield 153, 3, 0, [0, 0, 3, 293]),
  (false, 108, .aload 6, 2, 0, []),
  (false, 110, .getfield 153, 3, 0, [0, 0, 3, 293]),
  (false, 113, .if_icmp .eq 6, 3, 0, [119]),
  (false, 116, .ldc 102, 2, (-1000001), [212]),
  (false, 118, .ireturn, 1, 0, []),
  (false, 119, .aload_n 0, 1, 0, []),
  (false, 120, .iload_n 1, 1, 0, []),
  (false, 121, .iload 4, 2, 0, []),
  (false, 123, .ifCond .ne 14, 3, 0, [137]),
  (false, 126, .aload_n 0, 1, 0, []),
  (false, 127, .aload 5, 2, 0, []),
  (false, 129, .aload 6, 2, 0, []),
  (false, 131, .invokevirtual 156, 3, 0, [41, 3, 2, 2, 15, 337, 339, 5, 340, 69, 4]),
  (false, 134, .goto 11, 3, 0, [145]),
  (false, 137, .aload_n 0, 1, 0, []),
  (false, 138, .aload 5, 2, 0, []),
  (false, 140, .aload 6, 2, 0, []),
  (false, 142, .invokevirtual 160, 3, 0, [42, 3, 2, 10, 75, 341, 343, 6, 344, 69, 4]),
  (false, 145, .invokevirtual 138, 3, 0, [40, 3, 0, 0, 0, 314, 316, 4, 317, 69, 4]),
  (false, 148, .ireturn, 1, 0, [])]
def cd_F_turn : List CI := [(false, 0, .iload_n 1, 1, 0, []),
  (false, 1, .invokestatic 129, 3, 0, [31, 1, 0, 0, 0, 252, 253, 0, 254, 69, 4]),
  (false, 4, .ifCond .ne 19, 3, 0, [23]),
  (false, 7, .iload_n 2, 1, 0, []),
  (false, 8, .invokestatic 129, 3, 0, [31, 1, 0, 0, 0, 252, 253, 0, 254, 69, 4]),
  (false, 11, .ifCond .ne 12, 3, 0, [23]),
  (false, 14, .iload_n 3, 1, 0, []),
  (false, 15, .ifCond .lt 8, 3, 0, [23]),
  (false, 18, .iload_n 3, 1, 0, []),
  (false, 19, .iconst 1, 1, 0, []),
  (false, 20, .if_icmp .le 6, 3, 0, [26]),
  (false, 23, .ldc 102, 2, (-1000001), [212]),
  (false, 25, .ireturn, 1, 0, []),
  (false, 26, .aload_n 0, 1, 0, []),
  (false, 27, .getfield 23, 3, 4, [4, 3, 4, 154]),
  (false, 30, .iload_n 2, 1, 0, []),
  (false, 31, .aaload, 1, 0, []),
  (false, 32, .astore 4, 2, 0, []),
  (false, 34, .aload 4, 2, 0, []),
  (false, 36, .ifnonnull 9, 3, 0, [45]),
  (false, 39, .aload_n 0, 1, 0, []),
  (false, 40, .iconst 1, 1, 0, []),
  (false, 41, .invokevirtual 103, 3, 0, [36, 2, 0, 0, 0, 213, 215, 0, 216, 69, 4]),
  (false, 44, .ireturn, 1, 0, []),
  (false, 45, .iload_n 3, 1, 0, []),
  (false, 46, .iconst 1, 1, 0, []),
  (false, 47, .if_icmp .ne 16, 3, 0, [63]),
  (false, 50, .aload_n 0, 1, 0, []),
  (false, 51, .iload_n 1, 1, 0, []),
  (false, 52, .aload_n 0, 1, 0, []),
  (false, 53, .aload 4, 2, 0, []),
  (false, 55, .iconst 1, 1, 0, []),
  (false, 56, .invokevirtual 163, 3, 0, [43, 3, 2, 2, 15, 362, 364, 10, 365, 69, 4]),
  (false, 59, .invokevirtual 138, 3, 0, [40, 3, 0, 0, 0, 314, 316, 4, 317, 69, 4]),
  (false, 62, .ireturn, 1, 0, []),
  (false, 63, .aload 4, 2, 0, []),
  (false, 65, .iconst 1, 1, 0, []),
  (false, 66, .invokevirtual 150, 3, 0, [161, 2, 0, 0, 0, 333, 334, 335, 336, 76, 3]),
  (false, 69, .ifCond .ne 9, 3, 0, [78]),
  (false, 72, .aload_n 0, 1, 0, []),
  (false, 73, .iconst 3, 1, 0, []),
  (false, 74, .invokevirtual 103, 3, 0, [36, 2, 0, 0, 0, 213, 215, 0, 216, 69, 4]),
  (false, 77, .ireturn, 1, 0, []),
  (false, 78, .aload_n 0, 1, 0, []),
  (false, 79, .iload_n 1, 1, 0, []),
  (false, 80, .aload_n 0, 1, 0, []),
  (false, 81, .aload 4, 2, 0, []),
  (false, 83, .invokevirtual 167, 3, 0, [44, 2, 2, 2, 15, 345, 347, 7, 348, 69, 4]),
  (false, 86, .invokevirtual 138, 3, 0, [40, 3, 0, 0, 0, 314, 316, 4, 317, 69, 4]),
  (false, 89, .ireturn, 1, 0, [])]
def cd_F_clear : List CI := [(false, 0, .iload_n 1, 1, 0, []),
  (false, 1, .invokestatic 129, 3, 0, [31, 1, 0, 0, 0, 252, 253, 0, 254, 69, 4]),
  (false, 4, .ifCond .eq 6, 3, 0, [10]),
  (false, 7, .ldc 102, 2, (-1000001), [212]),
  (false, 9, .ireturn, 1, 0, []),
  (false, 10, .aload_n 0, 1, 0, []),
  (false, 11, .getfield 23, 3, 4, [4, 3, 4, 154]),
  (false, 14, .iload_n 1, 1, 0, []),
  (false, 15, .aaload, 1, 0, []),
  (false, 16, .ifnull 7, 3, 0, [23]),
  (false, 19, .iconst 1, 1, 0, []),
  (false, 20, .goto 4, 3, 0, [24]),
  (false, 23, .iconst 0, 1, 0, []),
  (false, 24, .istore_n 2, 1, 0, []),
  (false, 25, .aload_n 0, 1, 0, []),
  (false, 26, .getfield 23, 3, 4, [4, 3, 4, 154]),
  (false, 29, .iload_n 1, 1, 0, []),
  (false, 30, .aconst_null, 1, 0, []),
  (false, 31, .aastore, 1, 0, []),
  (false, 32, .iload_n 2, 1, 0, []),
  (false, 33, .ifCond .eq 7, 3, 0, [40]),
  (false, 36, .iconst 1, 1, 0, []),
  (false, 37, .goto 4, 3, 0, [41]),
  (false, 40, .iconst 0, 1, 0, []),
  (false, 41, .ireturn, 1, 0, [])]
def cd_F_kind : List CI := [(false, 0, .iload_n 1, 1, 0, []),
  (false, 1, .invokestatic 129, 3, 0, [31, 1, 0, 0, 0, 252, 253, 0, 254, 69, 4]),
  (false, 4, .ifCond .eq 6, 3, 0, [10]),
  (false, 7, .ldc 102, 2, (-1000001), [212]),
  (false, 9, .ireturn, 1, 0, []),
  (false, 10, .aload_n 0, 1, 0, []),
  (false, 11, .getfield 23, 3, 4, [4, 3, 4, 154]),
  (false, 14, .iload_n 1, 1, 0, []),
  (false, 15, .aaload, 1, 0, []),
  (false, 16, .astore_n 2, 1, 0, []),
  (false, 17, .aload_n 2, 1, 0, []),
  (false, 18, .ifnonnull 11, 3, 0, [29]),
  (false, 21, .aload_n 0, 1, 0, []),
  (false, 22, .iconst 1, 1, 0, []),
  (false, 23, .invokevirtual 103, 3, 0, [36, 2, 0, 0, 0, 213, 215, 0, 216, 69, 4]),
  (false, 26, .goto 11, 3, 0, [37]),
  (false, 29, .aload_n 0, 1, 0, []),
  (false, 30, .aload_n 2, 1, 0, []),
  (false, 31, .getfield 171, 3, 4, [4, 0, 3, 302]),
  (false, 34, .invokevirtual 110, 3, 0, [37, 2, 0, 0, 0, 221, 223, 1, 224, 69, 4]),
  (false, 37, .ireturn, 1, 0, [])]
def cd_F_is : List CI := [(false, 0, .iload_n 1, 1, 0, []),
  (false, 1, .invokestatic 129, 3, 0, [31, 1, 0, 0, 0, 252, 253, 0, 254, 69, 4]),
  (false, 4, .ifCond .ne 12, 3, 0, [16]),
  (false, 7, .iload_n 2, 1, 0, []),
  (false, 8, .ifCond .lt 8, 3, 0, [16]),
  (false, 11, .iload_n 2, 1, 0, []),
  (false, 12, .iconst 4, 1, 0, []),
  (false, 13, .if_icmp .le 6, 3, 0, [19]),
  (false, 16, .ldc 102, 2, (-1000001), [212]),
  (false, 18, .ireturn, 1, 0, []),
  (false, 19, .aload_n 0, 1, 0, []),
  (false, 20, .getfield 23, 3, 4, [4, 3, 4, 154]),
  (false, 23, .iload_n 1, 1, 0, []),
  (false, 24, .aaload, 1, 0, []),
  (false, 25, .astore_n 3, 1, 0, []),
  (false, 26, .aload_n 3, 1, 0, []),
  (false, 27, .ifnull 15, 3, 0, [42]),
  (false, 30, .aload_n 3, 1, 0, []),
  (false, 31, .iload_n 2, 1, 0, []),
  (false, 32, .invokevirtual 150, 3, 0, [161, 2, 0, 0, 0, 333, 334, 335, 336, 76, 3]),
  (false, 35, .ifCond .eq 7, 3, 0, [42]),
  (false, 38, .iconst 1, 1, 0, []),
  (false, 39, .goto 4, 3, 0, [43]),
  (false, 42, .iconst 0, 1, 0, []),
  (false, 43, .ireturn, 1, 0, [])]
def cd_F_as : List CI := [(false, 0, .iload_n 1, 1, 0, []),
  (false, 1, .invokestatic 129, 3, 0, [31, 1, 0, 0, 0, 252, 253, 0, 254, 69, 4]),
  (false, 4, .ifCond .ne 12, 3, 0, [16]),
  (false, 7, .iload_n 2, 1, 0, []),
  (false, 8, .ifCond .lt 8, 3, 0, [16]),
  (false, 11, .iload_n 2, 1, 0, []),
  (false, 12, .iconst 4, 1, 0, []),
  (false, 13, .if_icmp .le 6, 3, 0, [19]),
  (false, 16, .ldc 102, 2, (-1000001), [212]),
  (false, 18, .ireturn, 1, 0, []),
  (false, 19, .aload_n 0, 1, 0, []),
  (false, 20, .getfield 23, 3, 4, [4, 3, 4, 154]),
  (false, 23, .iload_n 1, 1, 0, []),
  (false, 24, .aaload, 1, 0, []),
  (false, 25, .astore_n 3, 1, 0, []),
  (false, 26, .aload_n 3, 1, 0, []),
  (false, 27, .ifnonnull 9, 3, 0, [36]),
  (false, 30, .aload_n 0, 1, 0, []),
  (false, 31, .iconst 1, 1, 0, []),
  (false, 32, .invokevirtual 103, 3, 0, [36, 2, 0, 0, 0, 213, 215, 0, 216, 69, 4]),
  (false, 35, .ireturn, 1, 0, []),
  (false, 36, .aload_n 3, 1, 0, []),
  (false, 37, .iload_n 2, 1, 0, []),
  (false, 38, .invokevirtual 150, 3, 0, [161, 2, 0, 0, 0, 333, 334, 335, 336, 76, 3]),
  (false, 41, .ifCond .eq 14, 3, 0, [55]),
  (false, 44, .aload_n 0, 1, 0, []),
  (false, 45, .aload_n 3, 1, 0, []),
  (false, 46, .getfield 174, 3, 1, [1, 0, 3, 295]),
  (false, 49, .invokevirtual 110, 3, 0, [37, 2, 0, 0, 0, 221, 223, 1, 224, 69, 4]),
  (false, 52, .goto 8, 3, 0, [60]),
  (false, 55, .aload_n 0, 1, 0, []),
  (false, 56, .iconst 3, 1, 0, []),
  (false, 57, .invokevirtual 103, 3, 0, [36, 2, 0, 0, 0, 213, 215, 0, 216, 69, 4]),
  (false, 60, .ireturn, 1, 0, [])]
def cd_F_ask : List CI := [(false, 0, .iload_n 1, 1, 0, []),
  (false, 1, .invokestatic 129, 3, 0, [31, 1, 0, 0, 0, 252, 253, 0, 254, 69, 4]),
  (false, 4, .ifCond .ne 12, 3, 0, [16]),
  (false, 7, .iload_n 2, 1, 0, []),
  (false, 8, .ifCond .lt 8, 3, 0, [16]),
  (false, 11, .iload_n 2, 1, 0, []),
  (false, 12, .iconst 1, 1, 0, []),
  (false, 13, .if_icmp .le 6, 3, 0, [19]),
  (false, 16, .ldc 102, 2, (-1000001), [212]),
  (false, 18, .ireturn, 1, 0, []),
  (false, 19, .aload_n 0, 1, 0, []),
  (false, 20, .iconst 0, 1, 0, []),
  (false, 21, .putfield 40, 3, 8, [8, 0, 4, 158]),
  (false, 24, .aload_n 0, 1, 0, []),
  (false, 25, .getfield 23, 3, 4, [4, 3, 4, 154]),
  (false, 28, .iload_n 1, 1, 0, []),
  (false, 29, .aaload, 1, 0, []),
  (false, 30, .astore_n 3, 1, 0, []),
  (false, 31, .aload_n 3, 1, 0, []),
  (false, 32, .ifnonnull 9, 3, 0, [41]),
  (false, 35, .aload_n 0, 1, 0, []),
  (false, 36, .iconst 1, 1, 0, []),
  (false, 37, .invokevirtual 103, 3, 0, [36, 2, 0, 0, 0, 213, 215, 0, 216, 69, 4]),
  (false, 40, .ireturn, 1, 0, []),
  (false, 41, .aload_n 0, 1, 0, []),
  (false, 42, .iload_n 2, 1, 0, []),
  (false, 43, .ifCond .ne 11, 3, 0, [54]),
  (false, 46, .aload_n 0, 1, 0, []),
  (false, 47, .aload_n 3, 1, 0, []),
  (false, 48, .invokevirtual 177, 3, 0, [48, 2, 0, 0, 0, 390, 392, 11, 393, 69, 4]),
  (false, 51, .goto 8, 3, 0, [59]),
  (false, 54, .aload_n 0, 1, 0, []),
  (false, 55, .aload_n 3, 1, 0, []),
  (false, 56, .invokevirtual 181, 3, 0, [49, 2, 0, 0, 0, 430, 432, 21, 433, 69, 4]),
  (false, 59, .invokevirtual 110, 3, 0, [37, 2, 0, 0, 0, 221, 223, 1, 224, 69, 4]),
  (false, 62, .ireturn, 1, 0, [])]
def cd_F_trace : List CI := [(false, 0, .iload_n 1, 1, 0, []),
  (false, 1, .ifCond .lt 26, 3, 0, [27]),
  (false, 4, .iload_n 1, 1, 0, []),
  (false, 5, .aload_n 0, 1, 0, []),
  (false, 6, .getfield 40, 3, 8, [8, 0, 4, 158]),
  (false, 9, .if_icmp .ge 18, 3, 0, [27]),
  (false, 12, .iload_n 1, 1, 0, []),
  (false, 13, .bipush 16, 2, 0, []),
  (false, 15, .if_icmp .ge 12, 3, 0, [27]),
  (false, 18, .aload_n 0, 1, 0, []),
  (false, 19, .getfield 37, 3, 7, [7, 3, 4, 157]),
  (false, 22, .iload_n 1, 1, 0, []),
  (false, 23, .iaload, 1, 0, []),
  (false, 24, .goto 5, 3, 0, [29]),
  (false, 27, .ldc 145, 2, (-1000000), [324]),
  (false, 29, .ireturn, 1, 0, [])]
def cd_F_block : List CI := [(false, 0, .iload_n 1, 1, 0, []),
  (false, 1, .invokestatic 129, 3, 0, [31, 1, 0, 0, 0, 252, 253, 0, 254, 69, 4]),
  (false, 4, .ifCond .eq 6, 3, 0, [10]),
  (false, 7, .ldc 102, 2, (-1000001), [212]),
  (false, 9, .ireturn, 1, 0, []),
  (false, 10, .aload_n 0, 1, 0, []),
  (false, 11, .getfield 23, 3, 4, [4, 3, 4, 154]),
  (false, 14, .iload_n 1, 1, 0, []),
  (false, 15, .aaload, 1, 0, []),
  (false, 16, .astore_n 3, 1, 0, []),
  (false, 17, .aload_n 3, 1, 0, []),
  (false, 18, .ifnonnull 9, 3, 0, [27]),
  (false, 21, .aload_n 0, 1, 0, []),
  (false, 22, .iconst 1, 1, 0, []),
  (false, 23, .invokevirtual 103, 3, 0, [36, 2, 0, 0, 0, 213, 215, 0, 216, 69, 4]),
  (false, 26, .ireturn, 1, 0, []),
  (false, 27, .iload_n 2, 1, 0, []),
  (false, 28, .ifCond .lt 11, 3, 0, [39]),
  (false, 31, .iload_n 2, 1, 0, []),
  (false, 32, .aload_n 3, 1, 0, []),
  (false, 33, .getfield 153, 3, 0, [0, 0, 3, 293]),
  (false, 36, .if_icmp .lt 6, 3, 0, [42]),
  (false, 39, .ldc 102, 2, (-1000001), [212]),
  (false, 41, .ireturn, 1, 0, []),
  (false, 42, .aload_n 0, 1, 0, []),
  (false, 43, .aload_n 3, 1, 0, []),
  (false, 44, .getfield 184, 3, 2, [2, 3, 3, 298]),
  (false, 47, .iload_n 2, 1, 0, []),
  (false, 48, .iaload, 1, 0, []),
  (false, 49, .invokevirtual 110, 3, 0, [37, 2, 0, 0, 0, 221, 223, 1, 224, 69, 4]),
  (false, 52, .ireturn, 1, 0, [])]
def cd_F_told : List CI := [(false, 0, .iload_n 1, 1, 0, []),
  (false, 1, .invokestatic 129, 3, 0, [31, 1, 0, 0, 0, 252, 253, 0, 254, 69, 4]),
  (false, 4, .ifCond .ne 12, 3, 0, [16]),
  (false, 7, .iload_n 2, 1, 0, []),
  (false, 8, .ifCond .lt 8, 3, 0, [16]),
  (false, 11, .iload_n 2, 1, 0, []),
  (false, 12, .iconst 3, 1, 0, []),
  (false, 13, .if_icmp .le 6, 3, 0, [19]),
  (false, 16, .ldc 102, 2, (-1000001), [212]),
  (false, 18, .ireturn, 1, 0, []),
  (false, 19, .aload_n 0, 1, 0, []),
  (false, 20, .getfield 23, 3, 4, [4, 3, 4, 154]),
  (false, 23, .iload_n 1, 1, 0, []),
  (false, 24, .aaload, 1, 0, []),
  (false, 25, .astore_n 3, 1, 0, []),
  (false, 26, .aload_n 3, 1, 0, []),
  (false, 27, .ifnonnull 9, 3, 0, [36]),
  (false, 30, .aload_n 0, 1, 0, []),
  (false, 31, .iconst 1, 1, 0, []),
  (false, 32, .invokevirtual 103, 3, 0, [36, 2, 0, 0, 0, 213, 215, 0, 216, 69, 4]),
  (false, 35, .ireturn, 1, 0, []),
  (false, 36, .aload_n 3, 1, 0, []),
  (false, 37, .iconst 1, 1, 0, []),
  (false, 38, .invokevirtual 150, 3, 0, [161, 2, 0, 0, 0, 333, 334, 335, 336, 76, 3]),
  (false, 41, .ifCond .ne 9, 3, 0, [50]),
  (false, 44, .aload_n 0, 1, 0, []),
  (false, 45, .iconst 3, 1, 0, []),
  (false, 46, .invokevirtual 103, 3, 0, [36, 2, 0, 0, 0, 213, 215, 0, 216, 69, 4]),
  (false, 49, .ireturn, 1, 0, []),
  (false, 50, .iload_n 2, 1, 0, []),
  (false, 51, .tableswitch 62 0 2 #[25, 38, 50], 25, 0, [113, 76, 89, 101]),
  (false, 76, .aload_n 0, 1, 0, []),
  (false, 77, .aload_n 0, 1, 0, []),
  (false, 78, .getfield 30, 3, 5, [5, 3, 4, 155]),
  (false, 81, .aload_n 3, 1, 0, []),
  (false, 82, .invokevirtual 187, 3, 0, [146, 2, 0, 0, 0, 450, 451, 452, 453, 70, 1]),
  (false, 85, .invokevirtual 110, 3, 0, [37, 2, 0, 0, 0, 221, 223, 1, 224, 69, 4]),
  (false, 88, .ireturn, 1, 0, []),
  (false, 89, .aload_n 0, 1, 0, []),
  (false, 90, .aload_n 3, 1, 0, []),
  (false, 91, .getstatic 190, 3, 0, [2, 454]),
  (false, 94, .invokevirtual 193, 3, 0, [163, 2, 0, 0, 0, 456, 457, 458, 459, 76, 3]),
  (false, 97, .invokevirtual 110, 3, 0, [37, 2, 0, 0, 0, 221, 223, 1, 224, 69, 4]),
  (false, 100, .ireturn, 1, 0, []),
  (false, 101, .aload_n 0, 1, 0, []),
  (false, 102, .aload_n 3, 1, 0, []),
  (false, 103, .getstatic 142, 3, 0, [1, 322]),
  (false, 106, .invokevirtual 193, 3, 0, [163, 2, 0, 0, 0, 456, 457, 458, 459, 76, 3]),
  (false, 109, .invokevirtual 110, 3, 0, [37, 2, 0, 0, 0, 221, 223, 1, 224, 69, 4]),
  (false, 112, .ireturn, 1, 0, []),
  (false, 113, .aload_n 0, 1, 0, []),
  (false, 114, .aload_n 0, 1, 0, []),
  (false, 115, .aload_n 3, 1, 0, []),
  (false, 116, .invokevirtual 167, 3, 0, [44, 2, 2, 2, 15, 345, 347, 7, 348, 69, 4]),
  (false, 119, .getstatic 142, 3, 0, [1, 322]),
  (false, 122, .invokevirtual 193, 3, 0, [163, 2, 0, 0, 0, 456, 457, 458, 459, 76, 3]),
  (false, 125, .invokevirtual 110, 3, 0, [37, 2, 0, 0, 0, 221, 223, 1, 224, 69, 4]),
  (false, 128, .ireturn, 1, 0, [])]
def cd_F_finer : List CI := [(false, 0, .iload_n 1, 1, 0, []),
  (false, 1, .invokestatic 129, 3, 0, [31, 1, 0, 0, 0, 252, 253, 0, 254, 69, 4]),
  (false, 4, .ifCond .ne 10, 3, 0, [14]),
  (false, 7, .iload_n 2, 1, 0, []),
  (false, 8, .invokestatic 129, 3, 0, [31, 1, 0, 0, 0, 252, 253, 0, 254, 69, 4]),
  (false, 11, .ifCond .eq 6, 3, 0, [17]),
  (false, 14, .ldc 102, 2, (-1000001), [212]),
  (false, 16, .ireturn, 1, 0, []),
  (false, 17, .aload_n 0, 1, 0, []),
  (false, 18, .getfield 23, 3, 4, [4, 3, 4, 154]),
  (false, 21, .iload_n 1, 1, 0, []),
  (false, 22, .aaload, 1, 0, []),
  (false, 23, .astore_n 3, 1, 0, []),
  (false, 24, .aload_n 0, 1, 0, []),
  (false, 25, .getfield 23, 3, 4, [4, 3, 4, 154]),
  (false, 28, .iload_n 2, 1, 0, []),
  (false, 29, .aaload, 1, 0, []),
  (false, 30, .astore 4, 2, 0, []),
  (false, 32, .aload_n 3, 1, 0, []),
  (false, 33, .ifnull 8, 3, 0, [41]),
  (false, 36, .aload 4, 2, 0, []),
  (false, 38, .ifnonnull 9, 3, 0, [47]),
  (false, 41, .aload_n 0, 1, 0, []),
  (false, 42, .iconst 1, 1, 0, []),
  (false, 43, .invokevirtual 103, 3, 0, [36, 2, 0, 0, 0, 213, 215, 0, 216, 69, 4]),
  (false, 46, .ireturn, 1, 0, []),
  (false, 47, .aload_n 3, 1, 0, []),
  (false, 48, .getfield 153, 3, 0, [0, 0, 3, 293]),
  (false, 51, .aload 4, 2, 0, []),
  (false, 53, .getfield 153, 3, 0, [0, 0, 3, 293]),
  (false, 56, .if_icmp .eq 6, 3, 0, [62]),
  (false, 59, .ldc 102, 2, (-1000001), [212]),
  (false, 61, .ireturn, 1, 0, []),
  (false, 62, .aload_n 0, 1, 0, []),
  (false, 63, .aload_n 3, 1, 0, []),
  (false, 64, .aload 4, 2, 0, []),
  (false, 66, .invokevirtual 197, 3, 0, [162, 2, 0, 0, 0, 464, 465, 466, 467, 76, 3]),
  (false, 69, .ifCond .eq 7, 3, 0, [76]),
  (false, 72, .iconst 1, 1, 0, []),
  (false, 73, .goto 4, 3, 0, [77]),
  (false, 76, .iconst 0, 1, 0, []),
  (false, 77, .invokevirtual 110, 3, 0, [37, 2, 0, 0, 0, 221, 223, 1, 224, 69, 4]),
  (false, 80, .ireturn, 1, 0, [])]
def cd_F_handles : List CI := [(false, 0, .iload_n 1, 1, 0, []),
  (false, 1, .invokestatic 129, 3, 0, [31, 1, 0, 0, 0, 252, 253, 0, 254, 69, 4]),
  (false, 4, .ifCond .eq 6, 3, 0, [10]),
  (false, 7, .ldc 102, 2, (-1000001), [212]),
  (false, 9, .ireturn, 1, 0, []),
  (false, 10, .aload_n 0, 1, 0, []),
  (false, 11, .getfield 23, 3, 4, [4, 3, 4, 154]),
  (false, 14, .iload_n 1, 1, 0, []),
  (false, 15, .aaload, 1, 0, []),
  (false, 16, .astore_n 2, 1, 0, []),
  (false, 17, .aload_n 2, 1, 0, []),
  (false, 18, .ifnonnull 9, 3, 0, [27]),
  (false, 21, .aload_n 0, 1, 0, []),
  (false, 22, .iconst 1, 1, 0, []),
  (false, 23, .invokevirtual 103, 3, 0, [36, 2, 0, 0, 0, 213, 215, 0, 216, 69, 4]),
  (false, 26, .ireturn, 1, 0, []),
  (false, 27, .aload_n 2, 1, 0, []),
  (false, 28, .getfield 201, 3, 3, [3, 2, 3, 300]),
  (false, 31, .ifCond .eq 15, 3, 0, [46]),
  (false, 34, .aload_n 0, 1, 0, []),
  (false, 35, .aload_n 0, 1, 0, []),
  (false, 36, .aload_n 2, 1, 0, []),
  (false, 37, .invokevirtual 205, 3, 0, [45, 2, 0, 0, 0, 426, 428, 20, 429, 69, 4]),
  (false, 40, .invokevirtual 110, 3, 0, [37, 2, 0, 0, 0, 221, 223, 1, 224, 69, 4]),
  (false, 43, .goto 8, 3, 0, [51]),
  (false, 46, .aload_n 0, 1, 0, []),
  (false, 47, .iconst 3, 1, 0, []),
  (false, 48, .invokevirtual 103, 3, 0, [36, 2, 0, 0, 0, 213, 215, 0, 216, 69, 4]),
  (false, 51, .ireturn, 1, 0, [])]
def cd_F_series : List CI := [(false, 0, .iload_n 1, 1, 0, []),
  (false, 1, .invokestatic 208, 3, 0, [32, 1, 0, 0, 0, 476, 477, 0, 478, 69, 4]),
  (false, 4, .ifCond .ne 31, 3, 0, [35]),
  (false, 7, .iload_n 2, 1, 0, []),
  (false, 8, .invokestatic 99, 3, 0, [30, 1, 0, 0, 0, 209, 210, 0, 211, 69, 4]),
  (false, 11, .ifCond .ne 24, 3, 0, [35]),
  (false, 14, .iload 4, 2, 0, []),
  (false, 16, .iconst 1, 1, 0, []),
  (false, 17, .if_icmp .lt 18, 3, 0, [35]),
  (false, 20, .iload 4, 2, 0, []),
  (false, 22, .bipush 8, 2, 0, []),
  (false, 24, .if_icmp .gt 11, 3, 0, [35]),
  (false, 27, .iload 5, 2, 0, []),
  (false, 29, .invokestatic 211, 3, 0, [33, 1, 0, 0, 0, 479, 480, 0, 481, 69, 4]),
  (false, 32, .ifCond .eq 6, 3, 0, [38]),
  (false, 35, .ldc 102, 2, (-1000001), [212]),
  (false, 37, .ireturn, 1, 0, []),
  (false, 38, .aload_n 0, 1, 0, []),
  (false, 39, .getfield 18, 3, 3, [3, 3, 4, 153]),
  (false, 42, .iload_n 2, 1, 0, []),
  (false, 43, .iaload, 1, 0, []),
  (false, 44, .iconst (-1), 1, 0, []),
  (false, 45, .if_icmp .ne 9, 3, 0, [54]),
  (false, 48, .aload_n 0, 1, 0, []),
  (false, 49, .iconst 1, 1, 0, []),
  (false, 50, .invokevirtual 103, 3, 0, [36, 2, 0, 0, 0, 213, 215, 0, 216, 69, 4]),
  (false, 53, .ireturn, 1, 0, []),
  (false, 54, .aload_n 0, 1, 0, []),
  (false, 55, .iload_n 2, 1, 0, []),
  (false, 56, .iload_n 3, 1, 0, []),
  (false, 57, .iload 4, 2, 0, []),
  (false, 59, .invokevirtual 119, 3, 0, [35, 4, 0, 0, 0, 237, 239, 2, 240, 69, 4]),
  (false, 62, .ifCond .eq 9, 3, 0, [71]),
  (false, 65, .aload_n 0, 1, 0, []),
  (false, 66, .iconst 2, 1, 0, []),
  (false, 67, .invokevirtual 103, 3, 0, [36, 2, 0, 0, 0, 213, 215, 0, 216, 69, 4]),
  (false, 70, .ireturn, 1, 0, []),
  (false, 71, .iconst 1, 1, 0, []),
  (false, 72, .istore 6, 2, 0, []),
  (true, 74, .iload 6, 2, 0, []),
  (false, 76, .iload 4, 2, 0, []),
  (false, 78, .if_icmp .gt 36, 3, 0, [114]),
  (false, 81, .aload_n 0, 1, 0, []),
  (false, 82, .getfield 50, 3, 12, [12, 3, 4, 162]),
  (false, 85, .iload 6, 2, 0, []),
  (false, 87, .aload_n 0, 1, 0, []),
  (false, 88, .getfield 11, 3, 1, [1, 3, 4, 151]),
  (false, 91, .iload_n 2, 1, 0, []),
  (false, 92, .aaload, 1, 0, []),
  (false, 93, .iload_n 3, 1, 0, []),
  (false, 94, .iload 6, 2, 0, []),
  (false, 96, .iadd, 1, 0, []),
  (false, 97, .iconst 1, 1, 0, []),
  (false, 98, .isub, 1, 0, []),
  (false, 99, .laload, 1, 0, []),
  (false, 100, .aload_n 0, 1, 0, []),
  (false, 101, .getfield 76, 3, 0, [0, 1, 4, 150]),
  (false, 104, .invokestatic 214, 3, 0, [1004, 2, 1, 0, 0, 482, 483, 0, 484, 77, 0]),
  (false, 107, .lastore, 1, 0, []),
  (false, 108, .iinc 6 1, 3, 0, []),
  (false, 111, .goto (-37), 3, 0, [74]),
  (false, 114, .aload_n 0, 1, 0, []),
  (false, 115, .getfield 47, 3, 10, [10, 3, 4, 160]),
  (false, 118, .iload_n 1, 1, 0, []),
  (false, 119, .iload 4, 2, 0, []),
  (false, 121, .iastore, 1, 0, []),
  (false, 122, .iload 5, 2, 0, []),
  (false, 124, .ldc 145, 2, (-1000000), [324]),
  (false, 126, .if_icmp .ne 23, 3, 0, [149]),
  (false, 129, .aload_n 0, 1, 0, []),
  (false, 130, .getfield 50, 3, 12, [12, 3, 4, 162]),
  (false, 133, .iconst 1, 1, 0, []),
  (false, 134, .aload_n 0, 1, 0, []),
  (false, 135, .getfield 44, 3, 9, [9, 3, 4, 159]),
  (false, 138, .iload_n 1, 1, 0, []),
  (false, 139, .aaload, 1, 0, []),
  (false, 140, .iconst 1, 1, 0, []),
  (false, 141, .iload 4, 2, 0, []),
  (false, 143, .invokestatic 123, 3, 0, [1000, 5, 3, 0, 0, 241, 243, 242, 75]),
  (false, 146, .goto 24, 3, 0, [170]),
  (false, 149, .aload_n 0, 1, 0, []),
  (false, 150, .getfield 85, 3, 11, [11, 3, 4, 161]),
  (false, 153, .iload 5, 2, 0, []),
  (false, 155, .iload 4, 2, 0, []),
  (false, 157, .aload_n 0, 1, 0, []),
  (false, 158, .getfield 50, 3, 12, [12, 3, 4, 162]),
  (false, 161, .aload_n 0, 1, 0, []),
  (false, 162, .getfield 44, 3, 9, [9, 3, 4, 159]),
  (false, 165, .iload_n 1, 1, 0, []),
  (false, 166, .aaload, 1, 0, []),
  (false, 167, .invokevirtual 220, 3, 0, [140, 5, 3, 0, 0, 485, 486, 487, 488, 72, 0]),
  (false, 170, .aload_n 0, 1, 0, []),
  (false, 171, .iload 4, 2, 0, []),
  (false, 173, .invokevirtual 110, 3, 0, [37, 2, 0, 0, 0, 221, 223, 1, 224, 69, 4]),
  (false, 176, .ireturn, 1, 0, [])]
def cd_F_number : List CI := [(false, 0, .iload_n 1, 1, 0, []),
  (false, 1, .invokestatic 208, 3, 0, [32, 1, 0, 0, 0, 476, 477, 0, 478, 69, 4]),
  (false, 4, .ifCond .ne 25, 3, 0, [29]),
  (false, 7, .iload_n 2, 1, 0, []),
  (false, 8, .invokestatic 211, 3, 0, [33, 1, 0, 0, 0, 479, 480, 0, 481, 69, 4]),
  (false, 11, .ifCond .ne 18, 3, 0, [29]),
  (false, 14, .iload_n 3, 1, 0, []),
  (false, 15, .iconst 1, 1, 0, []),
  (false, 16, .if_icmp .lt 13, 3, 0, [29]),
  (false, 19, .iload_n 3, 1, 0, []),
  (false, 20, .aload_n 0, 1, 0, []),
  (false, 21, .getfield 47, 3, 10, [10, 3, 4, 160]),
  (false, 24, .iload_n 1, 1, 0, []),
  (false, 25, .iaload, 1, 0, []),
  (false, 26, .if_icmp .le 7, 3, 0, [33]),
  (false, 29, .ldc2_w 113, 3, (-1000001), [229]),
  (false, 32, .lreturn, 1, 0, []),
  (false, 33, .iload_n 2, 1, 0, []),
  (false, 34, .ldc 145, 2, (-1000000), [324]),
  (false, 36, .if_icmp .ne 12, 3, 0, [48]),
  (false, 39, .aload_n 0, 1, 0, []),
  (false, 40, .getfield 44, 3, 9, [9, 3, 4, 159]),
  (false, 43, .iload_n 1, 1, 0, []),
  (false, 44, .aaload, 1, 0, []),
  (false, 45, .iload_n 3, 1, 0, []),
  (false, 46, .laload, 1, 0, []),
  (false, 47, .lreturn, 1, 0, []),
  (false, 48, .aload_n 0, 1, 0, []),
  (false, 49, .getfield 85, 3, 11, [11, 3, 4, 161]),
  (false, 52, .iload_n 2, 1, 0, []),
  (false, 53, .iload_n 3, 1, 0, []),
  (false, 54, .aload_n 0, 1, 0, []),
  (false, 55, .getfield 44, 3, 9, [9, 3, 4, 159]),
  (false, 58, .iload_n 1, 1, 0, []),
  (false, 59, .aaload, 1, 0, []),
  (false, 60, .aload_n 0, 1, 0, []),
  (false, 61, .getfield 50, 3, 12, [12, 3, 4, 162]),
  (false, 64, .invokevirtual 224, 3, 0, [141, 5, 3, 0, 0, 513, 514, 515, 516, 72, 0]),
  (false, 67, .aload_n 0, 1, 0, []),
  (false, 68, .getfield 50, 3, 12, [12, 3, 4, 162]),
  (false, 71, .iload_n 3, 1, 0, []),
  (false, 72, .laload, 1, 0, []),
  (false, 73, .lreturn, 1, 0, [])]
def cd_F_join : List CI := [(false, 0, .iload_n 1, 1, 0, []),
  (false, 1, .invokestatic 208, 3, 0, [32, 1, 0, 0, 0, 476, 477, 0, 478, 69, 4]),
  (false, 4, .ifCond .ne 28, 3, 0, [32]),
  (false, 7, .iload_n 2, 1, 0, []),
  (false, 8, .invokestatic 208, 3, 0, [32, 1, 0, 0, 0, 476, 477, 0, 478, 69, 4]),
  (false, 11, .ifCond .ne 21, 3, 0, [32]),
  (false, 14, .iload_n 3, 1, 0, []),
  (false, 15, .invokestatic 208, 3, 0, [32, 1, 0, 0, 0, 476, 477, 0, 478, 69, 4]),
  (false, 18, .ifCond .ne 14, 3, 0, [32]),
  (false, 21, .iload 4, 2, 0, []),
  (false, 23, .ifCond .lt 9, 3, 0, [32]),
  (false, 26, .iload 4, 2, 0, []),
  (false, 28, .iconst 3, 1, 0, []),
  (false, 29, .if_icmp .le 6, 3, 0, [35]),
  (false, 32, .ldc 102, 2, (-1000001), [212]),
  (false, 34, .ireturn, 1, 0, []),
  (false, 35, .aload_n 0, 1, 0, []),
  (false, 36, .getfield 47, 3, 10, [10, 3, 4, 160]),
  (false, 39, .iload_n 2, 1, 0, []),
  (false, 40, .iaload, 1, 0, []),
  (false, 41, .aload_n 0, 1, 0, []),
  (false, 42, .getfield 47, 3, 10, [10, 3, 4, 160]),
  (false, 45, .iload_n 3, 1, 0, []),
  (false, 46, .iaload, 1, 0, []),
  (false, 47, .invokestatic 227, 3, 0, [1003, 2, 0, 0, 0, 521, 265, 0, 266, 77, 0]),
  (false, 50, .istore 5, 2, 0, []),
  (false, 52, .iload 4, 2, 0, []),
  (false, 54, .iconst 3, 1, 0, []),
  (false, 55, .if_icmp .ne 7, 3, 0, [62]),
  (false, 58, .iconst 1, 1, 0, []),
  (false, 59, .goto 5, 3, 0, [64]),
  (false, 62, .iload 4, 2, 0, []),
  (false, 64, .istore 6, 2, 0, []),
  (false, 66, .aload_n 0, 1, 0, []),
  (false, 67, .getfield 85, 3, 11, [11, 3, 4, 161]),
  (false, 70, .iload 6, 2, 0, []),
  (false, 72, .iload 5, 2, 0, []),
  (false, 74, .aload_n 0, 1, 0, []),
  (false, 75, .getfield 44, 3, 9, [9, 3, 4, 159]),
  (false, 78, .iload_n 2, 1, 0, []),
  (false, 79, .aaload, 1, 0, []),
  (false, 80, .aload_n 0, 1, 0, []),
  (false, 81, .getfield 50, 3, 12, [12, 3, 4, 162]),
  (false, 84, .invokevirtual 224, 3, 0, [141, 5, 3, 0, 0, 513, 514, 515, 516, 72, 0]),
  (false, 87, .aload_n 0, 1, 0, []),
  (false, 88, .getfield 85, 3, 11, [11, 3, 4, 161]),
  (false, 91, .iload 6, 2, 0, []),
  (false, 93, .iload 5, 2, 0, []),
  (false, 95, .aload_n 0, 1, 0, []),
  (false, 96, .getfield 44, 3, 9, [9, 3, 4, 159]),
  (false, 99, .iload_n 3, 1, 0, []),
  (false, 100, .aaload, 1, 0, []),
  (false, 101, .aload_n 0, 1, 0, []),
  (false, 102, .getfield 54, 3, 13, [13, 3, 4, 163]),
  (false, 105, .invokevirtual 224, 3, 0, [141, 5, 3, 0, 0, 513, 514, 515, 516, 72, 0]),
  (false, 108, .iload 4, 2, 0, []),
  (false, 110, .iconst 3, 1, 0, []),
  (false, 111, .if_icmp .ne 23, 3, 0, [134]),
  (false, 114, .aload_n 0, 1, 0, []),
  (false, 115, .getfield 85, 3, 11, [11, 3, 4, 161]),
  (false, 118, .iload 5, 2, 0, []),
  (false, 120, .aload_n 0, 1, 0, []),
  (false, 121, .getfield 50, 3, 12, [12, 3, 4, 162]),
  (false, 124, .aload_n 0, 1, 0, []),
  (false, 125, .getfield 54, 3, 13, [13, 3, 4, 163]),
  (false, 128, .invokevirtual 231, 3, 0, [144, 4, 3, 0, 0, 522, 523, 524, 525, 72, 0]),
  (false, 131, .goto 46, 3, 0, [177]),
  (false, 134, .iconst 1, 1, 0, []),
  (false, 135, .istore 7, 2, 0, []),
  (true, 137, .iload 7, 2, 0, []),
  (false, 139, .iload 5, 2, 0, []),
  (false, 141, .if_icmp .gt 36, 3, 0, [177]),
  (false, 144, .aload_n 0, 1, 0, []),
  (false, 145, .getfield 50, 3, 12, [12, 3, 4, 162]),
  (false, 148, .iload 7, 2, 0, []),
  (false, 150, .aload_n 0, 1, 0, []),
  (false, 151, .getfield 50, 3, 12, [12, 3, 4, 162]),
  (false, 154, .iload 7, 2, 0, []),
  (false, 156, .laload, 1, 0, []),
  (false, 157, .aload_n 0, 1, 0, []),
  (false, 158, .getfield 54, 3, 13, [13, 3, 4, 163]),
  (false, 161, .iload 7, 2, 0, []),
  (false, 163, .laload, 1, 0, []),
  (false, 164, .ladd, 1, 0, []),
  (false, 165, .aload_n 0, 1, 0, []),
  (false, 166, .getfield 76, 3, 0, [0, 1, 4, 150]),
  (false, 169, .lrem, 1, 0, []),
  (false, 170, .lastore, 1, 0, []),
  (false, 171, .iinc 7 1, 3, 0, []),
  (false, 174, .goto (-37), 3, 0, [137]),
  (false, 177, .aload_n 0, 1, 0, []),
  (false, 178, .getfield 47, 3, 10, [10, 3, 4, 160]),
  (false, 181, .iload_n 1, 1, 0, []),
  (false, 182, .iload 5, 2, 0, []),
  (false, 184, .iastore, 1, 0, []),
  (false, 185, .aload_n 0, 1, 0, []),
  (false, 186, .getfield 85, 3, 11, [11, 3, 4, 161]),
  (false, 189, .iload 6, 2, 0, []),
  (false, 191, .iload 5, 2, 0, []),
  (false, 193, .aload_n 0, 1, 0, []),
  (false, 194, .getfield 50, 3, 12, [12, 3, 4, 162]),
  (false, 197, .aload_n 0, 1, 0, []),
  (false, 198, .getfield 44, 3, 9, [9, 3, 4, 159]),
  (false, 201, .iload_n 1, 1, 0, []),
  (false, 202, .aaload, 1, 0, []),
  (false, 203, .invokevirtual 220, 3, 0, [140, 5, 3, 0, 0, 485, 486, 487, 488, 72, 0]),
  (false, 206, .iload 5, 2, 0, []),
  (false, 208, .ireturn, 1, 0, [])]
def cd_F_change : List CI := [(false, 0, .iload_n 1, 1, 0, []),
  (false, 1, .invokestatic 208, 3, 0, [32, 1, 0, 0, 0, 476, 477, 0, 478, 69, 4]),
  (false, 4, .ifCond .ne 35, 3, 0, [39]),
  (false, 7, .iload_n 2, 1, 0, []),
  (false, 8, .invokestatic 208, 3, 0, [32, 1, 0, 0, 0, 476, 477, 0, 478, 69, 4]),
  (false, 11, .ifCond .ne 28, 3, 0, [39]),
  (false, 14, .iload_n 3, 1, 0, []),
  (false, 15, .ifCond .lt 24, 3, 0, [39]),
  (false, 18, .iload_n 3, 1, 0, []),
  (false, 19, .iconst 1, 1, 0, []),
  (false, 20, .if_icmp .gt 19, 3, 0, [39]),
  (false, 23, .iload 4, 2, 0, []),
  (false, 25, .ifCond .lt 14, 3, 0, [39]),
  (false, 28, .iload 4, 2, 0, []),
  (false, 30, .i2l, 1, 0, []),
  (false, 31, .aload_n 0, 1, 0, []),
  (false, 32, .getfield 76, 3, 0, [0, 1, 4, 150]),
  (false, 35, .lcmp, 1, 0, []),
  (false, 36, .ifCond .lt 6, 3, 0, [42]),
  (false, 39, .ldc 102, 2, (-1000001), [212]),
  (false, 41, .ireturn, 1, 0, []),
  (false, 42, .aload_n 0, 1, 0, []),
  (false, 43, .getfield 47, 3, 10, [10, 3, 4, 160]),
  (false, 46, .iload_n 2, 1, 0, []),
  (false, 47, .iaload, 1, 0, []),
  (false, 48, .istore 5, 2, 0, []),
  (false, 50, .aload_n 0, 1, 0, []),
  (false, 51, .getfield 47, 3, 10, [10, 3, 4, 160]),
  (false, 54, .iload_n 1, 1, 0, []),
  (false, 55, .iload 5, 2, 0, []),
  (false, 57, .iastore, 1, 0, []),
  (false, 58, .iload_n 3, 1, 0, []),
  (false, 59, .ifCond .ne 30, 3, 0, [89]),
  (false, 62, .aload_n 0, 1, 0, []),
  (false, 63, .iload 5, 2, 0, []),
  (false, 65, .aload_n 0, 1, 0, []),
  (false, 66, .getfield 44, 3, 9, [9, 3, 4, 159]),
  (false, 69, .iload_n 2, 1, 0, []),
  (false, 70, .aaload, 1, 0, []),
  (false, 71, .aload_n 0, 1, 0, []),
  (false, 72, .getfield 44, 3, 9, [9, 3, 4, 159]),
  (false, 75, .iload_n 1, 1, 0, []),
  (false, 76, .aaload, 1, 0, []),
  (false, 77, .iload 4, 2, 0, []),
  (false, 79, .i2l, 1, 0, []),
  (false, 80, .iload 4, 2, 0, []),
  (false, 82, .i2l, 1, 0, []),
  (false, 83, .invokevirtual 235, 3, 0, [61, 6, 3, 0, 0, 534, 536, 25, 537, 69, 4]),
  (false, 86, .goto 61, 3, 0, [147]),
  (false, 89, .aload_n 0, 1, 0, []),
  (false, 90, .getfield 85, 3, 11, [11, 3, 4, 161]),
  (false, 93, .iconst 1, 1, 0, []),
  (false, 94, .iload 5, 2, 0, []),
  (false, 96, .aload_n 0, 1, 0, []),
  (false, 97, .getfield 44, 3, 9, [9, 3, 4, 159]),
  (false, 100, .iload_n 2, 1, 0, []),
  (false, 101, .aaload, 1, 0, []),
  (false, 102, .aload_n 0, 1, 0, []),
  (false, 103, .getfield 50, 3, 12, [12, 3, 4, 162]),
  (false, 106, .invokevirtual 224, 3, 0, [141, 5, 3, 0, 0, 513, 514, 515, 516, 72, 0]),
  (false, 109, .aload_n 0, 1, 0, []),
  (false, 110, .iload 5, 2, 0, []),
  (false, 112, .aload_n 0, 1, 0, []),
  (false, 113, .getfield 50, 3, 12, [12, 3, 4, 162]),
  (false, 116, .aload_n 0, 1, 0, []),
  (false, 117, .getfield 50, 3, 12, [12, 3, 4, 162]),
  (false, 120, .lconst 1, 1, 1, []),
  (false, 121, .iload 4, 2, 0, []),
  (false, 123, .i2l, 1, 0, []),
  (false, 124, .invokevirtual 235, 3, 0, [61, 6, 3, 0, 0, 534, 536, 25, 537, 69, 4]),
  (false, 127, .aload_n 0, 1, 0, []),
  (false, 128, .getfield 85, 3, 11, [11, 3, 4, 161]),
  (false, 131, .iconst 1, 1, 0, []),
  (false, 132, .iload 5, 2, 0, []),
  (false, 134, .aload_n 0, 1, 0, []),
  (false, 135, .getfield 50, 3, 12, [12, 3, 4, 162]),
  (false, 138, .aload_n 0, 1, 0, []),
  (false, 139, .getfield 44, 3, 9, [9, 3, 4, 159]),
  (false, 142, .iload_n 1, 1, 0, []),
  (false, 143, .aaload, 1, 0, []),
  (false, 144, .invokevirtual 220, 3, 0, [140, 5, 3, 0, 0, 485, 486, 487, 488, 72, 0]),
  (false, 147, .iload 5, 2, 0, []),
  (false, 149, .ireturn, 1, 0, [])]
def cd_F_hankel : List CI := [(false, 0, .iload_n 1, 1, 0, []),
  (false, 1, .invokestatic 208, 3, 0, [32, 1, 0, 0, 0, 476, 477, 0, 478, 69, 4]),
  (false, 4, .ifCond .ne 19, 3, 0, [23]),
  (false, 7, .iload_n 2, 1, 0, []),
  (false, 8, .ifCond .lt 15, 3, 0, [23]),
  (false, 11, .iload_n 2, 1, 0, []),
  (false, 12, .aload_n 0, 1, 0, []),
  (false, 13, .getfield 47, 3, 10, [10, 3, 4, 160]),
  (false, 16, .iload_n 1, 1, 0, []),
  (false, 17, .iaload, 1, 0, []),
  (false, 18, .iconst 2, 1, 0, []),
  (false, 19, .idiv, 1, 0, []),
  (false, 20, .if_icmp .le 7, 3, 0, [27]),
  (false, 23, .ldc2_w 113, 3, (-1000001), [229]),
  (false, 26, .lreturn, 1, 0, []),
  (false, 27, .iconst 0, 1, 0, []),
  (false, 28, .istore_n 3, 1, 0, []),
  (true, 29, .iload_n 3, 1, 0, []),
  (false, 30, .iload_n 2, 1, 0, []),
  (false, 31, .if_icmp .gt 29, 3, 0, [60]),
  (false, 34, .aload_n 0, 1, 0, []),
  (false, 35, .getfield 44, 3, 9, [9, 3, 4, 159]),
  (false, 38, .iload_n 1, 1, 0, []),
  (false, 39, .aaload, 1, 0, []),
  (false, 40, .iload_n 3, 1, 0, []),
  (false, 41, .aload_n 0, 1, 0, []),
  (false, 42, .getfield 57, 3, 14, [14, 3, 4, 164]),
  (false, 45, .iload_n 3, 1, 0, []),
  (false, 46, .aaload, 1, 0, []),
  (false, 47, .iconst 0, 1, 0, []),
  (false, 48, .iload_n 2, 1, 0, []),
  (false, 49, .iconst 1, 1, 0, []),
  (false, 50, .iadd, 1, 0, []),
  (false, 51, .invokestatic 123, 3, 0, [1000, 5, 3, 0, 0, 241, 243, 242, 75]),
  (false, 54, .iinc 3 1, 3, 0, []),
  (false, 57, .goto (-28), 3, 0, [29]),
  (false, 60, .aload_n 0, 1, 0, []),
  (false, 61, .iload_n 2, 1, 0, []),
  (false, 62, .iconst 1, 1, 0, []),
  (false, 63, .iadd, 1, 0, []),
  (false, 64, .invokevirtual 239, 3, 0, [62, 2, 1, 0, 0, 542, 544, 26, 545, 69, 4]),
  (false, 67, .lreturn, 1, 0, [])]
def cd_F_same : List CI := [(false, 0, .iload_n 1, 1, 0, []),
  (false, 1, .invokestatic 208, 3, 0, [32, 1, 0, 0, 0, 476, 477, 0, 478, 69, 4]),
  (false, 4, .ifCond .ne 10, 3, 0, [14]),
  (false, 7, .iload_n 2, 1, 0, []),
  (false, 8, .invokestatic 208, 3, 0, [32, 1, 0, 0, 0, 476, 477, 0, 478, 69, 4]),
  (false, 11, .ifCond .eq 6, 3, 0, [17]),
  (false, 14, .ldc 102, 2, (-1000001), [212]),
  (false, 16, .ireturn, 1, 0, []),
  (false, 17, .aload_n 0, 1, 0, []),
  (false, 18, .getfield 47, 3, 10, [10, 3, 4, 160]),
  (false, 21, .iload_n 1, 1, 0, []),
  (false, 22, .iaload, 1, 0, []),
  (false, 23, .aload_n 0, 1, 0, []),
  (false, 24, .getfield 47, 3, 10, [10, 3, 4, 160]),
  (false, 27, .iload_n 2, 1, 0, []),
  (false, 28, .iaload, 1, 0, []),
  (false, 29, .if_icmp .eq 5, 3, 0, [34]),
  (false, 32, .iconst 0, 1, 0, []),
  (false, 33, .ireturn, 1, 0, []),
  (false, 34, .iconst 1, 1, 0, []),
  (false, 35, .istore_n 3, 1, 0, []),
  (true, 36, .iload_n 3, 1, 0, []),
  (false, 37, .aload_n 0, 1, 0, []),
  (false, 38, .getfield 47, 3, 10, [10, 3, 4, 160]),
  (false, 41, .iload_n 1, 1, 0, []),
  (false, 42, .iaload, 1, 0, []),
  (false, 43, .if_icmp .gt 31, 3, 0, [74]),
  (false, 46, .aload_n 0, 1, 0, []),
  (false, 47, .getfield 44, 3, 9, [9, 3, 4, 159]),
  (false, 50, .iload_n 1, 1, 0, []),
  (false, 51, .aaload, 1, 0, []),
  (false, 52, .iload_n 3, 1, 0, []),
  (false, 53, .laload, 1, 0, []),
  (false, 54, .aload_n 0, 1, 0, []),
  (false, 55, .getfield 44, 3, 9, [9, 3, 4, 159]),
  (false, 58, .iload_n 2, 1, 0, []),
  (false, 59, .aaload, 1, 0, []),
  (false, 60, .iload_n 3, 1, 0, []),
  (false, 61, .laload, 1, 0, []),
  (false, 62, .lcmp, 1, 0, []),
  (false, 63, .ifCond .eq 5, 3, 0, [68]),
  (false, 66, .iconst 0, 1, 0, []),
  (false, 67, .ireturn, 1, 0, []),
  (false, 68, .iinc 3 1, 3, 0, []),
  (false, 71, .goto (-35), 3, 0, [36]),
  (false, 74, .iconst 1, 1, 0, []),
  (false, 75, .ireturn, 1, 0, [])]
def cd_F_genus : List CI := [(false, 0, .iload_n 1, 1, 0, []),
  (false, 1, .invokestatic 243, 3, 0, [34, 1, 0, 0, 0, 566, 567, 0, 568, 69, 4]),
  (false, 4, .ifCond .ne 7, 3, 0, [11]),
  (false, 7, .iload_n 2, 1, 0, []),
  (false, 8, .ifCond .ge 7, 3, 0, [15]),
  (false, 11, .ldc2_w 113, 3, (-1000001), [229]),
  (false, 14, .lreturn, 1, 0, []),
  (false, 15, .iload_n 2, 1, 0, []),
  (false, 16, .iconst 5, 1, 0, []),
  (false, 17, .if_icmp .le 7, 3, 0, [24]),
  (false, 20, .lconst 0, 1, 0, []),
  (false, 21, .goto 11, 3, 0, [32]),
  (false, 24, .aload_n 0, 1, 0, []),
  (false, 25, .getfield 60, 3, 15, [15, 3, 4, 165]),
  (false, 28, .iload_n 1, 1, 0, []),
  (false, 29, .aaload, 1, 0, []),
  (false, 30, .iload_n 2, 1, 0, []),
  (false, 31, .laload, 1, 0, []),
  (false, 32, .lreturn, 1, 0, [])]
def cd_F_mean : List CI := [(false, 0, .iload_n 1, 1, 0, []),
  (false, 1, .invokestatic 243, 3, 0, [34, 1, 0, 0, 0, 566, 567, 0, 568, 69, 4]),
  (false, 4, .ifCond .ne 14, 3, 0, [18]),
  (false, 7, .iload_n 2, 1, 0, []),
  (false, 8, .ifCond .lt 10, 3, 0, [18]),
  (false, 11, .iload_n 2, 1, 0, []),
  (false, 12, .sipush 1000, 3, 0, []),
  (false, 15, .if_icmp .le 7, 3, 0, [22]),
  (false, 18, .ldc2_w 113, 3, (-1000001), [229]),
  (false, 21, .lreturn, 1, 0, []),
  (false, 22, .lconst 0, 1, 0, []),
  (false, 23, .lstore_n 3, 1, 0, []),
  (false, 24, .iconst 0, 1, 0, []),
  (false, 25, .istore 5, 2, 0, []),
  (true, 27, .iload 5, 2, 0, []),
  (false, 29, .iload_n 1, 1, 0, []),
  (false, 30, .iconst 2, 1, 0, []),
  (false, 31, .idiv, 1, 0, []),
  (false, 32, .if_icmp .gt 47, 3, 0, [79]),
  (false, 35, .lload_n 3, 1, 0, []),
  (false, 36, .aload_n 0, 1, 0, []),
  (false, 37, .getfield 60, 3, 15, [15, 3, 4, 165]),
  (false, 40, .iload_n 1, 1, 0, []),
  (false, 41, .aaload, 1, 0, []),
  (false, 42, .iload 5, 2, 0, []),
  (false, 44, .laload, 1, 0, []),
  (false, 45, .aload_n 0, 1, 0, []),
  (false, 46, .getfield 76, 3, 0, [0, 1, 4, 150]),
  (false, 49, .lrem, 1, 0, []),
  (false, 50, .aload_n 0, 1, 0, []),
  (false, 51, .iload_n 2, 1, 0, []),
  (false, 52, .i2l, 1, 0, []),
  (false, 53, .iload_n 1, 1, 0, []),
  (false, 54, .iconst 1, 1, 0, []),
  (false, 55, .iadd, 1, 0, []),
  (false, 56, .iconst 2, 1, 0, []),
  (false, 57, .iload 5, 2, 0, []),
  (false, 59, .imul, 1, 0, []),
  (false, 60, .isub, 1, 0, []),
  (false, 61, .i2l, 1, 0, []),
  (false, 62, .invokevirtual 246, 3, 0, [60, 3, 1, 0, 0, 554, 556, 29, 557, 69, 4]),
  (false, 65, .lmul, 1, 0, []),
  (false, 66, .ladd, 1, 0, []),
  (false, 67, .aload_n 0, 1, 0, []),
  (false, 68, .getfield 76, 3, 0, [0, 1, 4, 150]),
  (false, 71, .lrem, 1, 0, []),
  (false, 72, .lstore_n 3, 1, 0, []),
  (false, 73, .iinc 5 1, 3, 0, []),
  (false, 76, .goto (-49), 3, 0, [27]),
  (false, 79, .lload_n 3, 1, 0, []),
  (false, 80, .lreturn, 1, 0, [])]
def cd_F_walks : List CI := [(false, 0, .iload_n 1, 1, 0, []),
  (false, 1, .iconst 1, 1, 0, []),
  (false, 2, .if_icmp .lt 18, 3, 0, [20]),
  (false, 5, .iload_n 1, 1, 0, []),
  (false, 6, .iconst 4, 1, 0, []),
  (false, 7, .if_icmp .gt 13, 3, 0, [20]),
  (false, 10, .iload_n 2, 1, 0, []),
  (false, 11, .ifCond .lt 9, 3, 0, [20]),
  (false, 14, .iload_n 2, 1, 0, []),
  (false, 15, .bipush 12, 2, 0, []),
  (false, 17, .if_icmp .le 7, 3, 0, [24]),
  (false, 20, .ldc2_w 113, 3, (-1000001), [229]),
  (false, 23, .lreturn, 1, 0, []),
  (false, 24, .aload_n 0, 1, 0, []),
  (false, 25, .getfield 63, 3, 16, [16, 3, 4, 166]),
  (false, 28, .lconst 0, 1, 0, []),
  (false, 29, .invokestatic 107, 3, 0, [170, 2, 3, 0, 0, 218, 219, 0, 220, 71, 0]),
  (false, 32, .aload_n 0, 1, 0, []),
  (false, 33, .getfield 63, 3, 16, [16, 3, 4, 166]),
  (false, 36, .iconst 0, 1, 0, []),
  (false, 37, .lconst 1, 1, 1, []),
  (false, 38, .lastore, 1, 0, []),
  (false, 39, .iconst 0, 1, 0, []),
  (false, 40, .istore_n 3, 1, 0, []),
  (true, 41, .iload_n 3, 1, 0, []),
  (false, 42, .iload_n 2, 1, 0, []),
  (false, 43, .if_icmp .ge 16, 3, 0, [59]),
  (false, 46, .aload_n 0, 1, 0, []),
  (false, 47, .iconst 2, 1, 0, []),
  (false, 48, .iload_n 1, 1, 0, []),
  (false, 49, .imul, 1, 0, []),
  (false, 50, .invokevirtual 249, 3, 0, [66, 2, 3, 0, 0, 577, 579, 30, 580, 69, 4]),
  (false, 53, .iinc 3 1, 3, 0, []),
  (false, 56, .goto (-15), 3, 0, [41]),
  (false, 59, .aload_n 0, 1, 0, []),
  (false, 60, .getfield 63, 3, 16, [16, 3, 4, 166]),
  (false, 63, .iconst 0, 1, 0, []),
  (false, 64, .laload, 1, 0, []),
  (false, 65, .lreturn, 1, 0, [])]
def cd_F_count : List CI := [(false, 0, .iload_n 1, 1, 0, []),
  (false, 1, .tableswitch 84 0 6 #[43, 48, 54, 60, 66, 72, 78], 43, 0, [85, 44, 49, 55, 61, 67, 73, 79]),
  (false, 44, .aload_n 0, 1, 0, []),
  (false, 45, .invokevirtual 253, 3, 0, [46, 1, 0, 0, 0, 585, 587, 31, 588, 69, 4]),
  (false, 48, .ireturn, 1, 0, []),
  (false, 49, .aload_n 0, 1, 0, []),
  (false, 50, .iconst 0, 1, 0, []),
  (false, 51, .invokevirtual 257, 3, 0, [47, 2, 0, 0, 0, 589, 591, 32, 592, 69, 4]),
  (false, 54, .ireturn, 1, 0, []),
  (false, 55, .aload_n 0, 1, 0, []),
  (false, 56, .iconst 1, 1, 0, []),
  (false, 57, .invokevirtual 257, 3, 0, [47, 2, 0, 0, 0, 589, 591, 32, 592, 69, 4]),
  (false, 60, .ireturn, 1, 0, []),
  (false, 61, .aload_n 0, 1, 0, []),
  (false, 62, .iconst 2, 1, 0, []),
  (false, 63, .invokevirtual 257, 3, 0, [47, 2, 0, 0, 0, 589, 591, 32, 592, 69, 4]),
  (false, 66, .ireturn, 1, 0, []),
  (false, 67, .aload_n 0, 1, 0, []),
  (false, 68, .iconst 3, 1, 0, []),
  (false, 69, .invokevirtual 257, 3, 0, [47, 2, 0, 0, 0, 589, 591, 32, 592, 69, 4]),
  (false, 72, .ireturn, 1, 0, []),
  (false, 73, .aload_n 0, 1, 0, []),
  (false, 74, .iconst 4, 1, 0, []),
  (false, 75, .invokevirtual 257, 3, 0, [47, 2, 0, 0, 0, 589, 591, 32, 592, 69, 4]),
  (false, 78, .ireturn, 1, 0, []),
  (false, 79, .aload_n 0, 1, 0, []),
  (false, 80, .getfield 76, 3, 0, [0, 1, 4, 150]),
  (false, 83, .l2i, 1, 0, []),
  (false, 84, .ireturn, 1, 0, []),
  (false, 85, .ldc 102, 2, (-1000001), [212]),
  (false, 87, .ireturn, 1, 0, [])]
def cd_F_status : List CI := [(false, 0, .aload_n 0, 1, 0, []),
  (false, 1, .getfield 66, 3, 17, [17, 0, 4, 167]),
  (false, 4, .ireturn, 1, 0, [])]
def cd_F_noSheet : List CI := [(false, 0, .iload_n 0, 1, 0, []),
  (false, 1, .ifCond .lt 9, 3, 0, [10]),
  (false, 4, .iload_n 0, 1, 0, []),
  (false, 5, .bipush 8, 2, 0, []),
  (false, 7, .if_icmp .lt 7, 3, 0, [14]),
  (false, 10, .iconst 1, 1, 0, []),
  (false, 11, .goto 4, 3, 0, [15]),
  (false, 14, .iconst 0, 1, 0, []),
  (false, 15, .ireturn, 1, 0, [])]
def cd_F_noPlace : List CI := [(false, 0, .iload_n 0, 1, 0, []),
  (false, 1, .ifCond .lt 9, 3, 0, [10]),
  (false, 4, .iload_n 0, 1, 0, []),
  (false, 5, .bipush 10, 2, 0, []),
  (false, 7, .if_icmp .lt 7, 3, 0, [14]),
  (false, 10, .iconst 1, 1, 0, []),
  (false, 11, .goto 4, 3, 0, [15]),
  (false, 14, .iconst 0, 1, 0, []),
  (false, 15, .ireturn, 1, 0, [])]
def cd_F_noSeries : List CI := [(false, 0, .iload_n 0, 1, 0, []),
  (false, 1, .ifCond .lt 9, 3, 0, [10]),
  (false, 4, .iload_n 0, 1, 0, []),
  (false, 5, .bipush 8, 2, 0, []),
  (false, 7, .if_icmp .lt 7, 3, 0, [14]),
  (false, 10, .iconst 1, 1, 0, []),
  (false, 11, .goto 4, 3, 0, [15]),
  (false, 14, .iconst 0, 1, 0, []),
  (false, 15, .ireturn, 1, 0, [])]
def cd_F_noSort : List CI := [(false, 0, .iload_n 0, 1, 0, []),
  (false, 1, .ldc 145, 2, (-1000000), [324]),
  (false, 3, .if_icmp .eq 16, 3, 0, [19]),
  (false, 6, .iload_n 0, 1, 0, []),
  (false, 7, .ifCond .lt 8, 3, 0, [15]),
  (false, 10, .iload_n 0, 1, 0, []),
  (false, 11, .iconst 2, 1, 0, []),
  (false, 12, .if_icmp .le 7, 3, 0, [19]),
  (false, 15, .iconst 1, 1, 0, []),
  (false, 16, .goto 4, 3, 0, [20]),
  (false, 19, .iconst 0, 1, 0, []),
  (false, 20, .ireturn, 1, 0, [])]
def cd_F_noPairs : List CI := [(false, 0, .iload_n 0, 1, 0, []),
  (false, 1, .iconst 1, 1, 0, []),
  (false, 2, .if_icmp .lt 9, 3, 0, [11]),
  (false, 5, .iload_n 0, 1, 0, []),
  (false, 6, .bipush 10, 2, 0, []),
  (false, 8, .if_icmp .le 7, 3, 0, [15]),
  (false, 11, .iconst 1, 1, 0, []),
  (false, 12, .goto 4, 3, 0, [16]),
  (false, 15, .iconst 0, 1, 0, []),
  (false, 16, .ireturn, 1, 0, [])]
def cd_F_noRun : List CI := [(false, 0, .iload_n 2, 1, 0, []),
  (false, 1, .ifCond .lt 19, 3, 0, [20]),
  (false, 4, .iload_n 3, 1, 0, []),
  (false, 5, .ifCond .lt 15, 3, 0, [20]),
  (false, 8, .iload_n 2, 1, 0, []),
  (false, 9, .aload_n 0, 1, 0, []),
  (false, 10, .getfield 18, 3, 3, [3, 3, 4, 153]),
  (false, 13, .iload_n 1, 1, 0, []),
  (false, 14, .iaload, 1, 0, []),
  (false, 15, .iload_n 3, 1, 0, []),
  (false, 16, .isub, 1, 0, []),
  (false, 17, .if_icmp .le 7, 3, 0, [24]),
  (false, 20, .iconst 1, 1, 0, []),
  (false, 21, .goto 4, 3, 0, [25]),
  (false, 24, .iconst 0, 1, 0, []),
  (false, 25, .ireturn, 1, 0, [])]
def cd_F_finding : List CI := [(false, 0, .aload_n 0, 1, 0, []),
  (false, 1, .iload_n 1, 1, 0, []),
  (false, 2, .putfield 66, 3, 17, [17, 0, 4, 167]),
  (false, 5, .ldc_w 260, 3, (-1000010), [217]),
  (false, 8, .iload_n 1, 1, 0, []),
  (false, 9, .isub, 1, 0, []),
  (false, 10, .ireturn, 1, 0, [])]
def cd_F_fine : List CI := [(false, 0, .aload_n 0, 1, 0, []),
  (false, 1, .iconst 0, 1, 0, []),
  (false, 2, .putfield 66, 3, 17, [17, 0, 4, 167]),
  (false, 5, .iload_n 1, 1, 0, []),
  (false, 6, .ireturn, 1, 0, [])]
def cd_F_lowestBits : List CI := [(false, 0, .iload_n 0, 1, 0, []),
  (false, 1, .ifCond .ne 8, 3, 0, [9]),
  (false, 4, .lload_n 1, 1, 0, []),
  (false, 5, .l2i, 1, 0, []),
  (false, 6, .i2b, 1, 0, []),
  (false, 7, .i2l, 1, 0, []),
  (false, 8, .lreturn, 1, 0, []),
  (false, 9, .iload_n 0, 1, 0, []),
  (false, 10, .iconst 1, 1, 0, []),
  (false, 11, .if_icmp .ne 9, 3, 0, [20]),
  (false, 14, .lload_n 1, 1, 0, []),
  (false, 15, .l2i, 1, 0, []),
  (false, 16, .i2l, 1, 0, []),
  (false, 17, .goto 4, 3, 0, [21]),
  (false, 20, .lload_n 1, 1, 0, []),
  (false, 21, .lreturn, 1, 0, [])]
def cd_F_labelLikeItems : List CI := [(false, 0, .iconst 0, 1, 0, []),
  (false, 1, .istore 4, 2, 0, []),
  (true, 3, .iload 4, 2, 0, []),
  (false, 5, .iload_n 3, 1, 0, []),
  (false, 6, .if_icmp .ge 50, 3, 0, [56]),
  (false, 9, .iconst 0, 1, 0, []),
  (false, 10, .istore 5, 2, 0, []),
  (true, 12, .iload 5, 2, 0, []),
  (false, 14, .iload 4, 2, 0, []),
  (false, 16, .if_icmp .ge 25, 3, 0, [41]),
  (false, 19, .aload_n 1, 1, 0, []),
  (false, 20, .iload_n 2, 1, 0, []),
  (false, 21, .iload 5, 2, 0, []),
  (false, 23, .iadd, 1, 0, []),
  (false, 24, .laload, 1, 0, []),
  (false, 25, .aload_n 1, 1, 0, []),
  (false, 26, .iload_n 2, 1, 0, []),
  (false, 27, .iload 4, 2, 0, []),
  (false, 29, .iadd, 1, 0, []),
  (false, 30, .laload, 1, 0, []),
  (false, 31, .lcmp, 1, 0, []),
  (false, 32, .ifCond .eq 9, 3, 0, [41]),
  (false, 35, .iinc 5 1, 3, 0, []),
  (false, 38, .goto (-26), 3, 0, [12]),
  (false, 41, .aload_n 0, 1, 0, []),
  (false, 42, .getfield 34, 3, 6, [6, 3, 4, 156]),
  (false, 45, .iload 4, 2, 0, []),
  (false, 47, .iload 5, 2, 0, []),
  (false, 49, .iastore, 1, 0, []),
  (false, 50, .iinc 4 1, 3, 0, []),
  (false, 53, .goto (-50), 3, 0, [3]),
  (false, 56, .return_, 1, 0, [])]
def cd_F_shelve : List CI := [(false, 0, .aload_n 0, 1, 0, []),
  (false, 1, .getfield 23, 3, 4, [4, 3, 4, 154]),
  (false, 4, .iload_n 1, 1, 0, []),
  (false, 5, .aload_n 2, 1, 0, []),
  (false, 6, .aastore, 1, 0, []),
  (false, 7, .aload_n 0, 1, 0, []),
  (false, 8, .aload_n 2, 1, 0, []),
  (false, 9, .getfield 171, 3, 4, [4, 0, 3, 302]),
  (false, 12, .invokevirtual 110, 3, 0, [37, 2, 0, 0, 0, 221, 223, 1, 224, 69, 4]),
  (false, 15, .ireturn, 1, 0, [])]
def cd_F_meetOf : List CI := [(false, 0, .iconst 0, 1, 0, []),
  (false, 1, .istore_n 3, 1, 0, []),
  (true, 2, .iload_n 3, 1, 0, []),
  (false, 3, .aload_n 1, 1, 0, []),
  (false, 4, .getfield 153, 3, 0, [0, 0, 3, 293]),
  (false, 7, .if_icmp .ge 31, 3, 0, [38]),
  (false, 10, .aload_n 0, 1, 0, []),
  (false, 11, .getfield 34, 3, 6, [6, 3, 4, 156]),
  (false, 14, .iload_n 3, 1, 0, []),
  (false, 15, .aload_n 1, 1, 0, []),
  (false, 16, .getfield 184, 3, 2, [2, 3, 3, 298]),
  (false, 19, .iload_n 3, 1, 0, []),
  (false, 20, .iaload, 1, 0, []),
  (false, 21, .bipush 10, 2, 0, []),
  (false, 23, .imul, 1, 0, []),
  (false, 24, .aload_n 2, 1, 0, []),
  (false, 25, .getfield 184, 3, 2, [2, 3, 3, 298]),
  (false, 28, .iload_n 3, 1, 0, []),
  (false, 29, .iaload, 1, 0, []),
  (false, 30, .iadd, 1, 0, []),
  (false, 31, .iastore, 1, 0, []),
  (false, 32, .iinc 3 1, 3, 0, []),
  (false, 35, .goto (-33), 3, 0, [2]),
  (false, 38, .new 21, 3, 0, [3, 88, 259, 76]),
  (false, 41, .dup, 1, 0, []),
  (false, 42, .aload_n 0, 1, 0, []),
  (false, 43, .getfield 34, 3, 6, [6, 3, 4, 156]),
  (false, 46, .aload_n 1, 1, 0, []),
  (false, 47, .getfield 153, 3, 0, [0, 0, 3, 293]),
  (false, 50, .invokespecial 136, 3, 0, [153, 3, 3, 1, 10, 260, 261, 0, 262, 76, 3]),
  (false, 53, .areturn, 1, 0, [])]
def cd_F_joinOf : List CI := [(false, 0, .aload_n 0, 1, 0, []),
  (false, 1, .aload_n 0, 1, 0, []),
  (false, 2, .aload_n 1, 1, 0, []),
  (false, 3, .invokevirtual 167, 3, 0, [44, 2, 2, 2, 15, 345, 347, 7, 348, 69, 4]),
  (false, 6, .aload_n 0, 1, 0, []),
  (false, 7, .aload_n 2, 1, 0, []),
  (false, 8, .invokevirtual 167, 3, 0, [44, 2, 2, 2, 15, 345, 347, 7, 348, 69, 4]),
  (false, 11, .invokevirtual 156, 3, 0, [41, 3, 2, 2, 15, 337, 339, 5, 340, 69, 4]),
  (false, 14, .astore_n 3, 1, 0, []),
  (false, 15, .aload_n 0, 1, 0, []),
  (false, 16, .aload_n 0, 1, 0, []),
  (false, 17, .aload_n 3, 1, 0, []),
  (false, 18, .invokevirtual 167, 3, 0, [44, 2, 2, 2, 15, 345, 347, 7, 348, 69, 4]),
  (false, 21, .aload_n 3, 1, 0, []),
  (false, 22, .getfield 153, 3, 0, [0, 0, 3, 293]),
  (false, 25, .iconst 1, 1, 0, []),
  (false, 26, .isub, 1, 0, []),
  (false, 27, .invokevirtual 163, 3, 0, [43, 3, 2, 2, 15, 362, 364, 10, 365, 69, 4]),
  (false, 30, .areturn, 1, 0, [])]
def cd_F_turnedBy : List CI := [(false, 0, .iconst 0, 1, 0, []),
  (false, 1, .istore_n 3, 1, 0, []),
  (true, 2, .iload_n 3, 1, 0, []),
  (false, 3, .aload_n 1, 1, 0, []),
  (false, 4, .getfield 153, 3, 0, [0, 0, 3, 293]),
  (false, 7, .if_icmp .ge 46, 3, 0, [53]),
  (false, 10, .iload_n 3, 1, 0, []),
  (false, 11, .iload_n 2, 1, 0, []),
  (false, 12, .iadd, 1, 0, []),
  (false, 13, .istore 4, 2, 0, []),
  (false, 15, .aload_n 0, 1, 0, []),
  (false, 16, .getfield 34, 3, 6, [6, 3, 4, 156]),
  (false, 19, .iload_n 3, 1, 0, []),
  (false, 20, .aload_n 1, 1, 0, []),
  (false, 21, .getfield 184, 3, 2, [2, 3, 3, 298]),
  (false, 24, .iload 4, 2, 0, []),
  (false, 26, .aload_n 1, 1, 0, []),
  (false, 27, .getfield 153, 3, 0, [0, 0, 3, 293]),
  (false, 30, .if_icmp .ge 8, 3, 0, [38]),
  (false, 33, .iload 4, 2, 0, []),
  (false, 35, .goto 10, 3, 0, [45]),
  (false, 38, .iload 4, 2, 0, []),
  (false, 40, .aload_n 1, 1, 0, []),
  (false, 41, .getfield 153, 3, 0, [0, 0, 3, 293]),
  (false, 44, .isub, 1, 0, []),
  (false, 45, .iaload, 1, 0, []),
  (false, 46, .iastore, 1, 0, []),
  (false, 47, .iinc 3 1, 3, 0, []),
  (false, 50, .goto (-48), 3, 0, [2]),
  (false, 53, .new 21, 3, 0, [3, 88, 259, 76]),
  (false, 56, .dup, 1, 0, []),
  (false, 57, .aload_n 0, 1, 0, []),
  (false, 58, .getfield 34, 3, 6, [6, 3, 4, 156]),
  (false, 61, .aload_n 1, 1, 0, []),
  (false, 62, .getfield 153, 3, 0, [0, 0, 3, 293]),
  (false, 65, .invokespecial 136, 3, 0, [153, 3, 3, 1, 10, 260, 261, 0, 262, 76, 3]),
  (false, 68, .areturn, 1, 0, [])]
def cd_F_complementOf : List CI := [(false, 0, .aload_n 1, 1, 0, []),
  (false, 1, .aload_n 0, 1, 0, []),
  (false, 2, .getfield 34, 3, 6, [6, 3, 4, 156]),
  (false, 5, .invokevirtual 261, 3, 0, [164, 2, 0, 0, 0, 349, 350, 351, 352, 76, 3]),
  (false, 8, .pop, 1, 0, []),
  (false, 9, .new 21, 3, 0, [3, 88, 259, 76]),
  (false, 12, .dup, 1, 0, []),
  (false, 13, .aload_n 0, 1, 0, []),
  (false, 14, .getfield 34, 3, 6, [6, 3, 4, 156]),
  (false, 17, .aload_n 1, 1, 0, []),
  (false, 18, .getfield 153, 3, 0, [0, 0, 3, 293]),
  (false, 21, .invokespecial 136, 3, 0, [153, 3, 3, 1, 10, 260, 261, 0, 262, 76, 3]),
  (false, 24, .areturn, 1, 0, [])]
def cd_F_handlesOf : List CI := [(false, 0, .aload_n 1, 1, 0, []),
  (false, 1, .aload_n 0, 1, 0, []),
  (false, 2, .getfield 34, 3, 6, [6, 3, 4, 156]),
  (false, 5, .invokevirtual 261, 3, 0, [164, 2, 0, 0, 0, 349, 350, 351, 352, 76, 3]),
  (false, 8, .istore_n 2, 1, 0, []),
  (false, 9, .aload_n 1, 1, 0, []),
  (false, 10, .getfield 153, 3, 0, [0, 0, 3, 293]),
  (false, 13, .iconst 2, 1, 0, []),
  (false, 14, .idiv, 1, 0, []),
  (false, 15, .iconst 1, 1, 0, []),
  (false, 16, .iadd, 1, 0, []),
  (false, 17, .iload_n 2, 1, 0, []),
  (false, 18, .isub, 1, 0, []),
  (false, 19, .iconst 2, 1, 0, []),
  (false, 20, .idiv, 1, 0, []),
  (false, 21, .ireturn, 1, 0, [])]
def cd_F_countSheets : List CI := [(false, 0, .iconst 0, 1, 0, []),
  (false, 1, .istore_n 1, 1, 0, []),
  (false, 2, .aload_n 0, 1, 0, []),
  (false, 3, .getfield 18, 3, 3, [3, 3, 4, 153]),
  (false, 6, .astore_n 2, 1, 0, []),
  (false, 7, .aload_n 2, 1, 0, []),
  (false, 8, .arraylength, 1, 0, []),
  (false, 9, .istore_n 3, 1, 0, []),
  (false, 10, .iconst 0, 1, 0, []),
  (false, 11, .istore 4, 2, 0, []),
  (true, 13, .iload 4, 2, 0, []),
  (false, 15, .iload_n 3, 1, 0, []),
  (false, 16, .if_icmp .ge 24, 3, 0, [40]),
  (false, 19, .aload_n 2, 1, 0, []),
  (false, 20, .iload 4, 2, 0, []),
  (false, 22, .iaload, 1, 0, []),
  (false, 23, .istore 5, 2, 0, []),
  (false, 25, .iload 5, 2, 0, []),
  (false, 27, .iconst (-1), 1, 0, []),
  (false, 28, .if_icmp .eq 6, 3, 0, [34]),
  (false, 31, .iinc 1 1, 3, 0, []),
  (false, 34, .iinc 4 1, 3, 0, []),
  (false, 37, .goto (-24), 3, 0, [13]),
  (false, 40, .iload_n 1, 1, 0, []),
  (false, 41, .ireturn, 1, 0, [])]
def cd_F_countThings : List CI := [(false, 0, .iconst 0, 1, 0, []),
  (false, 1, .istore_n 2, 1, 0, []),
  (false, 2, .aload_n 0, 1, 0, []),
  (false, 3, .getfield 23, 3, 4, [4, 3, 4, 154]),
  (false, 6, .astore_n 3, 1, 0, []),
  (false, 7, .aload_n 3, 1, 0, []),
  (false, 8, .arraylength, 1, 0, []),
  (false, 9, .istore 4, 2, 0, []),
  (false, 11, .iconst 0, 1, 0, []),
  (false, 12, .istore 5, 2, 0, []),
  (true, 14, .iload 5, 2, 0, []),
  (false, 16, .iload 4, 2, 0, []),
  (false, 18, .if_icmp .ge 32, 3, 0, [50]),
  (false, 21, .aload_n 3, 1, 0, []),
  (false, 22, .iload 5, 2, 0, []),
  (false, 24, .aaload, 1, 0, []),
  (false, 25, .astore 6, 2, 0, []),
  (false, 27, .aload 6, 2, 0, []),
  (false, 29, .ifnull 15, 3, 0, [44]),
  (false, 32, .aload 6, 2, 0, []),
  (false, 34, .iload_n 1, 1, 0, []),
  (false, 35, .invokevirtual 150, 3, 0, [161, 2, 0, 0, 0, 333, 334, 335, 336, 76, 3]),
  (false, 38, .ifCond .eq 6, 3, 0, [44]),
  (false, 41, .iinc 2 1, 3, 0, []),
  (false, 44, .iinc 5 1, 3, 0, []),
  (false, 47, .goto (-33), 3, 0, [14]),
  (false, 50, .iload_n 2, 1, 0, []),
  (false, 51, .ireturn, 1, 0, [])]
def cd_F_sizeOf : List CI := [(false, 0, .aload_n 1, 1, 0, []),
  (false, 1, .getfield 171, 3, 4, [4, 0, 3, 302]),
  (false, 4, .tableswitch 56 1 4 #[32, 38, 44, 50], 32, 1, [60, 36, 42, 48, 54]),
  (false, 36, .aload_n 0, 1, 0, []),
  (false, 37, .aload_n 1, 1, 0, []),
  (false, 38, .invokevirtual 264, 3, 0, [52, 2, 0, 0, 0, 394, 396, 12, 397, 69, 4]),
  (false, 41, .ireturn, 1, 0, []),
  (false, 42, .aload_n 0, 1, 0, []),
  (false, 43, .aload_n 1, 1, 0, []),
  (false, 44, .invokevirtual 267, 3, 0, [53, 2, 0, 0, 0, 406, 408, 15, 409, 69, 4]),
  (false, 47, .ireturn, 1, 0, []),
  (false, 48, .aload_n 0, 1, 0, []),
  (false, 49, .aload_n 1, 1, 0, []),
  (false, 50, .invokevirtual 270, 3, 0, [54, 2, 0, 0, 0, 410, 412, 16, 413, 69, 4]),
  (false, 53, .ireturn, 1, 0, []),
  (false, 54, .aload_n 0, 1, 0, []),
  (false, 55, .aload_n 1, 1, 0, []),
  (false, 56, .invokevirtual 273, 3, 0, [55, 2, 0, 0, 0, 422, 424, 19, 425, 69, 4]),
  (false, 59, .ireturn, 1, 0, []),
  (false, 60, .aload_n 0, 1, 0, []),
  (false, 61, .aload_n 1, 1, 0, []),
  (false, 62, .invokevirtual 276, 3, 0, [51, 2, 0, 0, 0, 402, 404, 14, 405, 69, 4]),
  (false, 65, .ireturn, 1, 0, [])]
def cd_F_markOf : List CI := [(false, 0, .aload_n 1, 1, 0, []),
  (false, 1, .iconst 1, 1, 0, []),
  (false, 2, .invokevirtual 150, 3, 0, [161, 2, 0, 0, 0, 333, 334, 335, 336, 76, 3]),
  (false, 5, .ifCond .eq 9, 3, 0, [14]),
  (false, 8, .aload_n 0, 1, 0, []),
  (false, 9, .aload_n 1, 1, 0, []),
  (false, 10, .invokevirtual 279, 3, 0, [57, 2, 0, 0, 0, 414, 416, 17, 417, 69, 4]),
  (false, 13, .ireturn, 1, 0, []),
  (false, 14, .aload_n 1, 1, 0, []),
  (false, 15, .getfield 171, 3, 4, [4, 0, 3, 302]),
  (false, 18, .iconst 4, 1, 0, []),
  (false, 19, .if_icmp .ne 11, 3, 0, [30]),
  (false, 22, .aload_n 0, 1, 0, []),
  (false, 23, .aload_n 1, 1, 0, []),
  (false, 24, .invokevirtual 282, 3, 0, [58, 2, 0, 0, 0, 434, 436, 22, 437, 69, 4]),
  (false, 27, .goto 8, 3, 0, [35]),
  (false, 30, .aload_n 0, 1, 0, []),
  (false, 31, .aload_n 1, 1, 0, []),
  (false, 32, .invokevirtual 285, 3, 0, [56, 2, 0, 0, 0, 418, 420, 18, 421, 69, 4]),
  (false, 35, .ireturn, 1, 0, [])]
def cd_F_leaveTrace : List CI := [(false, 0, .aload_n 0, 1, 0, []),
  (false, 1, .getfield 40, 3, 8, [8, 0, 4, 158]),
  (false, 4, .bipush 16, 2, 0, []),
  (false, 6, .if_icmp .ge 23, 3, 0, [29]),
  (false, 9, .aload_n 0, 1, 0, []),
  (false, 10, .getfield 37, 3, 7, [7, 3, 4, 157]),
  (false, 13, .aload_n 0, 1, 0, []),
  (false, 14, .getfield 40, 3, 8, [8, 0, 4, 158]),
  (false, 17, .iload_n 1, 1, 0, []),
  (false, 18, .iastore, 1, 0, []),
  (false, 19, .aload_n 0, 1, 0, []),
  (false, 20, .dup, 1, 0, []),
  (false, 21, .getfield 40, 3, 8, [8, 0, 4, 158]),
  (false, 24, .iconst 1, 1, 0, []),
  (false, 25, .iadd, 1, 0, []),
  (false, 26, .putfield 40, 3, 8, [8, 0, 4, 158]),
  (false, 29, .return_, 1, 0, [])]
def cd_F_body10 : List CI := [(false, 0, .aload_n 0, 1, 0, []),
  (false, 1, .bipush 10, 2, 0, []),
  (false, 3, .invokevirtual 288, 3, 0, [50, 2, 3, 0, 0, 398, 400, 13, 401, 69, 4]),
  (false, 6, .aload_n 1, 1, 0, []),
  (false, 7, .getfield 153, 3, 0, [0, 0, 3, 293]),
  (false, 10, .ireturn, 1, 0, [])]
def cd_F_body11 : List CI := [(false, 0, .aload_n 0, 1, 0, []),
  (false, 1, .bipush 11, 2, 0, []),
  (false, 3, .invokevirtual 288, 3, 0, [50, 2, 3, 0, 0, 398, 400, 13, 401, 69, 4]),
  (false, 6, .aload_n 0, 1, 0, []),
  (false, 7, .aload_n 1, 1, 0, []),
  (false, 8, .invokevirtual 276, 3, 0, [51, 2, 0, 0, 0, 402, 404, 14, 405, 69, 4]),
  (false, 11, .aload_n 1, 1, 0, []),
  (false, 12, .getfield 174, 3, 1, [1, 0, 3, 295]),
  (false, 15, .iadd, 1, 0, []),
  (false, 16, .ireturn, 1, 0, [])]
def cd_F_body12 : List CI := [(false, 0, .aload_n 0, 1, 0, []),
  (false, 1, .bipush 12, 2, 0, []),
  (false, 3, .invokevirtual 288, 3, 0, [50, 2, 3, 0, 0, 398, 400, 13, 401, 69, 4]),
  (false, 6, .iconst 2, 1, 0, []),
  (false, 7, .aload_n 0, 1, 0, []),
  (false, 8, .aload_n 1, 1, 0, []),
  (false, 9, .invokevirtual 264, 3, 0, [52, 2, 0, 0, 0, 394, 396, 12, 397, 69, 4]),
  (false, 12, .imul, 1, 0, []),
  (false, 13, .ireturn, 1, 0, [])]
def cd_F_body13 : List CI := [(false, 0, .aload_n 0, 1, 0, []),
  (false, 1, .bipush 13, 2, 0, []),
  (false, 3, .invokevirtual 288, 3, 0, [50, 2, 3, 0, 0, 398, 400, 13, 401, 69, 4]),
  (false, 6, .aload_n 0, 1, 0, []),
  (false, 7, .aload_n 1, 1, 0, []),
  (false, 8, .invokevirtual 264, 3, 0, [52, 2, 0, 0, 0, 394, 396, 12, 397, 69, 4]),
  (false, 11, .istore_n 2, 1, 0, []),
  (false, 12, .iload_n 2, 1, 0, []),
  (false, 13, .aload_n 0, 1, 0, []),
  (false, 14, .aload_n 1, 1, 0, []),
  (false, 15, .invokevirtual 279, 3, 0, [57, 2, 0, 0, 0, 414, 416, 17, 417, 69, 4]),
  (false, 18, .iadd, 1, 0, []),
  (false, 19, .ireturn, 1, 0, [])]
def cd_F_body14 : List CI := [(false, 0, .aload_n 0, 1, 0, []),
  (false, 1, .bipush 14, 2, 0, []),
  (false, 3, .invokevirtual 288, 3, 0, [50, 2, 3, 0, 0, 398, 400, 13, 401, 69, 4]),
  (false, 6, .aload_n 0, 1, 0, []),
  (false, 7, .aload_n 1, 1, 0, []),
  (false, 8, .invokevirtual 276, 3, 0, [51, 2, 0, 0, 0, 402, 404, 14, 405, 69, 4]),
  (false, 11, .aload_n 0, 1, 0, []),
  (false, 12, .aload_n 1, 1, 0, []),
  (false, 13, .invokevirtual 205, 3, 0, [45, 2, 0, 0, 0, 426, 428, 20, 429, 69, 4]),
  (false, 16, .imul, 1, 0, []),
  (false, 17, .ireturn, 1, 0, [])]
def cd_F_body20 : List CI := [(false, 0, .aload_n 0, 1, 0, []),
  (false, 1, .bipush 20, 2, 0, []),
  (false, 3, .invokevirtual 288, 3, 0, [50, 2, 3, 0, 0, 398, 400, 13, 401, 69, 4]),
  (false, 6, .aload_n 1, 1, 0, []),
  (false, 7, .getfield 174, 3, 1, [1, 0, 3, 295]),
  (false, 10, .ireturn, 1, 0, [])]
def cd_F_body21 : List CI := [(false, 0, .aload_n 0, 1, 0, []),
  (false, 1, .bipush 21, 2, 0, []),
  (false, 3, .invokevirtual 288, 3, 0, [50, 2, 3, 0, 0, 398, 400, 13, 401, 69, 4]),
  (false, 6, .aload_n 0, 1, 0, []),
  (false, 7, .aload_n 1, 1, 0, []),
  (false, 8, .invokevirtual 285, 3, 0, [56, 2, 0, 0, 0, 418, 420, 18, 421, 69, 4]),
  (false, 11, .bipush 100, 2, 0, []),
  (false, 13, .iadd, 1, 0, []),
  (false, 14, .ireturn, 1, 0, [])]
def cd_F_body22 : List CI := [(false, 0, .aload_n 0, 1, 0, []),
  (false, 1, .bipush 22, 2, 0, []),
  (false, 3, .invokevirtual 288, 3, 0, [50, 2, 3, 0, 0, 398, 400, 13, 401, 69, 4]),
  (false, 6, .aload_n 0, 1, 0, []),
  (false, 7, .aload_n 1, 1, 0, []),
  (false, 8, .invokevirtual 285, 3, 0, [56, 2, 0, 0, 0, 418, 420, 18, 421, 69, 4]),
  (false, 11, .istore_n 2, 1, 0, []),
  (false, 12, .iload_n 2, 1, 0, []),
  (false, 13, .aload_n 0, 1, 0, []),
  (false, 14, .aload_n 1, 1, 0, []),
  (false, 15, .invokevirtual 273, 3, 0, [55, 2, 0, 0, 0, 422, 424, 19, 425, 69, 4]),
  (false, 18, .iadd, 1, 0, []),
  (false, 19, .ireturn, 1, 0, [])]
def cd_F_isPrime : List CI := [(false, 0, .iload_n 0, 1, 0, []),
  (false, 1, .iconst 2, 1, 0, []),
  (false, 2, .irem, 1, 0, []),
  (false, 3, .ifCond .eq 9, 3, 0, [12]),
  (false, 6, .iload_n 0, 1, 0, []),
  (false, 7, .iconst 3, 1, 0, []),
  (false, 8, .irem, 1, 0, []),
  (false, 9, .ifCond .ne 5, 3, 0, [14]),
  (false, 12, .iconst 0, 1, 0, []),
  (false, 13, .ireturn, 1, 0, []),
  (false, 14, .iconst 5, 1, 0, []),
  (false, 15, .istore_n 1, 1, 0, []),
  (true, 16, .iload_n 1, 1, 0, []),
  (false, 17, .i2l, 1, 0, []),
  (false, 18, .iload_n 1, 1, 0, []),
  (false, 19, .i2l, 1, 0, []),
  (false, 20, .lmul, 1, 0, []),
  (false, 21, .iload_n 0, 1, 0, []),
  (false, 22, .i2l, 1, 0, []),
  (false, 23, .lcmp, 1, 0, []),
  (false, 24, .ifCond .gt 25, 3, 0, [49]),
  (false, 27, .iload_n 0, 1, 0, []),
  (false, 28, .iload_n 1, 1, 0, []),
  (false, 29, .irem, 1, 0, []),
  (false, 30, .ifCond .eq 11, 3, 0, [41]),
  (false, 33, .iload_n 0, 1, 0, []),
  (false, 34, .iload_n 1, 1, 0, []),
  (false, 35, .iconst 2, 1, 0, []),
  (false, 36, .iadd, 1, 0, []),
  (false, 37, .irem, 1, 0, []),
  (false, 38, .ifCond .ne 5, 3, 0, [43]),
  (false, 41, .iconst 0, 1, 0, []),
  (false, 42, .ireturn, 1, 0, []),
  (false, 43, .iinc 1 6, 3, 0, []),
  (false, 46, .goto (-30), 3, 0, [16]),
  (false, 49, .iconst 1, 1, 0, []),
  (false, 50, .ireturn, 1, 0, [])]
def cd_F_power : List CI := [(false, 0, .lconst 1, 1, 1, []),
  (false, 1, .lstore 5, 2, 0, []),
  (false, 3, .lload_n 1, 1, 0, []),
  (false, 4, .aload_n 0, 1, 0, []),
  (false, 5, .getfield 76, 3, 0, [0, 1, 4, 150]),
  (false, 8, .lrem, 1, 0, []),
  (false, 9, .lstore 7, 2, 0, []),
  (false, 11, .lload_n 3, 1, 0, []),
  (false, 12, .lstore 9, 2, 0, []),
  (true, 14, .lload 9, 2, 0, []),
  (false, 16, .lconst 0, 1, 0, []),
  (false, 17, .lcmp, 1, 0, []),
  (false, 18, .ifCond .le 49, 3, 0, [67]),
  (false, 21, .lload 9, 2, 0, []),
  (false, 23, .ldc2_w 291, 3, 2, [149]),
  (false, 26, .lrem, 1, 0, []),
  (false, 27, .lconst 1, 1, 1, []),
  (false, 28, .lcmp, 1, 0, []),
  (false, 29, .ifCond .ne 15, 3, 0, [44]),
  (false, 32, .lload 5, 2, 0, []),
  (false, 34, .lload 7, 2, 0, []),
  (false, 36, .lmul, 1, 0, []),
  (false, 37, .aload_n 0, 1, 0, []),
  (false, 38, .getfield 76, 3, 0, [0, 1, 4, 150]),
  (false, 41, .lrem, 1, 0, []),
  (false, 42, .lstore 5, 2, 0, []),
  (false, 44, .lload 7, 2, 0, []),
  (false, 46, .lload 7, 2, 0, []),
  (false, 48, .lmul, 1, 0, []),
  (false, 49, .aload_n 0, 1, 0, []),
  (false, 50, .getfield 76, 3, 0, [0, 1, 4, 150]),
  (false, 53, .lrem, 1, 0, []),
  (false, 54, .lstore 7, 2, 0, []),
  (false, 56, .lload 9, 2, 0, []),
  (false, 58, .ldc2_w 291, 3, 2, [149]),
  (false, 61, .ldiv, 1, 0, []),
  (false, 62, .lstore 9, 2, 0, []),
  (false, 64, .goto (-50), 3, 0, [14]),
  (false, 67, .lload 5, 2, 0, []),
  (false, 69, .lreturn, 1, 0, [])]
def cd_F_multiplyByPowers : List CI := [(false, 0, .lload 4, 2, 0, []),
  (false, 2, .lstore 8, 2, 0, []),
  (false, 4, .iconst 1, 1, 0, []),
  (false, 5, .istore 10, 2, 0, []),
  (true, 7, .iload 10, 2, 0, []),
  (false, 9, .iload_n 1, 1, 0, []),
  (false, 10, .if_icmp .gt 37, 3, 0, [47]),
  (false, 13, .aload_n 3, 1, 0, []),
  (false, 14, .iload 10, 2, 0, []),
  (false, 16, .aload_n 2, 1, 0, []),
  (false, 17, .iload 10, 2, 0, []),
  (false, 19, .laload, 1, 0, []),
  (false, 20, .lload 8, 2, 0, []),
  (false, 22, .lmul, 1, 0, []),
  (false, 23, .aload_n 0, 1, 0, []),
  (false, 24, .getfield 76, 3, 0, [0, 1, 4, 150]),
  (false, 27, .lrem, 1, 0, []),
  (false, 28, .lastore, 1, 0, []),
  (false, 29, .lload 8, 2, 0, []),
  (false, 31, .lload 6, 2, 0, []),
  (false, 33, .lmul, 1, 0, []),
  (false, 34, .aload_n 0, 1, 0, []),
  (false, 35, .getfield 76, 3, 0, [0, 1, 4, 150]),
  (false, 38, .lrem, 1, 0, []),
  (false, 39, .lstore 8, 2, 0, []),
  (false, 41, .iinc 10 1, 3, 0, []),
  (false, 44, .goto (-37), 3, 0, [7]),
  (false, 47, .return_, 1, 0, [])]
def cd_F_determinant : List CI := [(false, 0, .lconst 1, 1, 1, []),
  (false, 1, .lstore_n 2, 1, 0, []),
  (false, 2, .iconst 0, 1, 0, []),
  (false, 3, .istore 4, 2, 0, []),
  (true, 5, .iload 4, 2, 0, []),
  (false, 7, .iload_n 1, 1, 0, []),
  (false, 8, .if_icmp .ge 101, 3, 0, [109]),
  (false, 11, .iload 4, 2, 0, []),
  (false, 13, .istore 5, 2, 0, []),
  (true, 15, .iload 5, 2, 0, []),
  (false, 17, .iload_n 1, 1, 0, []),
  (false, 18, .if_icmp .ge 24, 3, 0, [42]),
  (false, 21, .aload_n 0, 1, 0, []),
  (false, 22, .getfield 57, 3, 14, [14, 3, 4, 164]),
  (false, 25, .iload 5, 2, 0, []),
  (false, 27, .aaload, 1, 0, []),
  (false, 28, .iload 4, 2, 0, []),
  (false, 30, .laload, 1, 0, []),
  (false, 31, .lconst 0, 1, 0, []),
  (false, 32, .lcmp, 1, 0, []),
  (false, 33, .ifCond .ne 9, 3, 0, [42]),
  (false, 36, .iinc 5 1, 3, 0, []),
  (false, 39, .goto (-24), 3, 0, [15]),
  (false, 42, .iload 5, 2, 0, []),
  (false, 44, .iload_n 1, 1, 0, []),
  (false, 45, .if_icmp .ne 5, 3, 0, [50]),
  (false, 48, .lconst 0, 1, 0, []),
  (false, 49, .lreturn, 1, 0, []),
  (false, 50, .iload 5, 2, 0, []),
  (false, 52, .iload 4, 2, 0, []),
  (false, 54, .if_icmp .eq 24, 3, 0, [78]),
  (false, 57, .aload_n 0, 1, 0, []),
  (false, 58, .iload 5, 2, 0, []),
  (false, 60, .iload 4, 2, 0, []),
  (false, 62, .iload_n 1, 1, 0, []),
  (false, 63, .invokevirtual 293, 3, 0, [63, 4, 3, 0, 0, 546, 548, 27, 549, 69, 4]),
  (false, 66, .aload_n 0, 1, 0, []),
  (false, 67, .getfield 76, 3, 0, [0, 1, 4, 150]),
  (false, 70, .lload_n 2, 1, 0, []),
  (false, 71, .lsub, 1, 0, []),
  (false, 72, .aload_n 0, 1, 0, []),
  (false, 73, .getfield 76, 3, 0, [0, 1, 4, 150]),
  (false, 76, .lrem, 1, 0, []),
  (false, 77, .lstore_n 2, 1, 0, []),
  (false, 78, .lload_n 2, 1, 0, []),
  (false, 79, .aload_n 0, 1, 0, []),
  (false, 80, .getfield 57, 3, 14, [14, 3, 4, 164]),
  (false, 83, .iload 4, 2, 0, []),
  (false, 85, .aaload, 1, 0, []),
  (false, 86, .iload 4, 2, 0, []),
  (false, 88, .laload, 1, 0, []),
  (false, 89, .lmul, 1, 0, []),
  (false, 90, .aload_n 0, 1, 0, []),
  (false, 91, .getfield 76, 3, 0, [0, 1, 4, 150]),
  (false, 94, .lrem, 1, 0, []),
  (false, 95, .lstore_n 2, 1, 0, []),
  (false, 96, .aload_n 0, 1, 0, []),
  (false, 97, .iload 4, 2, 0, []),
  (false, 99, .iload_n 1, 1, 0, []),
  (false, 100, .invokevirtual 297, 3, 0, [64, 3, 3, 0, 0, 550, 552, 28, 553, 69, 4]),
  (false, 103, .iinc 4 1, 3, 0, []),
  (false, 106, .goto (-101), 3, 0, [5]),
  (false, 109, .lload_n 2, 1, 0, []),
  (false, 110, .lreturn, 1, 0, [])]
def cd_F_swapRows : List CI := [(false, 0, .iconst 0, 1, 0, []),
  (false, 1, .istore 4, 2, 0, []),
  (true, 3, .iload 4, 2, 0, []),
  (false, 5, .iload_n 3, 1, 0, []),
  (false, 6, .if_icmp .ge 49, 3, 0, [55]),
  (false, 9, .aload_n 0, 1, 0, []),
  (false, 10, .getfield 57, 3, 14, [14, 3, 4, 164]),
  (false, 13, .iload_n 1, 1, 0, []),
  (false, 14, .aaload, 1, 0, []),
  (false, 15, .iload 4, 2, 0, []),
  (false, 17, .laload, 1, 0, []),
  (false, 18, .lstore 5, 2, 0, []),
  (false, 20, .aload_n 0, 1, 0, []),
  (false, 21, .getfield 57, 3, 14, [14, 3, 4, 164]),
  (false, 24, .iload_n 1, 1, 0, []),
  (false, 25, .aaload, 1, 0, []),
  (false, 26, .iload 4, 2, 0, []),
  (false, 28, .aload_n 0, 1, 0, []),
  (false, 29, .getfield 57, 3, 14, [14, 3, 4, 164]),
  (false, 32, .iload_n 2, 1, 0, []),
  (false, 33, .aaload, 1, 0, []),
  (false, 34, .iload 4, 2, 0, []),
  (false, 36, .laload, 1, 0, []),
  (false, 37, .lastore, 1, 0, []),
  (false, 38, .aload_n 0, 1, 0, []),
  (false, 39, .getfield 57, 3, 14, [14, 3, 4, 164]),
  (false, 42, .iload_n 2, 1, 0, []),
  (false, 43, .aaload, 1, 0, []),
  (false, 44, .iload 4, 2, 0, []),
  (false, 46, .lload 5, 2, 0, []),
  (false, 48, .lastore, 1, 0, []),
  (false, 49, .iinc 4 1, 3, 0, []),
  (false, 52, .goto (-49), 3, 0, [3]),
  (false, 55, .return_, 1, 0, [])]
def cd_F_clearColumnBelow : List CI := [(false, 0, .aload_n 0, 1, 0, []),
  (false, 1, .aload_n 0, 1, 0, []),
  (false, 2, .getfield 57, 3, 14, [14, 3, 4, 164]),
  (false, 5, .iload_n 1, 1, 0, []),
  (false, 6, .aaload, 1, 0, []),
  (false, 7, .iload_n 1, 1, 0, []),
  (false, 8, .laload, 1, 0, []),
  (false, 9, .aload_n 0, 1, 0, []),
  (false, 10, .getfield 76, 3, 0, [0, 1, 4, 150]),
  (false, 13, .ldc2_w 291, 3, 2, [149]),
  (false, 16, .lsub, 1, 0, []),
  (false, 17, .invokevirtual 246, 3, 0, [60, 3, 1, 0, 0, 554, 556, 29, 557, 69, 4]),
  (false, 20, .lstore_n 3, 1, 0, []),
  (false, 21, .iload_n 1, 1, 0, []),
  (false, 22, .iconst 1, 1, 0, []),
  (false, 23, .iadd, 1, 0, []),
  (false, 24, .istore 5, 2, 0, []),
  (true, 26, .iload 5, 2, 0, []),
  (false, 28, .iload_n 2, 1, 0, []),
  (false, 29, .if_icmp .ge 85, 3, 0, [114]),
  (false, 32, .aload_n 0, 1, 0, []),
  (false, 33, .getfield 76, 3, 0, [0, 1, 4, 150]),
  (false, 36, .aload_n 0, 1, 0, []),
  (false, 37, .getfield 57, 3, 14, [14, 3, 4, 164]),
  (false, 40, .iload 5, 2, 0, []),
  (false, 42, .aaload, 1, 0, []),
  (false, 43, .iload_n 1, 1, 0, []),
  (false, 44, .laload, 1, 0, []),
  (false, 45, .lload_n 3, 1, 0, []),
  (false, 46, .lmul, 1, 0, []),
  (false, 47, .aload_n 0, 1, 0, []),
  (false, 48, .getfield 76, 3, 0, [0, 1, 4, 150]),
  (false, 51, .lrem, 1, 0, []),
  (false, 52, .lsub, 1, 0, []),
  (false, 53, .lstore 6, 2, 0, []),
  (false, 55, .iload_n 1, 1, 0, []),
  (false, 56, .istore 8, 2, 0, []),
  (true, 58, .iload 8, 2, 0, []),
  (false, 60, .iload_n 2, 1, 0, []),
  (false, 61, .if_icmp .ge 47, 3, 0, [108]),
  (false, 64, .aload_n 0, 1, 0, []),
  (false, 65, .getfield 57, 3, 14, [14, 3, 4, 164]),
  (false, 68, .iload 5, 2, 0, []),
  (false, 70, .aaload, 1, 0, []),
  (false, 71, .iload 8, 2, 0, []),
  (false, 73, .aload_n 0, 1, 0, []),
  (false, 74, .getfield 57, 3, 14, [14, 3, 4, 164]),
  (false, 77, .iload 5, 2, 0, []),
  (false, 79, .aaload, 1, 0, []),
  (false, 80, .iload 8, 2, 0, []),
  (false, 82, .laload, 1, 0, []),
  (false, 83, .lload 6, 2, 0, []),
  (false, 85, .aload_n 0, 1, 0, []),
  (false, 86, .getfield 57, 3, 14, [14, 3, 4, 164]),
  (false, 89, .iload_n 1, 1, 0, []),
  (false, 90, .aaload, 1, 0, []),
  (false, 91, .iload 8, 2, 0, []),
  (false, 93, .laload, 1, 0, []),
  (false, 94, .lmul, 1, 0, []),
  (false, 95, .ladd, 1, 0, []),
  (false, 96, .aload_n 0, 1, 0, []),
  (false, 97, .getfield 76, 3, 0, [0, 1, 4, 150]),
  (false, 100, .lrem, 1, 0, []),
  (false, 101, .lastore, 1, 0, []),
  (false, 102, .iinc 8 1, 3, 0, []),
  (false, 105, .goto (-47), 3, 0, [58]),
  (false, 108, .iinc 5 1, 3, 0, []),
  (false, 111, .goto (-85), 3, 0, [26]),
  (false, 114, .return_, 1, 0, [])]
def cd_F_countPairings : List CI := [(false, 0, .aload_n 0, 1, 0, []),
  (false, 1, .iconst 0, 1, 0, []),
  (false, 2, .aaload, 1, 0, []),
  (false, 3, .iconst 0, 1, 0, []),
  (false, 4, .lconst 1, 1, 1, []),
  (false, 5, .lastore, 1, 0, []),
  (false, 6, .iconst 1, 1, 0, []),
  (false, 7, .istore_n 1, 1, 0, []),
  (true, 8, .iload_n 1, 1, 0, []),
  (false, 9, .bipush 10, 2, 0, []),
  (false, 11, .if_icmp .gt 101, 3, 0, [112]),
  (false, 14, .iconst 0, 1, 0, []),
  (false, 15, .istore_n 2, 1, 0, []),
  (true, 16, .iload_n 2, 1, 0, []),
  (false, 17, .iload_n 1, 1, 0, []),
  (false, 18, .iconst 2, 1, 0, []),
  (false, 19, .idiv, 1, 0, []),
  (false, 20, .if_icmp .gt 86, 3, 0, [106]),
  (false, 23, .ldc2_w 291, 3, 2, [149]),
  (false, 26, .iconst 2, 1, 0, []),
  (false, 27, .iload_n 1, 1, 0, []),
  (false, 28, .imul, 1, 0, []),
  (false, 29, .iconst 1, 1, 0, []),
  (false, 30, .isub, 1, 0, []),
  (false, 31, .i2l, 1, 0, []),
  (false, 32, .lmul, 1, 0, []),
  (false, 33, .aload_n 0, 1, 0, []),
  (false, 34, .iload_n 1, 1, 0, []),
  (false, 35, .iconst 1, 1, 0, []),
  (false, 36, .isub, 1, 0, []),
  (false, 37, .aaload, 1, 0, []),
  (false, 38, .iload_n 2, 1, 0, []),
  (false, 39, .laload, 1, 0, []),
  (false, 40, .lmul, 1, 0, []),
  (false, 41, .lstore_n 3, 1, 0, []),
  (false, 42, .lconst 0, 1, 0, []),
  (false, 43, .lstore 5, 2, 0, []),
  (false, 45, .iload_n 2, 1, 0, []),
  (false, 46, .ifCond .le 40, 3, 0, [86]),
  (false, 49, .iload_n 1, 1, 0, []),
  (false, 50, .iconst 1, 1, 0, []),
  (false, 51, .if_icmp .le 35, 3, 0, [86]),
  (false, 54, .ldc2_w 291, 3, 2, [149]),
  (false, 57, .iload_n 1, 1, 0, []),
  (false, 58, .i2l, 1, 0, []),
  (false, 59, .lmul, 1, 0, []),
  (false, 60, .lconst 1, 1, 1, []),
  (false, 61, .lsub, 1, 0, []),
  (false, 62, .iload_n 1, 1, 0, []),
  (false, 63, .iconst 1, 1, 0, []),
  (false, 64, .isub, 1, 0, []),
  (false, 65, .i2l, 1, 0, []),
  (false, 66, .lmul, 1, 0, []),
  (false, 67, .iconst 2, 1, 0, []),
  (false, 68, .iload_n 1, 1, 0, []),
  (false, 69, .imul, 1, 0, []),
  (false, 70, .iconst 3, 1, 0, []),
  (false, 71, .isub, 1, 0, []),
  (false, 72, .i2l, 1, 0, []),
  (false, 73, .lmul, 1, 0, []),
  (false, 74, .aload_n 0, 1, 0, []),
  (false, 75, .iload_n 1, 1, 0, []),
  (false, 76, .iconst 2, 1, 0, []),
  (false, 77, .isub, 1, 0, []),
  (false, 78, .aaload, 1, 0, []),
  (false, 79, .iload_n 2, 1, 0, []),
  (false, 80, .iconst 1, 1, 0, []),
  (false, 81, .isub, 1, 0, []),
  (false, 82, .laload, 1, 0, []),
  (false, 83, .lmul, 1, 0, []),
  (false, 84, .lstore 5, 2, 0, []),
  (false, 86, .aload_n 0, 1, 0, []),
  (false, 87, .iload_n 1, 1, 0, []),
  (false, 88, .aaload, 1, 0, []),
  (false, 89, .iload_n 2, 1, 0, []),
  (false, 90, .lload_n 3, 1, 0, []),
  (false, 91, .lload 5, 2, 0, []),
  (false, 93, .ladd, 1, 0, []),
  (false, 94, .iload_n 1, 1, 0, []),
  (false, 95, .iconst 1, 1, 0, []),
  (false, 96, .iadd, 1, 0, []),
  (false, 97, .i2l, 1, 0, []),
  (false, 98, .ldiv, 1, 0, []),
  (false, 99, .lastore, 1, 0, []),
  (false, 100, .iinc 2 1, 3, 0, []),
  (false, 103, .goto (-87), 3, 0, [16]),
  (false, 106, .iinc 1 1, 3, 0, []),
  (false, 109, .goto (-101), 3, 0, [8]),
  (false, 112, .return_, 1, 0, [])]
def cd_F_walkOneStep : List CI := [(false, 0, .lconst 0, 1, 0, []),
  (false, 1, .lstore_n 2, 1, 0, []),
  (false, 2, .iconst 0, 1, 0, []),
  (false, 3, .istore 4, 2, 0, []),
  (true, 5, .iload 4, 2, 0, []),
  (false, 7, .bipush 12, 2, 0, []),
  (false, 9, .if_icmp .gt 53, 3, 0, [62]),
  (false, 12, .aload_n 0, 1, 0, []),
  (false, 13, .getfield 63, 3, 16, [16, 3, 4, 166]),
  (false, 16, .iload 4, 2, 0, []),
  (false, 18, .laload, 1, 0, []),
  (false, 19, .lstore 5, 2, 0, []),
  (false, 21, .aload_n 0, 1, 0, []),
  (false, 22, .getfield 63, 3, 16, [16, 3, 4, 166]),
  (false, 25, .iload 4, 2, 0, []),
  (false, 27, .lload_n 2, 1, 0, []),
  (false, 28, .aload_n 0, 1, 0, []),
  (false, 29, .getfield 63, 3, 16, [16, 3, 4, 166]),
  (false, 32, .iload 4, 2, 0, []),
  (false, 34, .iconst 1, 1, 0, []),
  (false, 35, .iadd, 1, 0, []),
  (false, 36, .laload, 1, 0, []),
  (false, 37, .ladd, 1, 0, []),
  (false, 38, .lastore, 1, 0, []),
  (false, 39, .lload 5, 2, 0, []),
  (false, 41, .iload 4, 2, 0, []),
  (false, 43, .ifCond .ne 7, 3, 0, [50]),
  (false, 46, .iload_n 1, 1, 0, []),
  (false, 47, .goto 6, 3, 0, [53]),
  (false, 50, .iload_n 1, 1, 0, []),
  (false, 51, .iconst 1, 1, 0, []),
  (false, 52, .isub, 1, 0, []),
  (false, 53, .i2l, 1, 0, []),
  (false, 54, .lmul, 1, 0, []),
  (false, 55, .lstore_n 2, 1, 0, []),
  (false, 56, .iinc 4 1, 3, 0, []),
  (false, 59, .goto (-54), 3, 0, [5]),
  (false, 62, .return_, 1, 0, [])]
def cd_M_in : List CI := [(false, 0, .lload_n 0, 1, 0, []),
  (false, 1, .lload_n 2, 1, 0, []),
  (false, 2, .lcmp, 1, 0, []),
  (false, 3, .ifCond .lt 14, 3, 0, [17]),
  (false, 6, .lload_n 0, 1, 0, []),
  (false, 7, .lload 4, 2, 0, []),
  (false, 9, .lcmp, 1, 0, []),
  (false, 10, .ifCond .gt 7, 3, 0, [17]),
  (false, 13, .iconst 1, 1, 0, []),
  (false, 14, .goto 4, 3, 0, [18]),
  (false, 17, .iconst 0, 1, 0, []),
  (false, 18, .ireturn, 1, 0, [])]
def cd_M_found : List CI := [(false, 0, .aload_n 0, 1, 0, []),
  (false, 1, .iload_n 1, 1, 0, []),
  (false, 2, .putfield 7, 3, 1, [1, 0, 5, 616]),
  (false, 5, .ldc 10, 2, (-1000010), [703]),
  (false, 7, .iload_n 1, 1, 0, []),
  (false, 8, .isub, 1, 0, []),
  (false, 9, .ireturn, 1, 0, [])]
def cd_M_isPrime : List CI := [(false, 0, .iload_n 0, 1, 0, []),
  (false, 1, .iconst 1, 1, 0, []),
  (false, 2, .if_icmp .le 7, 3, 0, [9]),
  (false, 5, .iconst 1, 1, 0, []),
  (false, 6, .goto 4, 3, 0, [10]),
  (false, 9, .iconst 0, 1, 0, []),
  (false, 10, .istore_n 1, 1, 0, []),
  (false, 11, .iconst 2, 1, 0, []),
  (false, 12, .istore_n 2, 1, 0, []),
  (true, 13, .iload_n 2, 1, 0, []),
  (false, 14, .i2l, 1, 0, []),
  (false, 15, .iload_n 2, 1, 0, []),
  (false, 16, .i2l, 1, 0, []),
  (false, 17, .lmul, 1, 0, []),
  (false, 18, .iload_n 0, 1, 0, []),
  (false, 19, .i2l, 1, 0, []),
  (false, 20, .lcmp, 1, 0, []),
  (false, 21, .ifCond .gt 25, 3, 0, [46]),
  (false, 24, .iload_n 1, 1, 0, []),
  (false, 25, .ifCond .eq 21, 3, 0, [46]),
  (false, 28, .iload_n 0, 1, 0, []),
  (false, 29, .iload_n 2, 1, 0, []),
  (false, 30, .irem, 1, 0, []),
  (false, 31, .ifCond .eq 7, 3, 0, [38]),
  (false, 34, .iconst 1, 1, 0, []),
  (false, 35, .goto 4, 3, 0, [39]),
  (false, 38, .iconst 0, 1, 0, []),
  (false, 39, .istore_n 1, 1, 0, []),
  (false, 40, .iinc 2 1, 3, 0, []),
  (false, 43, .goto (-30), 3, 0, [13]),
  (false, 46, .iload_n 1, 1, 0, []),
  (false, 47, .ireturn, 1, 0, [])]
def cd_M_init : List CI := [(false, 0, .aload_n 0, 1, 0, []),
  (false, 1, .invokespecial 11, 3, 0, [1001, 1, 3, 0, 0, 605, 84, 85]),
  (false, 4, .aload_n 0, 1, 0, []),
  (false, 5, .bipush 8, 2, 0, []),
  (false, 7, .newarray .int, 2, 0, [0, 109]),
  (false, 9, .dup, 1, 0, []),
  (false, 10, .iconst 0, 1, 0, []),
  (false, 11, .iconst (-1), 1, 0, []),
  (false, 12, .iastore, 1, 0, []),
  (false, 13, .dup, 1, 0, []),
  (false, 14, .iconst 1, 1, 0, []),
  (false, 15, .iconst (-1), 1, 0, []),
  (false, 16, .iastore, 1, 0, []),
  (false, 17, .dup, 1, 0, []),
  (false, 18, .iconst 2, 1, 0, []),
  (false, 19, .iconst (-1), 1, 0, []),
  (false, 20, .iastore, 1, 0, []),
  (false, 21, .dup, 1, 0, []),
  (false, 22, .iconst 3, 1, 0, []),
  (false, 23, .iconst (-1), 1, 0, []),
  (false, 24, .iastore, 1, 0, []),
  (false, 25, .dup, 1, 0, []),
  (false, 26, .iconst 4, 1, 0, []),
  (false, 27, .iconst (-1), 1, 0, []),
  (false, 28, .iastore, 1, 0, []),
  (false, 29, .dup, 1, 0, []),
  (false, 30, .iconst 5, 1, 0, []),
  (false, 31, .iconst (-1), 1, 0, []),
  (false, 32, .iastore, 1, 0, []),
  (false, 33, .dup, 1, 0, []),
  (false, 34, .bipush 6, 2, 0, []),
  (false, 36, .iconst (-1), 1, 0, []),
  (false, 37, .iastore, 1, 0, []),
  (false, 38, .dup, 1, 0, []),
  (false, 39, .bipush 7, 2, 0, []),
  (false, 41, .iconst (-1), 1, 0, []),
  (false, 42, .iastore, 1, 0, []),
  (false, 43, .putfield 17, 3, 3, [3, 3, 5, 618]),
  (false, 46, .aload_n 0, 1, 0, []),
  (false, 47, .bipush 8, 2, 0, []),
  (false, 49, .newarray .int, 2, 0, [0, 109]),
  (false, 51, .putfield 21, 3, 4, [4, 3, 5, 619]),
  (false, 54, .aload_n 0, 1, 0, []),
  (false, 55, .sipush 320, 3, 0, []),
  (false, 58, .newarray .long, 2, 0, [1, 108]),
  (false, 60, .putfield 24, 3, 5, [5, 3, 5, 620]),
  (false, 63, .aload_n 0, 1, 0, []),
  (false, 64, .bipush 10, 2, 0, []),
  (false, 66, .newarray .int, 2, 0, [0, 109]),
  (false, 68, .dup, 1, 0, []),
  (false, 69, .iconst 0, 1, 0, []),
  (false, 70, .iconst (-1), 1, 0, []),
  (false, 71, .iastore, 1, 0, []),
  (false, 72, .dup, 1, 0, []),
  (false, 73, .iconst 1, 1, 0, []),
  (false, 74, .iconst (-1), 1, 0, []),
  (false, 75, .iastore, 1, 0, []),
  (false, 76, .dup, 1, 0, []),
  (false, 77, .iconst 2, 1, 0, []),
  (false, 78, .iconst (-1), 1, 0, []),
  (false, 79, .iastore, 1, 0, []),
  (false, 80, .dup, 1, 0, []),
  (false, 81, .iconst 3, 1, 0, []),
  (false, 82, .iconst (-1), 1, 0, []),
  (false, 83, .iastore, 1, 0, []),
  (false, 84, .dup, 1, 0, []),
  (false, 85, .iconst 4, 1, 0, []),
  (false, 86, .iconst (-1), 1, 0, []),
  (false, 87, .iastore, 1, 0, []),
  (false, 88, .dup, 1, 0, []),
  (false, 89, .iconst 5, 1, 0, []),
  (false, 90, .iconst (-1), 1, 0, []),
  (false, 91, .iastore, 1, 0, []),
  (false, 92, .dup, 1, 0, []),
  (false, 93, .bipush 6, 2, 0, []),
  (false, 95, .iconst (-1), 1, 0, []),
  (false, 96, .iastore, 1, 0, []),
  (false, 97, .dup, 1, 0, []),
  (false, 98, .bipush 7, 2, 0, []),
  (false, 100, .iconst (-1), 1, 0, []),
  (false, 101, .iastore, 1, 0, []),
  (false, 102, .dup, 1, 0, []),
  (false, 103, .bipush 8, 2, 0, []),
  (false, 105, .iconst (-1), 1, 0, []),
  (false, 106, .iastore, 1, 0, []),
  (false, 107, .dup, 1, 0, []),
  (false, 108, .bipush 9, 2, 0, []),
  (false, 110, .iconst (-1), 1, 0, []),
  (false, 111, .iastore, 1, 0, []),
  (false, 112, .putfield 28, 3, 6, [6, 3, 5, 621]),
  (false, 115, .aload_n 0, 1, 0, []),
  (false, 116, .bipush 10, 2, 0, []),
  (false, 118, .newarray .int, 2, 0, [0, 109]),
  (false, 120, .putfield 31, 3, 7, [7, 3, 5, 622]),
  (false, 123, .aload_n 0, 1, 0, []),
  (false, 124, .bipush 100, 2, 0, []),
  (false, 126, .newarray .int, 2, 0, [0, 109]),
  (false, 128, .putfield 34, 3, 8, [8, 3, 5, 623]),
  (false, 131, .aload_n 0, 1, 0, []),
  (false, 132, .bipush 30, 2, 0, []),
  (false, 134, .newarray .int, 2, 0, [0, 109]),
  (false, 136, .putfield 37, 3, 9, [9, 3, 5, 624]),
  (false, 139, .aload_n 0, 1, 0, []),
  (false, 140, .bipush 10, 2, 0, []),
  (false, 142, .newarray .int, 2, 0, [0, 109]),
  (false, 144, .putfield 40, 3, 10, [10, 3, 5, 625]),
  (false, 147, .aload_n 0, 1, 0, []),
  (false, 148, .bipush 16, 2, 0, []),
  (false, 150, .newarray .int, 2, 0, [0, 109]),
  (false, 152, .putfield 43, 3, 11, [11, 3, 5, 626]),
  (false, 155, .aload_n 0, 1, 0, []),
  (false, 156, .bipush 11, 2, 0, []),
  (false, 158, .newarray .int, 2, 0, [0, 109]),
  (false, 160, .dup, 1, 0, []),
  (false, 161, .iconst 0, 1, 0, []),
  (false, 162, .iconst 1, 1, 0, []),
  (false, 163, .iastore, 1, 0, []),
  (false, 164, .dup, 1, 0, []),
  (false, 165, .iconst 1, 1, 0, []),
  (false, 166, .iconst 1, 1, 0, []),
  (false, 167, .iastore, 1, 0, []),
  (false, 168, .dup, 1, 0, []),
  (false, 169, .iconst 2, 1, 0, []),
  (false, 170, .iconst 2, 1, 0, []),
  (false, 171, .iastore, 1, 0, []),
  (false, 172, .dup, 1, 0, []),
  (false, 173, .iconst 3, 1, 0, []),
  (false, 174, .iconst 5, 1, 0, []),
  (false, 175, .iastore, 1, 0, []),
  (false, 176, .dup, 1, 0, []),
  (false, 177, .iconst 4, 1, 0, []),
  (false, 178, .bipush 14, 2, 0, []),
  (false, 180, .iastore, 1, 0, []),
  (false, 181, .dup, 1, 0, []),
  (false, 182, .iconst 5, 1, 0, []),
  (false, 183, .bipush 42, 2, 0, []),
  (false, 185, .iastore, 1, 0, []),
  (false, 186, .dup, 1, 0, []),
  (false, 187, .bipush 6, 2, 0, []),
  (false, 189, .sipush 132, 3, 0, []),
  (false, 192, .iastore, 1, 0, []),
  (false, 193, .dup, 1, 0, []),
  (false, 194, .bipush 7, 2, 0, []),
  (false, 196, .sipush 429, 3, 0, []),
  (false, 199, .iastore, 1, 0, []),
  (false, 200, .dup, 1, 0, []),
  (false, 201, .bipush 8, 2, 0, []),
  (false, 203, .sipush 1430, 3, 0, []),
  (false, 206, .iastore, 1, 0, []),
  (false, 207, .dup, 1, 0, []),
  (false, 208, .bipush 9, 2, 0, []),
  (false, 210, .sipush 4862, 3, 0, []),
  (false, 213, .iastore, 1, 0, []),
  (false, 214, .dup, 1, 0, []),
  (false, 215, .bipush 10, 2, 0, []),
  (false, 217, .sipush 16796, 3, 0, []),
  (false, 220, .iastore, 1, 0, []),
  (false, 221, .putfield 46, 3, 13, [13, 3, 5, 628]),
  (false, 224, .aload_n 0, 1, 0, []),
  (false, 225, .bipush 20, 2, 0, []),
  (false, 227, .newarray .boolean, 2, 0, [2, 688]),
  (false, 229, .putfield 49, 3, 14, [14, 3, 5, 629]),
  (false, 232, .aload_n 0, 1, 0, []),
  (false, 233, .bipush 8, 2, 0, []),
  (false, 235, .newarray .int, 2, 0, [0, 109]),
  (false, 237, .putfield 53, 3, 15, [15, 3, 5, 630]),
  (false, 240, .aload_n 0, 1, 0, []),
  (false, 241, .bipush 72, 2, 0, []),
  (false, 243, .newarray .long, 2, 0, [1, 108]),
  (false, 245, .putfield 56, 3, 16, [16, 3, 5, 631]),
  (false, 248, .aload_n 0, 1, 0, []),
  (false, 249, .bipush 27, 2, 0, []),
  (false, 251, .newarray .long, 2, 0, [1, 108]),
  (false, 253, .putfield 59, 3, 17, [17, 3, 5, 632]),
  (false, 256, .aload_n 0, 1, 0, []),
  (false, 257, .bipush 9, 2, 0, []),
  (false, 259, .newarray .long, 2, 0, [1, 108]),
  (false, 261, .putfield 62, 3, 18, [18, 3, 5, 633]),
  (false, 264, .aload_n 0, 1, 0, []),
  (false, 265, .bipush 9, 2, 0, []),
  (false, 267, .newarray .long, 2, 0, [1, 108]),
  (false, 269, .putfield 65, 3, 19, [19, 3, 5, 634]),
  (false, 272, .aload_n 0, 1, 0, []),
  (false, 273, .bipush 25, 2, 0, []),
  (false, 275, .newarray .long, 2, 0, [1, 108]),
  (false, 277, .putfield 68, 3, 20, [20, 3, 5, 635]),
  (false, 280, .aload_n 0, 1, 0, []),
  (false, 281, .bipush 66, 2, 0, []),
  (false, 283, .newarray .long, 2, 0, [1, 108]),
  (false, 285, .putfield 71, 3, 21, [21, 3, 5, 636]),
  (false, 288, .aload_n 0, 1, 0, []),
  (false, 289, .bipush 14, 2, 0, []),
  (false, 291, .newarray .long, 2, 0, [1, 108]),
  (false, 293, .putfield 74, 3, 22, [22, 3, 5, 637]),
  (false, 296, .aload_n 0, 1, 0, []),
  (false, 297, .bipush 14, 2, 0, []),
  (false, 299, .newarray .long, 2, 0, [1, 108]),
  (false, 301, .putfield 77, 3, 23, [23, 3, 5, 638]),
  (false, 304, .aload_n 0, 1, 0, []),
  (false, 305, .iload_n 1, 1, 0, []),
  (false, 306, .i2l, 1, 0, []),
  (false, 307, .ldc2_w 80, 3, 101, [606]),
  (false, 310, .ldc2_w 82, 3, 2000000000, [607]),
  (false, 313, .invokestatic 84, 3, 0, [67, 3, 0, 0, 0, 608, 609, 0, 610, 74, 5]),
  (false, 316, .ifCond .eq 14, 3, 0, [330]),
  (false, 319, .iload_n 1, 1, 0, []),
  (false, 320, .invokestatic 88, 3, 0, [69, 1, 0, 0, 0, 611, 612, 0, 613, 74, 5]),
  (false, 323, .ifCond .eq 7, 3, 0, [330]),
  (false, 326, .iload_n 1, 1, 0, []),
  (false, 327, .goto 5, 3, 0, [332]),
  (false, 330, .ldc 92, 2, 998244353, [614]),
  (false, 332, .putfield 93, 3, 2, [2, 0, 5, 617]),
  (false, 335, .iconst 0, 1, 0, []),
  (false, 336, .istore_n 2, 1, 0, []),
  (true, 337, .iload_n 2, 1, 0, []),
  (false, 338, .bipush 8, 2, 0, []),
  (false, 340, .if_icmp .ge 16, 3, 0, [356]),
  (false, 343, .aload_n 0, 1, 0, []),
  (false, 344, .getfield 53, 3, 15, [15, 3, 5, 630]),
  (false, 347, .iload_n 2, 1, 0, []),
  (false, 348, .iconst 1, 1, 0, []),
  (false, 349, .iastore, 1, 0, []),
  (false, 350, .iinc 2 1, 3, 0, []),
  (false, 353, .goto (-16), 3, 0, [337]),
  (false, 356, .return_, 1, 0, [])]
def cd_M_isSheet : List CI := [(false, 0, .iload_n 0, 1, 0, []),
  (false, 1, .i2l, 1, 0, []),
  (false, 2, .lconst 0, 1, 0, []),
  (false, 3, .ldc2_w 96, 3, 7, [696]),
  (false, 6, .invokestatic 84, 3, 0, [67, 3, 0, 0, 0, 608, 609, 0, 610, 74, 5]),
  (false, 9, .ireturn, 1, 0, [])]
def cd_M_sheet : List CI := [(false, 0, .aload_n 0, 1, 0, []),
  (false, 1, .iconst 0, 1, 0, []),
  (false, 2, .putfield 1, 3, 0, [0, 0, 5, 615]),
  (false, 5, .iload_n 1, 1, 0, []),
  (false, 6, .invokestatic 98, 3, 0, [71, 1, 0, 0, 0, 693, 694, 0, 695, 74, 5]),
  (false, 9, .ifCond .eq 21, 3, 0, [30]),
  (false, 12, .iload_n 2, 1, 0, []),
  (false, 13, .i2l, 1, 0, []),
  (false, 14, .lconst 0, 1, 0, []),
  (false, 15, .ldc2_w 101, 3, 2, [697]),
  (false, 18, .invokestatic 84, 3, 0, [67, 3, 0, 0, 0, 608, 609, 0, 610, 74, 5]),
  (false, 21, .ifCond .eq 9, 3, 0, [30]),
  (false, 24, .iload_n 3, 1, 0, []),
  (false, 25, .bipush 40, 2, 0, []),
  (false, 27, .if_icmp .le 6, 3, 0, [33]),
  (false, 30, .ldc 103, 2, (-1000001), [698]),
  (false, 32, .ireturn, 1, 0, []),
  (false, 33, .aload_n 0, 1, 0, []),
  (false, 34, .iconst 0, 1, 0, []),
  (false, 35, .putfield 7, 3, 1, [1, 0, 5, 616]),
  (false, 38, .iload_n 3, 1, 0, []),
  (false, 39, .ifCond .ge 9, 3, 0, [48]),
  (false, 42, .aload_n 0, 1, 0, []),
  (false, 43, .iconst 4, 1, 0, []),
  (false, 44, .invokevirtual 104, 3, 0, [68, 2, 0, 0, 0, 699, 701, 33, 702, 74, 5]),
  (false, 47, .ireturn, 1, 0, []),
  (false, 48, .aload_n 0, 1, 0, []),
  (false, 49, .getfield 17, 3, 3, [3, 3, 5, 618]),
  (false, 52, .iload_n 1, 1, 0, []),
  (false, 53, .iload_n 2, 1, 0, []),
  (false, 54, .iastore, 1, 0, []),
  (false, 55, .aload_n 0, 1, 0, []),
  (false, 56, .getfield 21, 3, 4, [4, 3, 5, 619]),
  (false, 59, .iload_n 1, 1, 0, []),
  (false, 60, .iload_n 3, 1, 0, []),
  (false, 61, .iastore, 1, 0, []),
  (false, 62, .iconst 0, 1, 0, []),
  (false, 63, .istore 4, 2, 0, []),
  (true, 65, .iload 4, 2, 0, []),
  (false, 67, .bipush 40, 2, 0, []),
  (false, 69, .if_icmp .ge 22, 3, 0, [91]),
  (false, 72, .aload_n 0, 1, 0, []),
  (false, 73, .getfield 24, 3, 5, [5, 3, 5, 620]),
  (false, 76, .bipush 40, 2, 0, []),
  (false, 78, .iload_n 1, 1, 0, []),
  (false, 79, .imul, 1, 0, []),
  (false, 80, .iload 4, 2, 0, []),
  (false, 82, .iadd, 1, 0, []),
  (false, 83, .lconst 0, 1, 0, []),
  (false, 84, .lastore, 1, 0, []),
  (false, 85, .iinc 4 1, 3, 0, []),
  (false, 88, .goto (-23), 3, 0, [65]),
  (false, 91, .iload_n 3, 1, 0, []),
  (false, 92, .ireturn, 1, 0, [])]
def cd_M_set : List CI := [(false, 0, .aload_n 0, 1, 0, []),
  (false, 1, .iconst 0, 1, 0, []),
  (false, 2, .putfield 1, 3, 0, [0, 0, 5, 615]),
  (false, 5, .iload_n 1, 1, 0, []),
  (false, 6, .invokestatic 98, 3, 0, [71, 1, 0, 0, 0, 693, 694, 0, 695, 74, 5]),
  (false, 9, .ifCond .ne 7, 3, 0, [16]),
  (false, 12, .ldc2_w 108, 3, (-1000001), [708]),
  (false, 15, .lreturn, 1, 0, []),
  (false, 16, .aload_n 0, 1, 0, []),
  (false, 17, .iconst 0, 1, 0, []),
  (false, 18, .putfield 7, 3, 1, [1, 0, 5, 616]),
  (false, 21, .aload_n 0, 1, 0, []),
  (false, 22, .getfield 17, 3, 3, [3, 3, 5, 618]),
  (false, 25, .iload_n 1, 1, 0, []),
  (false, 26, .iaload, 1, 0, []),
  (false, 27, .ifCond .ge 10, 3, 0, [37]),
  (false, 30, .aload_n 0, 1, 0, []),
  (false, 31, .iconst 1, 1, 0, []),
  (false, 32, .invokevirtual 104, 3, 0, [68, 2, 0, 0, 0, 699, 701, 33, 702, 74, 5]),
  (false, 35, .i2l, 1, 0, []),
  (false, 36, .lreturn, 1, 0, []),
  (false, 37, .iload_n 2, 1, 0, []),
  (false, 38, .i2l, 1, 0, []),
  (false, 39, .lconst 0, 1, 0, []),
  (false, 40, .aload_n 0, 1, 0, []),
  (false, 41, .getfield 21, 3, 4, [4, 3, 5, 619]),
  (false, 44, .iload_n 1, 1, 0, []),
  (false, 45, .iaload, 1, 0, []),
  (false, 46, .iconst 1, 1, 0, []),
  (false, 47, .isub, 1, 0, []),
  (false, 48, .i2l, 1, 0, []),
  (false, 49, .invokestatic 84, 3, 0, [67, 3, 0, 0, 0, 608, 609, 0, 610, 74, 5]),
  (false, 52, .ifCond .ne 10, 3, 0, [62]),
  (false, 55, .aload_n 0, 1, 0, []),
  (false, 56, .iconst 2, 1, 0, []),
  (false, 57, .invokevirtual 104, 3, 0, [68, 2, 0, 0, 0, 699, 701, 33, 702, 74, 5]),
  (false, 60, .i2l, 1, 0, []),
  (false, 61, .lreturn, 1, 0, []),
  (false, 62, .aload_n 0, 1, 0, []),
  (false, 63, .getfield 24, 3, 5, [5, 3, 5, 620]),
  (false, 66, .bipush 40, 2, 0, []),
  (false, 68, .iload_n 1, 1, 0, []),
  (false, 69, .imul, 1, 0, []),
  (false, 70, .iload_n 2, 1, 0, []),
  (false, 71, .iadd, 1, 0, []),
  (false, 72, .aload_n 0, 1, 0, []),
  (false, 73, .getfield 17, 3, 3, [3, 3, 5, 618]),
  (false, 76, .iload_n 1, 1, 0, []),
  (false, 77, .iaload, 1, 0, []),
  (false, 78, .ifCond .ne 10, 3, 0, [88]),
  (false, 81, .lload_n 3, 1, 0, []),
  (false, 82, .l2i, 1, 0, []),
  (false, 83, .i2b, 1, 0, []),
  (false, 84, .i2l, 1, 0, []),
  (false, 85, .goto 20, 3, 0, [105]),
  (false, 88, .aload_n 0, 1, 0, []),
  (false, 89, .getfield 17, 3, 3, [3, 3, 5, 618]),
  (false, 92, .iload_n 1, 1, 0, []),
  (false, 93, .iaload, 1, 0, []),
  (false, 94, .iconst 1, 1, 0, []),
  (false, 95, .if_icmp .ne 9, 3, 0, [104]),
  (false, 98, .lload_n 3, 1, 0, []),
  (false, 99, .l2i, 1, 0, []),
  (false, 100, .i2l, 1, 0, []),
  (false, 101, .goto 4, 3, 0, [105]),
  (false, 104, .lload_n 3, 1, 0, []),
  (false, 105, .lastore, 1, 0, []),
  (false, 106, .aload_n 0, 1, 0, []),
  (false, 107, .getfield 24, 3, 5, [5, 3, 5, 620]),
  (false, 110, .bipush 40, 2, 0, []),
  (false, 112, .iload_n 1, 1, 0, []),
  (false, 113, .imul, 1, 0, []),
  (false, 114, .iload_n 2, 1, 0, []),
  (false, 115, .iadd, 1, 0, []),
  (false, 116, .laload, 1, 0, []),
  (false, 117, .lreturn, 1, 0, [])]
def cd_M_copy : List CI := [(false, 0, .aload_n 0, 1, 0, []),
  (false, 1, .iconst 0, 1, 0, []),
  (false, 2, .putfield 1, 3, 0, [0, 0, 5, 615]),
  (false, 5, .iload_n 1, 1, 0, []),
  (false, 6, .invokestatic 98, 3, 0, [71, 1, 0, 0, 0, 693, 694, 0, 695, 74, 5]),
  (false, 9, .ifCond .eq 10, 3, 0, [19]),
  (false, 12, .iload_n 3, 1, 0, []),
  (false, 13, .invokestatic 98, 3, 0, [71, 1, 0, 0, 0, 693, 694, 0, 695, 74, 5]),
  (false, 16, .ifCond .ne 6, 3, 0, [22]),
  (false, 19, .ldc 103, 2, (-1000001), [698]),
  (false, 21, .ireturn, 1, 0, []),
  (false, 22, .aload_n 0, 1, 0, []),
  (false, 23, .iconst 0, 1, 0, []),
  (false, 24, .putfield 7, 3, 1, [1, 0, 5, 616]),
  (false, 27, .aload_n 0, 1, 0, []),
  (false, 28, .getfield 17, 3, 3, [3, 3, 5, 618]),
  (false, 31, .iload_n 1, 1, 0, []),
  (false, 32, .iaload, 1, 0, []),
  (false, 33, .ifCond .lt 12, 3, 0, [45]),
  (false, 36, .aload_n 0, 1, 0, []),
  (false, 37, .getfield 17, 3, 3, [3, 3, 5, 618]),
  (false, 40, .iload_n 3, 1, 0, []),
  (false, 41, .iaload, 1, 0, []),
  (false, 42, .ifCond .ge 9, 3, 0, [51]),
  (false, 45, .aload_n 0, 1, 0, []),
  (false, 46, .iconst 1, 1, 0, []),
  (false, 47, .invokevirtual 104, 3, 0, [68, 2, 0, 0, 0, 699, 701, 33, 702, 74, 5]),
  (false, 50, .ireturn, 1, 0, []),
  (false, 51, .aload_n 0, 1, 0, []),
  (false, 52, .getfield 17, 3, 3, [3, 3, 5, 618]),
  (false, 55, .iload_n 1, 1, 0, []),
  (false, 56, .iaload, 1, 0, []),
  (false, 57, .aload_n 0, 1, 0, []),
  (false, 58, .getfield 17, 3, 3, [3, 3, 5, 618]),
  (false, 61, .iload_n 3, 1, 0, []),
  (false, 62, .iaload, 1, 0, []),
  (false, 63, .if_icmp .eq 9, 3, 0, [72]),
  (false, 66, .aload_n 0, 1, 0, []),
  (false, 67, .iconst 5, 1, 0, []),
  (false, 68, .invokevirtual 104, 3, 0, [68, 2, 0, 0, 0, 699, 701, 33, 702, 74, 5]),
  (false, 71, .ireturn, 1, 0, []),
  (false, 72, .iload_n 2, 1, 0, []),
  (false, 73, .ifCond .lt 48, 3, 0, [121]),
  (false, 76, .iload 4, 2, 0, []),
  (false, 78, .ifCond .lt 43, 3, 0, [121]),
  (false, 81, .iload 5, 2, 0, []),
  (false, 83, .ifCond .lt 38, 3, 0, [121]),
  (false, 86, .iload_n 2, 1, 0, []),
  (false, 87, .i2l, 1, 0, []),
  (false, 88, .iload 5, 2, 0, []),
  (false, 90, .i2l, 1, 0, []),
  (false, 91, .ladd, 1, 0, []),
  (false, 92, .aload_n 0, 1, 0, []),
  (false, 93, .getfield 21, 3, 4, [4, 3, 5, 619]),
  (false, 96, .iload_n 1, 1, 0, []),
  (false, 97, .iaload, 1, 0, []),
  (false, 98, .i2l, 1, 0, []),
  (false, 99, .lcmp, 1, 0, []),
  (false, 100, .ifCond .gt 21, 3, 0, [121]),
  (false, 103, .iload 4, 2, 0, []),
  (false, 105, .i2l, 1, 0, []),
  (false, 106, .iload 5, 2, 0, []),
  (false, 108, .i2l, 1, 0, []),
  (false, 109, .ladd, 1, 0, []),
  (false, 110, .aload_n 0, 1, 0, []),
  (false, 111, .getfield 21, 3, 4, [4, 3, 5, 619]),
  (false, 114, .iload_n 3, 1, 0, []),
  (false, 115, .iaload, 1, 0, []),
  (false, 116, .i2l, 1, 0, []),
  (false, 117, .lcmp, 1, 0, []),
  (false, 118, .ifCond .le 9, 3, 0, [127]),
  (false, 121, .aload_n 0, 1, 0, []),
  (false, 122, .iconst 2, 1, 0, []),
  (false, 123, .invokevirtual 104, 3, 0, [68, 2, 0, 0, 0, 699, 701, 33, 702, 74, 5]),
  (false, 126, .ireturn, 1, 0, []),
  (false, 127, .iload_n 2, 1, 0, []),
  (false, 128, .iload 4, 2, 0, []),
  (false, 130, .if_icmp .lt 7, 3, 0, [137]),
  (false, 133, .iconst 1, 1, 0, []),
  (false, 134, .goto 4, 3, 0, [138]),
  (false, 137, .iconst 0, 1, 0, []),
  (false, 138, .istore 6, 2, 0, []),
  (false, 140, .iconst 0, 1, 0, []),
  (false, 141, .istore 7, 2, 0, []),
  (true, 143, .iload 7, 2, 0, []),
  (false, 145, .iload 5, 2, 0, []),
  (false, 147, .if_icmp .ge 57, 3, 0, [204]),
  (false, 150, .iload 6, 2, 0, []),
  (false, 152, .ifCond .eq 8, 3, 0, [160]),
  (false, 155, .iload 7, 2, 0, []),
  (false, 157, .goto 10, 3, 0, [167]),
  (false, 160, .iload 5, 2, 0, []),
  (false, 162, .iconst 1, 1, 0, []),
  (false, 163, .isub, 1, 0, []),
  (false, 164, .iload 7, 2, 0, []),
  (false, 166, .isub, 1, 0, []),
  (false, 167, .istore 8, 2, 0, []),
  (false, 169, .aload_n 0, 1, 0, []),
  (false, 170, .getfield 24, 3, 5, [5, 3, 5, 620]),
  (false, 173, .bipush 40, 2, 0, []),
  (false, 175, .iload_n 3, 1, 0, []),
  (false, 176, .imul, 1, 0, []),
  (false, 177, .iload 4, 2, 0, []),
  (false, 179, .iadd, 1, 0, []),
  (false, 180, .iload 8, 2, 0, []),
  (false, 182, .iadd, 1, 0, []),
  (false, 183, .aload_n 0, 1, 0, []),
  (false, 184, .getfield 24, 3, 5, [5, 3, 5, 620]),
  (false, 187, .bipush 40, 2, 0, []),
  (false, 189, .iload_n 1, 1, 0, []),
  (false, 190, .imul, 1, 0, []),
  (false, 191, .iload_n 2, 1, 0, []),
  (false, 192, .iadd, 1, 0, []),
  (false, 193, .iload 8, 2, 0, []),
  (false, 195, .iadd, 1, 0, []),
  (false, 196, .laload, 1, 0, []),
  (false, 197, .lastore, 1, 0, []),
  (false, 198, .iinc 7 1, 3, 0, []),
  (false, 201, .goto (-58), 3, 0, [143]),
  (false, 204, .iload 5, 2, 0, []),
  (false, 206, .ireturn, 1, 0, [])]
def cd_M_drop : List CI := [(false, 0, .aload_n 0, 1, 0, []),
  (false, 1, .iconst 0, 1, 0, []),
  (false, 2, .putfield 1, 3, 0, [0, 0, 5, 615]),
  (false, 5, .iload_n 1, 1, 0, []),
  (false, 6, .invokestatic 98, 3, 0, [71, 1, 0, 0, 0, 693, 694, 0, 695, 74, 5]),
  (false, 9, .ifCond .ne 6, 3, 0, [15]),
  (false, 12, .ldc 103, 2, (-1000001), [698]),
  (false, 14, .ireturn, 1, 0, []),
  (false, 15, .aload_n 0, 1, 0, []),
  (false, 16, .iconst 0, 1, 0, []),
  (false, 17, .putfield 7, 3, 1, [1, 0, 5, 616]),
  (false, 20, .aload_n 0, 1, 0, []),
  (false, 21, .getfield 17, 3, 3, [3, 3, 5, 618]),
  (false, 24, .iload_n 1, 1, 0, []),
  (false, 25, .iaload, 1, 0, []),
  (false, 26, .ifCond .ge 9, 3, 0, [35]),
  (false, 29, .aload_n 0, 1, 0, []),
  (false, 30, .iconst 1, 1, 0, []),
  (false, 31, .invokevirtual 104, 3, 0, [68, 2, 0, 0, 0, 699, 701, 33, 702, 74, 5]),
  (false, 34, .ireturn, 1, 0, []),
  (false, 35, .aload_n 0, 1, 0, []),
  (false, 36, .getfield 17, 3, 3, [3, 3, 5, 618]),
  (false, 39, .iload_n 1, 1, 0, []),
  (false, 40, .iconst (-1), 1, 0, []),
  (false, 41, .iastore, 1, 0, []),
  (false, 42, .aload_n 0, 1, 0, []),
  (false, 43, .getfield 21, 3, 4, [4, 3, 5, 619]),
  (false, 46, .iload_n 1, 1, 0, []),
  (false, 47, .iaload, 1, 0, []),
  (false, 48, .ireturn, 1, 0, [])]
def cd_M_isPlace : List CI := [(false, 0, .iload_n 0, 1, 0, []),
  (false, 1, .i2l, 1, 0, []),
  (false, 2, .lconst 0, 1, 0, []),
  (false, 3, .ldc2_w 110, 3, 9, [724]),
  (false, 6, .invokestatic 84, 3, 0, [67, 3, 0, 0, 0, 608, 609, 0, 610, 74, 5]),
  (false, 9, .ireturn, 1, 0, [])]
def cd_M_load : List CI := [(false, 0, .iconst 0, 1, 0, []),
  (false, 1, .istore_n 3, 1, 0, []),
  (true, 2, .iload_n 3, 1, 0, []),
  (false, 3, .aload_n 0, 1, 0, []),
  (false, 4, .getfield 31, 3, 7, [7, 3, 5, 622]),
  (false, 7, .iload_n 1, 1, 0, []),
  (false, 8, .iaload, 1, 0, []),
  (false, 9, .if_icmp .ge 28, 3, 0, [37]),
  (false, 12, .aload_n 0, 1, 0, []),
  (false, 13, .getfield 37, 3, 9, [9, 3, 5, 624]),
  (false, 16, .iload_n 2, 1, 0, []),
  (false, 17, .iload_n 3, 1, 0, []),
  (false, 18, .iadd, 1, 0, []),
  (false, 19, .aload_n 0, 1, 0, []),
  (false, 20, .getfield 34, 3, 8, [8, 3, 5, 623]),
  (false, 23, .bipush 10, 2, 0, []),
  (false, 25, .iload_n 1, 1, 0, []),
  (false, 26, .imul, 1, 0, []),
  (false, 27, .iload_n 3, 1, 0, []),
  (false, 28, .iadd, 1, 0, []),
  (false, 29, .iaload, 1, 0, []),
  (false, 30, .iastore, 1, 0, []),
  (false, 31, .iinc 3 1, 3, 0, []),
  (false, 34, .goto (-32), 3, 0, [2]),
  (false, 37, .return_, 1, 0, [])]
def cd_M_relabel : List CI := [(false, 0, .iconst 0, 1, 0, []),
  (false, 1, .istore_n 3, 1, 0, []),
  (false, 2, .iconst 0, 1, 0, []),
  (false, 3, .istore 4, 2, 0, []),
  (true, 5, .iload 4, 2, 0, []),
  (false, 7, .iload_n 2, 1, 0, []),
  (false, 8, .if_icmp .ge 99, 3, 0, [107]),
  (false, 11, .ldc 112, 2, (-1000000), [734]),
  (false, 13, .istore 5, 2, 0, []),
  (false, 15, .iconst 0, 1, 0, []),
  (false, 16, .istore 6, 2, 0, []),
  (true, 18, .iload 6, 2, 0, []),
  (false, 20, .iload 4, 2, 0, []),
  (false, 22, .if_icmp .ge 39, 3, 0, [61]),
  (false, 25, .aload_n 0, 1, 0, []),
  (false, 26, .getfield 37, 3, 9, [9, 3, 5, 624]),
  (false, 29, .iload_n 1, 1, 0, []),
  (false, 30, .iload 6, 2, 0, []),
  (false, 32, .iadd, 1, 0, []),
  (false, 33, .iaload, 1, 0, []),
  (false, 34, .aload_n 0, 1, 0, []),
  (false, 35, .getfield 37, 3, 9, [9, 3, 5, 624]),
  (false, 38, .iload_n 1, 1, 0, []),
  (false, 39, .iload 4, 2, 0, []),
  (false, 41, .iadd, 1, 0, []),
  (false, 42, .iaload, 1, 0, []),
  (false, 43, .if_icmp .ne 8, 3, 0, [51]),
  (false, 46, .iload 6, 2, 0, []),
  (false, 48, .goto 5, 3, 0, [53]),
  (false, 51, .iload 5, 2, 0, []),
  (false, 53, .istore 5, 2, 0, []),
  (false, 55, .iinc 6 1, 3, 0, []),
  (false, 58, .goto (-40), 3, 0, [18]),
  (false, 61, .aload_n 0, 1, 0, []),
  (false, 62, .getfield 40, 3, 10, [10, 3, 5, 625]),
  (false, 65, .iload 4, 2, 0, []),
  (false, 67, .iload 5, 2, 0, []),
  (false, 69, .ldc 112, 2, (-1000000), [734]),
  (false, 71, .if_icmp .ne 7, 3, 0, [78]),
  (false, 74, .iload_n 3, 1, 0, []),
  (false, 75, .goto 10, 3, 0, [85]),
  (false, 78, .aload_n 0, 1, 0, []),
  (false, 79, .getfield 40, 3, 10, [10, 3, 5, 625]),
  (false, 82, .iload 5, 2, 0, []),
  (false, 84, .iaload, 1, 0, []),
  (false, 85, .iastore, 1, 0, []),
  (false, 86, .iload_n 3, 1, 0, []),
  (false, 87, .iload 5, 2, 0, []),
  (false, 89, .ldc 112, 2, (-1000000), [734]),
  (false, 91, .if_icmp .ne 7, 3, 0, [98]),
  (false, 94, .iconst 1, 1, 0, []),
  (false, 95, .goto 4, 3, 0, [99]),
  (false, 98, .iconst 0, 1, 0, []),
  (false, 99, .iadd, 1, 0, []),
  (false, 100, .istore_n 3, 1, 0, []),
  (false, 101, .iinc 4 1, 3, 0, []),
  (false, 104, .goto (-99), 3, 0, [5]),
  (false, 107, .iconst 0, 1, 0, []),
  (false, 108, .istore 4, 2, 0, []),
  (true, 110, .iload 4, 2, 0, []),
  (false, 112, .iload_n 2, 1, 0, []),
  (false, 113, .if_icmp .ge 25, 3, 0, [138]),
  (false, 116, .aload_n 0, 1, 0, []),
  (false, 117, .getfield 37, 3, 9, [9, 3, 5, 624]),
  (false, 120, .iload_n 1, 1, 0, []),
  (false, 121, .iload 4, 2, 0, []),
  (false, 123, .iadd, 1, 0, []),
  (false, 124, .aload_n 0, 1, 0, []),
  (false, 125, .getfield 40, 3, 10, [10, 3, 5, 625]),
  (false, 128, .iload 4, 2, 0, []),
  (false, 130, .iaload, 1, 0, []),
  (false, 131, .iastore, 1, 0, []),
  (false, 132, .iinc 4 1, 3, 0, []),
  (false, 135, .goto (-25), 3, 0, [110]),
  (false, 138, .return_, 1, 0, [])]
def cd_M_crossedAt : List CI := [(false, 0, .iconst 3, 1, 0, []),
  (false, 1, .istore_n 3, 1, 0, []),
  (true, 2, .iload_n 3, 1, 0, []),
  (false, 3, .iload_n 2, 1, 0, []),
  (false, 4, .if_icmp .ge 123, 3, 0, [127]),
  (false, 7, .iconst 1, 1, 0, []),
  (false, 8, .istore 4, 2, 0, []),
  (true, 10, .iload 4, 2, 0, []),
  (false, 12, .iload_n 3, 1, 0, []),
  (false, 13, .iconst 1, 1, 0, []),
  (false, 14, .isub, 1, 0, []),
  (false, 15, .if_icmp .ge 106, 3, 0, [121]),
  (false, 18, .iload 4, 2, 0, []),
  (false, 20, .iconst 1, 1, 0, []),
  (false, 21, .iadd, 1, 0, []),
  (false, 22, .istore 5, 2, 0, []),
  (true, 24, .iload 5, 2, 0, []),
  (false, 26, .iload_n 3, 1, 0, []),
  (false, 27, .if_icmp .ge 88, 3, 0, [115]),
  (false, 30, .aload_n 0, 1, 0, []),
  (false, 31, .getfield 37, 3, 9, [9, 3, 5, 624]),
  (false, 34, .iload_n 1, 1, 0, []),
  (false, 35, .iload 4, 2, 0, []),
  (false, 37, .iadd, 1, 0, []),
  (false, 38, .iaload, 1, 0, []),
  (false, 39, .aload_n 0, 1, 0, []),
  (false, 40, .getfield 37, 3, 9, [9, 3, 5, 624]),
  (false, 43, .iload_n 1, 1, 0, []),
  (false, 44, .iload_n 3, 1, 0, []),
  (false, 45, .iadd, 1, 0, []),
  (false, 46, .iaload, 1, 0, []),
  (false, 47, .if_icmp .ne 68, 3, 0, [115]),
  (false, 50, .iconst 0, 1, 0, []),
  (false, 51, .istore 6, 2, 0, []),
  (true, 53, .iload 6, 2, 0, []),
  (false, 55, .iload 4, 2, 0, []),
  (false, 57, .if_icmp .ge 52, 3, 0, [109]),
  (false, 60, .aload_n 0, 1, 0, []),
  (false, 61, .getfield 37, 3, 9, [9, 3, 5, 624]),
  (false, 64, .iload_n 1, 1, 0, []),
  (false, 65, .iload 5, 2, 0, []),
  (false, 67, .iadd, 1, 0, []),
  (false, 68, .iaload, 1, 0, []),
  (false, 69, .aload_n 0, 1, 0, []),
  (false, 70, .getfield 37, 3, 9, [9, 3, 5, 624]),
  (false, 73, .iload_n 1, 1, 0, []),
  (false, 74, .iload_n 3, 1, 0, []),
  (false, 75, .iadd, 1, 0, []),
  (false, 76, .iaload, 1, 0, []),
  (false, 77, .if_icmp .eq 32, 3, 0, [109]),
  (false, 80, .aload_n 0, 1, 0, []),
  (false, 81, .getfield 37, 3, 9, [9, 3, 5, 624]),
  (false, 84, .iload_n 1, 1, 0, []),
  (false, 85, .iload 6, 2, 0, []),
  (false, 87, .iadd, 1, 0, []),
  (false, 88, .iaload, 1, 0, []),
  (false, 89, .aload_n 0, 1, 0, []),
  (false, 90, .getfield 37, 3, 9, [9, 3, 5, 624]),
  (false, 93, .iload_n 1, 1, 0, []),
  (false, 94, .iload 5, 2, 0, []),
  (false, 96, .iadd, 1, 0, []),
  (false, 97, .iaload, 1, 0, []),
  (false, 98, .if_icmp .ne 5, 3, 0, [103]),
  (false, 101, .iload_n 3, 1, 0, []),
  (false, 102, .ireturn, 1, 0, []),
  (false, 103, .iinc 6 1, 3, 0, []),
  (false, 106, .goto (-53), 3, 0, [53]),
  (false, 109, .iinc 5 1, 3, 0, []),
  (false, 112, .goto (-88), 3, 0, [24]),
  (false, 115, .iinc 4 1, 3, 0, []),
  (false, 118, .goto (-108), 3, 0, [10]),
  (false, 121, .iinc 3 1, 3, 0, []),
  (false, 124, .goto (-122), 3, 0, [2]),
  (false, 127, .ldc 112, 2, (-1000000), [734]),
  (false, 129, .ireturn, 1, 0, [])]
def cd_M_isFree : List CI := [(false, 0, .aload_n 0, 1, 0, []),
  (false, 1, .iload_n 1, 1, 0, []),
  (false, 2, .iload_n 2, 1, 0, []),
  (false, 3, .invokevirtual 113, 3, 0, [79, 3, 0, 0, 0, 743, 745, 38, 746, 74, 5]),
  (false, 6, .ldc 112, 2, (-1000000), [734]),
  (false, 8, .if_icmp .ne 7, 3, 0, [15]),
  (false, 11, .iconst 1, 1, 0, []),
  (false, 12, .goto 4, 3, 0, [16]),
  (false, 15, .iconst 0, 1, 0, []),
  (false, 16, .ireturn, 1, 0, [])]
def cd_M_blocks : List CI := [(false, 0, .iconst 0, 1, 0, []),
  (false, 1, .istore_n 3, 1, 0, []),
  (false, 2, .iconst 0, 1, 0, []),
  (false, 3, .istore 4, 2, 0, []),
  (true, 5, .iload 4, 2, 0, []),
  (false, 7, .iload_n 2, 1, 0, []),
  (false, 8, .if_icmp .ge 40, 3, 0, [48]),
  (false, 11, .aload_n 0, 1, 0, []),
  (false, 12, .getfield 37, 3, 9, [9, 3, 5, 624]),
  (false, 15, .iload_n 1, 1, 0, []),
  (false, 16, .iload 4, 2, 0, []),
  (false, 18, .iadd, 1, 0, []),
  (false, 19, .iaload, 1, 0, []),
  (false, 20, .iconst 1, 1, 0, []),
  (false, 21, .iadd, 1, 0, []),
  (false, 22, .iload_n 3, 1, 0, []),
  (false, 23, .if_icmp .le 17, 3, 0, [40]),
  (false, 26, .aload_n 0, 1, 0, []),
  (false, 27, .getfield 37, 3, 9, [9, 3, 5, 624]),
  (false, 30, .iload_n 1, 1, 0, []),
  (false, 31, .iload 4, 2, 0, []),
  (false, 33, .iadd, 1, 0, []),
  (false, 34, .iaload, 1, 0, []),
  (false, 35, .iconst 1, 1, 0, []),
  (false, 36, .iadd, 1, 0, []),
  (false, 37, .goto 4, 3, 0, [41]),
  (false, 40, .iload_n 3, 1, 0, []),
  (false, 41, .istore_n 3, 1, 0, []),
  (false, 42, .iinc 4 1, 3, 0, []),
  (false, 45, .goto (-40), 3, 0, [5]),
  (false, 48, .iload_n 3, 1, 0, []),
  (false, 49, .ireturn, 1, 0, [])]
def cd_M_sizeOf : List CI := [(false, 0, .iconst 0, 1, 0, []),
  (false, 1, .istore 4, 2, 0, []),
  (false, 3, .iconst 0, 1, 0, []),
  (false, 4, .istore 5, 2, 0, []),
  (true, 6, .iload 5, 2, 0, []),
  (false, 8, .iload_n 2, 1, 0, []),
  (false, 9, .if_icmp .ge 32, 3, 0, [41]),
  (false, 12, .iload 4, 2, 0, []),
  (false, 14, .aload_n 0, 1, 0, []),
  (false, 15, .getfield 37, 3, 9, [9, 3, 5, 624]),
  (false, 18, .iload_n 1, 1, 0, []),
  (false, 19, .iload 5, 2, 0, []),
  (false, 21, .iadd, 1, 0, []),
  (false, 22, .iaload, 1, 0, []),
  (false, 23, .iload_n 3, 1, 0, []),
  (false, 24, .if_icmp .ne 7, 3, 0, [31]),
  (false, 27, .iconst 1, 1, 0, []),
  (false, 28, .goto 4, 3, 0, [32]),
  (false, 31, .iconst 0, 1, 0, []),
  (false, 32, .iadd, 1, 0, []),
  (false, 33, .istore 4, 2, 0, []),
  (false, 35, .iinc 5 1, 3, 0, []),
  (false, 38, .goto (-32), 3, 0, [6]),
  (false, 41, .iload 4, 2, 0, []),
  (false, 43, .ireturn, 1, 0, [])]
def cd_M_isOfPairs : List CI := [(false, 0, .iconst 1, 1, 0, []),
  (false, 1, .istore_n 3, 1, 0, []),
  (false, 2, .iconst 0, 1, 0, []),
  (false, 3, .istore 4, 2, 0, []),
  (true, 5, .iload 4, 2, 0, []),
  (false, 7, .iload_n 2, 1, 0, []),
  (false, 8, .if_icmp .ge 38, 3, 0, [46]),
  (false, 11, .iload_n 3, 1, 0, []),
  (false, 12, .ifCond .eq 26, 3, 0, [38]),
  (false, 15, .aload_n 0, 1, 0, []),
  (false, 16, .iload_n 1, 1, 0, []),
  (false, 17, .iload_n 2, 1, 0, []),
  (false, 18, .aload_n 0, 1, 0, []),
  (false, 19, .getfield 37, 3, 9, [9, 3, 5, 624]),
  (false, 22, .iload_n 1, 1, 0, []),
  (false, 23, .iload 4, 2, 0, []),
  (false, 25, .iadd, 1, 0, []),
  (false, 26, .iaload, 1, 0, []),
  (false, 27, .invokevirtual 117, 3, 0, [82, 4, 0, 0, 0, 751, 753, 40, 754, 74, 5]),
  (false, 30, .iconst 2, 1, 0, []),
  (false, 31, .if_icmp .ne 7, 3, 0, [38]),
  (false, 34, .iconst 1, 1, 0, []),
  (false, 35, .goto 4, 3, 0, [39]),
  (false, 38, .iconst 0, 1, 0, []),
  (false, 39, .istore_n 3, 1, 0, []),
  (false, 40, .iinc 4 1, 3, 0, []),
  (false, 43, .goto (-38), 3, 0, [5]),
  (false, 46, .iload_n 3, 1, 0, []),
  (false, 47, .ireturn, 1, 0, [])]
def cd_M_kindOf : List CI := [(false, 0, .aload_n 0, 1, 0, []),
  (false, 1, .iload_n 1, 1, 0, []),
  (false, 2, .iload_n 2, 1, 0, []),
  (false, 3, .invokevirtual 121, 3, 0, [80, 3, 0, 0, 0, 739, 741, 37, 742, 74, 5]),
  (false, 6, .istore_n 3, 1, 0, []),
  (false, 7, .iconst 1, 1, 0, []),
  (false, 8, .istore 4, 2, 0, []),
  (false, 10, .iconst 1, 1, 0, []),
  (false, 11, .istore 5, 2, 0, []),
  (true, 13, .iload 5, 2, 0, []),
  (false, 15, .iload_n 2, 1, 0, []),
  (false, 16, .if_icmp .ge 69, 3, 0, [85]),
  (false, 19, .iload 4, 2, 0, []),
  (false, 21, .ifCond .eq 55, 3, 0, [76]),
  (false, 24, .aload_n 0, 1, 0, []),
  (false, 25, .getfield 37, 3, 9, [9, 3, 5, 624]),
  (false, 28, .iload_n 1, 1, 0, []),
  (false, 29, .iload 5, 2, 0, []),
  (false, 31, .iadd, 1, 0, []),
  (false, 32, .iaload, 1, 0, []),
  (false, 33, .aload_n 0, 1, 0, []),
  (false, 34, .getfield 37, 3, 9, [9, 3, 5, 624]),
  (false, 37, .iload_n 1, 1, 0, []),
  (false, 38, .iload 5, 2, 0, []),
  (false, 40, .iadd, 1, 0, []),
  (false, 41, .iconst 1, 1, 0, []),
  (false, 42, .isub, 1, 0, []),
  (false, 43, .iaload, 1, 0, []),
  (false, 44, .if_icmp .eq 28, 3, 0, [72]),
  (false, 47, .aload_n 0, 1, 0, []),
  (false, 48, .getfield 37, 3, 9, [9, 3, 5, 624]),
  (false, 51, .iload_n 1, 1, 0, []),
  (false, 52, .iload 5, 2, 0, []),
  (false, 54, .iadd, 1, 0, []),
  (false, 55, .iaload, 1, 0, []),
  (false, 56, .aload_n 0, 1, 0, []),
  (false, 57, .getfield 37, 3, 9, [9, 3, 5, 624]),
  (false, 60, .iload_n 1, 1, 0, []),
  (false, 61, .iload 5, 2, 0, []),
  (false, 63, .iadd, 1, 0, []),
  (false, 64, .iconst 1, 1, 0, []),
  (false, 65, .isub, 1, 0, []),
  (false, 66, .iaload, 1, 0, []),
  (false, 67, .iconst 1, 1, 0, []),
  (false, 68, .iadd, 1, 0, []),
  (false, 69, .if_icmp .ne 7, 3, 0, [76]),
  (false, 72, .iconst 1, 1, 0, []),
  (false, 73, .goto 4, 3, 0, [77]),
  (false, 76, .iconst 0, 1, 0, []),
  (false, 77, .istore 4, 2, 0, []),
  (false, 79, .iinc 5 1, 3, 0, []),
  (false, 82, .goto (-69), 3, 0, [13]),
  (false, 85, .aload_n 0, 1, 0, []),
  (false, 86, .iload_n 1, 1, 0, []),
  (false, 87, .iload_n 2, 1, 0, []),
  (false, 88, .invokevirtual 125, 3, 0, [83, 3, 0, 0, 0, 747, 749, 39, 750, 74, 5]),
  (false, 91, .istore 5, 2, 0, []),
  (false, 93, .iload_n 3, 1, 0, []),
  (false, 94, .ifCond .eq 25, 3, 0, [119]),
  (false, 97, .iload 4, 2, 0, []),
  (false, 99, .ifCond .eq 7, 3, 0, [106]),
  (false, 102, .iconst 2, 1, 0, []),
  (false, 103, .goto 26, 3, 0, [129]),
  (false, 106, .iload 5, 2, 0, []),
  (false, 108, .ifCond .eq 7, 3, 0, [115]),
  (false, 111, .iconst 3, 1, 0, []),
  (false, 112, .goto 17, 3, 0, [129]),
  (false, 115, .iconst 1, 1, 0, []),
  (false, 116, .goto 13, 3, 0, [129]),
  (false, 119, .iload 5, 2, 0, []),
  (false, 121, .ifCond .eq 7, 3, 0, [128]),
  (false, 124, .iconst 4, 1, 0, []),
  (false, 125, .goto 4, 3, 0, [129]),
  (false, 128, .iconst 0, 1, 0, []),
  (false, 129, .ireturn, 1, 0, [])]
def cd_M_lay : List CI := [(false, 0, .aload_n 0, 1, 0, []),
  (false, 1, .iconst 0, 1, 0, []),
  (false, 2, .putfield 7, 3, 1, [1, 0, 5, 616]),
  (false, 5, .aload_n 0, 1, 0, []),
  (false, 6, .iload_n 2, 1, 0, []),
  (false, 7, .iload_n 3, 1, 0, []),
  (false, 8, .invokevirtual 128, 3, 0, [78, 3, 3, 0, 0, 730, 732, 35, 733, 74, 5]),
  (false, 11, .aload_n 0, 1, 0, []),
  (false, 12, .getfield 28, 3, 6, [6, 3, 5, 621]),
  (false, 15, .iload_n 1, 1, 0, []),
  (false, 16, .aload_n 0, 1, 0, []),
  (false, 17, .iload_n 2, 1, 0, []),
  (false, 18, .iload_n 3, 1, 0, []),
  (false, 19, .invokevirtual 132, 3, 0, [84, 3, 0, 0, 0, 735, 737, 36, 738, 74, 5]),
  (false, 22, .iastore, 1, 0, []),
  (false, 23, .aload_n 0, 1, 0, []),
  (false, 24, .getfield 31, 3, 7, [7, 3, 5, 622]),
  (false, 27, .iload_n 1, 1, 0, []),
  (false, 28, .iload_n 3, 1, 0, []),
  (false, 29, .iastore, 1, 0, []),
  (false, 30, .iconst 0, 1, 0, []),
  (false, 31, .istore 4, 2, 0, []),
  (true, 33, .iload 4, 2, 0, []),
  (false, 35, .iload_n 3, 1, 0, []),
  (false, 36, .if_icmp .ge 30, 3, 0, [66]),
  (false, 39, .aload_n 0, 1, 0, []),
  (false, 40, .getfield 34, 3, 8, [8, 3, 5, 623]),
  (false, 43, .bipush 10, 2, 0, []),
  (false, 45, .iload_n 1, 1, 0, []),
  (false, 46, .imul, 1, 0, []),
  (false, 47, .iload 4, 2, 0, []),
  (false, 49, .iadd, 1, 0, []),
  (false, 50, .aload_n 0, 1, 0, []),
  (false, 51, .getfield 37, 3, 9, [9, 3, 5, 624]),
  (false, 54, .iload_n 2, 1, 0, []),
  (false, 55, .iload 4, 2, 0, []),
  (false, 57, .iadd, 1, 0, []),
  (false, 58, .iaload, 1, 0, []),
  (false, 59, .iastore, 1, 0, []),
  (false, 60, .iinc 4 1, 3, 0, []),
  (false, 63, .goto (-30), 3, 0, [33]),
  (false, 66, .aload_n 0, 1, 0, []),
  (false, 67, .getfield 28, 3, 6, [6, 3, 5, 621]),
  (false, 70, .iload_n 1, 1, 0, []),
  (false, 71, .iaload, 1, 0, []),
  (false, 72, .ireturn, 1, 0, [])]
def cd_M_part : List CI := [(false, 0, .aload_n 0, 1, 0, []),
  (false, 1, .iconst 0, 1, 0, []),
  (false, 2, .putfield 1, 3, 0, [0, 0, 5, 615]),
  (false, 5, .iload_n 1, 1, 0, []),
  (false, 6, .invokestatic 135, 3, 0, [76, 1, 0, 0, 0, 721, 722, 0, 723, 74, 5]),
  (false, 9, .ifCond .eq 23, 3, 0, [32]),
  (false, 12, .iload_n 2, 1, 0, []),
  (false, 13, .invokestatic 98, 3, 0, [71, 1, 0, 0, 0, 693, 694, 0, 695, 74, 5]),
  (false, 16, .ifCond .eq 16, 3, 0, [32]),
  (false, 19, .iload 4, 2, 0, []),
  (false, 21, .i2l, 1, 0, []),
  (false, 22, .lconst 1, 1, 1, []),
  (false, 23, .ldc2_w 138, 3, 10, [725]),
  (false, 26, .invokestatic 84, 3, 0, [67, 3, 0, 0, 0, 608, 609, 0, 610, 74, 5]),
  (false, 29, .ifCond .ne 6, 3, 0, [35]),
  (false, 32, .ldc 103, 2, (-1000001), [698]),
  (false, 34, .ireturn, 1, 0, []),
  (false, 35, .aload_n 0, 1, 0, []),
  (false, 36, .getfield 17, 3, 3, [3, 3, 5, 618]),
  (false, 39, .iload_n 2, 1, 0, []),
  (false, 40, .iaload, 1, 0, []),
  (false, 41, .ifCond .ge 9, 3, 0, [50]),
  (false, 44, .aload_n 0, 1, 0, []),
  (false, 45, .iconst 1, 1, 0, []),
  (false, 46, .invokevirtual 104, 3, 0, [68, 2, 0, 0, 0, 699, 701, 33, 702, 74, 5]),
  (false, 49, .ireturn, 1, 0, []),
  (false, 50, .iload_n 3, 1, 0, []),
  (false, 51, .ifCond .lt 20, 3, 0, [71]),
  (false, 54, .iload_n 3, 1, 0, []),
  (false, 55, .i2l, 1, 0, []),
  (false, 56, .iload 4, 2, 0, []),
  (false, 58, .i2l, 1, 0, []),
  (false, 59, .ladd, 1, 0, []),
  (false, 60, .aload_n 0, 1, 0, []),
  (false, 61, .getfield 21, 3, 4, [4, 3, 5, 619]),
  (false, 64, .iload_n 2, 1, 0, []),
  (false, 65, .iaload, 1, 0, []),
  (false, 66, .i2l, 1, 0, []),
  (false, 67, .lcmp, 1, 0, []),
  (false, 68, .ifCond .le 9, 3, 0, [77]),
  (false, 71, .aload_n 0, 1, 0, []),
  (false, 72, .iconst 2, 1, 0, []),
  (false, 73, .invokevirtual 104, 3, 0, [68, 2, 0, 0, 0, 699, 701, 33, 702, 74, 5]),
  (false, 76, .ireturn, 1, 0, []),
  (false, 77, .iconst 0, 1, 0, []),
  (false, 78, .istore 5, 2, 0, []),
  (true, 80, .iload 5, 2, 0, []),
  (false, 82, .iload 4, 2, 0, []),
  (false, 84, .if_icmp .ge 99, 3, 0, [183]),
  (false, 87, .aload_n 0, 1, 0, []),
  (false, 88, .getfield 37, 3, 9, [9, 3, 5, 624]),
  (false, 91, .iconst 0, 1, 0, []),
  (false, 92, .iload 5, 2, 0, []),
  (false, 94, .iadd, 1, 0, []),
  (false, 95, .iload 5, 2, 0, []),
  (false, 97, .iastore, 1, 0, []),
  (false, 98, .iload 5, 2, 0, []),
  (false, 100, .iconst 1, 1, 0, []),
  (false, 101, .isub, 1, 0, []),
  (false, 102, .istore 6, 2, 0, []),
  (true, 104, .iload 6, 2, 0, []),
  (false, 106, .ifCond .lt 71, 3, 0, [177]),
  (false, 109, .aload_n 0, 1, 0, []),
  (false, 110, .getfield 37, 3, 9, [9, 3, 5, 624]),
  (false, 113, .iconst 0, 1, 0, []),
  (false, 114, .iload 5, 2, 0, []),
  (false, 116, .iadd, 1, 0, []),
  (false, 117, .aload_n 0, 1, 0, []),
  (false, 118, .getfield 24, 3, 5, [5, 3, 5, 620]),
  (false, 121, .bipush 40, 2, 0, []),
  (false, 123, .iload_n 2, 1, 0, []),
  (false, 124, .imul, 1, 0, []),
  (false, 125, .iload_n 3, 1, 0, []),
  (false, 126, .iadd, 1, 0, []),
  (false, 127, .iload 6, 2, 0, []),
  (false, 129, .iadd, 1, 0, []),
  (false, 130, .laload, 1, 0, []),
  (false, 131, .aload_n 0, 1, 0, []),
  (false, 132, .getfield 24, 3, 5, [5, 3, 5, 620]),
  (false, 135, .bipush 40, 2, 0, []),
  (false, 137, .iload_n 2, 1, 0, []),
  (false, 138, .imul, 1, 0, []),
  (false, 139, .iload_n 3, 1, 0, []),
  (false, 140, .iadd, 1, 0, []),
  (false, 141, .iload 5, 2, 0, []),
  (false, 143, .iadd, 1, 0, []),
  (false, 144, .laload, 1, 0, []),
  (false, 145, .lcmp, 1, 0, []),
  (false, 146, .ifCond .ne 15, 3, 0, [161]),
  (false, 149, .aload_n 0, 1, 0, []),
  (false, 150, .getfield 37, 3, 9, [9, 3, 5, 624]),
  (false, 153, .iconst 0, 1, 0, []),
  (false, 154, .iload 6, 2, 0, []),
  (false, 156, .iadd, 1, 0, []),
  (false, 157, .iaload, 1, 0, []),
  (false, 158, .goto 12, 3, 0, [170]),
  (false, 161, .aload_n 0, 1, 0, []),
  (false, 162, .getfield 37, 3, 9, [9, 3, 5, 624]),
  (false, 165, .iconst 0, 1, 0, []),
  (false, 166, .iload 5, 2, 0, []),
  (false, 168, .iadd, 1, 0, []),
  (false, 169, .iaload, 1, 0, []),
  (false, 170, .iastore, 1, 0, []),
  (false, 171, .iinc 6 (-1), 3, 0, []),
  (false, 174, .goto (-70), 3, 0, [104]),
  (false, 177, .iinc 5 1, 3, 0, []),
  (false, 180, .goto (-100), 3, 0, [80]),
  (false, 183, .aload_n 0, 1, 0, []),
  (false, 184, .iload_n 1, 1, 0, []),
  (false, 185, .iconst 0, 1, 0, []),
  (false, 186, .iload 4, 2, 0, []),
  (false, 188, .invokevirtual 140, 3, 0, [85, 4, 0, 0, 0, 726, 728, 34, 729, 74, 5]),
  (false, 191, .ireturn, 1, 0, [])]
def cd_M_next : List CI := [(false, 0, .iload_n 2, 1, 0, []),
  (false, 1, .iconst 1, 1, 0, []),
  (false, 2, .isub, 1, 0, []),
  (false, 3, .istore_n 3, 1, 0, []),
  (true, 4, .iload_n 3, 1, 0, []),
  (false, 5, .ifCond .le 111, 3, 0, [116]),
  (false, 8, .iconst 0, 1, 0, []),
  (false, 9, .istore 4, 2, 0, []),
  (false, 11, .iconst 0, 1, 0, []),
  (false, 12, .istore 5, 2, 0, []),
  (true, 14, .iload 5, 2, 0, []),
  (false, 16, .iload_n 3, 1, 0, []),
  (false, 17, .if_icmp .ge 39, 3, 0, [56]),
  (false, 20, .aload_n 0, 1, 0, []),
  (false, 21, .getfield 37, 3, 9, [9, 3, 5, 624]),
  (false, 24, .iload_n 1, 1, 0, []),
  (false, 25, .iload 5, 2, 0, []),
  (false, 27, .iadd, 1, 0, []),
  (false, 28, .iaload, 1, 0, []),
  (false, 29, .iload 4, 2, 0, []),
  (false, 31, .if_icmp .le 15, 3, 0, [46]),
  (false, 34, .aload_n 0, 1, 0, []),
  (false, 35, .getfield 37, 3, 9, [9, 3, 5, 624]),
  (false, 38, .iload_n 1, 1, 0, []),
  (false, 39, .iload 5, 2, 0, []),
  (false, 41, .iadd, 1, 0, []),
  (false, 42, .iaload, 1, 0, []),
  (false, 43, .goto 5, 3, 0, [48]),
  (false, 46, .iload 4, 2, 0, []),
  (false, 48, .istore 4, 2, 0, []),
  (false, 50, .iinc 5 1, 3, 0, []),
  (false, 53, .goto (-39), 3, 0, [14]),
  (false, 56, .aload_n 0, 1, 0, []),
  (false, 57, .getfield 37, 3, 9, [9, 3, 5, 624]),
  (false, 60, .iload_n 1, 1, 0, []),
  (false, 61, .iload_n 3, 1, 0, []),
  (false, 62, .iadd, 1, 0, []),
  (false, 63, .iaload, 1, 0, []),
  (false, 64, .iload 4, 2, 0, []),
  (false, 66, .if_icmp .gt 44, 3, 0, [110]),
  (false, 69, .aload_n 0, 1, 0, []),
  (false, 70, .getfield 37, 3, 9, [9, 3, 5, 624]),
  (false, 73, .iload_n 1, 1, 0, []),
  (false, 74, .iload_n 3, 1, 0, []),
  (false, 75, .iadd, 1, 0, []),
  (false, 76, .dup2, 1, 0, []),
  (false, 77, .iaload, 1, 0, []),
  (false, 78, .iconst 1, 1, 0, []),
  (false, 79, .iadd, 1, 0, []),
  (false, 80, .iastore, 1, 0, []),
  (false, 81, .iload_n 3, 1, 0, []),
  (false, 82, .iconst 1, 1, 0, []),
  (false, 83, .iadd, 1, 0, []),
  (false, 84, .istore 5, 2, 0, []),
  (true, 86, .iload 5, 2, 0, []),
  (false, 88, .iload_n 2, 1, 0, []),
  (false, 89, .if_icmp .ge 19, 3, 0, [108]),
  (false, 92, .aload_n 0, 1, 0, []),
  (false, 93, .getfield 37, 3, 9, [9, 3, 5, 624]),
  (false, 96, .iload_n 1, 1, 0, []),
  (false, 97, .iload 5, 2, 0, []),
  (false, 99, .iadd, 1, 0, []),
  (false, 100, .iconst 0, 1, 0, []),
  (false, 101, .iastore, 1, 0, []),
  (false, 102, .iinc 5 1, 3, 0, []),
  (false, 105, .goto (-19), 3, 0, [86]),
  (false, 108, .iconst 1, 1, 0, []),
  (false, 109, .ireturn, 1, 0, []),
  (false, 110, .iinc 3 (-1), 3, 0, []),
  (false, 113, .goto (-109), 3, 0, [4]),
  (false, 116, .iconst 0, 1, 0, []),
  (false, 117, .ireturn, 1, 0, [])]
def cd_M_nextFree : List CI := [(false, 0, .aload_n 0, 1, 0, []),
  (false, 1, .iload_n 1, 1, 0, []),
  (false, 2, .iload_n 2, 1, 0, []),
  (false, 3, .invokevirtual 143, 3, 0, [87, 3, 0, 0, 0, 768, 770, 43, 771, 74, 5]),
  (false, 6, .istore_n 3, 1, 0, []),
  (false, 7, .iload_n 3, 1, 0, []),
  (false, 8, .ifCond .eq 12, 3, 0, [20]),
  (false, 11, .aload_n 0, 1, 0, []),
  (false, 12, .iload_n 1, 1, 0, []),
  (false, 13, .iload_n 2, 1, 0, []),
  (false, 14, .invokevirtual 113, 3, 0, [79, 3, 0, 0, 0, 743, 745, 38, 746, 74, 5]),
  (false, 17, .goto 5, 3, 0, [22]),
  (false, 20, .ldc 112, 2, (-1000000), [734]),
  (false, 22, .istore 4, 2, 0, []),
  (true, 24, .iload 4, 2, 0, []),
  (false, 26, .ldc 112, 2, (-1000000), [734]),
  (false, 28, .if_icmp .eq 98, 3, 0, [126]),
  (false, 31, .iconst 0, 1, 0, []),
  (false, 32, .istore 5, 2, 0, []),
  (false, 34, .iconst 0, 1, 0, []),
  (false, 35, .istore 6, 2, 0, []),
  (true, 37, .iload 6, 2, 0, []),
  (false, 39, .iload_n 2, 1, 0, []),
  (false, 40, .if_icmp .ge 59, 3, 0, [99]),
  (false, 43, .iload 6, 2, 0, []),
  (false, 45, .iload 4, 2, 0, []),
  (false, 47, .if_icmp .le 16, 3, 0, [63]),
  (false, 50, .aload_n 0, 1, 0, []),
  (false, 51, .getfield 37, 3, 9, [9, 3, 5, 624]),
  (false, 54, .iload_n 1, 1, 0, []),
  (false, 55, .iload 6, 2, 0, []),
  (false, 57, .iadd, 1, 0, []),
  (false, 58, .iload 5, 2, 0, []),
  (false, 60, .iconst 1, 1, 0, []),
  (false, 61, .iadd, 1, 0, []),
  (false, 62, .iastore, 1, 0, []),
  (false, 63, .aload_n 0, 1, 0, []),
  (false, 64, .getfield 37, 3, 9, [9, 3, 5, 624]),
  (false, 67, .iload_n 1, 1, 0, []),
  (false, 68, .iload 6, 2, 0, []),
  (false, 70, .iadd, 1, 0, []),
  (false, 71, .iaload, 1, 0, []),
  (false, 72, .iload 5, 2, 0, []),
  (false, 74, .if_icmp .le 15, 3, 0, [89]),
  (false, 77, .aload_n 0, 1, 0, []),
  (false, 78, .getfield 37, 3, 9, [9, 3, 5, 624]),
  (false, 81, .iload_n 1, 1, 0, []),
  (false, 82, .iload 6, 2, 0, []),
  (false, 84, .iadd, 1, 0, []),
  (false, 85, .iaload, 1, 0, []),
  (false, 86, .goto 5, 3, 0, [91]),
  (false, 89, .iload 5, 2, 0, []),
  (false, 91, .istore 5, 2, 0, []),
  (false, 93, .iinc 6 1, 3, 0, []),
  (false, 96, .goto (-59), 3, 0, [37]),
  (false, 99, .aload_n 0, 1, 0, []),
  (false, 100, .iload_n 1, 1, 0, []),
  (false, 101, .iload_n 2, 1, 0, []),
  (false, 102, .invokevirtual 143, 3, 0, [87, 3, 0, 0, 0, 768, 770, 43, 771, 74, 5]),
  (false, 105, .istore_n 3, 1, 0, []),
  (false, 106, .iload_n 3, 1, 0, []),
  (false, 107, .ifCond .eq 12, 3, 0, [119]),
  (false, 110, .aload_n 0, 1, 0, []),
  (false, 111, .iload_n 1, 1, 0, []),
  (false, 112, .iload_n 2, 1, 0, []),
  (false, 113, .invokevirtual 113, 3, 0, [79, 3, 0, 0, 0, 743, 745, 38, 746, 74, 5]),
  (false, 116, .goto 5, 3, 0, [121]),
  (false, 119, .ldc 112, 2, (-1000000), [734]),
  (false, 121, .istore 4, 2, 0, []),
  (false, 123, .goto (-99), 3, 0, [24]),
  (false, 126, .iload_n 3, 1, 0, []),
  (false, 127, .ireturn, 1, 0, [])]
def cd_M_first : List CI := [(false, 0, .iconst 0, 1, 0, []),
  (false, 1, .istore_n 3, 1, 0, []),
  (true, 2, .iload_n 3, 1, 0, []),
  (false, 3, .iload_n 2, 1, 0, []),
  (false, 4, .if_icmp .ge 18, 3, 0, [22]),
  (false, 7, .aload_n 0, 1, 0, []),
  (false, 8, .getfield 37, 3, 9, [9, 3, 5, 624]),
  (false, 11, .iload_n 1, 1, 0, []),
  (false, 12, .iload_n 3, 1, 0, []),
  (false, 13, .iadd, 1, 0, []),
  (false, 14, .iconst 0, 1, 0, []),
  (false, 15, .iastore, 1, 0, []),
  (false, 16, .iinc 3 1, 3, 0, []),
  (false, 19, .goto (-17), 3, 0, [2]),
  (false, 22, .return_, 1, 0, [])]
def cd_M_nth : List CI := [(false, 0, .aload_n 0, 1, 0, []),
  (false, 1, .iconst 0, 1, 0, []),
  (false, 2, .putfield 1, 3, 0, [0, 0, 5, 615]),
  (false, 5, .iload_n 1, 1, 0, []),
  (false, 6, .invokestatic 135, 3, 0, [76, 1, 0, 0, 0, 721, 722, 0, 723, 74, 5]),
  (false, 9, .ifCond .eq 15, 3, 0, [24]),
  (false, 12, .iload_n 2, 1, 0, []),
  (false, 13, .i2l, 1, 0, []),
  (false, 14, .lconst 1, 1, 1, []),
  (false, 15, .ldc2_w 138, 3, 10, [725]),
  (false, 18, .invokestatic 84, 3, 0, [67, 3, 0, 0, 0, 608, 609, 0, 610, 74, 5]),
  (false, 21, .ifCond .ne 6, 3, 0, [27]),
  (false, 24, .ldc 103, 2, (-1000001), [698]),
  (false, 26, .ireturn, 1, 0, []),
  (false, 27, .aload_n 0, 1, 0, []),
  (false, 28, .iconst 0, 1, 0, []),
  (false, 29, .putfield 7, 3, 1, [1, 0, 5, 616]),
  (false, 32, .iload_n 3, 1, 0, []),
  (false, 33, .i2l, 1, 0, []),
  (false, 34, .lconst 0, 1, 0, []),
  (false, 35, .ldc2_w 146, 3, 16795, [759]),
  (false, 38, .invokestatic 84, 3, 0, [67, 3, 0, 0, 0, 608, 609, 0, 610, 74, 5]),
  (false, 41, .ifCond .ne 6, 3, 0, [47]),
  (false, 44, .ldc 112, 2, (-1000000), [734]),
  (false, 46, .ireturn, 1, 0, []),
  (false, 47, .aload_n 0, 1, 0, []),
  (false, 48, .iconst 0, 1, 0, []),
  (false, 49, .iload_n 2, 1, 0, []),
  (false, 50, .invokevirtual 148, 3, 0, [89, 3, 3, 0, 0, 760, 762, 41, 763, 74, 5]),
  (false, 53, .iconst 0, 1, 0, []),
  (false, 54, .istore 4, 2, 0, []),
  (true, 56, .iload 4, 2, 0, []),
  (false, 58, .iload_n 3, 1, 0, []),
  (false, 59, .if_icmp .ge 21, 3, 0, [80]),
  (false, 62, .aload_n 0, 1, 0, []),
  (false, 63, .iconst 0, 1, 0, []),
  (false, 64, .iload_n 2, 1, 0, []),
  (false, 65, .invokevirtual 151, 3, 0, [88, 3, 0, 0, 0, 764, 766, 42, 767, 74, 5]),
  (false, 68, .ifCond .ne 6, 3, 0, [74]),
  (false, 71, .ldc 112, 2, (-1000000), [734]),
  (false, 73, .ireturn, 1, 0, []),
  (false, 74, .iinc 4 1, 3, 0, []),
  (false, 77, .goto (-21), 3, 0, [56]),
  (false, 80, .aload_n 0, 1, 0, []),
  (false, 81, .iload_n 1, 1, 0, []),
  (false, 82, .iconst 0, 1, 0, []),
  (false, 83, .iload_n 2, 1, 0, []),
  (false, 84, .invokevirtual 140, 3, 0, [85, 4, 0, 0, 0, 726, 728, 34, 729, 74, 5]),
  (false, 87, .ireturn, 1, 0, [])]
def cd_M_isOf : List CI := [(false, 0, .iload_n 0, 1, 0, []),
  (false, 1, .ifCond .lt 31, 3, 0, [32]),
  (false, 4, .iload_n 1, 1, 0, []),
  (false, 5, .ifCond .eq 23, 3, 0, [28]),
  (false, 8, .iload_n 0, 1, 0, []),
  (false, 9, .iload_n 1, 1, 0, []),
  (false, 10, .if_icmp .eq 18, 3, 0, [28]),
  (false, 13, .iload_n 1, 1, 0, []),
  (false, 14, .iconst 1, 1, 0, []),
  (false, 15, .if_icmp .ne 17, 3, 0, [32]),
  (false, 18, .iload_n 0, 1, 0, []),
  (false, 19, .iconst 2, 1, 0, []),
  (false, 20, .if_icmp .eq 8, 3, 0, [28]),
  (false, 23, .iload_n 0, 1, 0, []),
  (false, 24, .iconst 3, 1, 0, []),
  (false, 25, .if_icmp .ne 7, 3, 0, [32]),
  (false, 28, .iconst 1, 1, 0, []),
  (false, 29, .goto 4, 3, 0, [33]),
  (false, 32, .iconst 0, 1, 0, []),
  (false, 33, .ireturn, 1, 0, [])]
def cd_M_asked : List CI := [(false, 0, .aload_n 0, 1, 0, []),
  (false, 1, .getfield 28, 3, 6, [6, 3, 5, 621]),
  (false, 4, .iload_n 1, 1, 0, []),
  (false, 5, .iaload, 1, 0, []),
  (false, 6, .ifCond .ge 7, 3, 0, [13]),
  (false, 9, .iconst 1, 1, 0, []),
  (false, 10, .goto 21, 3, 0, [31]),
  (false, 13, .aload_n 0, 1, 0, []),
  (false, 14, .getfield 28, 3, 6, [6, 3, 5, 621]),
  (false, 17, .iload_n 1, 1, 0, []),
  (false, 18, .iaload, 1, 0, []),
  (false, 19, .iload_n 2, 1, 0, []),
  (false, 20, .invokestatic 154, 3, 0, [91, 2, 0, 0, 0, 780, 781, 0, 782, 74, 5]),
  (false, 23, .ifCond .eq 7, 3, 0, [30]),
  (false, 26, .iconst 0, 1, 0, []),
  (false, 27, .goto 4, 3, 0, [31]),
  (false, 30, .iconst 3, 1, 0, []),
  (false, 31, .ireturn, 1, 0, [])]
def cd_M_both : List CI := [(false, 0, .aload_n 0, 1, 0, []),
  (false, 1, .iconst 0, 1, 0, []),
  (false, 2, .putfield 1, 3, 0, [0, 0, 5, 615]),
  (false, 5, .iload_n 1, 1, 0, []),
  (false, 6, .invokestatic 135, 3, 0, [76, 1, 0, 0, 0, 721, 722, 0, 723, 74, 5]),
  (false, 9, .ifCond .eq 28, 3, 0, [37]),
  (false, 12, .iload_n 2, 1, 0, []),
  (false, 13, .invokestatic 135, 3, 0, [76, 1, 0, 0, 0, 721, 722, 0, 723, 74, 5]),
  (false, 16, .ifCond .eq 21, 3, 0, [37]),
  (false, 19, .iload_n 3, 1, 0, []),
  (false, 20, .invokestatic 135, 3, 0, [76, 1, 0, 0, 0, 721, 722, 0, 723, 74, 5]),
  (false, 23, .ifCond .eq 14, 3, 0, [37]),
  (false, 26, .iload 4, 2, 0, []),
  (false, 28, .i2l, 1, 0, []),
  (false, 29, .lconst 0, 1, 0, []),
  (false, 30, .lconst 1, 1, 1, []),
  (false, 31, .invokestatic 84, 3, 0, [67, 3, 0, 0, 0, 608, 609, 0, 610, 74, 5]),
  (false, 34, .ifCond .ne 6, 3, 0, [40]),
  (false, 37, .ldc 103, 2, (-1000001), [698]),
  (false, 39, .ireturn, 1, 0, []),
  (false, 40, .aload_n 0, 1, 0, []),
  (false, 41, .iload_n 2, 1, 0, []),
  (false, 42, .iconst 1, 1, 0, []),
  (false, 43, .invokevirtual 157, 3, 0, [92, 3, 0, 0, 0, 776, 778, 44, 779, 74, 5]),
  (false, 46, .istore 5, 2, 0, []),
  (false, 48, .iload 5, 2, 0, []),
  (false, 50, .ifCond .le 8, 3, 0, [58]),
  (false, 53, .iload 5, 2, 0, []),
  (false, 55, .goto 9, 3, 0, [64]),
  (false, 58, .aload_n 0, 1, 0, []),
  (false, 59, .iload_n 3, 1, 0, []),
  (false, 60, .iconst 1, 1, 0, []),
  (false, 61, .invokevirtual 157, 3, 0, [92, 3, 0, 0, 0, 776, 778, 44, 779, 74, 5]),
  (false, 64, .istore 5, 2, 0, []),
  (false, 66, .iload 5, 2, 0, []),
  (false, 68, .ifCond .le 10, 3, 0, [78]),
  (false, 71, .aload_n 0, 1, 0, []),
  (false, 72, .iload 5, 2, 0, []),
  (false, 74, .invokevirtual 104, 3, 0, [68, 2, 0, 0, 0, 699, 701, 33, 702, 74, 5]),
  (false, 77, .ireturn, 1, 0, []),
  (false, 78, .aload_n 0, 1, 0, []),
  (false, 79, .getfield 31, 3, 7, [7, 3, 5, 622]),
  (false, 82, .iload_n 2, 1, 0, []),
  (false, 83, .iaload, 1, 0, []),
  (false, 84, .istore 6, 2, 0, []),
  (false, 86, .aload_n 0, 1, 0, []),
  (false, 87, .getfield 31, 3, 7, [7, 3, 5, 622]),
  (false, 90, .iload_n 3, 1, 0, []),
  (false, 91, .iaload, 1, 0, []),
  (false, 92, .iload 6, 2, 0, []),
  (false, 94, .if_icmp .eq 6, 3, 0, [100]),
  (false, 97, .ldc 103, 2, (-1000001), [698]),
  (false, 99, .ireturn, 1, 0, []),
  (false, 100, .aload_n 0, 1, 0, []),
  (false, 101, .iload_n 2, 1, 0, []),
  (false, 102, .iconst 0, 1, 0, []),
  (false, 103, .invokevirtual 160, 3, 0, [77, 3, 3, 0, 0, 783, 785, 45, 786, 74, 5]),
  (false, 106, .aload_n 0, 1, 0, []),
  (false, 107, .iload_n 3, 1, 0, []),
  (false, 108, .bipush 10, 2, 0, []),
  (false, 110, .invokevirtual 160, 3, 0, [77, 3, 3, 0, 0, 783, 785, 45, 786, 74, 5]),
  (false, 113, .iload 4, 2, 0, []),
  (false, 115, .ifCond .ne 62, 3, 0, [177]),
  (false, 118, .iconst 0, 1, 0, []),
  (false, 119, .istore 7, 2, 0, []),
  (true, 121, .iload 7, 2, 0, []),
  (false, 123, .iload 6, 2, 0, []),
  (false, 125, .if_icmp .ge 42, 3, 0, [167]),
  (false, 128, .aload_n 0, 1, 0, []),
  (false, 129, .getfield 37, 3, 9, [9, 3, 5, 624]),
  (false, 132, .bipush 20, 2, 0, []),
  (false, 134, .iload 7, 2, 0, []),
  (false, 136, .iadd, 1, 0, []),
  (false, 137, .bipush 10, 2, 0, []),
  (false, 139, .aload_n 0, 1, 0, []),
  (false, 140, .getfield 37, 3, 9, [9, 3, 5, 624]),
  (false, 143, .iconst 0, 1, 0, []),
  (false, 144, .iload 7, 2, 0, []),
  (false, 146, .iadd, 1, 0, []),
  (false, 147, .iaload, 1, 0, []),
  (false, 148, .imul, 1, 0, []),
  (false, 149, .aload_n 0, 1, 0, []),
  (false, 150, .getfield 37, 3, 9, [9, 3, 5, 624]),
  (false, 153, .bipush 10, 2, 0, []),
  (false, 155, .iload 7, 2, 0, []),
  (false, 157, .iadd, 1, 0, []),
  (false, 158, .iaload, 1, 0, []),
  (false, 159, .iadd, 1, 0, []),
  (false, 160, .iastore, 1, 0, []),
  (false, 161, .iinc 7 1, 3, 0, []),
  (false, 164, .goto (-43), 3, 0, [121]),
  (false, 167, .aload_n 0, 1, 0, []),
  (false, 168, .iload_n 1, 1, 0, []),
  (false, 169, .bipush 20, 2, 0, []),
  (false, 171, .iload 6, 2, 0, []),
  (false, 173, .invokevirtual 140, 3, 0, [85, 4, 0, 0, 0, 726, 728, 34, 729, 74, 5]),
  (false, 176, .ireturn, 1, 0, []),
  (false, 177, .iconst 0, 1, 0, []),
  (false, 178, .istore 7, 2, 0, []),
  (true, 180, .iload 7, 2, 0, []),
  (false, 182, .iload 6, 2, 0, []),
  (false, 184, .if_icmp .ge 21, 3, 0, [205]),
  (false, 187, .aload_n 0, 1, 0, []),
  (false, 188, .getfield 37, 3, 9, [9, 3, 5, 624]),
  (false, 191, .bipush 20, 2, 0, []),
  (false, 193, .iload 7, 2, 0, []),
  (false, 195, .iadd, 1, 0, []),
  (false, 196, .iload 7, 2, 0, []),
  (false, 198, .iastore, 1, 0, []),
  (false, 199, .iinc 7 1, 3, 0, []),
  (false, 202, .goto (-22), 3, 0, [180]),
  (false, 205, .iconst 1, 1, 0, []),
  (false, 206, .istore 7, 2, 0, []),
  (true, 208, .iload 7, 2, 0, []),
  (false, 210, .ifCond .eq 165, 3, 0, [375]),
  (false, 213, .iconst 0, 1, 0, []),
  (false, 214, .istore 7, 2, 0, []),
  (false, 216, .iconst 0, 1, 0, []),
  (false, 217, .istore 8, 2, 0, []),
  (true, 219, .iload 8, 2, 0, []),
  (false, 221, .iload 6, 2, 0, []),
  (false, 223, .if_icmp .ge 149, 3, 0, [372]),
  (false, 226, .iload 8, 2, 0, []),
  (false, 228, .iconst 1, 1, 0, []),
  (false, 229, .iadd, 1, 0, []),
  (false, 230, .istore 9, 2, 0, []),
  (true, 232, .iload 9, 2, 0, []),
  (false, 234, .iload 6, 2, 0, []),
  (false, 236, .if_icmp .ge 130, 3, 0, [366]),
  (false, 239, .aload_n 0, 1, 0, []),
  (false, 240, .getfield 37, 3, 9, [9, 3, 5, 624]),
  (false, 243, .iconst 0, 1, 0, []),
  (false, 244, .iload 8, 2, 0, []),
  (false, 246, .iadd, 1, 0, []),
  (false, 247, .iaload, 1, 0, []),
  (false, 248, .aload_n 0, 1, 0, []),
  (false, 249, .getfield 37, 3, 9, [9, 3, 5, 624]),
  (false, 252, .iconst 0, 1, 0, []),
  (false, 253, .iload 9, 2, 0, []),
  (false, 255, .iadd, 1, 0, []),
  (false, 256, .iaload, 1, 0, []),
  (false, 257, .if_icmp .eq 39, 3, 0, [296]),
  (false, 260, .aload_n 0, 1, 0, []),
  (false, 261, .getfield 37, 3, 9, [9, 3, 5, 624]),
  (false, 264, .bipush 10, 2, 0, []),
  (false, 266, .iload 8, 2, 0, []),
  (false, 268, .iadd, 1, 0, []),
  (false, 269, .iaload, 1, 0, []),
  (false, 270, .aload_n 0, 1, 0, []),
  (false, 271, .getfield 37, 3, 9, [9, 3, 5, 624]),
  (false, 274, .bipush 10, 2, 0, []),
  (false, 276, .iload 9, 2, 0, []),
  (false, 278, .iadd, 1, 0, []),
  (false, 279, .iaload, 1, 0, []),
  (false, 280, .if_icmp .eq 16, 3, 0, [296]),
  (false, 283, .aload_n 0, 1, 0, []),
  (false, 284, .iload 8, 2, 0, []),
  (false, 286, .iload 9, 2, 0, []),
  (false, 288, .iload 6, 2, 0, []),
  (false, 290, .invokevirtual 163, 3, 0, [95, 4, 0, 0, 0, 787, 789, 46, 790, 74, 5]),
  (false, 293, .ifCond .eq 7, 3, 0, [300]),
  (false, 296, .iconst 1, 1, 0, []),
  (false, 297, .goto 4, 3, 0, [301]),
  (false, 300, .iconst 0, 1, 0, []),
  (false, 301, .istore 10, 2, 0, []),
  (false, 303, .iload 10, 2, 0, []),
  (false, 305, .ifCond .eq 55, 3, 0, [360]),
  (false, 308, .aload_n 0, 1, 0, []),
  (false, 309, .getfield 37, 3, 9, [9, 3, 5, 624]),
  (false, 312, .bipush 20, 2, 0, []),
  (false, 314, .iload 8, 2, 0, []),
  (false, 316, .iadd, 1, 0, []),
  (false, 317, .iaload, 1, 0, []),
  (false, 318, .aload_n 0, 1, 0, []),
  (false, 319, .getfield 37, 3, 9, [9, 3, 5, 624]),
  (false, 322, .bipush 20, 2, 0, []),
  (false, 324, .iload 9, 2, 0, []),
  (false, 326, .iadd, 1, 0, []),
  (false, 327, .iaload, 1, 0, []),
  (false, 328, .if_icmp .eq 32, 3, 0, [360]),
  (false, 331, .aload_n 0, 1, 0, []),
  (false, 332, .aload_n 0, 1, 0, []),
  (false, 333, .getfield 37, 3, 9, [9, 3, 5, 624]),
  (false, 336, .bipush 20, 2, 0, []),
  (false, 338, .iload 8, 2, 0, []),
  (false, 340, .iadd, 1, 0, []),
  (false, 341, .iaload, 1, 0, []),
  (false, 342, .aload_n 0, 1, 0, []),
  (false, 343, .getfield 37, 3, 9, [9, 3, 5, 624]),
  (false, 346, .bipush 20, 2, 0, []),
  (false, 348, .iload 9, 2, 0, []),
  (false, 350, .iadd, 1, 0, []),
  (false, 351, .iaload, 1, 0, []),
  (false, 352, .iload 6, 2, 0, []),
  (false, 354, .invokevirtual 167, 3, 0, [94, 4, 3, 0, 0, 791, 793, 47, 794, 74, 5]),
  (false, 357, .iconst 1, 1, 0, []),
  (false, 358, .istore 7, 2, 0, []),
  (false, 360, .iinc 9 1, 3, 0, []),
  (false, 363, .goto (-131), 3, 0, [232]),
  (false, 366, .iinc 8 1, 3, 0, []),
  (false, 369, .goto (-150), 3, 0, [219]),
  (false, 372, .goto (-164), 3, 0, [208]),
  (false, 375, .aload_n 0, 1, 0, []),
  (false, 376, .iload_n 1, 1, 0, []),
  (false, 377, .bipush 20, 2, 0, []),
  (false, 379, .iload 6, 2, 0, []),
  (false, 381, .invokevirtual 140, 3, 0, [85, 4, 0, 0, 0, 726, 728, 34, 729, 74, 5]),
  (false, 384, .ireturn, 1, 0, [])]
def cd_M_mix : List CI := [(false, 0, .iconst 0, 1, 0, []),
  (false, 1, .istore 4, 2, 0, []),
  (true, 3, .iload 4, 2, 0, []),
  (false, 5, .iload_n 3, 1, 0, []),
  (false, 6, .if_icmp .ge 47, 3, 0, [53]),
  (false, 9, .aload_n 0, 1, 0, []),
  (false, 10, .getfield 37, 3, 9, [9, 3, 5, 624]),
  (false, 13, .bipush 20, 2, 0, []),
  (false, 15, .iload 4, 2, 0, []),
  (false, 17, .iadd, 1, 0, []),
  (false, 18, .aload_n 0, 1, 0, []),
  (false, 19, .getfield 37, 3, 9, [9, 3, 5, 624]),
  (false, 22, .bipush 20, 2, 0, []),
  (false, 24, .iload 4, 2, 0, []),
  (false, 26, .iadd, 1, 0, []),
  (false, 27, .iaload, 1, 0, []),
  (false, 28, .iload_n 2, 1, 0, []),
  (false, 29, .if_icmp .ne 7, 3, 0, [36]),
  (false, 32, .iload_n 1, 1, 0, []),
  (false, 33, .goto 13, 3, 0, [46]),
  (false, 36, .aload_n 0, 1, 0, []),
  (false, 37, .getfield 37, 3, 9, [9, 3, 5, 624]),
  (false, 40, .bipush 20, 2, 0, []),
  (false, 42, .iload 4, 2, 0, []),
  (false, 44, .iadd, 1, 0, []),
  (false, 45, .iaload, 1, 0, []),
  (false, 46, .iastore, 1, 0, []),
  (false, 47, .iinc 4 1, 3, 0, []),
  (false, 50, .goto (-47), 3, 0, [3]),
  (false, 53, .return_, 1, 0, [])]
def cd_M_crossing : List CI := [(false, 0, .aload_n 0, 1, 0, []),
  (false, 1, .getfield 37, 3, 9, [9, 3, 5, 624]),
  (false, 4, .bipush 20, 2, 0, []),
  (false, 6, .iload_n 1, 1, 0, []),
  (false, 7, .iadd, 1, 0, []),
  (false, 8, .iaload, 1, 0, []),
  (false, 9, .istore 4, 2, 0, []),
  (false, 11, .aload_n 0, 1, 0, []),
  (false, 12, .getfield 37, 3, 9, [9, 3, 5, 624]),
  (false, 15, .bipush 20, 2, 0, []),
  (false, 17, .iload_n 2, 1, 0, []),
  (false, 18, .iadd, 1, 0, []),
  (false, 19, .iaload, 1, 0, []),
  (false, 20, .istore 5, 2, 0, []),
  (false, 22, .iload 4, 2, 0, []),
  (false, 24, .iload 5, 2, 0, []),
  (false, 26, .if_icmp .ne 5, 3, 0, [31]),
  (false, 29, .iconst 0, 1, 0, []),
  (false, 30, .ireturn, 1, 0, []),
  (false, 31, .ldc 112, 2, (-1000000), [734]),
  (false, 33, .istore 6, 2, 0, []),
  (false, 35, .iconst 0, 1, 0, []),
  (false, 36, .istore 7, 2, 0, []),
  (false, 38, .iconst 0, 1, 0, []),
  (false, 39, .istore 8, 2, 0, []),
  (true, 41, .iload 8, 2, 0, []),
  (false, 43, .iload_n 3, 1, 0, []),
  (false, 44, .if_icmp .ge 63, 3, 0, [107]),
  (false, 47, .aload_n 0, 1, 0, []),
  (false, 48, .getfield 37, 3, 9, [9, 3, 5, 624]),
  (false, 51, .bipush 20, 2, 0, []),
  (false, 53, .iload 8, 2, 0, []),
  (false, 55, .iadd, 1, 0, []),
  (false, 56, .iaload, 1, 0, []),
  (false, 57, .istore 9, 2, 0, []),
  (false, 59, .iload 9, 2, 0, []),
  (false, 61, .iload 4, 2, 0, []),
  (false, 63, .if_icmp .eq 10, 3, 0, [73]),
  (false, 66, .iload 9, 2, 0, []),
  (false, 68, .iload 5, 2, 0, []),
  (false, 70, .if_icmp .ne 31, 3, 0, [101]),
  (false, 73, .iload 7, 2, 0, []),
  (false, 75, .iload 6, 2, 0, []),
  (false, 77, .ldc 112, 2, (-1000000), [734]),
  (false, 79, .if_icmp .eq 14, 3, 0, [93]),
  (false, 82, .iload 9, 2, 0, []),
  (false, 84, .iload 6, 2, 0, []),
  (false, 86, .if_icmp .eq 7, 3, 0, [93]),
  (false, 89, .iconst 1, 1, 0, []),
  (false, 90, .goto 4, 3, 0, [94]),
  (false, 93, .iconst 0, 1, 0, []),
  (false, 94, .iadd, 1, 0, []),
  (false, 95, .istore 7, 2, 0, []),
  (false, 97, .iload 9, 2, 0, []),
  (false, 99, .istore 6, 2, 0, []),
  (false, 101, .iinc 8 1, 3, 0, []),
  (false, 104, .goto (-63), 3, 0, [41]),
  (false, 107, .iload 7, 2, 0, []),
  (false, 109, .iconst 2, 1, 0, []),
  (false, 110, .if_icmp .le 7, 3, 0, [117]),
  (false, 113, .iconst 1, 1, 0, []),
  (false, 114, .goto 4, 3, 0, [118]),
  (false, 117, .iconst 0, 1, 0, []),
  (false, 118, .ireturn, 1, 0, [])]
def cd_M_complement : List CI := [(false, 0, .iconst 0, 1, 0, []),
  (false, 1, .istore_n 3, 1, 0, []),
  (true, 2, .iload_n 3, 1, 0, []),
  (false, 3, .iload_n 2, 1, 0, []),
  (false, 4, .if_icmp .ge 153, 3, 0, [157]),
  (false, 7, .aload_n 0, 1, 0, []),
  (false, 8, .getfield 37, 3, 9, [9, 3, 5, 624]),
  (false, 11, .bipush 20, 2, 0, []),
  (false, 13, .iload_n 3, 1, 0, []),
  (false, 14, .iadd, 1, 0, []),
  (false, 15, .iload_n 3, 1, 0, []),
  (false, 16, .iastore, 1, 0, []),
  (false, 17, .iload_n 3, 1, 0, []),
  (false, 18, .iconst 1, 1, 0, []),
  (false, 19, .isub, 1, 0, []),
  (false, 20, .istore 4, 2, 0, []),
  (true, 22, .iload 4, 2, 0, []),
  (false, 24, .ifCond .lt 127, 3, 0, [151]),
  (false, 27, .iconst 1, 1, 0, []),
  (false, 28, .istore 5, 2, 0, []),
  (false, 30, .iload 4, 2, 0, []),
  (false, 32, .iconst 1, 1, 0, []),
  (false, 33, .iadd, 1, 0, []),
  (false, 34, .istore 6, 2, 0, []),
  (true, 36, .iload 6, 2, 0, []),
  (false, 38, .iload_n 3, 1, 0, []),
  (false, 39, .if_icmp .gt 70, 3, 0, [109]),
  (false, 42, .iconst 0, 1, 0, []),
  (false, 43, .istore 7, 2, 0, []),
  (true, 45, .iload 7, 2, 0, []),
  (false, 47, .iload_n 2, 1, 0, []),
  (false, 48, .if_icmp .ge 55, 3, 0, [103]),
  (false, 51, .iload 5, 2, 0, []),
  (false, 53, .ifCond .eq 41, 3, 0, [94]),
  (false, 56, .iload 7, 2, 0, []),
  (false, 58, .iload 4, 2, 0, []),
  (false, 60, .if_icmp .le 9, 3, 0, [69]),
  (false, 63, .iload 7, 2, 0, []),
  (false, 65, .iload_n 3, 1, 0, []),
  (false, 66, .if_icmp .le 24, 3, 0, [90]),
  (false, 69, .aload_n 0, 1, 0, []),
  (false, 70, .getfield 37, 3, 9, [9, 3, 5, 624]),
  (false, 73, .iload_n 1, 1, 0, []),
  (false, 74, .iload 6, 2, 0, []),
  (false, 76, .iadd, 1, 0, []),
  (false, 77, .iaload, 1, 0, []),
  (false, 78, .aload_n 0, 1, 0, []),
  (false, 79, .getfield 37, 3, 9, [9, 3, 5, 624]),
  (false, 82, .iload_n 1, 1, 0, []),
  (false, 83, .iload 7, 2, 0, []),
  (false, 85, .iadd, 1, 0, []),
  (false, 86, .iaload, 1, 0, []),
  (false, 87, .if_icmp .eq 7, 3, 0, [94]),
  (false, 90, .iconst 1, 1, 0, []),
  (false, 91, .goto 4, 3, 0, [95]),
  (false, 94, .iconst 0, 1, 0, []),
  (false, 95, .istore 5, 2, 0, []),
  (false, 97, .iinc 7 1, 3, 0, []),
  (false, 100, .goto (-55), 3, 0, [45]),
  (false, 103, .iinc 6 1, 3, 0, []),
  (false, 106, .goto (-70), 3, 0, [36]),
  (false, 109, .aload_n 0, 1, 0, []),
  (false, 110, .getfield 37, 3, 9, [9, 3, 5, 624]),
  (false, 113, .bipush 20, 2, 0, []),
  (false, 115, .iload_n 3, 1, 0, []),
  (false, 116, .iadd, 1, 0, []),
  (false, 117, .iload 5, 2, 0, []),
  (false, 119, .ifCond .eq 16, 3, 0, [135]),
  (false, 122, .aload_n 0, 1, 0, []),
  (false, 123, .getfield 37, 3, 9, [9, 3, 5, 624]),
  (false, 126, .bipush 20, 2, 0, []),
  (false, 128, .iload 4, 2, 0, []),
  (false, 130, .iadd, 1, 0, []),
  (false, 131, .iaload, 1, 0, []),
  (false, 132, .goto 12, 3, 0, [144]),
  (false, 135, .aload_n 0, 1, 0, []),
  (false, 136, .getfield 37, 3, 9, [9, 3, 5, 624]),
  (false, 139, .bipush 20, 2, 0, []),
  (false, 141, .iload_n 3, 1, 0, []),
  (false, 142, .iadd, 1, 0, []),
  (false, 143, .iaload, 1, 0, []),
  (false, 144, .iastore, 1, 0, []),
  (false, 145, .iinc 4 (-1), 3, 0, []),
  (false, 148, .goto (-126), 3, 0, [22]),
  (false, 151, .iinc 3 1, 3, 0, []),
  (false, 154, .goto (-152), 3, 0, [2]),
  (false, 157, .return_, 1, 0, [])]
def cd_M_turn : List CI := [(false, 0, .aload_n 0, 1, 0, []),
  (false, 1, .iconst 0, 1, 0, []),
  (false, 2, .putfield 1, 3, 0, [0, 0, 5, 615]),
  (false, 5, .iload_n 1, 1, 0, []),
  (false, 6, .invokestatic 135, 3, 0, [76, 1, 0, 0, 0, 721, 722, 0, 723, 74, 5]),
  (false, 9, .ifCond .eq 20, 3, 0, [29]),
  (false, 12, .iload_n 2, 1, 0, []),
  (false, 13, .invokestatic 135, 3, 0, [76, 1, 0, 0, 0, 721, 722, 0, 723, 74, 5]),
  (false, 16, .ifCond .eq 13, 3, 0, [29]),
  (false, 19, .iload_n 3, 1, 0, []),
  (false, 20, .i2l, 1, 0, []),
  (false, 21, .lconst 0, 1, 0, []),
  (false, 22, .lconst 1, 1, 1, []),
  (false, 23, .invokestatic 84, 3, 0, [67, 3, 0, 0, 0, 608, 609, 0, 610, 74, 5]),
  (false, 26, .ifCond .ne 6, 3, 0, [32]),
  (false, 29, .ldc 103, 2, (-1000001), [698]),
  (false, 31, .ireturn, 1, 0, []),
  (false, 32, .aload_n 0, 1, 0, []),
  (false, 33, .iload_n 2, 1, 0, []),
  (false, 34, .iload_n 3, 1, 0, []),
  (false, 35, .ifCond .ne 7, 3, 0, [42]),
  (false, 38, .iconst 1, 1, 0, []),
  (false, 39, .goto 4, 3, 0, [43]),
  (false, 42, .iconst 0, 1, 0, []),
  (false, 43, .invokevirtual 157, 3, 0, [92, 3, 0, 0, 0, 776, 778, 44, 779, 74, 5]),
  (false, 46, .istore 4, 2, 0, []),
  (false, 48, .iload 4, 2, 0, []),
  (false, 50, .ifCond .le 10, 3, 0, [60]),
  (false, 53, .aload_n 0, 1, 0, []),
  (false, 54, .iload 4, 2, 0, []),
  (false, 56, .invokevirtual 104, 3, 0, [68, 2, 0, 0, 0, 699, 701, 33, 702, 74, 5]),
  (false, 59, .ireturn, 1, 0, []),
  (false, 60, .aload_n 0, 1, 0, []),
  (false, 61, .getfield 31, 3, 7, [7, 3, 5, 622]),
  (false, 64, .iload_n 2, 1, 0, []),
  (false, 65, .iaload, 1, 0, []),
  (false, 66, .istore 5, 2, 0, []),
  (false, 68, .aload_n 0, 1, 0, []),
  (false, 69, .iload_n 2, 1, 0, []),
  (false, 70, .iconst 0, 1, 0, []),
  (false, 71, .invokevirtual 160, 3, 0, [77, 3, 3, 0, 0, 783, 785, 45, 786, 74, 5]),
  (false, 74, .iload_n 3, 1, 0, []),
  (false, 75, .ifCond .ne 13, 3, 0, [88]),
  (false, 78, .aload_n 0, 1, 0, []),
  (false, 79, .iconst 0, 1, 0, []),
  (false, 80, .iload 5, 2, 0, []),
  (false, 82, .invokevirtual 171, 3, 0, [96, 3, 3, 0, 0, 799, 801, 48, 802, 74, 5]),
  (false, 85, .goto 46, 3, 0, [131]),
  (false, 88, .iconst 0, 1, 0, []),
  (false, 89, .istore 6, 2, 0, []),
  (true, 91, .iload 6, 2, 0, []),
  (false, 93, .iload 5, 2, 0, []),
  (false, 95, .if_icmp .ge 36, 3, 0, [131]),
  (false, 98, .aload_n 0, 1, 0, []),
  (false, 99, .getfield 37, 3, 9, [9, 3, 5, 624]),
  (false, 102, .bipush 20, 2, 0, []),
  (false, 104, .iload 6, 2, 0, []),
  (false, 106, .iload 5, 2, 0, []),
  (false, 108, .iadd, 1, 0, []),
  (false, 109, .iconst 1, 1, 0, []),
  (false, 110, .isub, 1, 0, []),
  (false, 111, .iload 5, 2, 0, []),
  (false, 113, .irem, 1, 0, []),
  (false, 114, .iadd, 1, 0, []),
  (false, 115, .aload_n 0, 1, 0, []),
  (false, 116, .getfield 37, 3, 9, [9, 3, 5, 624]),
  (false, 119, .iconst 0, 1, 0, []),
  (false, 120, .iload 6, 2, 0, []),
  (false, 122, .iadd, 1, 0, []),
  (false, 123, .iaload, 1, 0, []),
  (false, 124, .iastore, 1, 0, []),
  (false, 125, .iinc 6 1, 3, 0, []),
  (false, 128, .goto (-37), 3, 0, [91]),
  (false, 131, .aload_n 0, 1, 0, []),
  (false, 132, .iload_n 1, 1, 0, []),
  (false, 133, .bipush 20, 2, 0, []),
  (false, 135, .iload 5, 2, 0, []),
  (false, 137, .invokevirtual 140, 3, 0, [85, 4, 0, 0, 0, 726, 728, 34, 729, 74, 5]),
  (false, 140, .ireturn, 1, 0, [])]
def cd_M_clear : List CI := [(false, 0, .aload_n 0, 1, 0, []),
  (false, 1, .iconst 0, 1, 0, []),
  (false, 2, .putfield 1, 3, 0, [0, 0, 5, 615]),
  (false, 5, .iload_n 1, 1, 0, []),
  (false, 6, .invokestatic 135, 3, 0, [76, 1, 0, 0, 0, 721, 722, 0, 723, 74, 5]),
  (false, 9, .ifCond .ne 6, 3, 0, [15]),
  (false, 12, .ldc 103, 2, (-1000001), [698]),
  (false, 14, .ireturn, 1, 0, []),
  (false, 15, .aload_n 0, 1, 0, []),
  (false, 16, .getfield 28, 3, 6, [6, 3, 5, 621]),
  (false, 19, .iload_n 1, 1, 0, []),
  (false, 20, .iaload, 1, 0, []),
  (false, 21, .ifCond .ge 7, 3, 0, [28]),
  (false, 24, .iconst 0, 1, 0, []),
  (false, 25, .goto 4, 3, 0, [29]),
  (false, 28, .iconst 1, 1, 0, []),
  (false, 29, .istore_n 2, 1, 0, []),
  (false, 30, .aload_n 0, 1, 0, []),
  (false, 31, .getfield 28, 3, 6, [6, 3, 5, 621]),
  (false, 34, .iload_n 1, 1, 0, []),
  (false, 35, .iconst (-1), 1, 0, []),
  (false, 36, .iastore, 1, 0, []),
  (false, 37, .iload_n 2, 1, 0, []),
  (false, 38, .ireturn, 1, 0, [])]
def cd_M_kind : List CI := [(false, 0, .aload_n 0, 1, 0, []),
  (false, 1, .iconst 0, 1, 0, []),
  (false, 2, .putfield 1, 3, 0, [0, 0, 5, 615]),
  (false, 5, .iload_n 1, 1, 0, []),
  (false, 6, .invokestatic 135, 3, 0, [76, 1, 0, 0, 0, 721, 722, 0, 723, 74, 5]),
  (false, 9, .ifCond .ne 6, 3, 0, [15]),
  (false, 12, .ldc 103, 2, (-1000001), [698]),
  (false, 14, .ireturn, 1, 0, []),
  (false, 15, .aload_n 0, 1, 0, []),
  (false, 16, .iconst 0, 1, 0, []),
  (false, 17, .putfield 7, 3, 1, [1, 0, 5, 616]),
  (false, 20, .aload_n 0, 1, 0, []),
  (false, 21, .getfield 28, 3, 6, [6, 3, 5, 621]),
  (false, 24, .iload_n 1, 1, 0, []),
  (false, 25, .iaload, 1, 0, []),
  (false, 26, .ifCond .ge 11, 3, 0, [37]),
  (false, 29, .aload_n 0, 1, 0, []),
  (false, 30, .iconst 1, 1, 0, []),
  (false, 31, .invokevirtual 104, 3, 0, [68, 2, 0, 0, 0, 699, 701, 33, 702, 74, 5]),
  (false, 34, .goto 9, 3, 0, [43]),
  (false, 37, .aload_n 0, 1, 0, []),
  (false, 38, .getfield 28, 3, 6, [6, 3, 5, 621]),
  (false, 41, .iload_n 1, 1, 0, []),
  (false, 42, .iaload, 1, 0, []),
  (false, 43, .ireturn, 1, 0, [])]
def cd_M_is : List CI := [(false, 0, .aload_n 0, 1, 0, []),
  (false, 1, .iconst 0, 1, 0, []),
  (false, 2, .putfield 1, 3, 0, [0, 0, 5, 615]),
  (false, 5, .iload_n 1, 1, 0, []),
  (false, 6, .invokestatic 135, 3, 0, [76, 1, 0, 0, 0, 721, 722, 0, 723, 74, 5]),
  (false, 9, .ifCond .eq 15, 3, 0, [24]),
  (false, 12, .iload_n 2, 1, 0, []),
  (false, 13, .i2l, 1, 0, []),
  (false, 14, .lconst 0, 1, 0, []),
  (false, 15, .ldc2_w 174, 3, 4, [815]),
  (false, 18, .invokestatic 84, 3, 0, [67, 3, 0, 0, 0, 608, 609, 0, 610, 74, 5]),
  (false, 21, .ifCond .ne 8, 3, 0, [29]),
  (false, 24, .ldc 103, 2, (-1000001), [698]),
  (false, 26, .goto 21, 3, 0, [47]),
  (false, 29, .aload_n 0, 1, 0, []),
  (false, 30, .getfield 28, 3, 6, [6, 3, 5, 621]),
  (false, 33, .iload_n 1, 1, 0, []),
  (false, 34, .iaload, 1, 0, []),
  (false, 35, .iload_n 2, 1, 0, []),
  (false, 36, .invokestatic 154, 3, 0, [91, 2, 0, 0, 0, 780, 781, 0, 782, 74, 5]),
  (false, 39, .ifCond .eq 7, 3, 0, [46]),
  (false, 42, .iconst 1, 1, 0, []),
  (false, 43, .goto 4, 3, 0, [47]),
  (false, 46, .iconst 0, 1, 0, []),
  (false, 47, .ireturn, 1, 0, [])]
def cd_M_blocksAt : List CI := [(false, 0, .aload_n 0, 1, 0, []),
  (false, 1, .iload_n 1, 1, 0, []),
  (false, 2, .iconst 0, 1, 0, []),
  (false, 3, .invokevirtual 160, 3, 0, [77, 3, 3, 0, 0, 783, 785, 45, 786, 74, 5]),
  (false, 6, .aload_n 0, 1, 0, []),
  (false, 7, .iconst 0, 1, 0, []),
  (false, 8, .aload_n 0, 1, 0, []),
  (false, 9, .getfield 31, 3, 7, [7, 3, 5, 622]),
  (false, 12, .iload_n 1, 1, 0, []),
  (false, 13, .iaload, 1, 0, []),
  (false, 14, .invokevirtual 176, 3, 0, [81, 3, 0, 0, 0, 824, 826, 50, 827, 74, 5]),
  (false, 17, .ireturn, 1, 0, [])]
def cd_M_as : List CI := [(false, 0, .aload_n 0, 1, 0, []),
  (false, 1, .iconst 0, 1, 0, []),
  (false, 2, .putfield 1, 3, 0, [0, 0, 5, 615]),
  (false, 5, .iload_n 1, 1, 0, []),
  (false, 6, .invokestatic 135, 3, 0, [76, 1, 0, 0, 0, 721, 722, 0, 723, 74, 5]),
  (false, 9, .ifCond .eq 15, 3, 0, [24]),
  (false, 12, .iload_n 2, 1, 0, []),
  (false, 13, .i2l, 1, 0, []),
  (false, 14, .lconst 0, 1, 0, []),
  (false, 15, .ldc2_w 174, 3, 4, [815]),
  (false, 18, .invokestatic 84, 3, 0, [67, 3, 0, 0, 0, 608, 609, 0, 610, 74, 5]),
  (false, 21, .ifCond .ne 6, 3, 0, [27]),
  (false, 24, .ldc 103, 2, (-1000001), [698]),
  (false, 26, .ireturn, 1, 0, []),
  (false, 27, .aload_n 0, 1, 0, []),
  (false, 28, .iconst 0, 1, 0, []),
  (false, 29, .putfield 7, 3, 1, [1, 0, 5, 616]),
  (false, 32, .aload_n 0, 1, 0, []),
  (false, 33, .iload_n 1, 1, 0, []),
  (false, 34, .iload_n 2, 1, 0, []),
  (false, 35, .invokevirtual 157, 3, 0, [92, 3, 0, 0, 0, 776, 778, 44, 779, 74, 5]),
  (false, 38, .istore_n 3, 1, 0, []),
  (false, 39, .iload_n 3, 1, 0, []),
  (false, 40, .ifCond .le 11, 3, 0, [51]),
  (false, 43, .aload_n 0, 1, 0, []),
  (false, 44, .iload_n 3, 1, 0, []),
  (false, 45, .invokevirtual 104, 3, 0, [68, 2, 0, 0, 0, 699, 701, 33, 702, 74, 5]),
  (false, 48, .goto 8, 3, 0, [56]),
  (false, 51, .aload_n 0, 1, 0, []),
  (false, 52, .iload_n 1, 1, 0, []),
  (false, 53, .invokevirtual 179, 3, 0, [101, 2, 0, 0, 0, 820, 822, 49, 823, 74, 5]),
  (false, 56, .ireturn, 1, 0, [])]
def cd_M_began : List CI := [(false, 0, .aload_n 0, 1, 0, []),
  (false, 1, .getfield 182, 3, 12, [12, 0, 5, 627]),
  (false, 4, .bipush 16, 2, 0, []),
  (false, 6, .if_icmp .ge 23, 3, 0, [29]),
  (false, 9, .aload_n 0, 1, 0, []),
  (false, 10, .getfield 43, 3, 11, [11, 3, 5, 626]),
  (false, 13, .aload_n 0, 1, 0, []),
  (false, 14, .getfield 182, 3, 12, [12, 0, 5, 627]),
  (false, 17, .iload_n 1, 1, 0, []),
  (false, 18, .iastore, 1, 0, []),
  (false, 19, .aload_n 0, 1, 0, []),
  (false, 20, .dup, 1, 0, []),
  (false, 21, .getfield 182, 3, 12, [12, 0, 5, 627]),
  (false, 24, .iconst 1, 1, 0, []),
  (false, 25, .iadd, 1, 0, []),
  (false, 26, .putfield 182, 3, 12, [12, 0, 5, 627]),
  (false, 29, .return_, 1, 0, [])]
def cd_M_plainMark : List CI := [(false, 0, .aload_n 0, 1, 0, []),
  (false, 1, .getfield 28, 3, 6, [6, 3, 5, 621]),
  (false, 4, .iload_n 1, 1, 0, []),
  (false, 5, .iaload, 1, 0, []),
  (false, 6, .iconst 1, 1, 0, []),
  (false, 7, .invokestatic 154, 3, 0, [91, 2, 0, 0, 0, 780, 781, 0, 782, 74, 5]),
  (false, 10, .ifCond .eq 9, 3, 0, [19]),
  (false, 13, .aload_n 0, 1, 0, []),
  (false, 14, .bipush 21, 2, 0, []),
  (false, 16, .invokevirtual 185, 3, 0, [103, 2, 3, 0, 0, 836, 838, 52, 839, 74, 5]),
  (false, 19, .aload_n 0, 1, 0, []),
  (false, 20, .bipush 20, 2, 0, []),
  (false, 22, .invokevirtual 185, 3, 0, [103, 2, 3, 0, 0, 836, 838, 52, 839, 74, 5]),
  (false, 25, .aload_n 0, 1, 0, []),
  (false, 26, .iload_n 1, 1, 0, []),
  (false, 27, .invokevirtual 179, 3, 0, [101, 2, 0, 0, 0, 820, 822, 49, 823, 74, 5]),
  (false, 30, .aload_n 0, 1, 0, []),
  (false, 31, .getfield 28, 3, 6, [6, 3, 5, 621]),
  (false, 34, .iload_n 1, 1, 0, []),
  (false, 35, .iaload, 1, 0, []),
  (false, 36, .iconst 1, 1, 0, []),
  (false, 37, .invokestatic 154, 3, 0, [91, 2, 0, 0, 0, 780, 781, 0, 782, 74, 5]),
  (false, 40, .ifCond .eq 8, 3, 0, [48]),
  (false, 43, .bipush 100, 2, 0, []),
  (false, 45, .goto 4, 3, 0, [49]),
  (false, 48, .iconst 0, 1, 0, []),
  (false, 49, .iadd, 1, 0, []),
  (false, 50, .ireturn, 1, 0, [])]
def cd_M_sized : List CI := [(false, 0, .aload_n 0, 1, 0, []),
  (false, 1, .getfield 28, 3, 6, [6, 3, 5, 621]),
  (false, 4, .iload_n 1, 1, 0, []),
  (false, 5, .iaload, 1, 0, []),
  (false, 6, .istore_n 2, 1, 0, []),
  (false, 7, .iload_n 2, 1, 0, []),
  (false, 8, .iconst 2, 1, 0, []),
  (false, 9, .if_icmp .ne 12, 3, 0, [21]),
  (false, 12, .aload_n 0, 1, 0, []),
  (false, 13, .bipush 12, 2, 0, []),
  (false, 15, .invokevirtual 185, 3, 0, [103, 2, 3, 0, 0, 836, 838, 52, 839, 74, 5]),
  (false, 18, .goto 28, 3, 0, [46]),
  (false, 21, .iload_n 2, 1, 0, []),
  (false, 22, .iconst 3, 1, 0, []),
  (false, 23, .if_icmp .ne 12, 3, 0, [35]),
  (false, 26, .aload_n 0, 1, 0, []),
  (false, 27, .bipush 13, 2, 0, []),
  (false, 29, .invokevirtual 185, 3, 0, [103, 2, 3, 0, 0, 836, 838, 52, 839, 74, 5]),
  (false, 32, .goto 14, 3, 0, [46]),
  (false, 35, .iload_n 2, 1, 0, []),
  (false, 36, .iconst 4, 1, 0, []),
  (false, 37, .if_icmp .ne 9, 3, 0, [46]),
  (false, 40, .aload_n 0, 1, 0, []),
  (false, 41, .bipush 14, 2, 0, []),
  (false, 43, .invokevirtual 185, 3, 0, [103, 2, 3, 0, 0, 836, 838, 52, 839, 74, 5]),
  (false, 46, .iload_n 2, 1, 0, []),
  (false, 47, .iconst 1, 1, 0, []),
  (false, 48, .invokestatic 154, 3, 0, [91, 2, 0, 0, 0, 780, 781, 0, 782, 74, 5]),
  (false, 51, .ifCond .eq 9, 3, 0, [60]),
  (false, 54, .aload_n 0, 1, 0, []),
  (false, 55, .bipush 11, 2, 0, []),
  (false, 57, .invokevirtual 185, 3, 0, [103, 2, 3, 0, 0, 836, 838, 52, 839, 74, 5]),
  (false, 60, .aload_n 0, 1, 0, []),
  (false, 61, .bipush 10, 2, 0, []),
  (false, 63, .invokevirtual 185, 3, 0, [103, 2, 3, 0, 0, 836, 838, 52, 839, 74, 5]),
  (false, 66, .aload_n 0, 1, 0, []),
  (false, 67, .getfield 31, 3, 7, [7, 3, 5, 622]),
  (false, 70, .iload_n 1, 1, 0, []),
  (false, 71, .iaload, 1, 0, []),
  (false, 72, .iload_n 2, 1, 0, []),
  (false, 73, .iconst 1, 1, 0, []),
  (false, 74, .invokestatic 154, 3, 0, [91, 2, 0, 0, 0, 780, 781, 0, 782, 74, 5]),
  (false, 77, .ifCond .eq 11, 3, 0, [88]),
  (false, 80, .aload_n 0, 1, 0, []),
  (false, 81, .iload_n 1, 1, 0, []),
  (false, 82, .invokevirtual 179, 3, 0, [101, 2, 0, 0, 0, 820, 822, 49, 823, 74, 5]),
  (false, 85, .goto 4, 3, 0, [89]),
  (false, 88, .iconst 0, 1, 0, []),
  (false, 89, .iadd, 1, 0, []),
  (false, 90, .istore_n 3, 1, 0, []),
  (false, 91, .iload_n 2, 1, 0, []),
  (false, 92, .iconst 2, 1, 0, []),
  (false, 93, .if_icmp .ne 9, 3, 0, [102]),
  (false, 96, .iconst 2, 1, 0, []),
  (false, 97, .iload_n 3, 1, 0, []),
  (false, 98, .imul, 1, 0, []),
  (false, 99, .goto 34, 3, 0, [133]),
  (false, 102, .iload_n 2, 1, 0, []),
  (false, 103, .iconst 3, 1, 0, []),
  (false, 104, .if_icmp .ne 13, 3, 0, [117]),
  (false, 107, .iload_n 3, 1, 0, []),
  (false, 108, .aload_n 0, 1, 0, []),
  (false, 109, .iload_n 1, 1, 0, []),
  (false, 110, .invokevirtual 189, 3, 0, [104, 2, 0, 0, 0, 840, 842, 53, 843, 74, 5]),
  (false, 113, .iadd, 1, 0, []),
  (false, 114, .goto 19, 3, 0, [133]),
  (false, 117, .iload_n 2, 1, 0, []),
  (false, 118, .iconst 4, 1, 0, []),
  (false, 119, .if_icmp .ne 13, 3, 0, [132]),
  (false, 122, .iload_n 3, 1, 0, []),
  (false, 123, .aload_n 0, 1, 0, []),
  (false, 124, .iload_n 1, 1, 0, []),
  (false, 125, .invokevirtual 192, 3, 0, [116, 2, 0, 0, 0, 844, 846, 54, 847, 74, 5]),
  (false, 128, .imul, 1, 0, []),
  (false, 129, .goto 4, 3, 0, [133]),
  (false, 132, .iload_n 3, 1, 0, []),
  (false, 133, .ireturn, 1, 0, [])]
def cd_M_marked : List CI := [(false, 0, .aload_n 0, 1, 0, []),
  (false, 1, .getfield 28, 3, 6, [6, 3, 5, 621]),
  (false, 4, .iload_n 1, 1, 0, []),
  (false, 5, .iaload, 1, 0, []),
  (false, 6, .iconst 4, 1, 0, []),
  (false, 7, .if_icmp .eq 9, 3, 0, [16]),
  (false, 10, .aload_n 0, 1, 0, []),
  (false, 11, .iload_n 1, 1, 0, []),
  (false, 12, .invokevirtual 189, 3, 0, [104, 2, 0, 0, 0, 840, 842, 53, 843, 74, 5]),
  (false, 15, .ireturn, 1, 0, []),
  (false, 16, .aload_n 0, 1, 0, []),
  (false, 17, .bipush 22, 2, 0, []),
  (false, 19, .invokevirtual 185, 3, 0, [103, 2, 3, 0, 0, 836, 838, 52, 839, 74, 5]),
  (false, 22, .aload_n 0, 1, 0, []),
  (false, 23, .bipush 20, 2, 0, []),
  (false, 25, .invokevirtual 185, 3, 0, [103, 2, 3, 0, 0, 836, 838, 52, 839, 74, 5]),
  (false, 28, .aload_n 0, 1, 0, []),
  (false, 29, .iload_n 1, 1, 0, []),
  (false, 30, .invokevirtual 179, 3, 0, [101, 2, 0, 0, 0, 820, 822, 49, 823, 74, 5]),
  (false, 33, .aload_n 0, 1, 0, []),
  (false, 34, .iload_n 1, 1, 0, []),
  (false, 35, .invokevirtual 195, 3, 0, [105, 2, 0, 0, 0, 832, 834, 51, 835, 74, 5]),
  (false, 38, .iadd, 1, 0, []),
  (false, 39, .ireturn, 1, 0, [])]
def cd_M_ask : List CI := [(false, 0, .aload_n 0, 1, 0, []),
  (false, 1, .iconst 0, 1, 0, []),
  (false, 2, .putfield 1, 3, 0, [0, 0, 5, 615]),
  (false, 5, .iload_n 1, 1, 0, []),
  (false, 6, .invokestatic 135, 3, 0, [76, 1, 0, 0, 0, 721, 722, 0, 723, 74, 5]),
  (false, 9, .ifCond .eq 13, 3, 0, [22]),
  (false, 12, .iload_n 2, 1, 0, []),
  (false, 13, .i2l, 1, 0, []),
  (false, 14, .lconst 0, 1, 0, []),
  (false, 15, .lconst 1, 1, 1, []),
  (false, 16, .invokestatic 84, 3, 0, [67, 3, 0, 0, 0, 608, 609, 0, 610, 74, 5]),
  (false, 19, .ifCond .ne 6, 3, 0, [25]),
  (false, 22, .ldc 103, 2, (-1000001), [698]),
  (false, 24, .ireturn, 1, 0, []),
  (false, 25, .aload_n 0, 1, 0, []),
  (false, 26, .iconst 0, 1, 0, []),
  (false, 27, .putfield 182, 3, 12, [12, 0, 5, 627]),
  (false, 30, .aload_n 0, 1, 0, []),
  (false, 31, .iconst 0, 1, 0, []),
  (false, 32, .putfield 7, 3, 1, [1, 0, 5, 616]),
  (false, 35, .aload_n 0, 1, 0, []),
  (false, 36, .getfield 28, 3, 6, [6, 3, 5, 621]),
  (false, 39, .iload_n 1, 1, 0, []),
  (false, 40, .iaload, 1, 0, []),
  (false, 41, .ifCond .ge 11, 3, 0, [52]),
  (false, 44, .aload_n 0, 1, 0, []),
  (false, 45, .iconst 1, 1, 0, []),
  (false, 46, .invokevirtual 104, 3, 0, [68, 2, 0, 0, 0, 699, 701, 33, 702, 74, 5]),
  (false, 49, .goto 20, 3, 0, [69]),
  (false, 52, .iload_n 2, 1, 0, []),
  (false, 53, .ifCond .ne 11, 3, 0, [64]),
  (false, 56, .aload_n 0, 1, 0, []),
  (false, 57, .iload_n 1, 1, 0, []),
  (false, 58, .invokevirtual 195, 3, 0, [105, 2, 0, 0, 0, 832, 834, 51, 835, 74, 5]),
  (false, 61, .goto 8, 3, 0, [69]),
  (false, 64, .aload_n 0, 1, 0, []),
  (false, 65, .iload_n 1, 1, 0, []),
  (false, 66, .invokevirtual 198, 3, 0, [106, 2, 0, 0, 0, 852, 854, 56, 855, 74, 5]),
  (false, 69, .ireturn, 1, 0, [])]
def cd_M_trace : List CI := [(false, 0, .aload_n 0, 1, 0, []),
  (false, 1, .iconst 0, 1, 0, []),
  (false, 2, .putfield 1, 3, 0, [0, 0, 5, 615]),
  (false, 5, .iload_n 1, 1, 0, []),
  (false, 6, .i2l, 1, 0, []),
  (false, 7, .lconst 0, 1, 0, []),
  (false, 8, .aload_n 0, 1, 0, []),
  (false, 9, .getfield 182, 3, 12, [12, 0, 5, 627]),
  (false, 12, .iconst 1, 1, 0, []),
  (false, 13, .isub, 1, 0, []),
  (false, 14, .i2l, 1, 0, []),
  (false, 15, .invokestatic 84, 3, 0, [67, 3, 0, 0, 0, 608, 609, 0, 610, 74, 5]),
  (false, 18, .ifCond .eq 12, 3, 0, [30]),
  (false, 21, .aload_n 0, 1, 0, []),
  (false, 22, .getfield 43, 3, 11, [11, 3, 5, 626]),
  (false, 25, .iload_n 1, 1, 0, []),
  (false, 26, .iaload, 1, 0, []),
  (false, 27, .goto 5, 3, 0, [32]),
  (false, 30, .ldc 112, 2, (-1000000), [734]),
  (false, 32, .ireturn, 1, 0, [])]
def cd_M_block : List CI := [(false, 0, .aload_n 0, 1, 0, []),
  (false, 1, .iconst 0, 1, 0, []),
  (false, 2, .putfield 1, 3, 0, [0, 0, 5, 615]),
  (false, 5, .iload_n 1, 1, 0, []),
  (false, 6, .invokestatic 135, 3, 0, [76, 1, 0, 0, 0, 721, 722, 0, 723, 74, 5]),
  (false, 9, .ifCond .ne 6, 3, 0, [15]),
  (false, 12, .ldc 103, 2, (-1000001), [698]),
  (false, 14, .ireturn, 1, 0, []),
  (false, 15, .aload_n 0, 1, 0, []),
  (false, 16, .getfield 28, 3, 6, [6, 3, 5, 621]),
  (false, 19, .iload_n 1, 1, 0, []),
  (false, 20, .iaload, 1, 0, []),
  (false, 21, .ifCond .ge 9, 3, 0, [30]),
  (false, 24, .aload_n 0, 1, 0, []),
  (false, 25, .iconst 1, 1, 0, []),
  (false, 26, .invokevirtual 104, 3, 0, [68, 2, 0, 0, 0, 699, 701, 33, 702, 74, 5]),
  (false, 29, .ireturn, 1, 0, []),
  (false, 30, .iload_n 2, 1, 0, []),
  (false, 31, .i2l, 1, 0, []),
  (false, 32, .lconst 0, 1, 0, []),
  (false, 33, .aload_n 0, 1, 0, []),
  (false, 34, .getfield 31, 3, 7, [7, 3, 5, 622]),
  (false, 37, .iload_n 1, 1, 0, []),
  (false, 38, .iaload, 1, 0, []),
  (false, 39, .iconst 1, 1, 0, []),
  (false, 40, .isub, 1, 0, []),
  (false, 41, .i2l, 1, 0, []),
  (false, 42, .invokestatic 84, 3, 0, [67, 3, 0, 0, 0, 608, 609, 0, 610, 74, 5]),
  (false, 45, .ifCond .ne 6, 3, 0, [51]),
  (false, 48, .ldc 103, 2, (-1000001), [698]),
  (false, 50, .ireturn, 1, 0, []),
  (false, 51, .aload_n 0, 1, 0, []),
  (false, 52, .iconst 0, 1, 0, []),
  (false, 53, .putfield 7, 3, 1, [1, 0, 5, 616]),
  (false, 56, .aload_n 0, 1, 0, []),
  (false, 57, .getfield 34, 3, 8, [8, 3, 5, 623]),
  (false, 60, .bipush 10, 2, 0, []),
  (false, 62, .iload_n 1, 1, 0, []),
  (false, 63, .imul, 1, 0, []),
  (false, 64, .iload_n 2, 1, 0, []),
  (false, 65, .iadd, 1, 0, []),
  (false, 66, .iaload, 1, 0, []),
  (false, 67, .ireturn, 1, 0, [])]
def cd_M_isFiner : List CI := [(false, 0, .iconst 0, 1, 0, []),
  (false, 1, .istore 4, 2, 0, []),
  (true, 3, .iload 4, 2, 0, []),
  (false, 5, .iload_n 3, 1, 0, []),
  (false, 6, .if_icmp .ge 71, 3, 0, [77]),
  (false, 9, .iload 4, 2, 0, []),
  (false, 11, .iconst 1, 1, 0, []),
  (false, 12, .iadd, 1, 0, []),
  (false, 13, .istore 5, 2, 0, []),
  (true, 15, .iload 5, 2, 0, []),
  (false, 17, .iload_n 3, 1, 0, []),
  (false, 18, .if_icmp .ge 53, 3, 0, [71]),
  (false, 21, .aload_n 0, 1, 0, []),
  (false, 22, .getfield 37, 3, 9, [9, 3, 5, 624]),
  (false, 25, .iload_n 1, 1, 0, []),
  (false, 26, .iload 4, 2, 0, []),
  (false, 28, .iadd, 1, 0, []),
  (false, 29, .iaload, 1, 0, []),
  (false, 30, .aload_n 0, 1, 0, []),
  (false, 31, .getfield 37, 3, 9, [9, 3, 5, 624]),
  (false, 34, .iload_n 1, 1, 0, []),
  (false, 35, .iload 5, 2, 0, []),
  (false, 37, .iadd, 1, 0, []),
  (false, 38, .iaload, 1, 0, []),
  (false, 39, .if_icmp .ne 26, 3, 0, [65]),
  (false, 42, .aload_n 0, 1, 0, []),
  (false, 43, .getfield 37, 3, 9, [9, 3, 5, 624]),
  (false, 46, .iload_n 2, 1, 0, []),
  (false, 47, .iload 4, 2, 0, []),
  (false, 49, .iadd, 1, 0, []),
  (false, 50, .iaload, 1, 0, []),
  (false, 51, .aload_n 0, 1, 0, []),
  (false, 52, .getfield 37, 3, 9, [9, 3, 5, 624]),
  (false, 55, .iload_n 2, 1, 0, []),
  (false, 56, .iload 5, 2, 0, []),
  (false, 58, .iadd, 1, 0, []),
  (false, 59, .iaload, 1, 0, []),
  (false, 60, .if_icmp .eq 5, 3, 0, [65]),
  (false, 63, .iconst 0, 1, 0, []),
  (false, 64, .ireturn, 1, 0, []),
  (false, 65, .iinc 5 1, 3, 0, []),
  (false, 68, .goto (-53), 3, 0, [15]),
  (false, 71, .iinc 4 1, 3, 0, []),
  (false, 74, .goto (-71), 3, 0, [3]),
  (false, 77, .iconst 1, 1, 0, []),
  (false, 78, .ireturn, 1, 0, [])]
def cd_M_product : List CI := [(false, 0, .iconst 1, 1, 0, []),
  (false, 1, .istore 4, 2, 0, []),
  (false, 3, .iconst 0, 1, 0, []),
  (false, 4, .istore 5, 2, 0, []),
  (true, 6, .iload 5, 2, 0, []),
  (false, 8, .aload_n 0, 1, 0, []),
  (false, 9, .iload_n 1, 1, 0, []),
  (false, 10, .iload_n 2, 1, 0, []),
  (false, 11, .invokevirtual 176, 3, 0, [81, 3, 0, 0, 0, 824, 826, 50, 827, 74, 5]),
  (false, 14, .if_icmp .ge 69, 3, 0, [83]),
  (false, 17, .aload_n 0, 1, 0, []),
  (false, 18, .iload_n 1, 1, 0, []),
  (false, 19, .iload_n 2, 1, 0, []),
  (false, 20, .iload 5, 2, 0, []),
  (false, 22, .invokevirtual 117, 3, 0, [82, 4, 0, 0, 0, 751, 753, 40, 754, 74, 5]),
  (false, 25, .istore 6, 2, 0, []),
  (false, 27, .iload 4, 2, 0, []),
  (false, 29, .iload_n 3, 1, 0, []),
  (false, 30, .iconst 1, 1, 0, []),
  (false, 31, .if_icmp .ne 13, 3, 0, [44]),
  (false, 34, .aload_n 0, 1, 0, []),
  (false, 35, .getfield 46, 3, 13, [13, 3, 5, 628]),
  (false, 38, .iload 6, 2, 0, []),
  (false, 40, .iaload, 1, 0, []),
  (false, 41, .goto 33, 3, 0, [74]),
  (false, 44, .iload 6, 2, 0, []),
  (false, 46, .iconst 2, 1, 0, []),
  (false, 47, .irem, 1, 0, []),
  (false, 48, .iconst 1, 1, 0, []),
  (false, 49, .if_icmp .ne 15, 3, 0, [64]),
  (false, 52, .aload_n 0, 1, 0, []),
  (false, 53, .getfield 46, 3, 13, [13, 3, 5, 628]),
  (false, 56, .iload 6, 2, 0, []),
  (false, 58, .iconst 1, 1, 0, []),
  (false, 59, .isub, 1, 0, []),
  (false, 60, .iaload, 1, 0, []),
  (false, 61, .goto 13, 3, 0, [74]),
  (false, 64, .aload_n 0, 1, 0, []),
  (false, 65, .getfield 46, 3, 13, [13, 3, 5, 628]),
  (false, 68, .iload 6, 2, 0, []),
  (false, 70, .iconst 1, 1, 0, []),
  (false, 71, .isub, 1, 0, []),
  (false, 72, .iaload, 1, 0, []),
  (false, 73, .ineg, 1, 0, []),
  (false, 74, .imul, 1, 0, []),
  (false, 75, .istore 4, 2, 0, []),
  (false, 77, .iinc 5 1, 3, 0, []),
  (false, 80, .goto (-74), 3, 0, [6]),
  (false, 83, .iload 4, 2, 0, []),
  (false, 85, .ireturn, 1, 0, [])]
def cd_M_told : List CI := [(false, 0, .aload_n 0, 1, 0, []),
  (false, 1, .iconst 0, 1, 0, []),
  (false, 2, .putfield 1, 3, 0, [0, 0, 5, 615]),
  (false, 5, .iload_n 1, 1, 0, []),
  (false, 6, .invokestatic 135, 3, 0, [76, 1, 0, 0, 0, 721, 722, 0, 723, 74, 5]),
  (false, 9, .ifCond .eq 15, 3, 0, [24]),
  (false, 12, .iload_n 2, 1, 0, []),
  (false, 13, .i2l, 1, 0, []),
  (false, 14, .lconst 0, 1, 0, []),
  (false, 15, .ldc2_w 201, 3, 3, [868]),
  (false, 18, .invokestatic 84, 3, 0, [67, 3, 0, 0, 0, 608, 609, 0, 610, 74, 5]),
  (false, 21, .ifCond .ne 6, 3, 0, [27]),
  (false, 24, .ldc 103, 2, (-1000001), [698]),
  (false, 26, .ireturn, 1, 0, []),
  (false, 27, .aload_n 0, 1, 0, []),
  (false, 28, .iload_n 1, 1, 0, []),
  (false, 29, .iconst 1, 1, 0, []),
  (false, 30, .invokevirtual 157, 3, 0, [92, 3, 0, 0, 0, 776, 778, 44, 779, 74, 5]),
  (false, 33, .istore_n 3, 1, 0, []),
  (false, 34, .iload_n 3, 1, 0, []),
  (false, 35, .ifCond .le 9, 3, 0, [44]),
  (false, 38, .aload_n 0, 1, 0, []),
  (false, 39, .iload_n 3, 1, 0, []),
  (false, 40, .invokevirtual 104, 3, 0, [68, 2, 0, 0, 0, 699, 701, 33, 702, 74, 5]),
  (false, 43, .ireturn, 1, 0, []),
  (false, 44, .aload_n 0, 1, 0, []),
  (false, 45, .iconst 0, 1, 0, []),
  (false, 46, .putfield 7, 3, 1, [1, 0, 5, 616]),
  (false, 49, .aload_n 0, 1, 0, []),
  (false, 50, .getfield 31, 3, 7, [7, 3, 5, 622]),
  (false, 53, .iload_n 1, 1, 0, []),
  (false, 54, .iaload, 1, 0, []),
  (false, 55, .istore 4, 2, 0, []),
  (false, 57, .aload_n 0, 1, 0, []),
  (false, 58, .iload_n 1, 1, 0, []),
  (false, 59, .iconst 0, 1, 0, []),
  (false, 60, .invokevirtual 160, 3, 0, [77, 3, 3, 0, 0, 783, 785, 45, 786, 74, 5]),
  (false, 63, .iload_n 2, 1, 0, []),
  (false, 64, .iconst 1, 1, 0, []),
  (false, 65, .if_icmp .eq 8, 3, 0, [73]),
  (false, 68, .iload_n 2, 1, 0, []),
  (false, 69, .iconst 2, 1, 0, []),
  (false, 70, .if_icmp .ne 14, 3, 0, [84]),
  (false, 73, .aload_n 0, 1, 0, []),
  (false, 74, .iconst 0, 1, 0, []),
  (false, 75, .iload 4, 2, 0, []),
  (false, 77, .iload_n 2, 1, 0, []),
  (false, 78, .iconst 1, 1, 0, []),
  (false, 79, .isub, 1, 0, []),
  (false, 80, .invokevirtual 203, 3, 0, [111, 4, 0, 0, 0, 869, 871, 57, 872, 74, 5]),
  (false, 83, .ireturn, 1, 0, []),
  (false, 84, .aload_n 0, 1, 0, []),
  (false, 85, .bipush 10, 2, 0, []),
  (false, 87, .iload 4, 2, 0, []),
  (false, 89, .invokevirtual 148, 3, 0, [89, 3, 3, 0, 0, 760, 762, 41, 763, 74, 5]),
  (false, 92, .iconst 0, 1, 0, []),
  (false, 93, .istore 5, 2, 0, []),
  (false, 95, .iconst 0, 1, 0, []),
  (false, 96, .istore 6, 2, 0, []),
  (false, 98, .iconst 0, 1, 0, []),
  (false, 99, .istore 7, 2, 0, []),
  (false, 101, .iconst 1, 1, 0, []),
  (false, 102, .istore 8, 2, 0, []),
  (true, 104, .iload 8, 2, 0, []),
  (false, 106, .ifCond .eq 74, 3, 0, [180]),
  (false, 109, .iload 5, 2, 0, []),
  (false, 111, .aload_n 0, 1, 0, []),
  (false, 112, .iconst 0, 1, 0, []),
  (false, 113, .bipush 10, 2, 0, []),
  (false, 115, .iload 4, 2, 0, []),
  (false, 117, .invokevirtual 206, 3, 0, [110, 4, 0, 0, 0, 873, 875, 58, 876, 74, 5]),
  (false, 120, .ifCond .eq 7, 3, 0, [127]),
  (false, 123, .iconst 1, 1, 0, []),
  (false, 124, .goto 4, 3, 0, [128]),
  (false, 127, .iconst 0, 1, 0, []),
  (false, 128, .iadd, 1, 0, []),
  (false, 129, .istore 5, 2, 0, []),
  (false, 131, .iload 7, 2, 0, []),
  (false, 133, .ifCond .ne 12, 3, 0, [145]),
  (false, 136, .aload_n 0, 1, 0, []),
  (false, 137, .iload 4, 2, 0, []),
  (false, 139, .invokevirtual 209, 3, 0, [113, 2, 0, 0, 0, 877, 879, 59, 880, 74, 5]),
  (false, 142, .ifCond .eq 7, 3, 0, [149]),
  (false, 145, .iconst 1, 1, 0, []),
  (false, 146, .goto 4, 3, 0, [150]),
  (false, 149, .iconst 0, 1, 0, []),
  (false, 150, .istore 7, 2, 0, []),
  (false, 152, .iload 6, 2, 0, []),
  (false, 154, .iload 7, 2, 0, []),
  (false, 156, .ifCond .eq 7, 3, 0, [163]),
  (false, 159, .iconst 0, 1, 0, []),
  (false, 160, .goto 4, 3, 0, [164]),
  (false, 163, .iconst 1, 1, 0, []),
  (false, 164, .iadd, 1, 0, []),
  (false, 165, .istore 6, 2, 0, []),
  (false, 167, .aload_n 0, 1, 0, []),
  (false, 168, .bipush 10, 2, 0, []),
  (false, 170, .iload 4, 2, 0, []),
  (false, 172, .invokevirtual 151, 3, 0, [88, 3, 0, 0, 0, 764, 766, 42, 767, 74, 5]),
  (false, 175, .istore 8, 2, 0, []),
  (false, 177, .goto (-73), 3, 0, [104]),
  (false, 180, .iload_n 2, 1, 0, []),
  (false, 181, .ifCond .ne 8, 3, 0, [189]),
  (false, 184, .iload 6, 2, 0, []),
  (false, 186, .goto 5, 3, 0, [191]),
  (false, 189, .iload 5, 2, 0, []),
  (false, 191, .ireturn, 1, 0, [])]
def cd_M_isSame : List CI := [(false, 0, .iconst 1, 1, 0, []),
  (false, 1, .istore_n 2, 1, 0, []),
  (false, 2, .iconst 0, 1, 0, []),
  (false, 3, .istore_n 3, 1, 0, []),
  (true, 4, .iload_n 3, 1, 0, []),
  (false, 5, .iload_n 1, 1, 0, []),
  (false, 6, .if_icmp .ge 39, 3, 0, [45]),
  (false, 9, .iload_n 2, 1, 0, []),
  (false, 10, .ifCond .eq 27, 3, 0, [37]),
  (false, 13, .aload_n 0, 1, 0, []),
  (false, 14, .getfield 37, 3, 9, [9, 3, 5, 624]),
  (false, 17, .iconst 0, 1, 0, []),
  (false, 18, .iload_n 3, 1, 0, []),
  (false, 19, .iadd, 1, 0, []),
  (false, 20, .iaload, 1, 0, []),
  (false, 21, .aload_n 0, 1, 0, []),
  (false, 22, .getfield 37, 3, 9, [9, 3, 5, 624]),
  (false, 25, .bipush 10, 2, 0, []),
  (false, 27, .iload_n 3, 1, 0, []),
  (false, 28, .iadd, 1, 0, []),
  (false, 29, .iaload, 1, 0, []),
  (false, 30, .if_icmp .ne 7, 3, 0, [37]),
  (false, 33, .iconst 1, 1, 0, []),
  (false, 34, .goto 4, 3, 0, [38]),
  (false, 37, .iconst 0, 1, 0, []),
  (false, 38, .istore_n 2, 1, 0, []),
  (false, 39, .iinc 3 1, 3, 0, []),
  (false, 42, .goto (-38), 3, 0, [4]),
  (false, 45, .iload_n 2, 1, 0, []),
  (false, 46, .ireturn, 1, 0, [])]
def cd_M_finer : List CI := [(false, 0, .aload_n 0, 1, 0, []),
  (false, 1, .iconst 0, 1, 0, []),
  (false, 2, .putfield 1, 3, 0, [0, 0, 5, 615]),
  (false, 5, .iload_n 1, 1, 0, []),
  (false, 6, .invokestatic 135, 3, 0, [76, 1, 0, 0, 0, 721, 722, 0, 723, 74, 5]),
  (false, 9, .ifCond .eq 10, 3, 0, [19]),
  (false, 12, .iload_n 2, 1, 0, []),
  (false, 13, .invokestatic 135, 3, 0, [76, 1, 0, 0, 0, 721, 722, 0, 723, 74, 5]),
  (false, 16, .ifCond .ne 6, 3, 0, [22]),
  (false, 19, .ldc 103, 2, (-1000001), [698]),
  (false, 21, .ireturn, 1, 0, []),
  (false, 22, .aload_n 0, 1, 0, []),
  (false, 23, .getfield 28, 3, 6, [6, 3, 5, 621]),
  (false, 26, .iload_n 1, 1, 0, []),
  (false, 27, .iaload, 1, 0, []),
  (false, 28, .ifCond .lt 12, 3, 0, [40]),
  (false, 31, .aload_n 0, 1, 0, []),
  (false, 32, .getfield 28, 3, 6, [6, 3, 5, 621]),
  (false, 35, .iload_n 2, 1, 0, []),
  (false, 36, .iaload, 1, 0, []),
  (false, 37, .ifCond .ge 9, 3, 0, [46]),
  (false, 40, .aload_n 0, 1, 0, []),
  (false, 41, .iconst 1, 1, 0, []),
  (false, 42, .invokevirtual 104, 3, 0, [68, 2, 0, 0, 0, 699, 701, 33, 702, 74, 5]),
  (false, 45, .ireturn, 1, 0, []),
  (false, 46, .aload_n 0, 1, 0, []),
  (false, 47, .getfield 31, 3, 7, [7, 3, 5, 622]),
  (false, 50, .iload_n 1, 1, 0, []),
  (false, 51, .iaload, 1, 0, []),
  (false, 52, .aload_n 0, 1, 0, []),
  (false, 53, .getfield 31, 3, 7, [7, 3, 5, 622]),
  (false, 56, .iload_n 2, 1, 0, []),
  (false, 57, .iaload, 1, 0, []),
  (false, 58, .if_icmp .eq 6, 3, 0, [64]),
  (false, 61, .ldc 103, 2, (-1000001), [698]),
  (false, 63, .ireturn, 1, 0, []),
  (false, 64, .aload_n 0, 1, 0, []),
  (false, 65, .iconst 0, 1, 0, []),
  (false, 66, .putfield 7, 3, 1, [1, 0, 5, 616]),
  (false, 69, .aload_n 0, 1, 0, []),
  (false, 70, .iload_n 1, 1, 0, []),
  (false, 71, .iconst 0, 1, 0, []),
  (false, 72, .invokevirtual 160, 3, 0, [77, 3, 3, 0, 0, 783, 785, 45, 786, 74, 5]),
  (false, 75, .aload_n 0, 1, 0, []),
  (false, 76, .iload_n 2, 1, 0, []),
  (false, 77, .bipush 10, 2, 0, []),
  (false, 79, .invokevirtual 160, 3, 0, [77, 3, 3, 0, 0, 783, 785, 45, 786, 74, 5]),
  (false, 82, .aload_n 0, 1, 0, []),
  (false, 83, .iconst 0, 1, 0, []),
  (false, 84, .bipush 10, 2, 0, []),
  (false, 86, .aload_n 0, 1, 0, []),
  (false, 87, .getfield 31, 3, 7, [7, 3, 5, 622]),
  (false, 90, .iload_n 1, 1, 0, []),
  (false, 91, .iaload, 1, 0, []),
  (false, 92, .invokevirtual 206, 3, 0, [110, 4, 0, 0, 0, 873, 875, 58, 876, 74, 5]),
  (false, 95, .ifCond .eq 7, 3, 0, [102]),
  (false, 98, .iconst 1, 1, 0, []),
  (false, 99, .goto 4, 3, 0, [103]),
  (false, 102, .iconst 0, 1, 0, []),
  (false, 103, .ireturn, 1, 0, [])]
def cd_M_handlesBy : List CI := [(false, 0, .iconst 0, 1, 0, []),
  (false, 1, .istore_n 3, 1, 0, []),
  (true, 2, .iload_n 3, 1, 0, []),
  (false, 3, .iload_n 2, 1, 0, []),
  (false, 4, .if_icmp .ge 16, 3, 0, [20]),
  (false, 7, .aload_n 0, 1, 0, []),
  (false, 8, .getfield 49, 3, 14, [14, 3, 5, 629]),
  (false, 11, .iload_n 3, 1, 0, []),
  (false, 12, .iconst 0, 1, 0, []),
  (false, 13, .bastore, 1, 0, []),
  (false, 14, .iinc 3 1, 3, 0, []),
  (false, 17, .goto (-15), 3, 0, [2]),
  (false, 20, .iconst 0, 1, 0, []),
  (false, 21, .istore_n 3, 1, 0, []),
  (false, 22, .iconst 0, 1, 0, []),
  (false, 23, .istore 4, 2, 0, []),
  (true, 25, .iload 4, 2, 0, []),
  (false, 27, .iload_n 2, 1, 0, []),
  (false, 28, .if_icmp .ge 116, 3, 0, [144]),
  (false, 31, .iload_n 3, 1, 0, []),
  (false, 32, .aload_n 0, 1, 0, []),
  (false, 33, .getfield 49, 3, 14, [14, 3, 5, 629]),
  (false, 36, .iload 4, 2, 0, []),
  (false, 38, .baload, 1, 0, []),
  (false, 39, .ifCond .eq 7, 3, 0, [46]),
  (false, 42, .iconst 0, 1, 0, []),
  (false, 43, .goto 4, 3, 0, [47]),
  (false, 46, .iconst 1, 1, 0, []),
  (false, 47, .iadd, 1, 0, []),
  (false, 48, .istore_n 3, 1, 0, []),
  (false, 49, .iload 4, 2, 0, []),
  (false, 51, .istore 5, 2, 0, []),
  (true, 53, .aload_n 0, 1, 0, []),
  (false, 54, .getfield 49, 3, 14, [14, 3, 5, 629]),
  (false, 57, .iload 5, 2, 0, []),
  (false, 59, .baload, 1, 0, []),
  (false, 60, .ifCond .ne 78, 3, 0, [138]),
  (false, 63, .aload_n 0, 1, 0, []),
  (false, 64, .getfield 49, 3, 14, [14, 3, 5, 629]),
  (false, 67, .iload 5, 2, 0, []),
  (false, 69, .iconst 1, 1, 0, []),
  (false, 70, .bastore, 1, 0, []),
  (false, 71, .iload 5, 2, 0, []),
  (false, 73, .istore 6, 2, 0, []),
  (false, 75, .iconst 0, 1, 0, []),
  (false, 76, .istore 7, 2, 0, []),
  (true, 78, .iload 7, 2, 0, []),
  (false, 80, .iload_n 2, 1, 0, []),
  (false, 81, .if_icmp .ge 46, 3, 0, [127]),
  (false, 84, .iload 7, 2, 0, []),
  (false, 86, .iload 5, 2, 0, []),
  (false, 88, .if_icmp .eq 29, 3, 0, [117]),
  (false, 91, .aload_n 0, 1, 0, []),
  (false, 92, .getfield 37, 3, 9, [9, 3, 5, 624]),
  (false, 95, .iload_n 1, 1, 0, []),
  (false, 96, .iload 7, 2, 0, []),
  (false, 98, .iadd, 1, 0, []),
  (false, 99, .iaload, 1, 0, []),
  (false, 100, .aload_n 0, 1, 0, []),
  (false, 101, .getfield 37, 3, 9, [9, 3, 5, 624]),
  (false, 104, .iload_n 1, 1, 0, []),
  (false, 105, .iload 5, 2, 0, []),
  (false, 107, .iadd, 1, 0, []),
  (false, 108, .iaload, 1, 0, []),
  (false, 109, .if_icmp .ne 8, 3, 0, [117]),
  (false, 112, .iload 7, 2, 0, []),
  (false, 114, .goto 5, 3, 0, [119]),
  (false, 117, .iload 6, 2, 0, []),
  (false, 119, .istore 6, 2, 0, []),
  (false, 121, .iinc 7 1, 3, 0, []),
  (false, 124, .goto (-46), 3, 0, [78]),
  (false, 127, .iload 6, 2, 0, []),
  (false, 129, .iconst 1, 1, 0, []),
  (false, 130, .iadd, 1, 0, []),
  (false, 131, .iload_n 2, 1, 0, []),
  (false, 132, .irem, 1, 0, []),
  (false, 133, .istore 5, 2, 0, []),
  (false, 135, .goto (-82), 3, 0, [53]),
  (false, 138, .iinc 4 1, 3, 0, []),
  (false, 141, .goto (-116), 3, 0, [25]),
  (false, 144, .iload_n 2, 1, 0, []),
  (false, 145, .iconst 2, 1, 0, []),
  (false, 146, .idiv, 1, 0, []),
  (false, 147, .iconst 1, 1, 0, []),
  (false, 148, .iadd, 1, 0, []),
  (false, 149, .iload_n 3, 1, 0, []),
  (false, 150, .isub, 1, 0, []),
  (false, 151, .iconst 2, 1, 0, []),
  (false, 152, .idiv, 1, 0, []),
  (false, 153, .ireturn, 1, 0, [])]
def cd_M_handlesOf : List CI := [(false, 0, .aload_n 0, 1, 0, []),
  (false, 1, .iload_n 1, 1, 0, []),
  (false, 2, .iconst 0, 1, 0, []),
  (false, 3, .invokevirtual 160, 3, 0, [77, 3, 3, 0, 0, 783, 785, 45, 786, 74, 5]),
  (false, 6, .aload_n 0, 1, 0, []),
  (false, 7, .iconst 0, 1, 0, []),
  (false, 8, .aload_n 0, 1, 0, []),
  (false, 9, .getfield 31, 3, 7, [7, 3, 5, 622]),
  (false, 12, .iload_n 1, 1, 0, []),
  (false, 13, .iaload, 1, 0, []),
  (false, 14, .invokevirtual 212, 3, 0, [115, 3, 0, 0, 0, 848, 850, 55, 851, 74, 5]),
  (false, 17, .ireturn, 1, 0, [])]
def cd_M_handles : List CI := [(false, 0, .aload_n 0, 1, 0, []),
  (false, 1, .iconst 0, 1, 0, []),
  (false, 2, .putfield 1, 3, 0, [0, 0, 5, 615]),
  (false, 5, .iload_n 1, 1, 0, []),
  (false, 6, .invokestatic 135, 3, 0, [76, 1, 0, 0, 0, 721, 722, 0, 723, 74, 5]),
  (false, 9, .ifCond .ne 6, 3, 0, [15]),
  (false, 12, .ldc 103, 2, (-1000001), [698]),
  (false, 14, .ireturn, 1, 0, []),
  (false, 15, .aload_n 0, 1, 0, []),
  (false, 16, .getfield 28, 3, 6, [6, 3, 5, 621]),
  (false, 19, .iload_n 1, 1, 0, []),
  (false, 20, .iaload, 1, 0, []),
  (false, 21, .ifCond .ge 9, 3, 0, [30]),
  (false, 24, .aload_n 0, 1, 0, []),
  (false, 25, .iconst 1, 1, 0, []),
  (false, 26, .invokevirtual 104, 3, 0, [68, 2, 0, 0, 0, 699, 701, 33, 702, 74, 5]),
  (false, 29, .ireturn, 1, 0, []),
  (false, 30, .aload_n 0, 1, 0, []),
  (false, 31, .iload_n 1, 1, 0, []),
  (false, 32, .iconst 0, 1, 0, []),
  (false, 33, .invokevirtual 160, 3, 0, [77, 3, 3, 0, 0, 783, 785, 45, 786, 74, 5]),
  (false, 36, .aload_n 0, 1, 0, []),
  (false, 37, .iconst 0, 1, 0, []),
  (false, 38, .aload_n 0, 1, 0, []),
  (false, 39, .getfield 31, 3, 7, [7, 3, 5, 622]),
  (false, 42, .iload_n 1, 1, 0, []),
  (false, 43, .iaload, 1, 0, []),
  (false, 44, .invokevirtual 125, 3, 0, [83, 3, 0, 0, 0, 747, 749, 39, 750, 74, 5]),
  (false, 47, .ifCond .ne 9, 3, 0, [56]),
  (false, 50, .aload_n 0, 1, 0, []),
  (false, 51, .iconst 3, 1, 0, []),
  (false, 52, .invokevirtual 104, 3, 0, [68, 2, 0, 0, 0, 699, 701, 33, 702, 74, 5]),
  (false, 55, .ireturn, 1, 0, []),
  (false, 56, .aload_n 0, 1, 0, []),
  (false, 57, .iconst 0, 1, 0, []),
  (false, 58, .putfield 7, 3, 1, [1, 0, 5, 616]),
  (false, 61, .aload_n 0, 1, 0, []),
  (false, 62, .iconst 0, 1, 0, []),
  (false, 63, .aload_n 0, 1, 0, []),
  (false, 64, .getfield 31, 3, 7, [7, 3, 5, 622]),
  (false, 67, .iload_n 1, 1, 0, []),
  (false, 68, .iaload, 1, 0, []),
  (false, 69, .invokevirtual 212, 3, 0, [115, 3, 0, 0, 0, 848, 850, 55, 851, 74, 5]),
  (false, 72, .ireturn, 1, 0, [])]
def cd_M_isSeries : List CI := [(false, 0, .iload_n 0, 1, 0, []),
  (false, 1, .i2l, 1, 0, []),
  (false, 2, .lconst 0, 1, 0, []),
  (false, 3, .ldc2_w 96, 3, 7, [696]),
  (false, 6, .invokestatic 84, 3, 0, [67, 3, 0, 0, 0, 608, 609, 0, 610, 74, 5]),
  (false, 9, .ireturn, 1, 0, [])]
def cd_M_m : List CI := [(false, 0, .iload_n 2, 1, 0, []),
  (false, 1, .ifCond .ne 7, 3, 0, [8]),
  (false, 4, .lconst 1, 1, 1, []),
  (false, 5, .goto 14, 3, 0, [19]),
  (false, 8, .aload_n 0, 1, 0, []),
  (false, 9, .getfield 56, 3, 16, [16, 3, 5, 631]),
  (false, 12, .bipush 9, 2, 0, []),
  (false, 14, .iload_n 1, 1, 0, []),
  (false, 15, .imul, 1, 0, []),
  (false, 16, .iload_n 2, 1, 0, []),
  (false, 17, .iadd, 1, 0, []),
  (false, 18, .laload, 1, 0, []),
  (false, 19, .lreturn, 1, 0, [])]
def cd_M_choose : List CI := [(false, 0, .lconst 1, 1, 1, []),
  (false, 1, .lstore_n 2, 1, 0, []),
  (false, 2, .iconst 1, 1, 0, []),
  (false, 3, .istore 4, 2, 0, []),
  (true, 5, .iload 4, 2, 0, []),
  (false, 7, .iload_n 1, 1, 0, []),
  (false, 8, .if_icmp .gt 23, 3, 0, [31]),
  (false, 11, .lload_n 2, 1, 0, []),
  (false, 12, .iload_n 0, 1, 0, []),
  (false, 13, .iload 4, 2, 0, []),
  (false, 15, .isub, 1, 0, []),
  (false, 16, .iconst 1, 1, 0, []),
  (false, 17, .iadd, 1, 0, []),
  (false, 18, .i2l, 1, 0, []),
  (false, 19, .lmul, 1, 0, []),
  (false, 20, .iload 4, 2, 0, []),
  (false, 22, .i2l, 1, 0, []),
  (false, 23, .ldiv, 1, 0, []),
  (false, 24, .lstore_n 2, 1, 0, []),
  (false, 25, .iinc 4 1, 3, 0, []),
  (false, 28, .goto (-23), 3, 0, [5]),
  (false, 31, .lload_n 2, 1, 0, []),
  (false, 32, .lreturn, 1, 0, [])]
def cd_M_lesser : List CI := [(false, 0, .lconst 0, 1, 0, []),
  (false, 1, .lstore 5, 2, 0, []),
  (false, 3, .iconst 0, 1, 0, []),
  (false, 4, .istore 7, 2, 0, []),
  (true, 6, .iload 7, 2, 0, []),
  (false, 8, .bipush 8, 2, 0, []),
  (false, 10, .if_icmp .gt 26, 3, 0, [36]),
  (false, 13, .aload_n 0, 1, 0, []),
  (false, 14, .getfield 65, 3, 19, [19, 3, 5, 634]),
  (false, 17, .iload 7, 2, 0, []),
  (false, 19, .iload 7, 2, 0, []),
  (false, 21, .ifCond .ne 7, 3, 0, [28]),
  (false, 24, .lconst 1, 1, 1, []),
  (false, 25, .goto 4, 3, 0, [29]),
  (false, 28, .lconst 0, 1, 0, []),
  (false, 29, .lastore, 1, 0, []),
  (false, 30, .iinc 7 1, 3, 0, []),
  (false, 33, .goto (-27), 3, 0, [6]),
  (false, 36, .iconst 1, 1, 0, []),
  (false, 37, .istore 7, 2, 0, []),
  (true, 39, .iload 7, 2, 0, []),
  (false, 41, .iload 4, 2, 0, []),
  (false, 43, .if_icmp .ge 165, 3, 0, [208]),
  (false, 46, .lconst 0, 1, 0, []),
  (false, 47, .lstore 8, 2, 0, []),
  (false, 49, .iload_n 3, 1, 0, []),
  (false, 50, .iconst 1, 1, 0, []),
  (false, 51, .if_icmp .ne 90, 3, 0, [141]),
  (false, 54, .bipush 8, 2, 0, []),
  (false, 56, .istore 10, 2, 0, []),
  (true, 58, .iload 10, 2, 0, []),
  (false, 60, .ifCond .lt 66, 3, 0, [126]),
  (false, 63, .lconst 0, 1, 0, []),
  (false, 64, .lstore 11, 2, 0, []),
  (false, 66, .iconst 0, 1, 0, []),
  (false, 67, .istore 13, 2, 0, []),
  (true, 69, .iload 13, 2, 0, []),
  (false, 71, .iload 10, 2, 0, []),
  (false, 73, .if_icmp .gt 38, 3, 0, [111]),
  (false, 76, .lload 11, 2, 0, []),
  (false, 78, .aload_n 0, 1, 0, []),
  (false, 79, .getfield 65, 3, 19, [19, 3, 5, 634]),
  (false, 82, .iload 13, 2, 0, []),
  (false, 84, .laload, 1, 0, []),
  (false, 85, .aload_n 0, 1, 0, []),
  (false, 86, .iload_n 1, 1, 0, []),
  (false, 87, .iload 10, 2, 0, []),
  (false, 89, .iload 13, 2, 0, []),
  (false, 91, .isub, 1, 0, []),
  (false, 92, .invokevirtual 215, 3, 0, [119, 3, 1, 0, 0, 909, 911, 63, 912, 74, 5]),
  (false, 95, .lmul, 1, 0, []),
  (false, 96, .ladd, 1, 0, []),
  (false, 97, .aload_n 0, 1, 0, []),
  (false, 98, .getfield 93, 3, 2, [2, 0, 5, 617]),
  (false, 101, .i2l, 1, 0, []),
  (false, 102, .lrem, 1, 0, []),
  (false, 103, .lstore 11, 2, 0, []),
  (false, 105, .iinc 13 1, 3, 0, []),
  (false, 108, .goto (-39), 3, 0, [69]),
  (false, 111, .aload_n 0, 1, 0, []),
  (false, 112, .getfield 65, 3, 19, [19, 3, 5, 634]),
  (false, 115, .iload 10, 2, 0, []),
  (false, 117, .lload 11, 2, 0, []),
  (false, 119, .lastore, 1, 0, []),
  (false, 120, .iinc 10 (-1), 3, 0, []),
  (false, 123, .goto (-65), 3, 0, [58]),
  (false, 126, .aload_n 0, 1, 0, []),
  (false, 127, .getfield 65, 3, 19, [19, 3, 5, 634]),
  (false, 130, .iload 4, 2, 0, []),
  (false, 132, .iload 7, 2, 0, []),
  (false, 134, .isub, 1, 0, []),
  (false, 135, .laload, 1, 0, []),
  (false, 136, .lstore 8, 2, 0, []),
  (false, 138, .goto 41, 3, 0, [179]),
  (false, 141, .aload_n 0, 1, 0, []),
  (false, 142, .iload_n 1, 1, 0, []),
  (false, 143, .iload 4, 2, 0, []),
  (false, 145, .iload 7, 2, 0, []),
  (false, 147, .isub, 1, 0, []),
  (false, 148, .invokevirtual 215, 3, 0, [119, 3, 1, 0, 0, 909, 911, 63, 912, 74, 5]),
  (false, 151, .iload_n 3, 1, 0, []),
  (false, 152, .ifCond .ne 17, 3, 0, [169]),
  (false, 155, .iload 4, 2, 0, []),
  (false, 157, .iconst 1, 1, 0, []),
  (false, 158, .isub, 1, 0, []),
  (false, 159, .iload 7, 2, 0, []),
  (false, 161, .iconst 1, 1, 0, []),
  (false, 162, .isub, 1, 0, []),
  (false, 163, .invokestatic 219, 3, 0, [120, 2, 1, 0, 0, 913, 914, 0, 915, 74, 5]),
  (false, 166, .goto 4, 3, 0, [170]),
  (false, 169, .lconst 1, 1, 1, []),
  (false, 170, .lmul, 1, 0, []),
  (false, 171, .aload_n 0, 1, 0, []),
  (false, 172, .getfield 93, 3, 2, [2, 0, 5, 617]),
  (false, 175, .i2l, 1, 0, []),
  (false, 176, .lrem, 1, 0, []),
  (false, 177, .lstore 8, 2, 0, []),
  (false, 179, .lload 5, 2, 0, []),
  (false, 181, .aload_n 0, 1, 0, []),
  (false, 182, .getfield 59, 3, 17, [17, 3, 5, 632]),
  (false, 185, .iload_n 2, 1, 0, []),
  (false, 186, .iload 7, 2, 0, []),
  (false, 188, .iadd, 1, 0, []),
  (false, 189, .laload, 1, 0, []),
  (false, 190, .lload 8, 2, 0, []),
  (false, 192, .lmul, 1, 0, []),
  (false, 193, .ladd, 1, 0, []),
  (false, 194, .aload_n 0, 1, 0, []),
  (false, 195, .getfield 93, 3, 2, [2, 0, 5, 617]),
  (false, 198, .i2l, 1, 0, []),
  (false, 199, .lrem, 1, 0, []),
  (false, 200, .lstore 5, 2, 0, []),
  (false, 202, .iinc 7 1, 3, 0, []),
  (false, 205, .goto (-166), 3, 0, [39]),
  (false, 208, .lload 5, 2, 0, []),
  (false, 210, .lreturn, 1, 0, [])]
def cd_M_findCumulants : List CI := [(false, 0, .iconst 1, 1, 0, []),
  (false, 1, .istore 4, 2, 0, []),
  (true, 3, .iload 4, 2, 0, []),
  (false, 5, .aload_n 0, 1, 0, []),
  (false, 6, .getfield 53, 3, 15, [15, 3, 5, 630]),
  (false, 9, .iload_n 1, 1, 0, []),
  (false, 10, .iaload, 1, 0, []),
  (false, 11, .if_icmp .gt 47, 3, 0, [58]),
  (false, 14, .aload_n 0, 1, 0, []),
  (false, 15, .getfield 59, 3, 17, [17, 3, 5, 632]),
  (false, 18, .iload_n 2, 1, 0, []),
  (false, 19, .iload 4, 2, 0, []),
  (false, 21, .iadd, 1, 0, []),
  (false, 22, .aload_n 0, 1, 0, []),
  (false, 23, .iload_n 1, 1, 0, []),
  (false, 24, .iload 4, 2, 0, []),
  (false, 26, .invokevirtual 215, 3, 0, [119, 3, 1, 0, 0, 909, 911, 63, 912, 74, 5]),
  (false, 29, .aload_n 0, 1, 0, []),
  (false, 30, .getfield 93, 3, 2, [2, 0, 5, 617]),
  (false, 33, .i2l, 1, 0, []),
  (false, 34, .ladd, 1, 0, []),
  (false, 35, .aload_n 0, 1, 0, []),
  (false, 36, .iload_n 1, 1, 0, []),
  (false, 37, .iload_n 2, 1, 0, []),
  (false, 38, .iload_n 3, 1, 0, []),
  (false, 39, .iload 4, 2, 0, []),
  (false, 41, .invokevirtual 222, 3, 0, [121, 5, 1, 0, 0, 905, 907, 62, 908, 74, 5]),
  (false, 44, .lsub, 1, 0, []),
  (false, 45, .aload_n 0, 1, 0, []),
  (false, 46, .getfield 93, 3, 2, [2, 0, 5, 617]),
  (false, 49, .i2l, 1, 0, []),
  (false, 50, .lrem, 1, 0, []),
  (false, 51, .lastore, 1, 0, []),
  (false, 52, .iinc 4 1, 3, 0, []),
  (false, 55, .goto (-52), 3, 0, [3]),
  (false, 58, .return_, 1, 0, [])]
def cd_M_findMoments : List CI := [(false, 0, .aload_n 0, 1, 0, []),
  (false, 1, .getfield 53, 3, 15, [15, 3, 5, 630]),
  (false, 4, .iload_n 1, 1, 0, []),
  (false, 5, .iload 4, 2, 0, []),
  (false, 7, .iastore, 1, 0, []),
  (false, 8, .iconst 1, 1, 0, []),
  (false, 9, .istore 5, 2, 0, []),
  (true, 11, .iload 5, 2, 0, []),
  (false, 13, .iload 4, 2, 0, []),
  (false, 15, .if_icmp .gt 22, 3, 0, [37]),
  (false, 18, .aload_n 0, 1, 0, []),
  (false, 19, .getfield 56, 3, 16, [16, 3, 5, 631]),
  (false, 22, .bipush 9, 2, 0, []),
  (false, 24, .iload_n 1, 1, 0, []),
  (false, 25, .imul, 1, 0, []),
  (false, 26, .iload 5, 2, 0, []),
  (false, 28, .iadd, 1, 0, []),
  (false, 29, .lconst 0, 1, 0, []),
  (false, 30, .lastore, 1, 0, []),
  (false, 31, .iinc 5 1, 3, 0, []),
  (false, 34, .goto (-23), 3, 0, [11]),
  (false, 37, .iconst 1, 1, 0, []),
  (false, 38, .istore 5, 2, 0, []),
  (true, 40, .iload 5, 2, 0, []),
  (false, 42, .iload 4, 2, 0, []),
  (false, 44, .if_icmp .gt 46, 3, 0, [90]),
  (false, 47, .aload_n 0, 1, 0, []),
  (false, 48, .getfield 56, 3, 16, [16, 3, 5, 631]),
  (false, 51, .bipush 9, 2, 0, []),
  (false, 53, .iload_n 1, 1, 0, []),
  (false, 54, .imul, 1, 0, []),
  (false, 55, .iload 5, 2, 0, []),
  (false, 57, .iadd, 1, 0, []),
  (false, 58, .aload_n 0, 1, 0, []),
  (false, 59, .iload_n 1, 1, 0, []),
  (false, 60, .iload_n 2, 1, 0, []),
  (false, 61, .iload_n 3, 1, 0, []),
  (false, 62, .iload 5, 2, 0, []),
  (false, 64, .invokevirtual 222, 3, 0, [121, 5, 1, 0, 0, 905, 907, 62, 908, 74, 5]),
  (false, 67, .aload_n 0, 1, 0, []),
  (false, 68, .getfield 59, 3, 17, [17, 3, 5, 632]),
  (false, 71, .iload_n 2, 1, 0, []),
  (false, 72, .iload 5, 2, 0, []),
  (false, 74, .iadd, 1, 0, []),
  (false, 75, .laload, 1, 0, []),
  (false, 76, .ladd, 1, 0, []),
  (false, 77, .aload_n 0, 1, 0, []),
  (false, 78, .getfield 93, 3, 2, [2, 0, 5, 617]),
  (false, 81, .i2l, 1, 0, []),
  (false, 82, .lrem, 1, 0, []),
  (false, 83, .lastore, 1, 0, []),
  (false, 84, .iinc 5 1, 3, 0, []),
  (false, 87, .goto (-47), 3, 0, [40]),
  (false, 90, .return_, 1, 0, [])]
def cd_M_modulo : List CI := [(false, 0, .lload_n 1, 1, 0, []),
  (false, 1, .aload_n 0, 1, 0, []),
  (false, 2, .getfield 93, 3, 2, [2, 0, 5, 617]),
  (false, 5, .i2l, 1, 0, []),
  (false, 6, .lrem, 1, 0, []),
  (false, 7, .lstore_n 3, 1, 0, []),
  (false, 8, .lload_n 3, 1, 0, []),
  (false, 9, .lconst 0, 1, 0, []),
  (false, 10, .lcmp, 1, 0, []),
  (false, 11, .ifCond .ge 13, 3, 0, [24]),
  (false, 14, .lload_n 3, 1, 0, []),
  (false, 15, .aload_n 0, 1, 0, []),
  (false, 16, .getfield 93, 3, 2, [2, 0, 5, 617]),
  (false, 19, .i2l, 1, 0, []),
  (false, 20, .ladd, 1, 0, []),
  (false, 21, .goto 4, 3, 0, [25]),
  (false, 24, .lload_n 3, 1, 0, []),
  (false, 25, .lreturn, 1, 0, [])]
def cd_M_series : List CI := [(false, 0, .aload_n 0, 1, 0, []),
  (false, 1, .iconst 0, 1, 0, []),
  (false, 2, .putfield 1, 3, 0, [0, 0, 5, 615]),
  (false, 5, .iload_n 1, 1, 0, []),
  (false, 6, .invokestatic 226, 3, 0, [118, 1, 0, 0, 0, 893, 894, 0, 895, 74, 5]),
  (false, 9, .ifCond .eq 43, 3, 0, [52]),
  (false, 12, .iload_n 2, 1, 0, []),
  (false, 13, .invokestatic 98, 3, 0, [71, 1, 0, 0, 0, 693, 694, 0, 695, 74, 5]),
  (false, 16, .ifCond .eq 36, 3, 0, [52]),
  (false, 19, .iload 4, 2, 0, []),
  (false, 21, .i2l, 1, 0, []),
  (false, 22, .lconst 1, 1, 1, []),
  (false, 23, .ldc2_w 229, 3, 8, [896]),
  (false, 26, .invokestatic 84, 3, 0, [67, 3, 0, 0, 0, 608, 609, 0, 610, 74, 5]),
  (false, 29, .ifCond .eq 23, 3, 0, [52]),
  (false, 32, .iload 5, 2, 0, []),
  (false, 34, .ldc 112, 2, (-1000000), [734]),
  (false, 36, .if_icmp .eq 19, 3, 0, [55]),
  (false, 39, .iload 5, 2, 0, []),
  (false, 41, .i2l, 1, 0, []),
  (false, 42, .lconst 0, 1, 0, []),
  (false, 43, .ldc2_w 101, 3, 2, [697]),
  (false, 46, .invokestatic 84, 3, 0, [67, 3, 0, 0, 0, 608, 609, 0, 610, 74, 5]),
  (false, 49, .ifCond .ne 6, 3, 0, [55]),
  (false, 52, .ldc 103, 2, (-1000001), [698]),
  (false, 54, .ireturn, 1, 0, []),
  (false, 55, .aload_n 0, 1, 0, []),
  (false, 56, .iconst 0, 1, 0, []),
  (false, 57, .putfield 7, 3, 1, [1, 0, 5, 616]),
  (false, 60, .aload_n 0, 1, 0, []),
  (false, 61, .getfield 17, 3, 3, [3, 3, 5, 618]),
  (false, 64, .iload_n 2, 1, 0, []),
  (false, 65, .iaload, 1, 0, []),
  (false, 66, .ifCond .ge 9, 3, 0, [75]),
  (false, 69, .aload_n 0, 1, 0, []),
  (false, 70, .iconst 1, 1, 0, []),
  (false, 71, .invokevirtual 104, 3, 0, [68, 2, 0, 0, 0, 699, 701, 33, 702, 74, 5]),
  (false, 74, .ireturn, 1, 0, []),
  (false, 75, .iload_n 3, 1, 0, []),
  (false, 76, .ifCond .lt 20, 3, 0, [96]),
  (false, 79, .iload_n 3, 1, 0, []),
  (false, 80, .i2l, 1, 0, []),
  (false, 81, .iload 4, 2, 0, []),
  (false, 83, .i2l, 1, 0, []),
  (false, 84, .ladd, 1, 0, []),
  (false, 85, .aload_n 0, 1, 0, []),
  (false, 86, .getfield 21, 3, 4, [4, 3, 5, 619]),
  (false, 89, .iload_n 2, 1, 0, []),
  (false, 90, .iaload, 1, 0, []),
  (false, 91, .i2l, 1, 0, []),
  (false, 92, .lcmp, 1, 0, []),
  (false, 93, .ifCond .le 9, 3, 0, [102]),
  (false, 96, .aload_n 0, 1, 0, []),
  (false, 97, .iconst 2, 1, 0, []),
  (false, 98, .invokevirtual 104, 3, 0, [68, 2, 0, 0, 0, 699, 701, 33, 702, 74, 5]),
  (false, 101, .ireturn, 1, 0, []),
  (false, 102, .iconst 1, 1, 0, []),
  (false, 103, .istore 6, 2, 0, []),
  (true, 105, .iload 6, 2, 0, []),
  (false, 107, .iload 4, 2, 0, []),
  (false, 109, .if_icmp .gt 38, 3, 0, [147]),
  (false, 112, .aload_n 0, 1, 0, []),
  (false, 113, .getfield 59, 3, 17, [17, 3, 5, 632]),
  (false, 116, .iconst 0, 1, 0, []),
  (false, 117, .iload 6, 2, 0, []),
  (false, 119, .iadd, 1, 0, []),
  (false, 120, .aload_n 0, 1, 0, []),
  (false, 121, .aload_n 0, 1, 0, []),
  (false, 122, .getfield 24, 3, 5, [5, 3, 5, 620]),
  (false, 125, .bipush 40, 2, 0, []),
  (false, 127, .iload_n 2, 1, 0, []),
  (false, 128, .imul, 1, 0, []),
  (false, 129, .iload_n 3, 1, 0, []),
  (false, 130, .iadd, 1, 0, []),
  (false, 131, .iload 6, 2, 0, []),
  (false, 133, .iadd, 1, 0, []),
  (false, 134, .iconst 1, 1, 0, []),
  (false, 135, .isub, 1, 0, []),
  (false, 136, .laload, 1, 0, []),
  (false, 137, .invokevirtual 231, 3, 0, [124, 2, 1, 0, 0, 897, 899, 60, 900, 74, 5]),
  (false, 140, .lastore, 1, 0, []),
  (false, 141, .iinc 6 1, 3, 0, []),
  (false, 144, .goto (-39), 3, 0, [105]),
  (false, 147, .iload 5, 2, 0, []),
  (false, 149, .ldc 112, 2, (-1000000), [734]),
  (false, 151, .if_icmp .eq 16, 3, 0, [167]),
  (false, 154, .aload_n 0, 1, 0, []),
  (false, 155, .iload_n 1, 1, 0, []),
  (false, 156, .iconst 0, 1, 0, []),
  (false, 157, .iload 5, 2, 0, []),
  (false, 159, .iload 4, 2, 0, []),
  (false, 161, .invokevirtual 235, 3, 0, [123, 5, 3, 0, 0, 901, 903, 61, 904, 74, 5]),
  (false, 164, .iload 4, 2, 0, []),
  (false, 166, .ireturn, 1, 0, []),
  (false, 167, .aload_n 0, 1, 0, []),
  (false, 168, .getfield 53, 3, 15, [15, 3, 5, 630]),
  (false, 171, .iload_n 1, 1, 0, []),
  (false, 172, .iload 4, 2, 0, []),
  (false, 174, .iastore, 1, 0, []),
  (false, 175, .iconst 1, 1, 0, []),
  (false, 176, .istore 6, 2, 0, []),
  (true, 178, .iload 6, 2, 0, []),
  (false, 180, .iload 4, 2, 0, []),
  (false, 182, .if_icmp .gt 30, 3, 0, [212]),
  (false, 185, .aload_n 0, 1, 0, []),
  (false, 186, .getfield 56, 3, 16, [16, 3, 5, 631]),
  (false, 189, .bipush 9, 2, 0, []),
  (false, 191, .iload_n 1, 1, 0, []),
  (false, 192, .imul, 1, 0, []),
  (false, 193, .iload 6, 2, 0, []),
  (false, 195, .iadd, 1, 0, []),
  (false, 196, .aload_n 0, 1, 0, []),
  (false, 197, .getfield 59, 3, 17, [17, 3, 5, 632]),
  (false, 200, .iconst 0, 1, 0, []),
  (false, 201, .iload 6, 2, 0, []),
  (false, 203, .iadd, 1, 0, []),
  (false, 204, .laload, 1, 0, []),
  (false, 205, .lastore, 1, 0, []),
  (false, 206, .iinc 6 1, 3, 0, []),
  (false, 209, .goto (-31), 3, 0, [178]),
  (false, 212, .iload 4, 2, 0, []),
  (false, 214, .ireturn, 1, 0, [])]
def cd_M_number : List CI := [(false, 0, .aload_n 0, 1, 0, []),
  (false, 1, .iconst 0, 1, 0, []),
  (false, 2, .putfield 1, 3, 0, [0, 0, 5, 615]),
  (false, 5, .iload_n 1, 1, 0, []),
  (false, 6, .invokestatic 226, 3, 0, [118, 1, 0, 0, 0, 893, 894, 0, 895, 74, 5]),
  (false, 9, .ifCond .eq 37, 3, 0, [46]),
  (false, 12, .iload_n 2, 1, 0, []),
  (false, 13, .ldc 112, 2, (-1000000), [734]),
  (false, 15, .if_icmp .eq 15, 3, 0, [30]),
  (false, 18, .iload_n 2, 1, 0, []),
  (false, 19, .i2l, 1, 0, []),
  (false, 20, .lconst 0, 1, 0, []),
  (false, 21, .ldc2_w 101, 3, 2, [697]),
  (false, 24, .invokestatic 84, 3, 0, [67, 3, 0, 0, 0, 608, 609, 0, 610, 74, 5]),
  (false, 27, .ifCond .eq 19, 3, 0, [46]),
  (false, 30, .iload_n 3, 1, 0, []),
  (false, 31, .i2l, 1, 0, []),
  (false, 32, .lconst 1, 1, 1, []),
  (false, 33, .aload_n 0, 1, 0, []),
  (false, 34, .getfield 53, 3, 15, [15, 3, 5, 630]),
  (false, 37, .iload_n 1, 1, 0, []),
  (false, 38, .iaload, 1, 0, []),
  (false, 39, .i2l, 1, 0, []),
  (false, 40, .invokestatic 84, 3, 0, [67, 3, 0, 0, 0, 608, 609, 0, 610, 74, 5]),
  (false, 43, .ifCond .ne 7, 3, 0, [50]),
  (false, 46, .ldc2_w 108, 3, (-1000001), [708]),
  (false, 49, .lreturn, 1, 0, []),
  (false, 50, .iload_n 2, 1, 0, []),
  (false, 51, .ldc 112, 2, (-1000000), [734]),
  (false, 53, .if_icmp .ne 15, 3, 0, [68]),
  (false, 56, .aload_n 0, 1, 0, []),
  (false, 57, .getfield 56, 3, 16, [16, 3, 5, 631]),
  (false, 60, .bipush 9, 2, 0, []),
  (false, 62, .iload_n 1, 1, 0, []),
  (false, 63, .imul, 1, 0, []),
  (false, 64, .iload_n 3, 1, 0, []),
  (false, 65, .iadd, 1, 0, []),
  (false, 66, .laload, 1, 0, []),
  (false, 67, .lreturn, 1, 0, []),
  (false, 68, .aload_n 0, 1, 0, []),
  (false, 69, .iload_n 1, 1, 0, []),
  (false, 70, .iconst 0, 1, 0, []),
  (false, 71, .iload_n 2, 1, 0, []),
  (false, 72, .invokevirtual 239, 3, 0, [122, 4, 3, 0, 0, 920, 922, 64, 923, 74, 5]),
  (false, 75, .aload_n 0, 1, 0, []),
  (false, 76, .getfield 59, 3, 17, [17, 3, 5, 632]),
  (false, 79, .iconst 0, 1, 0, []),
  (false, 80, .iload_n 3, 1, 0, []),
  (false, 81, .iadd, 1, 0, []),
  (false, 82, .laload, 1, 0, []),
  (false, 83, .lreturn, 1, 0, [])]
def cd_M_join : List CI := [(false, 0, .aload_n 0, 1, 0, []),
  (false, 1, .iconst 0, 1, 0, []),
  (false, 2, .putfield 1, 3, 0, [0, 0, 5, 615]),
  (false, 5, .iload_n 1, 1, 0, []),
  (false, 6, .invokestatic 226, 3, 0, [118, 1, 0, 0, 0, 893, 894, 0, 895, 74, 5]),
  (false, 9, .ifCond .eq 30, 3, 0, [39]),
  (false, 12, .iload_n 2, 1, 0, []),
  (false, 13, .invokestatic 226, 3, 0, [118, 1, 0, 0, 0, 893, 894, 0, 895, 74, 5]),
  (false, 16, .ifCond .eq 23, 3, 0, [39]),
  (false, 19, .iload_n 3, 1, 0, []),
  (false, 20, .invokestatic 226, 3, 0, [118, 1, 0, 0, 0, 893, 894, 0, 895, 74, 5]),
  (false, 23, .ifCond .eq 16, 3, 0, [39]),
  (false, 26, .iload 4, 2, 0, []),
  (false, 28, .i2l, 1, 0, []),
  (false, 29, .lconst 0, 1, 0, []),
  (false, 30, .ldc2_w 201, 3, 3, [868]),
  (false, 33, .invokestatic 84, 3, 0, [67, 3, 0, 0, 0, 608, 609, 0, 610, 74, 5]),
  (false, 36, .ifCond .ne 6, 3, 0, [42]),
  (false, 39, .ldc 103, 2, (-1000001), [698]),
  (false, 41, .ireturn, 1, 0, []),
  (false, 42, .aload_n 0, 1, 0, []),
  (false, 43, .getfield 53, 3, 15, [15, 3, 5, 630]),
  (false, 46, .iload_n 2, 1, 0, []),
  (false, 47, .iaload, 1, 0, []),
  (false, 48, .aload_n 0, 1, 0, []),
  (false, 49, .getfield 53, 3, 15, [15, 3, 5, 630]),
  (false, 52, .iload_n 3, 1, 0, []),
  (false, 53, .iaload, 1, 0, []),
  (false, 54, .if_icmp .ge 12, 3, 0, [66]),
  (false, 57, .aload_n 0, 1, 0, []),
  (false, 58, .getfield 53, 3, 15, [15, 3, 5, 630]),
  (false, 61, .iload_n 2, 1, 0, []),
  (false, 62, .iaload, 1, 0, []),
  (false, 63, .goto 9, 3, 0, [72]),
  (false, 66, .aload_n 0, 1, 0, []),
  (false, 67, .getfield 53, 3, 15, [15, 3, 5, 630]),
  (false, 70, .iload_n 3, 1, 0, []),
  (false, 71, .iaload, 1, 0, []),
  (false, 72, .istore 5, 2, 0, []),
  (false, 74, .iload 4, 2, 0, []),
  (false, 76, .iconst 3, 1, 0, []),
  (false, 77, .if_icmp .ne 7, 3, 0, [84]),
  (false, 80, .iconst 1, 1, 0, []),
  (false, 81, .goto 5, 3, 0, [86]),
  (false, 84, .iload 4, 2, 0, []),
  (false, 86, .istore 6, 2, 0, []),
  (false, 88, .aload_n 0, 1, 0, []),
  (false, 89, .iload_n 2, 1, 0, []),
  (false, 90, .bipush 9, 2, 0, []),
  (false, 92, .iload 6, 2, 0, []),
  (false, 94, .invokevirtual 239, 3, 0, [122, 4, 3, 0, 0, 920, 922, 64, 923, 74, 5]),
  (false, 97, .aload_n 0, 1, 0, []),
  (false, 98, .iload_n 3, 1, 0, []),
  (false, 99, .bipush 18, 2, 0, []),
  (false, 101, .iload 6, 2, 0, []),
  (false, 103, .invokevirtual 239, 3, 0, [122, 4, 3, 0, 0, 920, 922, 64, 923, 74, 5]),
  (false, 106, .iconst 1, 1, 0, []),
  (false, 107, .istore 7, 2, 0, []),
  (true, 109, .iload 7, 2, 0, []),
  (false, 111, .iload 5, 2, 0, []),
  (false, 113, .if_icmp .gt 60, 3, 0, [173]),
  (false, 116, .aload_n 0, 1, 0, []),
  (false, 117, .getfield 59, 3, 17, [17, 3, 5, 632]),
  (false, 120, .iconst 0, 1, 0, []),
  (false, 121, .iload 7, 2, 0, []),
  (false, 123, .iadd, 1, 0, []),
  (false, 124, .iload 4, 2, 0, []),
  (false, 126, .iconst 3, 1, 0, []),
  (false, 127, .if_icmp .ne 12, 3, 0, [139]),
  (false, 130, .aload_n 0, 1, 0, []),
  (false, 131, .iload 7, 2, 0, []),
  (false, 133, .invokevirtual 242, 3, 0, [128, 2, 1, 0, 0, 928, 930, 65, 931, 74, 5]),
  (false, 136, .goto 30, 3, 0, [166]),
  (false, 139, .aload_n 0, 1, 0, []),
  (false, 140, .getfield 59, 3, 17, [17, 3, 5, 632]),
  (false, 143, .bipush 9, 2, 0, []),
  (false, 145, .iload 7, 2, 0, []),
  (false, 147, .iadd, 1, 0, []),
  (false, 148, .laload, 1, 0, []),
  (false, 149, .aload_n 0, 1, 0, []),
  (false, 150, .getfield 59, 3, 17, [17, 3, 5, 632]),
  (false, 153, .bipush 18, 2, 0, []),
  (false, 155, .iload 7, 2, 0, []),
  (false, 157, .iadd, 1, 0, []),
  (false, 158, .laload, 1, 0, []),
  (false, 159, .ladd, 1, 0, []),
  (false, 160, .aload_n 0, 1, 0, []),
  (false, 161, .getfield 93, 3, 2, [2, 0, 5, 617]),
  (false, 164, .i2l, 1, 0, []),
  (false, 165, .lrem, 1, 0, []),
  (false, 166, .lastore, 1, 0, []),
  (false, 167, .iinc 7 1, 3, 0, []),
  (false, 170, .goto (-61), 3, 0, [109]),
  (false, 173, .aload_n 0, 1, 0, []),
  (false, 174, .iload_n 1, 1, 0, []),
  (false, 175, .iconst 0, 1, 0, []),
  (false, 176, .iload 6, 2, 0, []),
  (false, 178, .iload 5, 2, 0, []),
  (false, 180, .invokevirtual 235, 3, 0, [123, 5, 3, 0, 0, 901, 903, 61, 904, 74, 5]),
  (false, 183, .iload 5, 2, 0, []),
  (false, 185, .ireturn, 1, 0, [])]
def cd_M_mixed : List CI := [(false, 0, .lconst 0, 1, 0, []),
  (false, 1, .lstore_n 2, 1, 0, []),
  (false, 2, .aload_n 0, 1, 0, []),
  (false, 3, .iconst 0, 1, 0, []),
  (false, 4, .iload_n 1, 1, 0, []),
  (false, 5, .invokevirtual 148, 3, 0, [89, 3, 3, 0, 0, 760, 762, 41, 763, 74, 5]),
  (false, 8, .iconst 1, 1, 0, []),
  (false, 9, .istore 4, 2, 0, []),
  (true, 11, .iload 4, 2, 0, []),
  (false, 13, .ifCond .eq 137, 3, 0, [150]),
  (false, 16, .aload_n 0, 1, 0, []),
  (false, 17, .iconst 0, 1, 0, []),
  (false, 18, .iload_n 1, 1, 0, []),
  (false, 19, .invokevirtual 171, 3, 0, [96, 3, 3, 0, 0, 799, 801, 48, 802, 74, 5]),
  (false, 22, .aload_n 0, 1, 0, []),
  (false, 23, .bipush 20, 2, 0, []),
  (false, 25, .iload_n 1, 1, 0, []),
  (false, 26, .invokevirtual 128, 3, 0, [78, 3, 3, 0, 0, 730, 732, 35, 733, 74, 5]),
  (false, 29, .lconst 1, 1, 1, []),
  (false, 30, .lstore 5, 2, 0, []),
  (false, 32, .iconst 0, 1, 0, []),
  (false, 33, .istore 7, 2, 0, []),
  (true, 35, .iload 7, 2, 0, []),
  (false, 37, .aload_n 0, 1, 0, []),
  (false, 38, .iconst 0, 1, 0, []),
  (false, 39, .iload_n 1, 1, 0, []),
  (false, 40, .invokevirtual 176, 3, 0, [81, 3, 0, 0, 0, 824, 826, 50, 827, 74, 5]),
  (false, 43, .if_icmp .ge 36, 3, 0, [79]),
  (false, 46, .lload 5, 2, 0, []),
  (false, 48, .aload_n 0, 1, 0, []),
  (false, 49, .getfield 59, 3, 17, [17, 3, 5, 632]),
  (false, 52, .bipush 9, 2, 0, []),
  (false, 54, .aload_n 0, 1, 0, []),
  (false, 55, .iconst 0, 1, 0, []),
  (false, 56, .iload_n 1, 1, 0, []),
  (false, 57, .iload 7, 2, 0, []),
  (false, 59, .invokevirtual 117, 3, 0, [82, 4, 0, 0, 0, 751, 753, 40, 754, 74, 5]),
  (false, 62, .iadd, 1, 0, []),
  (false, 63, .laload, 1, 0, []),
  (false, 64, .lmul, 1, 0, []),
  (false, 65, .aload_n 0, 1, 0, []),
  (false, 66, .getfield 93, 3, 2, [2, 0, 5, 617]),
  (false, 69, .i2l, 1, 0, []),
  (false, 70, .lrem, 1, 0, []),
  (false, 71, .lstore 5, 2, 0, []),
  (false, 73, .iinc 7 1, 3, 0, []),
  (false, 76, .goto (-41), 3, 0, [35]),
  (false, 79, .iconst 0, 1, 0, []),
  (false, 80, .istore 7, 2, 0, []),
  (true, 82, .iload 7, 2, 0, []),
  (false, 84, .aload_n 0, 1, 0, []),
  (false, 85, .bipush 20, 2, 0, []),
  (false, 87, .iload_n 1, 1, 0, []),
  (false, 88, .invokevirtual 176, 3, 0, [81, 3, 0, 0, 0, 824, 826, 50, 827, 74, 5]),
  (false, 91, .if_icmp .ge 37, 3, 0, [128]),
  (false, 94, .lload 5, 2, 0, []),
  (false, 96, .aload_n 0, 1, 0, []),
  (false, 97, .getfield 59, 3, 17, [17, 3, 5, 632]),
  (false, 100, .bipush 18, 2, 0, []),
  (false, 102, .aload_n 0, 1, 0, []),
  (false, 103, .bipush 20, 2, 0, []),
  (false, 105, .iload_n 1, 1, 0, []),
  (false, 106, .iload 7, 2, 0, []),
  (false, 108, .invokevirtual 117, 3, 0, [82, 4, 0, 0, 0, 751, 753, 40, 754, 74, 5]),
  (false, 111, .iadd, 1, 0, []),
  (false, 112, .laload, 1, 0, []),
  (false, 113, .lmul, 1, 0, []),
  (false, 114, .aload_n 0, 1, 0, []),
  (false, 115, .getfield 93, 3, 2, [2, 0, 5, 617]),
  (false, 118, .i2l, 1, 0, []),
  (false, 119, .lrem, 1, 0, []),
  (false, 120, .lstore 5, 2, 0, []),
  (false, 122, .iinc 7 1, 3, 0, []),
  (false, 125, .goto (-43), 3, 0, [82]),
  (false, 128, .lload_n 2, 1, 0, []),
  (false, 129, .lload 5, 2, 0, []),
  (false, 131, .ladd, 1, 0, []),
  (false, 132, .aload_n 0, 1, 0, []),
  (false, 133, .getfield 93, 3, 2, [2, 0, 5, 617]),
  (false, 136, .i2l, 1, 0, []),
  (false, 137, .lrem, 1, 0, []),
  (false, 138, .lstore_n 2, 1, 0, []),
  (false, 139, .aload_n 0, 1, 0, []),
  (false, 140, .iconst 0, 1, 0, []),
  (false, 141, .iload_n 1, 1, 0, []),
  (false, 142, .invokevirtual 151, 3, 0, [88, 3, 0, 0, 0, 764, 766, 42, 767, 74, 5]),
  (false, 145, .istore 4, 2, 0, []),
  (false, 147, .goto (-136), 3, 0, [11]),
  (false, 150, .lload_n 2, 1, 0, []),
  (false, 151, .lreturn, 1, 0, [])]
def cd_M_change : List CI := [(false, 0, .aload_n 0, 1, 0, []),
  (false, 1, .iconst 0, 1, 0, []),
  (false, 2, .putfield 1, 3, 0, [0, 0, 5, 615]),
  (false, 5, .iload_n 1, 1, 0, []),
  (false, 6, .invokestatic 226, 3, 0, [118, 1, 0, 0, 0, 893, 894, 0, 895, 74, 5]),
  (false, 9, .ifCond .eq 37, 3, 0, [46]),
  (false, 12, .iload_n 2, 1, 0, []),
  (false, 13, .invokestatic 226, 3, 0, [118, 1, 0, 0, 0, 893, 894, 0, 895, 74, 5]),
  (false, 16, .ifCond .eq 30, 3, 0, [46]),
  (false, 19, .iload_n 3, 1, 0, []),
  (false, 20, .i2l, 1, 0, []),
  (false, 21, .lconst 0, 1, 0, []),
  (false, 22, .lconst 1, 1, 1, []),
  (false, 23, .invokestatic 84, 3, 0, [67, 3, 0, 0, 0, 608, 609, 0, 610, 74, 5]),
  (false, 26, .ifCond .eq 20, 3, 0, [46]),
  (false, 29, .iload 4, 2, 0, []),
  (false, 31, .i2l, 1, 0, []),
  (false, 32, .lconst 0, 1, 0, []),
  (false, 33, .aload_n 0, 1, 0, []),
  (false, 34, .getfield 93, 3, 2, [2, 0, 5, 617]),
  (false, 37, .iconst 1, 1, 0, []),
  (false, 38, .isub, 1, 0, []),
  (false, 39, .i2l, 1, 0, []),
  (false, 40, .invokestatic 84, 3, 0, [67, 3, 0, 0, 0, 608, 609, 0, 610, 74, 5]),
  (false, 43, .ifCond .ne 6, 3, 0, [49]),
  (false, 46, .ldc 103, 2, (-1000001), [698]),
  (false, 48, .ireturn, 1, 0, []),
  (false, 49, .aload_n 0, 1, 0, []),
  (false, 50, .getfield 53, 3, 15, [15, 3, 5, 630]),
  (false, 53, .iload_n 2, 1, 0, []),
  (false, 54, .iaload, 1, 0, []),
  (false, 55, .istore 5, 2, 0, []),
  (false, 57, .iload_n 3, 1, 0, []),
  (false, 58, .ifCond .ne 9, 3, 0, [67]),
  (false, 61, .iload 4, 2, 0, []),
  (false, 63, .i2l, 1, 0, []),
  (false, 64, .goto 4, 3, 0, [68]),
  (false, 67, .lconst 1, 1, 1, []),
  (false, 68, .lstore 6, 2, 0, []),
  (false, 70, .iload_n 3, 1, 0, []),
  (false, 71, .iconst 1, 1, 0, []),
  (false, 72, .if_icmp .ne 10, 3, 0, [82]),
  (false, 75, .aload_n 0, 1, 0, []),
  (false, 76, .iload_n 2, 1, 0, []),
  (false, 77, .iconst 0, 1, 0, []),
  (false, 78, .iconst 1, 1, 0, []),
  (false, 79, .invokevirtual 239, 3, 0, [122, 4, 3, 0, 0, 920, 922, 64, 923, 74, 5]),
  (false, 82, .iconst 1, 1, 0, []),
  (false, 83, .istore 8, 2, 0, []),
  (true, 85, .iload 8, 2, 0, []),
  (false, 87, .iload 5, 2, 0, []),
  (false, 89, .if_icmp .gt 80, 3, 0, [169]),
  (false, 92, .iload_n 3, 1, 0, []),
  (false, 93, .ifCond .ne 29, 3, 0, [122]),
  (false, 96, .aload_n 0, 1, 0, []),
  (false, 97, .getfield 62, 3, 18, [18, 3, 5, 633]),
  (false, 100, .iload 8, 2, 0, []),
  (false, 102, .aload_n 0, 1, 0, []),
  (false, 103, .iload_n 2, 1, 0, []),
  (false, 104, .iload 8, 2, 0, []),
  (false, 106, .invokevirtual 215, 3, 0, [119, 3, 1, 0, 0, 909, 911, 63, 912, 74, 5]),
  (false, 109, .lload 6, 2, 0, []),
  (false, 111, .lmul, 1, 0, []),
  (false, 112, .aload_n 0, 1, 0, []),
  (false, 113, .getfield 93, 3, 2, [2, 0, 5, 617]),
  (false, 116, .i2l, 1, 0, []),
  (false, 117, .lrem, 1, 0, []),
  (false, 118, .lastore, 1, 0, []),
  (false, 119, .goto 30, 3, 0, [149]),
  (false, 122, .aload_n 0, 1, 0, []),
  (false, 123, .getfield 59, 3, 17, [17, 3, 5, 632]),
  (false, 126, .iconst 0, 1, 0, []),
  (false, 127, .iload 8, 2, 0, []),
  (false, 129, .iadd, 1, 0, []),
  (false, 130, .aload_n 0, 1, 0, []),
  (false, 131, .getfield 59, 3, 17, [17, 3, 5, 632]),
  (false, 134, .iconst 0, 1, 0, []),
  (false, 135, .iload 8, 2, 0, []),
  (false, 137, .iadd, 1, 0, []),
  (false, 138, .laload, 1, 0, []),
  (false, 139, .lload 6, 2, 0, []),
  (false, 141, .lmul, 1, 0, []),
  (false, 142, .aload_n 0, 1, 0, []),
  (false, 143, .getfield 93, 3, 2, [2, 0, 5, 617]),
  (false, 146, .i2l, 1, 0, []),
  (false, 147, .lrem, 1, 0, []),
  (false, 148, .lastore, 1, 0, []),
  (false, 149, .lload 6, 2, 0, []),
  (false, 151, .iload 4, 2, 0, []),
  (false, 153, .i2l, 1, 0, []),
  (false, 154, .lmul, 1, 0, []),
  (false, 155, .aload_n 0, 1, 0, []),
  (false, 156, .getfield 93, 3, 2, [2, 0, 5, 617]),
  (false, 159, .i2l, 1, 0, []),
  (false, 160, .lrem, 1, 0, []),
  (false, 161, .lstore 6, 2, 0, []),
  (false, 163, .iinc 8 1, 3, 0, []),
  (false, 166, .goto (-81), 3, 0, [85]),
  (false, 169, .iload_n 3, 1, 0, []),
  (false, 170, .iconst 1, 1, 0, []),
  (false, 171, .if_icmp .ne 15, 3, 0, [186]),
  (false, 174, .aload_n 0, 1, 0, []),
  (false, 175, .iload_n 1, 1, 0, []),
  (false, 176, .iconst 0, 1, 0, []),
  (false, 177, .iconst 1, 1, 0, []),
  (false, 178, .iload 5, 2, 0, []),
  (false, 180, .invokevirtual 235, 3, 0, [123, 5, 3, 0, 0, 901, 903, 61, 904, 74, 5]),
  (false, 183, .iload 5, 2, 0, []),
  (false, 185, .ireturn, 1, 0, []),
  (false, 186, .aload_n 0, 1, 0, []),
  (false, 187, .getfield 53, 3, 15, [15, 3, 5, 630]),
  (false, 190, .iload_n 1, 1, 0, []),
  (false, 191, .iload 5, 2, 0, []),
  (false, 193, .iastore, 1, 0, []),
  (false, 194, .iconst 1, 1, 0, []),
  (false, 195, .istore 8, 2, 0, []),
  (true, 197, .iload 8, 2, 0, []),
  (false, 199, .iload 5, 2, 0, []),
  (false, 201, .if_icmp .gt 28, 3, 0, [229]),
  (false, 204, .aload_n 0, 1, 0, []),
  (false, 205, .getfield 56, 3, 16, [16, 3, 5, 631]),
  (false, 208, .bipush 9, 2, 0, []),
  (false, 210, .iload_n 1, 1, 0, []),
  (false, 211, .imul, 1, 0, []),
  (false, 212, .iload 8, 2, 0, []),
  (false, 214, .iadd, 1, 0, []),
  (false, 215, .aload_n 0, 1, 0, []),
  (false, 216, .getfield 62, 3, 18, [18, 3, 5, 633]),
  (false, 219, .iload 8, 2, 0, []),
  (false, 221, .laload, 1, 0, []),
  (false, 222, .lastore, 1, 0, []),
  (false, 223, .iinc 8 1, 3, 0, []),
  (false, 226, .goto (-29), 3, 0, [197]),
  (false, 229, .iload 5, 2, 0, []),
  (false, 231, .ireturn, 1, 0, [])]
def cd_M_inverse : List CI := [(false, 0, .lconst 1, 1, 1, []),
  (false, 1, .lstore_n 3, 1, 0, []),
  (false, 2, .lload_n 1, 1, 0, []),
  (false, 3, .lstore 5, 2, 0, []),
  (false, 5, .aload_n 0, 1, 0, []),
  (false, 6, .getfield 93, 3, 2, [2, 0, 5, 617]),
  (false, 9, .iconst 2, 1, 0, []),
  (false, 10, .isub, 1, 0, []),
  (false, 11, .istore 7, 2, 0, []),
  (true, 13, .iload 7, 2, 0, []),
  (false, 15, .ifCond .le 48, 3, 0, [63]),
  (false, 18, .iload 7, 2, 0, []),
  (false, 20, .iconst 2, 1, 0, []),
  (false, 21, .irem, 1, 0, []),
  (false, 22, .iconst 1, 1, 0, []),
  (false, 23, .if_icmp .ne 16, 3, 0, [39]),
  (false, 26, .lload_n 3, 1, 0, []),
  (false, 27, .lload 5, 2, 0, []),
  (false, 29, .lmul, 1, 0, []),
  (false, 30, .aload_n 0, 1, 0, []),
  (false, 31, .getfield 93, 3, 2, [2, 0, 5, 617]),
  (false, 34, .i2l, 1, 0, []),
  (false, 35, .lrem, 1, 0, []),
  (false, 36, .goto 4, 3, 0, [40]),
  (false, 39, .lload_n 3, 1, 0, []),
  (false, 40, .lstore_n 3, 1, 0, []),
  (false, 41, .lload 5, 2, 0, []),
  (false, 43, .lload 5, 2, 0, []),
  (false, 45, .lmul, 1, 0, []),
  (false, 46, .aload_n 0, 1, 0, []),
  (false, 47, .getfield 93, 3, 2, [2, 0, 5, 617]),
  (false, 50, .i2l, 1, 0, []),
  (false, 51, .lrem, 1, 0, []),
  (false, 52, .lstore 5, 2, 0, []),
  (false, 54, .iload 7, 2, 0, []),
  (false, 56, .iconst 2, 1, 0, []),
  (false, 57, .idiv, 1, 0, []),
  (false, 58, .istore 7, 2, 0, []),
  (false, 60, .goto (-47), 3, 0, [13]),
  (false, 63, .lload_n 3, 1, 0, []),
  (false, 64, .lreturn, 1, 0, [])]
def cd_M_hankel : List CI := [(false, 0, .aload_n 0, 1, 0, []),
  (false, 1, .iconst 0, 1, 0, []),
  (false, 2, .putfield 1, 3, 0, [0, 0, 5, 615]),
  (false, 5, .iload_n 1, 1, 0, []),
  (false, 6, .invokestatic 226, 3, 0, [118, 1, 0, 0, 0, 893, 894, 0, 895, 74, 5]),
  (false, 9, .ifCond .eq 24, 3, 0, [33]),
  (false, 12, .iload_n 2, 1, 0, []),
  (false, 13, .ifCond .lt 20, 3, 0, [33]),
  (false, 16, .ldc2_w 101, 3, 2, [697]),
  (false, 19, .iload_n 2, 1, 0, []),
  (false, 20, .i2l, 1, 0, []),
  (false, 21, .lmul, 1, 0, []),
  (false, 22, .aload_n 0, 1, 0, []),
  (false, 23, .getfield 53, 3, 15, [15, 3, 5, 630]),
  (false, 26, .iload_n 1, 1, 0, []),
  (false, 27, .iaload, 1, 0, []),
  (false, 28, .i2l, 1, 0, []),
  (false, 29, .lcmp, 1, 0, []),
  (false, 30, .ifCond .le 7, 3, 0, [37]),
  (false, 33, .ldc2_w 108, 3, (-1000001), [708]),
  (false, 36, .lreturn, 1, 0, []),
  (false, 37, .iload_n 2, 1, 0, []),
  (false, 38, .iconst 1, 1, 0, []),
  (false, 39, .iadd, 1, 0, []),
  (false, 40, .istore_n 3, 1, 0, []),
  (false, 41, .iconst 0, 1, 0, []),
  (false, 42, .istore 4, 2, 0, []),
  (true, 44, .iload 4, 2, 0, []),
  (false, 46, .iload_n 3, 1, 0, []),
  (false, 47, .if_icmp .ge 52, 3, 0, [99]),
  (false, 50, .iconst 0, 1, 0, []),
  (false, 51, .istore 5, 2, 0, []),
  (true, 53, .iload 5, 2, 0, []),
  (false, 55, .iload_n 3, 1, 0, []),
  (false, 56, .if_icmp .ge 37, 3, 0, [93]),
  (false, 59, .aload_n 0, 1, 0, []),
  (false, 60, .getfield 68, 3, 20, [20, 3, 5, 635]),
  (false, 63, .iconst 5, 1, 0, []),
  (false, 64, .iload 4, 2, 0, []),
  (false, 66, .imul, 1, 0, []),
  (false, 67, .iload 5, 2, 0, []),
  (false, 69, .iadd, 1, 0, []),
  (false, 70, .aload_n 0, 1, 0, []),
  (false, 71, .iload_n 1, 1, 0, []),
  (false, 72, .iload 4, 2, 0, []),
  (false, 74, .iload 5, 2, 0, []),
  (false, 76, .iadd, 1, 0, []),
  (false, 77, .invokevirtual 215, 3, 0, [119, 3, 1, 0, 0, 909, 911, 63, 912, 74, 5]),
  (false, 80, .aload_n 0, 1, 0, []),
  (false, 81, .getfield 93, 3, 2, [2, 0, 5, 617]),
  (false, 84, .i2l, 1, 0, []),
  (false, 85, .lrem, 1, 0, []),
  (false, 86, .lastore, 1, 0, []),
  (false, 87, .iinc 5 1, 3, 0, []),
  (false, 90, .goto (-37), 3, 0, [53]),
  (false, 93, .iinc 4 1, 3, 0, []),
  (false, 96, .goto (-52), 3, 0, [44]),
  (false, 99, .lconst 1, 1, 1, []),
  (false, 100, .lstore 4, 2, 0, []),
  (false, 102, .iconst 0, 1, 0, []),
  (false, 103, .istore 6, 2, 0, []),
  (true, 105, .iload 6, 2, 0, []),
  (false, 107, .iload_n 3, 1, 0, []),
  (false, 108, .if_icmp .ge 302, 3, 0, [410]),
  (false, 111, .iload 6, 2, 0, []),
  (false, 113, .istore 7, 2, 0, []),
  (true, 115, .iload 7, 2, 0, []),
  (false, 117, .iload_n 3, 1, 0, []),
  (false, 118, .if_icmp .ge 26, 3, 0, [144]),
  (false, 121, .aload_n 0, 1, 0, []),
  (false, 122, .getfield 68, 3, 20, [20, 3, 5, 635]),
  (false, 125, .iconst 5, 1, 0, []),
  (false, 126, .iload 7, 2, 0, []),
  (false, 128, .imul, 1, 0, []),
  (false, 129, .iload 6, 2, 0, []),
  (false, 131, .iadd, 1, 0, []),
  (false, 132, .laload, 1, 0, []),
  (false, 133, .lconst 0, 1, 0, []),
  (false, 134, .lcmp, 1, 0, []),
  (false, 135, .ifCond .ne 9, 3, 0, [144]),
  (false, 138, .iinc 7 1, 3, 0, []),
  (false, 141, .goto (-26), 3, 0, [115]),
  (false, 144, .iload 7, 2, 0, []),
  (false, 146, .iload_n 3, 1, 0, []),
  (false, 147, .if_icmp .ne 5, 3, 0, [152]),
  (false, 150, .lconst 0, 1, 0, []),
  (false, 151, .lreturn, 1, 0, []),
  (false, 152, .iconst 0, 1, 0, []),
  (false, 153, .istore 8, 2, 0, []),
  (true, 155, .iload 8, 2, 0, []),
  (false, 157, .iload_n 3, 1, 0, []),
  (false, 158, .if_icmp .ge 68, 3, 0, [226]),
  (false, 161, .iload 7, 2, 0, []),
  (false, 163, .iload 6, 2, 0, []),
  (false, 165, .if_icmp .eq 61, 3, 0, [226]),
  (false, 168, .aload_n 0, 1, 0, []),
  (false, 169, .getfield 68, 3, 20, [20, 3, 5, 635]),
  (false, 172, .iconst 5, 1, 0, []),
  (false, 173, .iload 7, 2, 0, []),
  (false, 175, .imul, 1, 0, []),
  (false, 176, .iload 8, 2, 0, []),
  (false, 178, .iadd, 1, 0, []),
  (false, 179, .laload, 1, 0, []),
  (false, 180, .lstore 9, 2, 0, []),
  (false, 182, .aload_n 0, 1, 0, []),
  (false, 183, .getfield 68, 3, 20, [20, 3, 5, 635]),
  (false, 186, .iconst 5, 1, 0, []),
  (false, 187, .iload 7, 2, 0, []),
  (false, 189, .imul, 1, 0, []),
  (false, 190, .iload 8, 2, 0, []),
  (false, 192, .iadd, 1, 0, []),
  (false, 193, .aload_n 0, 1, 0, []),
  (false, 194, .getfield 68, 3, 20, [20, 3, 5, 635]),
  (false, 197, .iconst 5, 1, 0, []),
  (false, 198, .iload 6, 2, 0, []),
  (false, 200, .imul, 1, 0, []),
  (false, 201, .iload 8, 2, 0, []),
  (false, 203, .iadd, 1, 0, []),
  (false, 204, .laload, 1, 0, []),
  (false, 205, .lastore, 1, 0, []),
  (false, 206, .aload_n 0, 1, 0, []),
  (false, 207, .getfield 68, 3, 20, [20, 3, 5, 635]),
  (false, 210, .iconst 5, 1, 0, []),
  (false, 211, .iload 6, 2, 0, []),
  (false, 213, .imul, 1, 0, []),
  (false, 214, .iload 8, 2, 0, []),
  (false, 216, .iadd, 1, 0, []),
  (false, 217, .lload 9, 2, 0, []),
  (false, 219, .lastore, 1, 0, []),
  (false, 220, .iinc 8 1, 3, 0, []),
  (false, 223, .goto (-68), 3, 0, [155]),
  (false, 226, .iload 7, 2, 0, []),
  (false, 228, .iload 6, 2, 0, []),
  (false, 230, .if_icmp .eq 20, 3, 0, [250]),
  (false, 233, .aload_n 0, 1, 0, []),
  (false, 234, .getfield 93, 3, 2, [2, 0, 5, 617]),
  (false, 237, .i2l, 1, 0, []),
  (false, 238, .lload 4, 2, 0, []),
  (false, 240, .lsub, 1, 0, []),
  (false, 241, .aload_n 0, 1, 0, []),
  (false, 242, .getfield 93, 3, 2, [2, 0, 5, 617]),
  (false, 245, .i2l, 1, 0, []),
  (false, 246, .lrem, 1, 0, []),
  (false, 247, .goto 5, 3, 0, [252]),
  (false, 250, .lload 4, 2, 0, []),
  (false, 252, .lstore 4, 2, 0, []),
  (false, 254, .lload 4, 2, 0, []),
  (false, 256, .aload_n 0, 1, 0, []),
  (false, 257, .getfield 68, 3, 20, [20, 3, 5, 635]),
  (false, 260, .iconst 5, 1, 0, []),
  (false, 261, .iload 6, 2, 0, []),
  (false, 263, .imul, 1, 0, []),
  (false, 264, .iload 6, 2, 0, []),
  (false, 266, .iadd, 1, 0, []),
  (false, 267, .laload, 1, 0, []),
  (false, 268, .lmul, 1, 0, []),
  (false, 269, .aload_n 0, 1, 0, []),
  (false, 270, .getfield 93, 3, 2, [2, 0, 5, 617]),
  (false, 273, .i2l, 1, 0, []),
  (false, 274, .lrem, 1, 0, []),
  (false, 275, .lstore 4, 2, 0, []),
  (false, 277, .aload_n 0, 1, 0, []),
  (false, 278, .aload_n 0, 1, 0, []),
  (false, 279, .getfield 68, 3, 20, [20, 3, 5, 635]),
  (false, 282, .iconst 5, 1, 0, []),
  (false, 283, .iload 6, 2, 0, []),
  (false, 285, .imul, 1, 0, []),
  (false, 286, .iload 6, 2, 0, []),
  (false, 288, .iadd, 1, 0, []),
  (false, 289, .laload, 1, 0, []),
  (false, 290, .invokevirtual 246, 3, 0, [130, 2, 1, 0, 0, 940, 942, 66, 943, 74, 5]),
  (false, 293, .lstore 8, 2, 0, []),
  (false, 295, .iload 6, 2, 0, []),
  (false, 297, .iconst 1, 1, 0, []),
  (false, 298, .iadd, 1, 0, []),
  (false, 299, .istore 10, 2, 0, []),
  (true, 301, .iload 10, 2, 0, []),
  (false, 303, .iload_n 3, 1, 0, []),
  (false, 304, .if_icmp .ge 100, 3, 0, [404]),
  (false, 307, .aload_n 0, 1, 0, []),
  (false, 308, .getfield 68, 3, 20, [20, 3, 5, 635]),
  (false, 311, .iconst 5, 1, 0, []),
  (false, 312, .iload 10, 2, 0, []),
  (false, 314, .imul, 1, 0, []),
  (false, 315, .iload 6, 2, 0, []),
  (false, 317, .iadd, 1, 0, []),
  (false, 318, .laload, 1, 0, []),
  (false, 319, .lload 8, 2, 0, []),
  (false, 321, .lmul, 1, 0, []),
  (false, 322, .aload_n 0, 1, 0, []),
  (false, 323, .getfield 93, 3, 2, [2, 0, 5, 617]),
  (false, 326, .i2l, 1, 0, []),
  (false, 327, .lrem, 1, 0, []),
  (false, 328, .lstore 11, 2, 0, []),
  (false, 330, .iload 6, 2, 0, []),
  (false, 332, .istore 13, 2, 0, []),
  (true, 334, .iload 13, 2, 0, []),
  (false, 336, .iload_n 3, 1, 0, []),
  (false, 337, .if_icmp .ge 61, 3, 0, [398]),
  (false, 340, .aload_n 0, 1, 0, []),
  (false, 341, .getfield 68, 3, 20, [20, 3, 5, 635]),
  (false, 344, .iconst 5, 1, 0, []),
  (false, 345, .iload 10, 2, 0, []),
  (false, 347, .imul, 1, 0, []),
  (false, 348, .iload 13, 2, 0, []),
  (false, 350, .iadd, 1, 0, []),
  (false, 351, .aload_n 0, 1, 0, []),
  (false, 352, .getfield 68, 3, 20, [20, 3, 5, 635]),
  (false, 355, .iconst 5, 1, 0, []),
  (false, 356, .iload 10, 2, 0, []),
  (false, 358, .imul, 1, 0, []),
  (false, 359, .iload 13, 2, 0, []),
  (false, 361, .iadd, 1, 0, []),
  (false, 362, .laload, 1, 0, []),
  (false, 363, .aload_n 0, 1, 0, []),
  (false, 364, .getfield 93, 3, 2, [2, 0, 5, 617]),
  (false, 367, .i2l, 1, 0, []),
  (false, 368, .lload 11, 2, 0, []),
  (false, 370, .lsub, 1, 0, []),
  (false, 371, .aload_n 0, 1, 0, []),
  (false, 372, .getfield 68, 3, 20, [20, 3, 5, 635]),
  (false, 375, .iconst 5, 1, 0, []),
  (false, 376, .iload 6, 2, 0, []),
  (false, 378, .imul, 1, 0, []),
  (false, 379, .iload 13, 2, 0, []),
  (false, 381, .iadd, 1, 0, []),
  (false, 382, .laload, 1, 0, []),
  (false, 383, .lmul, 1, 0, []),
  (false, 384, .ladd, 1, 0, []),
  (false, 385, .aload_n 0, 1, 0, []),
  (false, 386, .getfield 93, 3, 2, [2, 0, 5, 617]),
  (false, 389, .i2l, 1, 0, []),
  (false, 390, .lrem, 1, 0, []),
  (false, 391, .lastore, 1, 0, []),
  (false, 392, .iinc 13 1, 3, 0, []),
  (false, 395, .goto (-61), 3, 0, [334]),
  (false, 398, .iinc 10 1, 3, 0, []),
  (false, 401, .goto (-100), 3, 0, [301]),
  (false, 404, .iinc 6 1, 3, 0, []),
  (false, 407, .goto (-302), 3, 0, [105]),
  (false, 410, .lload 4, 2, 0, []),
  (false, 412, .lreturn, 1, 0, [])]
def cd_M_same : List CI := [(false, 0, .aload_n 0, 1, 0, []),
  (false, 1, .iconst 0, 1, 0, []),
  (false, 2, .putfield 1, 3, 0, [0, 0, 5, 615]),
  (false, 5, .iload_n 1, 1, 0, []),
  (false, 6, .invokestatic 226, 3, 0, [118, 1, 0, 0, 0, 893, 894, 0, 895, 74, 5]),
  (false, 9, .ifCond .eq 10, 3, 0, [19]),
  (false, 12, .iload_n 2, 1, 0, []),
  (false, 13, .invokestatic 226, 3, 0, [118, 1, 0, 0, 0, 893, 894, 0, 895, 74, 5]),
  (false, 16, .ifCond .ne 6, 3, 0, [22]),
  (false, 19, .ldc 103, 2, (-1000001), [698]),
  (false, 21, .ireturn, 1, 0, []),
  (false, 22, .aload_n 0, 1, 0, []),
  (false, 23, .getfield 53, 3, 15, [15, 3, 5, 630]),
  (false, 26, .iload_n 1, 1, 0, []),
  (false, 27, .iaload, 1, 0, []),
  (false, 28, .aload_n 0, 1, 0, []),
  (false, 29, .getfield 53, 3, 15, [15, 3, 5, 630]),
  (false, 32, .iload_n 2, 1, 0, []),
  (false, 33, .iaload, 1, 0, []),
  (false, 34, .if_icmp .ne 7, 3, 0, [41]),
  (false, 37, .iconst 1, 1, 0, []),
  (false, 38, .goto 4, 3, 0, [42]),
  (false, 41, .iconst 0, 1, 0, []),
  (false, 42, .istore_n 3, 1, 0, []),
  (false, 43, .iconst 1, 1, 0, []),
  (false, 44, .istore 4, 2, 0, []),
  (true, 46, .iload 4, 2, 0, []),
  (false, 48, .aload_n 0, 1, 0, []),
  (false, 49, .getfield 53, 3, 15, [15, 3, 5, 630]),
  (false, 52, .iload_n 1, 1, 0, []),
  (false, 53, .iaload, 1, 0, []),
  (false, 54, .if_icmp .gt 37, 3, 0, [91]),
  (false, 57, .iload_n 3, 1, 0, []),
  (false, 58, .ifCond .eq 25, 3, 0, [83]),
  (false, 61, .aload_n 0, 1, 0, []),
  (false, 62, .iload_n 1, 1, 0, []),
  (false, 63, .iload 4, 2, 0, []),
  (false, 65, .invokevirtual 215, 3, 0, [119, 3, 1, 0, 0, 909, 911, 63, 912, 74, 5]),
  (false, 68, .aload_n 0, 1, 0, []),
  (false, 69, .iload_n 2, 1, 0, []),
  (false, 70, .iload 4, 2, 0, []),
  (false, 72, .invokevirtual 215, 3, 0, [119, 3, 1, 0, 0, 909, 911, 63, 912, 74, 5]),
  (false, 75, .lcmp, 1, 0, []),
  (false, 76, .ifCond .ne 7, 3, 0, [83]),
  (false, 79, .iconst 1, 1, 0, []),
  (false, 80, .goto 4, 3, 0, [84]),
  (false, 83, .iconst 0, 1, 0, []),
  (false, 84, .istore_n 3, 1, 0, []),
  (false, 85, .iinc 4 1, 3, 0, []),
  (false, 88, .goto (-42), 3, 0, [46]),
  (false, 91, .iload_n 3, 1, 0, []),
  (false, 92, .ifCond .eq 7, 3, 0, [99]),
  (false, 95, .iconst 1, 1, 0, []),
  (false, 96, .goto 4, 3, 0, [100]),
  (false, 99, .iconst 0, 1, 0, []),
  (false, 100, .ireturn, 1, 0, [])]
def cd_M_findPairings : List CI := [(false, 0, .iconst 0, 1, 0, []),
  (false, 1, .istore_n 1, 1, 0, []),
  (true, 2, .iload_n 1, 1, 0, []),
  (false, 3, .bipush 10, 2, 0, []),
  (false, 5, .if_icmp .gt 142, 3, 0, [147]),
  (false, 8, .iconst 0, 1, 0, []),
  (false, 9, .istore_n 2, 1, 0, []),
  (true, 10, .iload_n 2, 1, 0, []),
  (false, 11, .bipush 6, 2, 0, []),
  (false, 13, .if_icmp .ge 128, 3, 0, [141]),
  (false, 16, .iload_n 1, 1, 0, []),
  (false, 17, .ifCond .ne 7, 3, 0, [24]),
  (false, 20, .iload_n 2, 1, 0, []),
  (false, 21, .ifCond .eq 12, 3, 0, [33]),
  (false, 24, .iload_n 1, 1, 0, []),
  (false, 25, .iconst 1, 1, 0, []),
  (false, 26, .if_icmp .ne 11, 3, 0, [37]),
  (false, 29, .iload_n 2, 1, 0, []),
  (false, 30, .ifCond .ne 7, 3, 0, [37]),
  (false, 33, .lconst 1, 1, 1, []),
  (false, 34, .goto 4, 3, 0, [38]),
  (false, 37, .lconst 0, 1, 0, []),
  (false, 38, .lstore_n 3, 1, 0, []),
  (false, 39, .iload_n 1, 1, 0, []),
  (false, 40, .iconst 1, 1, 0, []),
  (false, 41, .if_icmp .le 82, 3, 0, [123]),
  (false, 44, .ldc2_w 101, 3, 2, [697]),
  (false, 47, .iconst 2, 1, 0, []),
  (false, 48, .iload_n 1, 1, 0, []),
  (false, 49, .imul, 1, 0, []),
  (false, 50, .iconst 1, 1, 0, []),
  (false, 51, .isub, 1, 0, []),
  (false, 52, .i2l, 1, 0, []),
  (false, 53, .lmul, 1, 0, []),
  (false, 54, .aload_n 0, 1, 0, []),
  (false, 55, .getfield 71, 3, 21, [21, 3, 5, 636]),
  (false, 58, .bipush 6, 2, 0, []),
  (false, 60, .iload_n 1, 1, 0, []),
  (false, 61, .iconst 1, 1, 0, []),
  (false, 62, .isub, 1, 0, []),
  (false, 63, .imul, 1, 0, []),
  (false, 64, .iload_n 2, 1, 0, []),
  (false, 65, .iadd, 1, 0, []),
  (false, 66, .laload, 1, 0, []),
  (false, 67, .lmul, 1, 0, []),
  (false, 68, .lstore_n 3, 1, 0, []),
  (false, 69, .lload_n 3, 1, 0, []),
  (false, 70, .iload_n 2, 1, 0, []),
  (false, 71, .ifCond .le 42, 3, 0, [113]),
  (false, 74, .ldc2_w 101, 3, 2, [697]),
  (false, 77, .iload_n 1, 1, 0, []),
  (false, 78, .i2l, 1, 0, []),
  (false, 79, .lmul, 1, 0, []),
  (false, 80, .lconst 1, 1, 1, []),
  (false, 81, .lsub, 1, 0, []),
  (false, 82, .iload_n 1, 1, 0, []),
  (false, 83, .iconst 1, 1, 0, []),
  (false, 84, .isub, 1, 0, []),
  (false, 85, .i2l, 1, 0, []),
  (false, 86, .lmul, 1, 0, []),
  (false, 87, .iconst 2, 1, 0, []),
  (false, 88, .iload_n 1, 1, 0, []),
  (false, 89, .imul, 1, 0, []),
  (false, 90, .iconst 3, 1, 0, []),
  (false, 91, .isub, 1, 0, []),
  (false, 92, .i2l, 1, 0, []),
  (false, 93, .lmul, 1, 0, []),
  (false, 94, .aload_n 0, 1, 0, []),
  (false, 95, .getfield 71, 3, 21, [21, 3, 5, 636]),
  (false, 98, .bipush 6, 2, 0, []),
  (false, 100, .iload_n 1, 1, 0, []),
  (false, 101, .iconst 2, 1, 0, []),
  (false, 102, .isub, 1, 0, []),
  (false, 103, .imul, 1, 0, []),
  (false, 104, .iload_n 2, 1, 0, []),
  (false, 105, .iadd, 1, 0, []),
  (false, 106, .iconst 1, 1, 0, []),
  (false, 107, .isub, 1, 0, []),
  (false, 108, .laload, 1, 0, []),
  (false, 109, .lmul, 1, 0, []),
  (false, 110, .goto 4, 3, 0, [114]),
  (false, 113, .lconst 0, 1, 0, []),
  (false, 114, .ladd, 1, 0, []),
  (false, 115, .lstore_n 3, 1, 0, []),
  (false, 116, .lload_n 3, 1, 0, []),
  (false, 117, .iload_n 1, 1, 0, []),
  (false, 118, .iconst 1, 1, 0, []),
  (false, 119, .iadd, 1, 0, []),
  (false, 120, .i2l, 1, 0, []),
  (false, 121, .ldiv, 1, 0, []),
  (false, 122, .lstore_n 3, 1, 0, []),
  (false, 123, .aload_n 0, 1, 0, []),
  (false, 124, .getfield 71, 3, 21, [21, 3, 5, 636]),
  (false, 127, .bipush 6, 2, 0, []),
  (false, 129, .iload_n 1, 1, 0, []),
  (false, 130, .imul, 1, 0, []),
  (false, 131, .iload_n 2, 1, 0, []),
  (false, 132, .iadd, 1, 0, []),
  (false, 133, .lload_n 3, 1, 0, []),
  (false, 134, .lastore, 1, 0, []),
  (false, 135, .iinc 2 1, 3, 0, []),
  (false, 138, .goto (-128), 3, 0, [10]),
  (false, 141, .iinc 1 1, 3, 0, []),
  (false, 144, .goto (-142), 3, 0, [2]),
  (false, 147, .return_, 1, 0, [])]
def cd_M_genus : List CI := [(false, 0, .aload_n 0, 1, 0, []),
  (false, 1, .iconst 0, 1, 0, []),
  (false, 2, .putfield 1, 3, 0, [0, 0, 5, 615]),
  (false, 5, .iload_n 1, 1, 0, []),
  (false, 6, .i2l, 1, 0, []),
  (false, 7, .lconst 1, 1, 1, []),
  (false, 8, .ldc2_w 138, 3, 10, [725]),
  (false, 11, .invokestatic 84, 3, 0, [67, 3, 0, 0, 0, 608, 609, 0, 610, 74, 5]),
  (false, 14, .ifCond .eq 7, 3, 0, [21]),
  (false, 17, .iload_n 2, 1, 0, []),
  (false, 18, .ifCond .ge 7, 3, 0, [25]),
  (false, 21, .ldc2_w 108, 3, (-1000001), [708]),
  (false, 24, .lreturn, 1, 0, []),
  (false, 25, .aload_n 0, 1, 0, []),
  (false, 26, .invokevirtual 249, 3, 0, [133, 1, 3, 0, 0, 952, 954, 67, 955, 74, 5]),
  (false, 29, .iload_n 2, 1, 0, []),
  (false, 30, .iconst 5, 1, 0, []),
  (false, 31, .if_icmp .le 7, 3, 0, [38]),
  (false, 34, .lconst 0, 1, 0, []),
  (false, 35, .goto 14, 3, 0, [49]),
  (false, 38, .aload_n 0, 1, 0, []),
  (false, 39, .getfield 71, 3, 21, [21, 3, 5, 636]),
  (false, 42, .bipush 6, 2, 0, []),
  (false, 44, .iload_n 1, 1, 0, []),
  (false, 45, .imul, 1, 0, []),
  (false, 46, .iload_n 2, 1, 0, []),
  (false, 47, .iadd, 1, 0, []),
  (false, 48, .laload, 1, 0, []),
  (false, 49, .lreturn, 1, 0, [])]
def cd_M_mean : List CI := [(false, 0, .aload_n 0, 1, 0, []),
  (false, 1, .iconst 0, 1, 0, []),
  (false, 2, .putfield 1, 3, 0, [0, 0, 5, 615]),
  (false, 5, .iload_n 1, 1, 0, []),
  (false, 6, .i2l, 1, 0, []),
  (false, 7, .lconst 1, 1, 1, []),
  (false, 8, .ldc2_w 138, 3, 10, [725]),
  (false, 11, .invokestatic 84, 3, 0, [67, 3, 0, 0, 0, 608, 609, 0, 610, 74, 5]),
  (false, 14, .ifCond .eq 15, 3, 0, [29]),
  (false, 17, .iload_n 2, 1, 0, []),
  (false, 18, .i2l, 1, 0, []),
  (false, 19, .lconst 0, 1, 0, []),
  (false, 20, .ldc2_w 252, 3, 1000, [960]),
  (false, 23, .invokestatic 84, 3, 0, [67, 3, 0, 0, 0, 608, 609, 0, 610, 74, 5]),
  (false, 26, .ifCond .ne 7, 3, 0, [33]),
  (false, 29, .ldc2_w 108, 3, (-1000001), [708]),
  (false, 32, .lreturn, 1, 0, []),
  (false, 33, .aload_n 0, 1, 0, []),
  (false, 34, .invokevirtual 249, 3, 0, [133, 1, 3, 0, 0, 952, 954, 67, 955, 74, 5]),
  (false, 37, .lconst 0, 1, 0, []),
  (false, 38, .lstore_n 3, 1, 0, []),
  (false, 39, .iconst 0, 1, 0, []),
  (false, 40, .istore 5, 2, 0, []),
  (true, 42, .iconst 2, 1, 0, []),
  (false, 43, .iload 5, 2, 0, []),
  (false, 45, .imul, 1, 0, []),
  (false, 46, .iload_n 1, 1, 0, []),
  (false, 47, .if_icmp .gt 75, 3, 0, [122]),
  (false, 50, .aload_n 0, 1, 0, []),
  (false, 51, .getfield 71, 3, 21, [21, 3, 5, 636]),
  (false, 54, .bipush 6, 2, 0, []),
  (false, 56, .iload_n 1, 1, 0, []),
  (false, 57, .imul, 1, 0, []),
  (false, 58, .iload 5, 2, 0, []),
  (false, 60, .iadd, 1, 0, []),
  (false, 61, .laload, 1, 0, []),
  (false, 62, .aload_n 0, 1, 0, []),
  (false, 63, .getfield 93, 3, 2, [2, 0, 5, 617]),
  (false, 66, .i2l, 1, 0, []),
  (false, 67, .lrem, 1, 0, []),
  (false, 68, .lstore 6, 2, 0, []),
  (false, 70, .iconst 0, 1, 0, []),
  (false, 71, .istore 8, 2, 0, []),
  (true, 73, .iload 8, 2, 0, []),
  (false, 75, .iload_n 1, 1, 0, []),
  (false, 76, .iconst 1, 1, 0, []),
  (false, 77, .iadd, 1, 0, []),
  (false, 78, .iconst 2, 1, 0, []),
  (false, 79, .iload 5, 2, 0, []),
  (false, 81, .imul, 1, 0, []),
  (false, 82, .isub, 1, 0, []),
  (false, 83, .if_icmp .ge 22, 3, 0, [105]),
  (false, 86, .lload 6, 2, 0, []),
  (false, 88, .iload_n 2, 1, 0, []),
  (false, 89, .i2l, 1, 0, []),
  (false, 90, .lmul, 1, 0, []),
  (false, 91, .aload_n 0, 1, 0, []),
  (false, 92, .getfield 93, 3, 2, [2, 0, 5, 617]),
  (false, 95, .i2l, 1, 0, []),
  (false, 96, .lrem, 1, 0, []),
  (false, 97, .lstore 6, 2, 0, []),
  (false, 99, .iinc 8 1, 3, 0, []),
  (false, 102, .goto (-29), 3, 0, [73]),
  (false, 105, .lload_n 3, 1, 0, []),
  (false, 106, .lload 6, 2, 0, []),
  (false, 108, .ladd, 1, 0, []),
  (false, 109, .aload_n 0, 1, 0, []),
  (false, 110, .getfield 93, 3, 2, [2, 0, 5, 617]),
  (false, 113, .i2l, 1, 0, []),
  (false, 114, .lrem, 1, 0, []),
  (false, 115, .lstore_n 3, 1, 0, []),
  (false, 116, .iinc 5 1, 3, 0, []),
  (false, 119, .goto (-77), 3, 0, [42]),
  (false, 122, .lload_n 3, 1, 0, []),
  (false, 123, .lreturn, 1, 0, [])]
def cd_M_walks : List CI := [(false, 0, .aload_n 0, 1, 0, []),
  (false, 1, .iconst 0, 1, 0, []),
  (false, 2, .putfield 1, 3, 0, [0, 0, 5, 615]),
  (false, 5, .iload_n 1, 1, 0, []),
  (false, 6, .i2l, 1, 0, []),
  (false, 7, .lconst 1, 1, 1, []),
  (false, 8, .ldc2_w 174, 3, 4, [815]),
  (false, 11, .invokestatic 84, 3, 0, [67, 3, 0, 0, 0, 608, 609, 0, 610, 74, 5]),
  (false, 14, .ifCond .eq 15, 3, 0, [29]),
  (false, 17, .iload_n 2, 1, 0, []),
  (false, 18, .i2l, 1, 0, []),
  (false, 19, .lconst 0, 1, 0, []),
  (false, 20, .ldc2_w 254, 3, 12, [965]),
  (false, 23, .invokestatic 84, 3, 0, [67, 3, 0, 0, 0, 608, 609, 0, 610, 74, 5]),
  (false, 26, .ifCond .ne 7, 3, 0, [33]),
  (false, 29, .ldc2_w 108, 3, (-1000001), [708]),
  (false, 32, .lreturn, 1, 0, []),
  (false, 33, .iconst 0, 1, 0, []),
  (false, 34, .istore_n 3, 1, 0, []),
  (true, 35, .iload_n 3, 1, 0, []),
  (false, 36, .bipush 14, 2, 0, []),
  (false, 38, .if_icmp .ge 24, 3, 0, [62]),
  (false, 41, .aload_n 0, 1, 0, []),
  (false, 42, .getfield 74, 3, 22, [22, 3, 5, 637]),
  (false, 45, .iload_n 3, 1, 0, []),
  (false, 46, .iload_n 3, 1, 0, []),
  (false, 47, .ifCond .ne 7, 3, 0, [54]),
  (false, 50, .lconst 1, 1, 1, []),
  (false, 51, .goto 4, 3, 0, [55]),
  (false, 54, .lconst 0, 1, 0, []),
  (false, 55, .lastore, 1, 0, []),
  (false, 56, .iinc 3 1, 3, 0, []),
  (false, 59, .goto (-24), 3, 0, [35]),
  (false, 62, .iconst 0, 1, 0, []),
  (false, 63, .istore_n 3, 1, 0, []),
  (true, 64, .iload_n 3, 1, 0, []),
  (false, 65, .iload_n 2, 1, 0, []),
  (false, 66, .if_icmp .ge 114, 3, 0, [180]),
  (false, 69, .iconst 0, 1, 0, []),
  (false, 70, .istore 4, 2, 0, []),
  (true, 72, .iload 4, 2, 0, []),
  (false, 74, .bipush 13, 2, 0, []),
  (false, 76, .if_icmp .ge 68, 3, 0, [144]),
  (false, 79, .aload_n 0, 1, 0, []),
  (false, 80, .getfield 77, 3, 23, [23, 3, 5, 638]),
  (false, 83, .iload 4, 2, 0, []),
  (false, 85, .aload_n 0, 1, 0, []),
  (false, 86, .getfield 74, 3, 22, [22, 3, 5, 637]),
  (false, 89, .iload 4, 2, 0, []),
  (false, 91, .iconst 1, 1, 0, []),
  (false, 92, .iadd, 1, 0, []),
  (false, 93, .laload, 1, 0, []),
  (false, 94, .iload 4, 2, 0, []),
  (false, 96, .ifCond .ne 7, 3, 0, [103]),
  (false, 99, .lconst 0, 1, 0, []),
  (false, 100, .goto 36, 3, 0, [136]),
  (false, 103, .aload_n 0, 1, 0, []),
  (false, 104, .getfield 74, 3, 22, [22, 3, 5, 637]),
  (false, 107, .iload 4, 2, 0, []),
  (false, 109, .iconst 1, 1, 0, []),
  (false, 110, .isub, 1, 0, []),
  (false, 111, .laload, 1, 0, []),
  (false, 112, .iload 4, 2, 0, []),
  (false, 114, .iconst 1, 1, 0, []),
  (false, 115, .if_icmp .ne 12, 3, 0, [127]),
  (false, 118, .ldc2_w 101, 3, 2, [697]),
  (false, 121, .iload_n 1, 1, 0, []),
  (false, 122, .i2l, 1, 0, []),
  (false, 123, .lmul, 1, 0, []),
  (false, 124, .goto 11, 3, 0, [135]),
  (false, 127, .ldc2_w 101, 3, 2, [697]),
  (false, 130, .iload_n 1, 1, 0, []),
  (false, 131, .i2l, 1, 0, []),
  (false, 132, .lmul, 1, 0, []),
  (false, 133, .lconst 1, 1, 1, []),
  (false, 134, .lsub, 1, 0, []),
  (false, 135, .lmul, 1, 0, []),
  (false, 136, .ladd, 1, 0, []),
  (false, 137, .lastore, 1, 0, []),
  (false, 138, .iinc 4 1, 3, 0, []),
  (false, 141, .goto (-69), 3, 0, [72]),
  (false, 144, .iconst 0, 1, 0, []),
  (false, 145, .istore 4, 2, 0, []),
  (true, 147, .iload 4, 2, 0, []),
  (false, 149, .bipush 13, 2, 0, []),
  (false, 151, .if_icmp .ge 23, 3, 0, [174]),
  (false, 154, .aload_n 0, 1, 0, []),
  (false, 155, .getfield 74, 3, 22, [22, 3, 5, 637]),
  (false, 158, .iload 4, 2, 0, []),
  (false, 160, .aload_n 0, 1, 0, []),
  (false, 161, .getfield 77, 3, 23, [23, 3, 5, 638]),
  (false, 164, .iload 4, 2, 0, []),
  (false, 166, .laload, 1, 0, []),
  (false, 167, .lastore, 1, 0, []),
  (false, 168, .iinc 4 1, 3, 0, []),
  (false, 171, .goto (-24), 3, 0, [147]),
  (false, 174, .iinc 3 1, 3, 0, []),
  (false, 177, .goto (-113), 3, 0, [64]),
  (false, 180, .aload_n 0, 1, 0, []),
  (false, 181, .getfield 74, 3, 22, [22, 3, 5, 637]),
  (false, 184, .iconst 0, 1, 0, []),
  (false, 185, .laload, 1, 0, []),
  (false, 186, .lreturn, 1, 0, [])]
def cd_M_count : List CI := [(false, 0, .aload_n 0, 1, 0, []),
  (false, 1, .iconst 0, 1, 0, []),
  (false, 2, .putfield 1, 3, 0, [0, 0, 5, 615]),
  (false, 5, .iconst 0, 1, 0, []),
  (false, 6, .istore_n 2, 1, 0, []),
  (false, 7, .iload_n 1, 1, 0, []),
  (false, 8, .tableswitch 121 0 6 #[44, 77, 77, 77, 77, 77, 116], 44, 0, [129, 52, 85, 85, 85, 85, 85, 124]),
  (false, 52, .iconst 0, 1, 0, []),
  (false, 53, .istore_n 3, 1, 0, []),
  (true, 54, .iload_n 3, 1, 0, []),
  (false, 55, .bipush 8, 2, 0, []),
  (false, 57, .if_icmp .ge 26, 3, 0, [83]),
  (false, 60, .iload_n 2, 1, 0, []),
  (false, 61, .aload_n 0, 1, 0, []),
  (false, 62, .getfield 17, 3, 3, [3, 3, 5, 618]),
  (false, 65, .iload_n 3, 1, 0, []),
  (false, 66, .iaload, 1, 0, []),
  (false, 67, .ifCond .lt 7, 3, 0, [74]),
  (false, 70, .iconst 1, 1, 0, []),
  (false, 71, .goto 4, 3, 0, [75]),
  (false, 74, .iconst 0, 1, 0, []),
  (false, 75, .iadd, 1, 0, []),
  (false, 76, .istore_n 2, 1, 0, []),
  (false, 77, .iinc 3 1, 3, 0, []),
  (false, 80, .goto (-26), 3, 0, [54]),
  (false, 83, .iload_n 2, 1, 0, []),
  (false, 84, .ireturn, 1, 0, []),
  (false, 85, .iconst 0, 1, 0, []),
  (false, 86, .istore_n 3, 1, 0, []),
  (true, 87, .iload_n 3, 1, 0, []),
  (false, 88, .bipush 10, 2, 0, []),
  (false, 90, .if_icmp .ge 32, 3, 0, [122]),
  (false, 93, .iload_n 2, 1, 0, []),
  (false, 94, .aload_n 0, 1, 0, []),
  (false, 95, .getfield 28, 3, 6, [6, 3, 5, 621]),
  (false, 98, .iload_n 3, 1, 0, []),
  (false, 99, .iaload, 1, 0, []),
  (false, 100, .iload_n 1, 1, 0, []),
  (false, 101, .iconst 1, 1, 0, []),
  (false, 102, .isub, 1, 0, []),
  (false, 103, .invokestatic 154, 3, 0, [91, 2, 0, 0, 0, 780, 781, 0, 782, 74, 5]),
  (false, 106, .ifCond .eq 7, 3, 0, [113]),
  (false, 109, .iconst 1, 1, 0, []),
  (false, 110, .goto 4, 3, 0, [114]),
  (false, 113, .iconst 0, 1, 0, []),
  (false, 114, .iadd, 1, 0, []),
  (false, 115, .istore_n 2, 1, 0, []),
  (false, 116, .iinc 3 1, 3, 0, []),
  (false, 119, .goto (-32), 3, 0, [87]),
  (false, 122, .iload_n 2, 1, 0, []),
  (false, 123, .ireturn, 1, 0, []),
  (false, 124, .aload_n 0, 1, 0, []),
  (false, 125, .getfield 93, 3, 2, [2, 0, 5, 617]),
  (false, 128, .ireturn, 1, 0, []),
  (false, 129, .ldc 103, 2, (-1000001), [698]),
  (false, 131, .ireturn, 1, 0, [])]
def cd_M_status : List CI := [(false, 0, .aload_n 0, 1, 0, []),
  (false, 1, .iconst 0, 1, 0, []),
  (false, 2, .putfield 1, 3, 0, [0, 0, 5, 615]),
  (false, 5, .aload_n 0, 1, 0, []),
  (false, 6, .getfield 7, 3, 1, [1, 0, 5, 616]),
  (false, 9, .ireturn, 1, 0, [])]
def cd_C_init : List CI := [(false, 0, .aload_n 0, 1, 0, []),
  (false, 1, .invokespecial 3, 3, 0, [1001, 1, 3, 0, 0, 120, 84, 85]),
  (false, 4, .aload_n 0, 1, 0, []),
  (false, 5, .lload_n 1, 1, 0, []),
  (false, 6, .putfield 9, 3, 0, [0, 1, 0, 135]),
  (false, 9, .aload_n 0, 1, 0, []),
  (false, 10, .new 15, 3, 0, [2, 121, 122, 73]),
  (false, 13, .dup, 1, 0, []),
  (false, 14, .lload_n 1, 1, 0, []),
  (false, 15, .invokespecial 17, 3, 0, [148, 2, 3, 10, 90, 123, 124, 0, 125, 73, 2]),
  (false, 18, .putfield 20, 3, 1, [1, 3, 0, 136]),
  (false, 21, .aload_n 0, 1, 0, []),
  (false, 22, .new 15, 3, 0, [2, 121, 122, 73]),
  (false, 25, .dup, 1, 0, []),
  (false, 26, .lload_n 1, 1, 0, []),
  (false, 27, .invokespecial 17, 3, 0, [148, 2, 3, 10, 90, 123, 124, 0, 125, 73, 2]),
  (false, 30, .putfield 24, 3, 2, [2, 3, 0, 137]),
  (false, 33, .return_, 1, 0, [])]
def cd_C_toMoments : List CI := [(false, 0, .aload_n 0, 1, 0, []),
  (false, 1, .getfield 20, 3, 1, [1, 3, 0, 136]),
  (false, 4, .lconst 1, 1, 1, []),
  (false, 5, .invokevirtual 27, 3, 0, [149, 2, 3, 0, 0, 489, 490, 491, 492, 73, 2]),
  (false, 8, .iconst 1, 1, 0, []),
  (false, 9, .istore 5, 2, 0, []),
  (true, 11, .iload 5, 2, 0, []),
  (false, 13, .iload_n 2, 1, 0, []),
  (false, 14, .if_icmp .gt 46, 3, 0, [60]),
  (false, 17, .aload 4, 2, 0, []),
  (false, 19, .iload 5, 2, 0, []),
  (false, 21, .aload_n 3, 1, 0, []),
  (false, 22, .iload 5, 2, 0, []),
  (false, 24, .laload, 1, 0, []),
  (false, 25, .aload_n 0, 1, 0, []),
  (false, 26, .iload_n 1, 1, 0, []),
  (false, 27, .iload 5, 2, 0, []),
  (false, 29, .aload_n 3, 1, 0, []),
  (false, 30, .aload 4, 2, 0, []),
  (false, 32, .invokevirtual 30, 3, 0, [143, 5, 1, 0, 0, 493, 495, 23, 496, 72, 0]),
  (false, 35, .ladd, 1, 0, []),
  (false, 36, .aload_n 0, 1, 0, []),
  (false, 37, .getfield 9, 3, 0, [0, 1, 0, 135]),
  (false, 40, .lrem, 1, 0, []),
  (false, 41, .lastore, 1, 0, []),
  (false, 42, .aload_n 0, 1, 0, []),
  (false, 43, .iload_n 1, 1, 0, []),
  (false, 44, .iload 5, 2, 0, []),
  (false, 46, .aload 4, 2, 0, []),
  (false, 48, .iload 5, 2, 0, []),
  (false, 50, .laload, 1, 0, []),
  (false, 51, .invokevirtual 34, 3, 0, [142, 4, 3, 0, 0, 501, 503, 24, 504, 72, 0]),
  (false, 54, .iinc 5 1, 3, 0, []),
  (false, 57, .goto (-46), 3, 0, [11]),
  (false, 60, .return_, 1, 0, [])]
def cd_C_ofMoments : List CI := [(false, 0, .aload_n 0, 1, 0, []),
  (false, 1, .getfield 20, 3, 1, [1, 3, 0, 136]),
  (false, 4, .lconst 1, 1, 1, []),
  (false, 5, .invokevirtual 27, 3, 0, [149, 2, 3, 0, 0, 489, 490, 491, 492, 73, 2]),
  (false, 8, .iconst 1, 1, 0, []),
  (false, 9, .istore 5, 2, 0, []),
  (true, 11, .iload 5, 2, 0, []),
  (false, 13, .iload_n 2, 1, 0, []),
  (false, 14, .if_icmp .gt 50, 3, 0, [64]),
  (false, 17, .aload 4, 2, 0, []),
  (false, 19, .iload 5, 2, 0, []),
  (false, 21, .aload_n 3, 1, 0, []),
  (false, 22, .iload 5, 2, 0, []),
  (false, 24, .laload, 1, 0, []),
  (false, 25, .aload_n 0, 1, 0, []),
  (false, 26, .getfield 9, 3, 0, [0, 1, 0, 135]),
  (false, 29, .ladd, 1, 0, []),
  (false, 30, .aload_n 0, 1, 0, []),
  (false, 31, .iload_n 1, 1, 0, []),
  (false, 32, .iload 5, 2, 0, []),
  (false, 34, .aload 4, 2, 0, []),
  (false, 36, .aload_n 3, 1, 0, []),
  (false, 37, .invokevirtual 30, 3, 0, [143, 5, 1, 0, 0, 493, 495, 23, 496, 72, 0]),
  (false, 40, .lsub, 1, 0, []),
  (false, 41, .aload_n 0, 1, 0, []),
  (false, 42, .getfield 9, 3, 0, [0, 1, 0, 135]),
  (false, 45, .lrem, 1, 0, []),
  (false, 46, .lastore, 1, 0, []),
  (false, 47, .aload_n 0, 1, 0, []),
  (false, 48, .iload_n 1, 1, 0, []),
  (false, 49, .iload 5, 2, 0, []),
  (false, 51, .aload_n 3, 1, 0, []),
  (false, 52, .iload 5, 2, 0, []),
  (false, 54, .laload, 1, 0, []),
  (false, 55, .invokevirtual 34, 3, 0, [142, 4, 3, 0, 0, 501, 503, 24, 504, 72, 0]),
  (false, 58, .iinc 5 1, 3, 0, []),
  (false, 61, .goto (-50), 3, 0, [11]),
  (false, 64, .return_, 1, 0, [])]
def cd_C_keepPowers : List CI := [(false, 0, .iload_n 1, 1, 0, []),
  (false, 1, .iconst 1, 1, 0, []),
  (false, 2, .if_icmp .ne 12, 3, 0, [14]),
  (false, 5, .aload_n 0, 1, 0, []),
  (false, 6, .getfield 20, 3, 1, [1, 3, 0, 136]),
  (false, 9, .iload_n 2, 1, 0, []),
  (false, 10, .lload_n 3, 1, 0, []),
  (false, 11, .invokevirtual 38, 3, 0, [150, 3, 3, 0, 0, 505, 506, 507, 508, 73, 2]),
  (false, 14, .return_, 1, 0, [])]
def cd_C_sumOfFiner : List CI := [(false, 0, .lconst 0, 1, 0, []),
  (false, 1, .lstore 5, 2, 0, []),
  (false, 3, .lconst 1, 1, 1, []),
  (false, 4, .lstore 7, 2, 0, []),
  (false, 6, .iconst 1, 1, 0, []),
  (false, 7, .istore 9, 2, 0, []),
  (true, 9, .iload 9, 2, 0, []),
  (false, 11, .iload_n 2, 1, 0, []),
  (false, 12, .if_icmp .ge 86, 3, 0, [98]),
  (false, 15, .iload_n 1, 1, 0, []),
  (false, 16, .iconst 1, 1, 0, []),
  (false, 17, .if_icmp .ne 19, 3, 0, [36]),
  (false, 20, .aload_n 0, 1, 0, []),
  (false, 21, .getfield 20, 3, 1, [1, 3, 0, 136]),
  (false, 24, .iload 9, 2, 0, []),
  (false, 26, .iload_n 2, 1, 0, []),
  (false, 27, .iload 9, 2, 0, []),
  (false, 29, .isub, 1, 0, []),
  (false, 30, .invokevirtual 42, 3, 0, [151, 3, 1, 0, 0, 497, 498, 499, 500, 73, 2]),
  (false, 33, .goto 10, 3, 0, [43]),
  (false, 36, .aload 4, 2, 0, []),
  (false, 38, .iload_n 2, 1, 0, []),
  (false, 39, .iload 9, 2, 0, []),
  (false, 41, .isub, 1, 0, []),
  (false, 42, .laload, 1, 0, []),
  (false, 43, .lstore 10, 2, 0, []),
  (false, 45, .iload_n 1, 1, 0, []),
  (false, 46, .ifCond .ne 15, 3, 0, [61]),
  (false, 49, .lload 10, 2, 0, []),
  (false, 51, .lload 7, 2, 0, []),
  (false, 53, .lmul, 1, 0, []),
  (false, 54, .aload_n 0, 1, 0, []),
  (false, 55, .getfield 9, 3, 0, [0, 1, 0, 135]),
  (false, 58, .lrem, 1, 0, []),
  (false, 59, .lstore 10, 2, 0, []),
  (false, 61, .lload 5, 2, 0, []),
  (false, 63, .aload_n 3, 1, 0, []),
  (false, 64, .iload 9, 2, 0, []),
  (false, 66, .laload, 1, 0, []),
  (false, 67, .lload 10, 2, 0, []),
  (false, 69, .lmul, 1, 0, []),
  (false, 70, .ladd, 1, 0, []),
  (false, 71, .aload_n 0, 1, 0, []),
  (false, 72, .getfield 9, 3, 0, [0, 1, 0, 135]),
  (false, 75, .lrem, 1, 0, []),
  (false, 76, .lstore 5, 2, 0, []),
  (false, 78, .lload 7, 2, 0, []),
  (false, 80, .iload_n 2, 1, 0, []),
  (false, 81, .iload 9, 2, 0, []),
  (false, 83, .isub, 1, 0, []),
  (false, 84, .i2l, 1, 0, []),
  (false, 85, .lmul, 1, 0, []),
  (false, 86, .iload 9, 2, 0, []),
  (false, 88, .i2l, 1, 0, []),
  (false, 89, .ldiv, 1, 0, []),
  (false, 90, .lstore 7, 2, 0, []),
  (false, 92, .iinc 9 1, 3, 0, []),
  (false, 95, .goto (-86), 3, 0, [9]),
  (false, 98, .lload 5, 2, 0, []),
  (false, 100, .lreturn, 1, 0, [])]
def cd_C_multiply : List CI := [(false, 0, .aload_n 0, 1, 0, []),
  (false, 1, .getfield 20, 3, 1, [1, 3, 0, 136]),
  (false, 4, .astore 4, 2, 0, []),
  (false, 6, .aload_n 0, 1, 0, []),
  (false, 7, .getfield 24, 3, 2, [2, 3, 0, 137]),
  (false, 10, .astore 5, 2, 0, []),
  (false, 12, .aload 4, 2, 0, []),
  (false, 14, .lconst 0, 1, 0, []),
  (false, 15, .invokevirtual 27, 3, 0, [149, 2, 3, 0, 0, 489, 490, 491, 492, 73, 2]),
  (false, 18, .aload 5, 2, 0, []),
  (false, 20, .lconst 0, 1, 0, []),
  (false, 21, .invokevirtual 27, 3, 0, [149, 2, 3, 0, 0, 489, 490, 491, 492, 73, 2]),
  (false, 24, .iconst 1, 1, 0, []),
  (false, 25, .istore 6, 2, 0, []),
  (true, 27, .iload 6, 2, 0, []),
  (false, 29, .iload_n 1, 1, 0, []),
  (false, 30, .if_icmp .gt 49, 3, 0, [79]),
  (false, 33, .aload 5, 2, 0, []),
  (false, 35, .aload_n 2, 1, 0, []),
  (false, 36, .iload 6, 2, 0, []),
  (false, 38, .iconst 1, 1, 0, []),
  (false, 39, .invokevirtual 46, 3, 0, [152, 4, 1, 0, 0, 526, 527, 528, 529, 73, 2]),
  (false, 42, .lstore 7, 2, 0, []),
  (false, 44, .aload 4, 2, 0, []),
  (false, 46, .aload_n 3, 1, 0, []),
  (false, 47, .iload 6, 2, 0, []),
  (false, 49, .iconst 1, 1, 0, []),
  (false, 50, .invokevirtual 46, 3, 0, [152, 4, 1, 0, 0, 526, 527, 528, 529, 73, 2]),
  (false, 53, .lstore 9, 2, 0, []),
  (false, 55, .aload 4, 2, 0, []),
  (false, 57, .iload 6, 2, 0, []),
  (false, 59, .lload 7, 2, 0, []),
  (false, 61, .invokevirtual 38, 3, 0, [150, 3, 3, 0, 0, 505, 506, 507, 508, 73, 2]),
  (false, 64, .aload 5, 2, 0, []),
  (false, 66, .iload 6, 2, 0, []),
  (false, 68, .lload 9, 2, 0, []),
  (false, 70, .invokevirtual 38, 3, 0, [150, 3, 3, 0, 0, 505, 506, 507, 508, 73, 2]),
  (false, 73, .iinc 6 1, 3, 0, []),
  (false, 76, .goto (-49), 3, 0, [27]),
  (false, 79, .iload_n 1, 1, 0, []),
  (false, 80, .istore 6, 2, 0, []),
  (true, 82, .iload 6, 2, 0, []),
  (false, 84, .iconst 1, 1, 0, []),
  (false, 85, .if_icmp .lt 22, 3, 0, [107]),
  (false, 88, .aload_n 2, 1, 0, []),
  (false, 89, .iload 6, 2, 0, []),
  (false, 91, .aload 5, 2, 0, []),
  (false, 93, .aload_n 2, 1, 0, []),
  (false, 94, .iload 6, 2, 0, []),
  (false, 96, .iconst 0, 1, 0, []),
  (false, 97, .invokevirtual 46, 3, 0, [152, 4, 1, 0, 0, 526, 527, 528, 529, 73, 2]),
  (false, 100, .lastore, 1, 0, []),
  (false, 101, .iinc 6 (-1), 3, 0, []),
  (false, 104, .goto (-22), 3, 0, [82]),
  (false, 107, .return_, 1, 0, [])]
def cd_O_init : List CI := [(false, 0, .aload_n 0, 1, 0, []),
  (false, 1, .invokespecial 3, 3, 0, [1001, 1, 3, 0, 0, 95, 84, 85]),
  (false, 4, .aload_n 0, 1, 0, []),
  (false, 5, .bipush 11, 2, 0, []),
  (false, 7, .bipush 11, 2, 0, []),
  (false, 9, .multianewarray 9 2, 4, 0, [0, 96, 109]),
  (false, 13, .putfield 11, 3, 0, [0, 3, 1, 101]),
  (false, 16, .aload_n 0, 1, 0, []),
  (false, 17, .bipush 10, 2, 0, []),
  (false, 19, .newarray .int, 2, 0, [0, 109]),
  (false, 21, .putfield 16, 3, 1, [1, 3, 1, 102]),
  (false, 24, .aload_n 0, 1, 0, []),
  (false, 25, .getfield 11, 3, 0, [0, 3, 1, 101]),
  (false, 28, .iconst 0, 1, 0, []),
  (false, 29, .aaload, 1, 0, []),
  (false, 30, .iconst 1, 1, 0, []),
  (false, 31, .invokestatic 20, 3, 0, [169, 2, 3, 0, 0, 98, 99, 0, 100, 71, 0]),
  (false, 34, .iconst 1, 1, 0, []),
  (false, 35, .istore_n 1, 1, 0, []),
  (true, 36, .iload_n 1, 1, 0, []),
  (false, 37, .bipush 10, 2, 0, []),
  (false, 39, .if_icmp .gt 67, 3, 0, [106]),
  (false, 42, .iconst 0, 1, 0, []),
  (false, 43, .istore_n 2, 1, 0, []),
  (true, 44, .iload_n 2, 1, 0, []),
  (false, 45, .bipush 10, 2, 0, []),
  (false, 47, .iload_n 1, 1, 0, []),
  (false, 48, .isub, 1, 0, []),
  (false, 49, .if_icmp .gt 51, 3, 0, [100]),
  (false, 52, .iconst 0, 1, 0, []),
  (false, 53, .istore_n 3, 1, 0, []),
  (false, 54, .iconst 1, 1, 0, []),
  (false, 55, .istore 4, 2, 0, []),
  (true, 57, .iload 4, 2, 0, []),
  (false, 59, .iload_n 2, 1, 0, []),
  (false, 60, .iconst 1, 1, 0, []),
  (false, 61, .iadd, 1, 0, []),
  (false, 62, .if_icmp .gt 23, 3, 0, [85]),
  (false, 65, .iload_n 3, 1, 0, []),
  (false, 66, .aload_n 0, 1, 0, []),
  (false, 67, .getfield 11, 3, 0, [0, 3, 1, 101]),
  (false, 70, .iload_n 1, 1, 0, []),
  (false, 71, .iconst 1, 1, 0, []),
  (false, 72, .isub, 1, 0, []),
  (false, 73, .aaload, 1, 0, []),
  (false, 74, .iload 4, 2, 0, []),
  (false, 76, .iaload, 1, 0, []),
  (false, 77, .iadd, 1, 0, []),
  (false, 78, .istore_n 3, 1, 0, []),
  (false, 79, .iinc 4 1, 3, 0, []),
  (false, 82, .goto (-25), 3, 0, [57]),
  (false, 85, .aload_n 0, 1, 0, []),
  (false, 86, .getfield 11, 3, 0, [0, 3, 1, 101]),
  (false, 89, .iload_n 1, 1, 0, []),
  (false, 90, .aaload, 1, 0, []),
  (false, 91, .iload_n 2, 1, 0, []),
  (false, 92, .iload_n 3, 1, 0, []),
  (false, 93, .iastore, 1, 0, []),
  (false, 94, .iinc 2 1, 3, 0, []),
  (false, 97, .goto (-53), 3, 0, [44]),
  (false, 100, .iinc 1 1, 3, 0, []),
  (false, 103, .goto (-67), 3, 0, [36]),
  (false, 106, .return_, 1, 0, [])]
def cd_O_placeOf : List CI := [(false, 0, .iconst 0, 1, 0, []),
  (false, 1, .istore_n 2, 1, 0, []),
  (false, 2, .iconst 0, 1, 0, []),
  (false, 3, .istore_n 3, 1, 0, []),
  (false, 4, .iconst 0, 1, 0, []),
  (false, 5, .istore 4, 2, 0, []),
  (true, 7, .iload 4, 2, 0, []),
  (false, 9, .aload_n 1, 1, 0, []),
  (false, 10, .getfield 26, 3, 0, [0, 0, 3, 292]),
  (false, 13, .if_icmp .ge 80, 3, 0, [93]),
  (false, 16, .iconst 0, 1, 0, []),
  (false, 17, .istore 5, 2, 0, []),
  (true, 19, .iload 5, 2, 0, []),
  (false, 21, .iload_n 3, 1, 0, []),
  (false, 22, .if_icmp .ge 46, 3, 0, [68]),
  (false, 25, .aload_n 0, 1, 0, []),
  (false, 26, .getfield 16, 3, 1, [1, 3, 1, 102]),
  (false, 29, .iload 5, 2, 0, []),
  (false, 31, .iaload, 1, 0, []),
  (false, 32, .aload_n 1, 1, 0, []),
  (false, 33, .getfield 32, 3, 2, [2, 3, 3, 297]),
  (false, 36, .iload 4, 2, 0, []),
  (false, 38, .iaload, 1, 0, []),
  (false, 39, .if_icmp .eq 29, 3, 0, [68]),
  (false, 42, .iinc 5 1, 3, 0, []),
  (false, 45, .iload_n 2, 1, 0, []),
  (false, 46, .aload_n 0, 1, 0, []),
  (false, 47, .getfield 11, 3, 0, [0, 3, 1, 101]),
  (false, 50, .aload_n 1, 1, 0, []),
  (false, 51, .getfield 26, 3, 0, [0, 0, 3, 292]),
  (false, 54, .iconst 1, 1, 0, []),
  (false, 55, .isub, 1, 0, []),
  (false, 56, .iload 4, 2, 0, []),
  (false, 58, .isub, 1, 0, []),
  (false, 59, .aaload, 1, 0, []),
  (false, 60, .iload 5, 2, 0, []),
  (false, 62, .iaload, 1, 0, []),
  (false, 63, .iadd, 1, 0, []),
  (false, 64, .istore_n 2, 1, 0, []),
  (false, 65, .goto (-46), 3, 0, [19]),
  (false, 68, .aload_n 0, 1, 0, []),
  (false, 69, .getfield 16, 3, 1, [1, 3, 1, 102]),
  (false, 72, .iload 5, 2, 0, []),
  (false, 74, .aload_n 1, 1, 0, []),
  (false, 75, .getfield 32, 3, 2, [2, 3, 3, 297]),
  (false, 78, .iload 4, 2, 0, []),
  (false, 80, .iaload, 1, 0, []),
  (false, 81, .iastore, 1, 0, []),
  (false, 82, .iload 5, 2, 0, []),
  (false, 84, .iconst 1, 1, 0, []),
  (false, 85, .iadd, 1, 0, []),
  (false, 86, .istore_n 3, 1, 0, []),
  (false, 87, .iinc 4 1, 3, 0, []),
  (false, 90, .goto (-83), 3, 0, [7]),
  (false, 93, .iload_n 2, 1, 0, []),
  (false, 94, .ireturn, 1, 0, [])]
def cd_O_tell : List CI := [(false, 0, .iload_n 2, 1, 0, []),
  (false, 1, .istore 4, 2, 0, []),
  (false, 3, .iconst 0, 1, 0, []),
  (false, 4, .istore 5, 2, 0, []),
  (false, 6, .iconst 0, 1, 0, []),
  (false, 7, .istore 6, 2, 0, []),
  (false, 9, .iconst 0, 1, 0, []),
  (false, 10, .istore 7, 2, 0, []),
  (true, 12, .iload 7, 2, 0, []),
  (false, 14, .iload_n 1, 1, 0, []),
  (false, 15, .if_icmp .ge 101, 3, 0, [116]),
  (false, 18, .iconst 0, 1, 0, []),
  (false, 19, .istore 8, 2, 0, []),
  (true, 21, .iload 8, 2, 0, []),
  (false, 23, .iload 5, 2, 0, []),
  (false, 25, .if_icmp .ge 49, 3, 0, [74]),
  (false, 28, .iload 4, 2, 0, []),
  (false, 30, .aload_n 0, 1, 0, []),
  (false, 31, .getfield 11, 3, 0, [0, 3, 1, 101]),
  (false, 34, .iload_n 1, 1, 0, []),
  (false, 35, .iconst 1, 1, 0, []),
  (false, 36, .isub, 1, 0, []),
  (false, 37, .iload 7, 2, 0, []),
  (false, 39, .isub, 1, 0, []),
  (false, 40, .aaload, 1, 0, []),
  (false, 41, .iload 8, 2, 0, []),
  (false, 43, .iconst 1, 1, 0, []),
  (false, 44, .iadd, 1, 0, []),
  (false, 45, .iaload, 1, 0, []),
  (false, 46, .if_icmp .lt 28, 3, 0, [74]),
  (false, 49, .iinc 8 1, 3, 0, []),
  (false, 52, .iload 4, 2, 0, []),
  (false, 54, .aload_n 0, 1, 0, []),
  (false, 55, .getfield 11, 3, 0, [0, 3, 1, 101]),
  (false, 58, .iload_n 1, 1, 0, []),
  (false, 59, .iconst 1, 1, 0, []),
  (false, 60, .isub, 1, 0, []),
  (false, 61, .iload 7, 2, 0, []),
  (false, 63, .isub, 1, 0, []),
  (false, 64, .aaload, 1, 0, []),
  (false, 65, .iload 8, 2, 0, []),
  (false, 67, .iaload, 1, 0, []),
  (false, 68, .isub, 1, 0, []),
  (false, 69, .istore 4, 2, 0, []),
  (false, 71, .goto (-50), 3, 0, [21]),
  (false, 74, .iload 8, 2, 0, []),
  (false, 76, .iload 5, 2, 0, []),
  (false, 78, .if_icmp .ne 15, 3, 0, [93]),
  (false, 81, .aload_n 0, 1, 0, []),
  (false, 82, .getfield 16, 3, 1, [1, 3, 1, 102]),
  (false, 85, .iload 8, 2, 0, []),
  (false, 87, .iload 6, 2, 0, []),
  (false, 89, .iastore, 1, 0, []),
  (false, 90, .iinc 6 1, 3, 0, []),
  (false, 93, .aload_n 3, 1, 0, []),
  (false, 94, .iload 7, 2, 0, []),
  (false, 96, .aload_n 0, 1, 0, []),
  (false, 97, .getfield 16, 3, 1, [1, 3, 1, 102]),
  (false, 100, .iload 8, 2, 0, []),
  (false, 102, .iaload, 1, 0, []),
  (false, 103, .iastore, 1, 0, []),
  (false, 104, .iload 8, 2, 0, []),
  (false, 106, .iconst 1, 1, 0, []),
  (false, 107, .iadd, 1, 0, []),
  (false, 108, .istore 5, 2, 0, []),
  (false, 110, .iinc 7 1, 3, 0, []),
  (false, 113, .goto (-101), 3, 0, [12]),
  (false, 116, .return_, 1, 0, [])]
def cd_P_init : List CI := [(false, 0, .aload_n 0, 1, 0, []),
  (false, 1, .invokespecial 3, 3, 0, [1001, 1, 3, 0, 0, 126, 84, 85]),
  (false, 4, .aload_n 0, 1, 0, []),
  (false, 5, .bipush 9, 2, 0, []),
  (false, 7, .bipush 9, 2, 0, []),
  (false, 9, .multianewarray 9 2, 4, 0, [1, 127, 108]),
  (false, 13, .putfield 11, 3, 1, [1, 3, 2, 129]),
  (false, 16, .aload_n 0, 1, 0, []),
  (false, 17, .lload_n 1, 1, 0, []),
  (false, 18, .putfield 16, 3, 0, [0, 1, 2, 128]),
  (false, 21, .aload_n 0, 1, 0, []),
  (false, 22, .getfield 11, 3, 1, [1, 3, 2, 129]),
  (false, 25, .iconst 0, 1, 0, []),
  (false, 26, .aaload, 1, 0, []),
  (false, 27, .iconst 0, 1, 0, []),
  (false, 28, .lconst 1, 1, 1, []),
  (false, 29, .lastore, 1, 0, []),
  (false, 30, .return_, 1, 0, [])]
def cd_P_begin : List CI := [(false, 0, .iconst 1, 1, 0, []),
  (false, 1, .istore_n 3, 1, 0, []),
  (true, 2, .iload_n 3, 1, 0, []),
  (false, 3, .bipush 8, 2, 0, []),
  (false, 5, .if_icmp .gt 18, 3, 0, [23]),
  (false, 8, .aload_n 0, 1, 0, []),
  (false, 9, .getfield 11, 3, 1, [1, 3, 2, 129]),
  (false, 12, .iload_n 3, 1, 0, []),
  (false, 13, .aaload, 1, 0, []),
  (false, 14, .iconst 0, 1, 0, []),
  (false, 15, .lload_n 1, 1, 0, []),
  (false, 16, .lastore, 1, 0, []),
  (false, 17, .iinc 3 1, 3, 0, []),
  (false, 20, .goto (-18), 3, 0, [2]),
  (false, 23, .return_, 1, 0, [])]
def cd_P_add : List CI := [(false, 0, .aload_n 0, 1, 0, []),
  (false, 1, .getfield 11, 3, 1, [1, 3, 2, 129]),
  (false, 4, .iconst 1, 1, 0, []),
  (false, 5, .aaload, 1, 0, []),
  (false, 6, .iload_n 1, 1, 0, []),
  (false, 7, .lload_n 2, 1, 0, []),
  (false, 8, .lastore, 1, 0, []),
  (false, 9, .iconst 2, 1, 0, []),
  (false, 10, .istore 4, 2, 0, []),
  (true, 12, .iload 4, 2, 0, []),
  (false, 14, .bipush 8, 2, 0, []),
  (false, 16, .if_icmp .gt 72, 3, 0, [88]),
  (false, 19, .lconst 0, 1, 0, []),
  (false, 20, .lstore 5, 2, 0, []),
  (false, 22, .iconst 0, 1, 0, []),
  (false, 23, .istore 7, 2, 0, []),
  (true, 25, .iload 7, 2, 0, []),
  (false, 27, .iload_n 1, 1, 0, []),
  (false, 28, .if_icmp .gt 43, 3, 0, [71]),
  (false, 31, .lload 5, 2, 0, []),
  (false, 33, .aload_n 0, 1, 0, []),
  (false, 34, .getfield 11, 3, 1, [1, 3, 2, 129]),
  (false, 37, .iload 4, 2, 0, []),
  (false, 39, .iconst 1, 1, 0, []),
  (false, 40, .isub, 1, 0, []),
  (false, 41, .aaload, 1, 0, []),
  (false, 42, .iload 7, 2, 0, []),
  (false, 44, .laload, 1, 0, []),
  (false, 45, .aload_n 0, 1, 0, []),
  (false, 46, .getfield 11, 3, 1, [1, 3, 2, 129]),
  (false, 49, .iconst 1, 1, 0, []),
  (false, 50, .aaload, 1, 0, []),
  (false, 51, .iload_n 1, 1, 0, []),
  (false, 52, .iload 7, 2, 0, []),
  (false, 54, .isub, 1, 0, []),
  (false, 55, .laload, 1, 0, []),
  (false, 56, .lmul, 1, 0, []),
  (false, 57, .ladd, 1, 0, []),
  (false, 58, .aload_n 0, 1, 0, []),
  (false, 59, .getfield 16, 3, 0, [0, 1, 2, 128]),
  (false, 62, .lrem, 1, 0, []),
  (false, 63, .lstore 5, 2, 0, []),
  (false, 65, .iinc 7 1, 3, 0, []),
  (false, 68, .goto (-43), 3, 0, [25]),
  (false, 71, .aload_n 0, 1, 0, []),
  (false, 72, .getfield 11, 3, 1, [1, 3, 2, 129]),
  (false, 75, .iload 4, 2, 0, []),
  (false, 77, .aaload, 1, 0, []),
  (false, 78, .iload_n 1, 1, 0, []),
  (false, 79, .lload 5, 2, 0, []),
  (false, 81, .lastore, 1, 0, []),
  (false, 82, .iinc 4 1, 3, 0, []),
  (false, 85, .goto (-73), 3, 0, [12]),
  (false, 88, .return_, 1, 0, [])]
def cd_P_at : List CI := [(false, 0, .aload_n 0, 1, 0, []),
  (false, 1, .getfield 11, 3, 1, [1, 3, 2, 129]),
  (false, 4, .iload_n 1, 1, 0, []),
  (false, 5, .aaload, 1, 0, []),
  (false, 6, .iload_n 2, 1, 0, []),
  (false, 7, .laload, 1, 0, []),
  (false, 8, .lreturn, 1, 0, [])]
def cd_P_weighted : List CI := [(false, 0, .lconst 0, 1, 0, []),
  (false, 1, .lstore 4, 2, 0, []),
  (false, 3, .iconst 1, 1, 0, []),
  (false, 4, .istore 6, 2, 0, []),
  (true, 6, .iload 6, 2, 0, []),
  (false, 8, .iload_n 2, 1, 0, []),
  (false, 9, .if_icmp .gt 37, 3, 0, [46]),
  (false, 12, .lload 4, 2, 0, []),
  (false, 14, .aload_n 1, 1, 0, []),
  (false, 15, .iload 6, 2, 0, []),
  (false, 17, .laload, 1, 0, []),
  (false, 18, .aload_n 0, 1, 0, []),
  (false, 19, .getfield 11, 3, 1, [1, 3, 2, 129]),
  (false, 22, .iload 6, 2, 0, []),
  (false, 24, .iload_n 3, 1, 0, []),
  (false, 25, .isub, 1, 0, []),
  (false, 26, .aaload, 1, 0, []),
  (false, 27, .iload_n 2, 1, 0, []),
  (false, 28, .iload_n 3, 1, 0, []),
  (false, 29, .isub, 1, 0, []),
  (false, 30, .laload, 1, 0, []),
  (false, 31, .lmul, 1, 0, []),
  (false, 32, .ladd, 1, 0, []),
  (false, 33, .aload_n 0, 1, 0, []),
  (false, 34, .getfield 16, 3, 0, [0, 1, 2, 128]),
  (false, 37, .lrem, 1, 0, []),
  (false, 38, .lstore 4, 2, 0, []),
  (false, 40, .iinc 6 1, 3, 0, []),
  (false, 43, .goto (-37), 3, 0, [6]),
  (false, 46, .lload 4, 2, 0, []),
  (false, 48, .lreturn, 1, 0, [])]
def cd_T_init : List CI := [(false, 0, .aload_n 0, 1, 0, []),
  (false, 1, .invokespecial 3, 3, 0, [1001, 1, 3, 0, 0, 263, 84, 85]),
  (false, 4, .aload_n 0, 1, 0, []),
  (false, 5, .bipush 10, 2, 0, []),
  (false, 7, .newarray .int, 2, 0, [0, 109]),
  (false, 9, .putfield 9, 3, 2, [2, 3, 3, 296]),
  (false, 12, .aload_n 0, 1, 0, []),
  (false, 13, .iconst 1, 1, 0, []),
  (false, 14, .iload_n 2, 1, 0, []),
  (false, 15, .bipush 10, 2, 0, []),
  (false, 17, .invokestatic 15, 3, 0, [1003, 2, 0, 0, 0, 264, 265, 0, 266, 77, 0]),
  (false, 20, .invokestatic 21, 3, 0, [1002, 2, 0, 0, 0, 267, 268, 0, 269, 77, 0]),
  (false, 23, .putfield 24, 3, 0, [0, 0, 3, 291]),
  (false, 26, .aload_n 0, 1, 0, []),
  (false, 27, .aload_n 1, 1, 0, []),
  (false, 28, .aload_n 0, 1, 0, []),
  (false, 29, .getfield 24, 3, 0, [0, 0, 3, 291]),
  (false, 32, .aload_n 0, 1, 0, []),
  (false, 33, .getfield 9, 3, 2, [2, 3, 3, 296]),
  (false, 36, .invokestatic 28, 3, 0, [154, 3, 0, 0, 0, 270, 271, 0, 272, 76, 3]),
  (false, 39, .putfield 32, 3, 1, [1, 0, 3, 294]),
  (false, 42, .aload_n 0, 1, 0, []),
  (false, 43, .aload_n 0, 1, 0, []),
  (false, 44, .getfield 9, 3, 2, [2, 3, 3, 296]),
  (false, 47, .aload_n 0, 1, 0, []),
  (false, 48, .getfield 24, 3, 0, [0, 0, 3, 291]),
  (false, 51, .aload_n 0, 1, 0, []),
  (false, 52, .getfield 32, 3, 1, [1, 0, 3, 294]),
  (false, 55, .invokestatic 35, 3, 0, [155, 3, 0, 0, 0, 273, 274, 0, 275, 76, 3]),
  (false, 58, .putfield 39, 3, 3, [3, 2, 3, 299]),
  (false, 61, .aload_n 0, 1, 0, []),
  (false, 62, .aload_n 0, 1, 0, []),
  (false, 63, .getfield 9, 3, 2, [2, 3, 3, 296]),
  (false, 66, .aload_n 0, 1, 0, []),
  (false, 67, .getfield 24, 3, 0, [0, 0, 3, 291]),
  (false, 70, .aload_n 0, 1, 0, []),
  (false, 71, .getfield 39, 3, 3, [3, 2, 3, 299]),
  (false, 74, .invokestatic 43, 3, 0, [157, 3, 0, 0, 0, 279, 280, 0, 281, 76, 3]),
  (false, 77, .putfield 47, 3, 4, [4, 0, 3, 301]),
  (false, 80, .return_, 1, 0, [])]
def cd_T_numberBlocks : List CI := [(false, 0, .iconst 0, 1, 0, []),
  (false, 1, .istore_n 3, 1, 0, []),
  (false, 2, .iconst 0, 1, 0, []),
  (false, 3, .istore 4, 2, 0, []),
  (true, 5, .iload 4, 2, 0, []),
  (false, 7, .iload_n 1, 1, 0, []),
  (false, 8, .if_icmp .ge 62, 3, 0, [70]),
  (false, 11, .iconst 0, 1, 0, []),
  (false, 12, .istore 5, 2, 0, []),
  (true, 14, .iload 5, 2, 0, []),
  (false, 16, .iload 4, 2, 0, []),
  (false, 18, .if_icmp .ge 20, 3, 0, [38]),
  (false, 21, .aload_n 0, 1, 0, []),
  (false, 22, .iload 5, 2, 0, []),
  (false, 24, .iaload, 1, 0, []),
  (false, 25, .aload_n 0, 1, 0, []),
  (false, 26, .iload 4, 2, 0, []),
  (false, 28, .iaload, 1, 0, []),
  (false, 29, .if_icmp .eq 9, 3, 0, [38]),
  (false, 32, .iinc 5 1, 3, 0, []),
  (false, 35, .goto (-21), 3, 0, [14]),
  (false, 38, .iload 5, 2, 0, []),
  (false, 40, .iload 4, 2, 0, []),
  (false, 42, .if_icmp .ge 14, 3, 0, [56]),
  (false, 45, .aload_n 2, 1, 0, []),
  (false, 46, .iload 4, 2, 0, []),
  (false, 48, .aload_n 2, 1, 0, []),
  (false, 49, .iload 5, 2, 0, []),
  (false, 51, .iaload, 1, 0, []),
  (false, 52, .iastore, 1, 0, []),
  (false, 53, .goto 11, 3, 0, [64]),
  (false, 56, .aload_n 2, 1, 0, []),
  (false, 57, .iload 4, 2, 0, []),
  (false, 59, .iload_n 3, 1, 0, []),
  (false, 60, .iastore, 1, 0, []),
  (false, 61, .iinc 3 1, 3, 0, []),
  (false, 64, .iinc 4 1, 3, 0, []),
  (false, 67, .goto (-62), 3, 0, [5]),
  (false, 70, .iload_n 3, 1, 0, []),
  (false, 71, .ireturn, 1, 0, [])]
def cd_T_allInPairs : List CI := [(false, 0, .iconst 0, 1, 0, []),
  (false, 1, .istore_n 3, 1, 0, []),
  (true, 2, .iload_n 3, 1, 0, []),
  (false, 3, .iload_n 2, 1, 0, []),
  (false, 4, .if_icmp .ge 21, 3, 0, [25]),
  (false, 7, .aload_n 0, 1, 0, []),
  (false, 8, .iload_n 1, 1, 0, []),
  (false, 9, .iload_n 3, 1, 0, []),
  (false, 10, .invokestatic 50, 3, 0, [156, 3, 0, 0, 0, 276, 277, 0, 278, 76, 3]),
  (false, 13, .iconst 2, 1, 0, []),
  (false, 14, .if_icmp .eq 5, 3, 0, [19]),
  (false, 17, .iconst 0, 1, 0, []),
  (false, 18, .ireturn, 1, 0, []),
  (false, 19, .iinc 3 1, 3, 0, []),
  (false, 22, .goto (-20), 3, 0, [2]),
  (false, 25, .iconst 1, 1, 0, []),
  (false, 26, .ireturn, 1, 0, [])]
def cd_T_pointsIn : List CI := [(false, 0, .iconst 0, 1, 0, []),
  (false, 1, .istore_n 3, 1, 0, []),
  (false, 2, .iconst 0, 1, 0, []),
  (false, 3, .istore 4, 2, 0, []),
  (true, 5, .iload 4, 2, 0, []),
  (false, 7, .iload_n 1, 1, 0, []),
  (false, 8, .if_icmp .ge 20, 3, 0, [28]),
  (false, 11, .aload_n 0, 1, 0, []),
  (false, 12, .iload 4, 2, 0, []),
  (false, 14, .iaload, 1, 0, []),
  (false, 15, .iload_n 2, 1, 0, []),
  (false, 16, .if_icmp .ne 6, 3, 0, [22]),
  (false, 19, .iinc 3 1, 3, 0, []),
  (false, 22, .iinc 4 1, 3, 0, []),
  (false, 25, .goto (-20), 3, 0, [5]),
  (false, 28, .iload_n 3, 1, 0, []),
  (false, 29, .ireturn, 1, 0, [])]
def cd_T_kindToTell : List CI := [(false, 0, .aload_n 0, 1, 0, []),
  (false, 1, .iload_n 1, 1, 0, []),
  (false, 2, .invokestatic 54, 3, 0, [158, 2, 0, 0, 0, 282, 283, 0, 284, 76, 3]),
  (false, 5, .ifCond .eq 5, 3, 0, [10]),
  (false, 8, .iconst 2, 1, 0, []),
  (false, 9, .ireturn, 1, 0, []),
  (false, 10, .aload_n 0, 1, 0, []),
  (false, 11, .iload_n 1, 1, 0, []),
  (false, 12, .invokestatic 58, 3, 0, [159, 2, 0, 0, 0, 285, 286, 0, 287, 76, 3]),
  (false, 15, .ifCond .eq 13, 3, 0, [28]),
  (false, 18, .iload_n 2, 1, 0, []),
  (false, 19, .ifCond .eq 7, 3, 0, [26]),
  (false, 22, .iconst 4, 1, 0, []),
  (false, 23, .goto 4, 3, 0, [27]),
  (false, 26, .iconst 0, 1, 0, []),
  (false, 27, .ireturn, 1, 0, []),
  (false, 28, .iload_n 2, 1, 0, []),
  (false, 29, .ifCond .eq 7, 3, 0, [36]),
  (false, 32, .iconst 3, 1, 0, []),
  (false, 33, .goto 4, 3, 0, [37]),
  (false, 36, .iconst 1, 1, 0, []),
  (false, 37, .ireturn, 1, 0, [])]
def cd_T_inRows : List CI := [(false, 0, .iconst 1, 1, 0, []),
  (false, 1, .istore_n 2, 1, 0, []),
  (true, 2, .iload_n 2, 1, 0, []),
  (false, 3, .iload_n 1, 1, 0, []),
  (false, 4, .if_icmp .ge 22, 3, 0, [26]),
  (false, 7, .aload_n 0, 1, 0, []),
  (false, 8, .iload_n 2, 1, 0, []),
  (false, 9, .iaload, 1, 0, []),
  (false, 10, .aload_n 0, 1, 0, []),
  (false, 11, .iload_n 2, 1, 0, []),
  (false, 12, .iconst 1, 1, 0, []),
  (false, 13, .isub, 1, 0, []),
  (false, 14, .iaload, 1, 0, []),
  (false, 15, .if_icmp .ge 5, 3, 0, [20]),
  (false, 18, .iconst 0, 1, 0, []),
  (false, 19, .ireturn, 1, 0, []),
  (false, 20, .iinc 2 1, 3, 0, []),
  (false, 23, .goto (-21), 3, 0, [2]),
  (false, 26, .iconst 1, 1, 0, []),
  (false, 27, .ireturn, 1, 0, [])]
def cd_T_crossesItself : List CI := [(false, 0, .iconst 0, 1, 0, []),
  (false, 1, .istore_n 2, 1, 0, []),
  (true, 2, .iload_n 2, 1, 0, []),
  (false, 3, .iload_n 1, 1, 0, []),
  (false, 4, .if_icmp .ge 45, 3, 0, [49]),
  (false, 7, .iload_n 2, 1, 0, []),
  (false, 8, .iconst 2, 1, 0, []),
  (false, 9, .iadd, 1, 0, []),
  (false, 10, .istore_n 3, 1, 0, []),
  (true, 11, .iload_n 3, 1, 0, []),
  (false, 12, .iload_n 1, 1, 0, []),
  (false, 13, .if_icmp .ge 30, 3, 0, [43]),
  (false, 16, .aload_n 0, 1, 0, []),
  (false, 17, .iload_n 2, 1, 0, []),
  (false, 18, .iaload, 1, 0, []),
  (false, 19, .aload_n 0, 1, 0, []),
  (false, 20, .iload_n 3, 1, 0, []),
  (false, 21, .iaload, 1, 0, []),
  (false, 22, .if_icmp .ne 15, 3, 0, [37]),
  (false, 25, .aload_n 0, 1, 0, []),
  (false, 26, .iload_n 1, 1, 0, []),
  (false, 27, .iload_n 2, 1, 0, []),
  (false, 28, .iload_n 3, 1, 0, []),
  (false, 29, .invokestatic 61, 3, 0, [160, 4, 0, 0, 0, 288, 289, 0, 290, 76, 3]),
  (false, 32, .ifCond .eq 5, 3, 0, [37]),
  (false, 35, .iconst 1, 1, 0, []),
  (false, 36, .ireturn, 1, 0, []),
  (false, 37, .iinc 3 1, 3, 0, []),
  (false, 40, .goto (-29), 3, 0, [11]),
  (false, 43, .iinc 2 1, 3, 0, []),
  (false, 46, .goto (-44), 3, 0, [2]),
  (false, 49, .iconst 0, 1, 0, []),
  (false, 50, .ireturn, 1, 0, [])]
def cd_T_isCrossed : List CI := [(false, 0, .iload_n 2, 1, 0, []),
  (false, 1, .iconst 1, 1, 0, []),
  (false, 2, .iadd, 1, 0, []),
  (false, 3, .istore 4, 2, 0, []),
  (true, 5, .iload 4, 2, 0, []),
  (false, 7, .iload_n 3, 1, 0, []),
  (false, 8, .if_icmp .ge 49, 3, 0, [57]),
  (false, 11, .iload_n 3, 1, 0, []),
  (false, 12, .iconst 1, 1, 0, []),
  (false, 13, .iadd, 1, 0, []),
  (false, 14, .istore 5, 2, 0, []),
  (true, 16, .iload 5, 2, 0, []),
  (false, 18, .iload_n 1, 1, 0, []),
  (false, 19, .if_icmp .ge 32, 3, 0, [51]),
  (false, 22, .aload_n 0, 1, 0, []),
  (false, 23, .iload 4, 2, 0, []),
  (false, 25, .iaload, 1, 0, []),
  (false, 26, .aload_n 0, 1, 0, []),
  (false, 27, .iload 5, 2, 0, []),
  (false, 29, .iaload, 1, 0, []),
  (false, 30, .if_icmp .ne 15, 3, 0, [45]),
  (false, 33, .aload_n 0, 1, 0, []),
  (false, 34, .iload 4, 2, 0, []),
  (false, 36, .iaload, 1, 0, []),
  (false, 37, .aload_n 0, 1, 0, []),
  (false, 38, .iload_n 2, 1, 0, []),
  (false, 39, .iaload, 1, 0, []),
  (false, 40, .if_icmp .eq 5, 3, 0, [45]),
  (false, 43, .iconst 1, 1, 0, []),
  (false, 44, .ireturn, 1, 0, []),
  (false, 45, .iinc 5 1, 3, 0, []),
  (false, 48, .goto (-32), 3, 0, [16]),
  (false, 51, .iinc 4 1, 3, 0, []),
  (false, 54, .goto (-49), 3, 0, [5]),
  (false, 57, .iconst 0, 1, 0, []),
  (false, 58, .ireturn, 1, 0, [])]
def cd_T_isOf : List CI := [(false, 0, .iload_n 1, 1, 0, []),
  (false, 1, .iconst 1, 1, 0, []),
  (false, 2, .if_icmp .ne 33, 3, 0, [35]),
  (false, 5, .aload_n 0, 1, 0, []),
  (false, 6, .getfield 47, 3, 4, [4, 0, 3, 301]),
  (false, 9, .iconst 1, 1, 0, []),
  (false, 10, .if_icmp .eq 19, 3, 0, [29]),
  (false, 13, .aload_n 0, 1, 0, []),
  (false, 14, .getfield 47, 3, 4, [4, 0, 3, 301]),
  (false, 17, .iconst 2, 1, 0, []),
  (false, 18, .if_icmp .eq 11, 3, 0, [29]),
  (false, 21, .aload_n 0, 1, 0, []),
  (false, 22, .getfield 47, 3, 4, [4, 0, 3, 301]),
  (false, 25, .iconst 3, 1, 0, []),
  (false, 26, .if_icmp .ne 7, 3, 0, [33]),
  (false, 29, .iconst 1, 1, 0, []),
  (false, 30, .goto 4, 3, 0, [34]),
  (false, 33, .iconst 0, 1, 0, []),
  (false, 34, .ireturn, 1, 0, []),
  (false, 35, .iload_n 1, 1, 0, []),
  (false, 36, .ifCond .eq 11, 3, 0, [47]),
  (false, 39, .iload_n 1, 1, 0, []),
  (false, 40, .aload_n 0, 1, 0, []),
  (false, 41, .getfield 47, 3, 4, [4, 0, 3, 301]),
  (false, 44, .if_icmp .ne 7, 3, 0, [51]),
  (false, 47, .iconst 1, 1, 0, []),
  (false, 48, .goto 4, 3, 0, [52]),
  (false, 51, .iconst 0, 1, 0, []),
  (false, 52, .ireturn, 1, 0, [])]
def cd_T_isFinerThan : List CI := [(false, 0, .aload_n 0, 1, 0, []),
  (false, 1, .getfield 24, 3, 0, [0, 0, 3, 291]),
  (false, 4, .aload_n 1, 1, 0, []),
  (false, 5, .getfield 24, 3, 0, [0, 0, 3, 291]),
  (false, 8, .invokestatic 15, 3, 0, [1003, 2, 0, 0, 0, 264, 265, 0, 266, 77, 0]),
  (false, 11, .istore_n 2, 1, 0, []),
  (false, 12, .iconst 0, 1, 0, []),
  (false, 13, .istore_n 3, 1, 0, []),
  (true, 14, .iload_n 3, 1, 0, []),
  (false, 15, .iload_n 2, 1, 0, []),
  (false, 16, .if_icmp .ge 58, 3, 0, [74]),
  (false, 19, .iconst 0, 1, 0, []),
  (false, 20, .istore 4, 2, 0, []),
  (true, 22, .iload 4, 2, 0, []),
  (false, 24, .iload_n 3, 1, 0, []),
  (false, 25, .if_icmp .ge 43, 3, 0, [68]),
  (false, 28, .aload_n 0, 1, 0, []),
  (false, 29, .getfield 9, 3, 2, [2, 3, 3, 296]),
  (false, 32, .iload 4, 2, 0, []),
  (false, 34, .iaload, 1, 0, []),
  (false, 35, .aload_n 0, 1, 0, []),
  (false, 36, .getfield 9, 3, 2, [2, 3, 3, 296]),
  (false, 39, .iload_n 3, 1, 0, []),
  (false, 40, .iaload, 1, 0, []),
  (false, 41, .if_icmp .ne 21, 3, 0, [62]),
  (false, 44, .aload_n 1, 1, 0, []),
  (false, 45, .getfield 9, 3, 2, [2, 3, 3, 296]),
  (false, 48, .iload 4, 2, 0, []),
  (false, 50, .iaload, 1, 0, []),
  (false, 51, .aload_n 1, 1, 0, []),
  (false, 52, .getfield 9, 3, 2, [2, 3, 3, 296]),
  (false, 55, .iload_n 3, 1, 0, []),
  (false, 56, .iaload, 1, 0, []),
  (false, 57, .if_icmp .eq 5, 3, 0, [62]),
  (false, 60, .iconst 0, 1, 0, []),
  (false, 61, .ireturn, 1, 0, []),
  (false, 62, .iinc 4 1, 3, 0, []),
  (false, 65, .goto (-43), 3, 0, [22]),
  (false, 68, .iinc 3 1, 3, 0, []),
  (false, 71, .goto (-57), 3, 0, [14]),
  (false, 74, .iconst 1, 1, 0, []),
  (false, 75, .ireturn, 1, 0, [])]
def cd_T_productOver : List CI := [(false, 0, .iconst 1, 1, 0, []),
  (false, 1, .istore_n 2, 1, 0, []),
  (false, 2, .iconst 0, 1, 0, []),
  (false, 3, .istore_n 3, 1, 0, []),
  (true, 4, .iload_n 3, 1, 0, []),
  (false, 5, .aload_n 0, 1, 0, []),
  (false, 6, .getfield 32, 3, 1, [1, 0, 3, 294]),
  (false, 9, .if_icmp .ge 26, 3, 0, [35]),
  (false, 12, .iload_n 2, 1, 0, []),
  (false, 13, .aload_n 1, 1, 0, []),
  (false, 14, .aload_n 0, 1, 0, []),
  (false, 15, .getfield 9, 3, 2, [2, 3, 3, 296]),
  (false, 18, .aload_n 0, 1, 0, []),
  (false, 19, .getfield 24, 3, 0, [0, 0, 3, 291]),
  (false, 22, .iload_n 3, 1, 0, []),
  (false, 23, .invokestatic 50, 3, 0, [156, 3, 0, 0, 0, 276, 277, 0, 278, 76, 3]),
  (false, 26, .iaload, 1, 0, []),
  (false, 27, .imul, 1, 0, []),
  (false, 28, .istore_n 2, 1, 0, []),
  (false, 29, .iinc 3 1, 3, 0, []),
  (false, 32, .goto (-28), 3, 0, [4]),
  (false, 35, .iload_n 2, 1, 0, []),
  (false, 36, .ireturn, 1, 0, [])]
def cd_T_labelRings : List CI := [(false, 0, .aload_n 1, 1, 0, []),
  (false, 1, .iconst (-1), 1, 0, []),
  (false, 2, .invokestatic 65, 3, 0, [169, 2, 3, 0, 0, 353, 99, 0, 100, 71, 0]),
  (false, 5, .iconst 0, 1, 0, []),
  (false, 6, .istore_n 2, 1, 0, []),
  (false, 7, .iconst 0, 1, 0, []),
  (false, 8, .istore_n 3, 1, 0, []),
  (true, 9, .iload_n 3, 1, 0, []),
  (false, 10, .aload_n 0, 1, 0, []),
  (false, 11, .getfield 24, 3, 0, [0, 0, 3, 291]),
  (false, 14, .if_icmp .ge 26, 3, 0, [40]),
  (false, 17, .aload_n 1, 1, 0, []),
  (false, 18, .iload_n 3, 1, 0, []),
  (false, 19, .iaload, 1, 0, []),
  (false, 20, .iconst (-1), 1, 0, []),
  (false, 21, .if_icmp .ne 13, 3, 0, [34]),
  (false, 24, .aload_n 0, 1, 0, []),
  (false, 25, .aload_n 1, 1, 0, []),
  (false, 26, .iload_n 3, 1, 0, []),
  (false, 27, .iload_n 2, 1, 0, []),
  (false, 28, .invokevirtual 71, 3, 0, [165, 4, 3, 0, 0, 354, 356, 8, 357, 76, 3]),
  (false, 31, .iinc 2 1, 3, 0, []),
  (false, 34, .iinc 3 1, 3, 0, []),
  (false, 37, .goto (-28), 3, 0, [9]),
  (false, 40, .iload_n 2, 1, 0, []),
  (false, 41, .ireturn, 1, 0, [])]
def cd_T_labelRing : List CI := [(false, 0, .iload_n 2, 1, 0, []),
  (false, 1, .istore 4, 2, 0, []),
  (false, 3, .iconst 0, 1, 0, []),
  (false, 4, .istore 5, 2, 0, []),
  (true, 6, .iload 5, 2, 0, []),
  (false, 8, .aload_n 0, 1, 0, []),
  (false, 9, .getfield 24, 3, 0, [0, 0, 3, 291]),
  (false, 12, .if_icmp .ge 47, 3, 0, [59]),
  (false, 15, .aload_n 1, 1, 0, []),
  (false, 16, .iload 4, 2, 0, []),
  (false, 18, .iaload, 1, 0, []),
  (false, 19, .iconst (-1), 1, 0, []),
  (false, 20, .if_icmp .ne 39, 3, 0, [59]),
  (false, 23, .aload_n 1, 1, 0, []),
  (false, 24, .iload 4, 2, 0, []),
  (false, 26, .iload_n 3, 1, 0, []),
  (false, 27, .iastore, 1, 0, []),
  (false, 28, .aload_n 0, 1, 0, []),
  (false, 29, .iload 4, 2, 0, []),
  (false, 31, .iconst 1, 1, 0, []),
  (false, 32, .iadd, 1, 0, []),
  (false, 33, .aload_n 0, 1, 0, []),
  (false, 34, .getfield 24, 3, 0, [0, 0, 3, 291]),
  (false, 37, .if_icmp .ge 10, 3, 0, [47]),
  (false, 40, .iload 4, 2, 0, []),
  (false, 42, .iconst 1, 1, 0, []),
  (false, 43, .iadd, 1, 0, []),
  (false, 44, .goto 4, 3, 0, [48]),
  (false, 47, .iconst 0, 1, 0, []),
  (false, 48, .invokevirtual 75, 3, 0, [166, 2, 0, 0, 0, 358, 360, 9, 361, 76, 3]),
  (false, 51, .istore 4, 2, 0, []),
  (false, 53, .iinc 5 1, 3, 0, []),
  (false, 56, .goto (-50), 3, 0, [6]),
  (false, 59, .return_, 1, 0, [])]
def cd_T_aheadInBlock : List CI := [(false, 0, .iload_n 1, 1, 0, []),
  (false, 1, .istore_n 2, 1, 0, []),
  (false, 2, .iconst 0, 1, 0, []),
  (false, 3, .istore_n 3, 1, 0, []),
  (true, 4, .iload_n 3, 1, 0, []),
  (false, 5, .aload_n 0, 1, 0, []),
  (false, 6, .getfield 24, 3, 0, [0, 0, 3, 291]),
  (false, 9, .if_icmp .ge 43, 3, 0, [52]),
  (false, 12, .iload_n 2, 1, 0, []),
  (false, 13, .ifCond .le 9, 3, 0, [22]),
  (false, 16, .iload_n 2, 1, 0, []),
  (false, 17, .iconst 1, 1, 0, []),
  (false, 18, .isub, 1, 0, []),
  (false, 19, .goto 9, 3, 0, [28]),
  (false, 22, .aload_n 0, 1, 0, []),
  (false, 23, .getfield 24, 3, 0, [0, 0, 3, 291]),
  (false, 26, .iconst 1, 1, 0, []),
  (false, 27, .isub, 1, 0, []),
  (false, 28, .istore_n 2, 1, 0, []),
  (false, 29, .aload_n 0, 1, 0, []),
  (false, 30, .getfield 9, 3, 2, [2, 3, 3, 296]),
  (false, 33, .iload_n 2, 1, 0, []),
  (false, 34, .iaload, 1, 0, []),
  (false, 35, .aload_n 0, 1, 0, []),
  (false, 36, .getfield 9, 3, 2, [2, 3, 3, 296]),
  (false, 39, .iload_n 1, 1, 0, []),
  (false, 40, .iaload, 1, 0, []),
  (false, 41, .if_icmp .ne 5, 3, 0, [46]),
  (false, 44, .iload_n 2, 1, 0, []),
  (false, 45, .ireturn, 1, 0, []),
  (false, 46, .iinc 3 1, 3, 0, []),
  (false, 49, .goto (-45), 3, 0, [4]),
  (false, 52, .iload_n 1, 1, 0, []),
  (false, 53, .ireturn, 1, 0, [])]
def cd_L_cell : List CI := [(false, 0, .iload_n 1, 1, 0, []),
  (false, 1, .aload_n 0, 1, 0, []),
  (false, 2, .arraylength, 1, 0, []),
  (false, 3, .if_icmp .ge 9, 3, 0, [12]),
  (false, 6, .aload_n 0, 1, 0, []),
  (false, 7, .iload_n 1, 1, 0, []),
  (false, 8, .iaload, 1, 0, []),
  (false, 9, .goto 4, 3, 0, [13]),
  (false, 12, .iconst 0, 1, 0, []),
  (false, 13, .ireturn, 1, 0, [])]
def cd_L_law_0 : List CI := [(false, 0, .new 7, 3, 0, [4, 78, 79, 69]),
  (false, 3, .dup, 1, 0, []),
  (false, 4, .aload_n 0, 1, 0, []),
  (false, 5, .iconst 0, 1, 0, []),
  (false, 6, .invokestatic 9, 3, 0, [167, 2, 0, 0, 0, 597, 598, 0, 599, 68, 0]),
  (false, 9, .invokespecial 15, 3, 0, [0, 2, 3, 82, 938, 80, 81, 0, 82, 69, 4]),
  (false, 12, .astore_n 1, 1, 0, []),
  (false, 13, .new 18, 3, 0, [5, 600, 601, 74]),
  (false, 16, .dup, 1, 0, []),
  (false, 17, .aload_n 0, 1, 0, []),
  (false, 18, .iconst 0, 1, 0, []),
  (false, 19, .invokestatic 9, 3, 0, [167, 2, 0, 0, 0, 597, 598, 0, 599, 68, 0]),
  (false, 22, .invokespecial 20, 3, 0, [70, 2, 3, 20, 787, 602, 603, 0, 604, 74, 5]),
  (false, 25, .astore_n 2, 1, 0, []),
  (false, 26, .iconst 1, 1, 0, []),
  (false, 27, .istore_n 3, 1, 0, []),
  (true, 28, .iload_n 3, 1, 0, []),
  (false, 29, .aload_n 0, 1, 0, []),
  (false, 30, .arraylength, 1, 0, []),
  (false, 31, .bipush 6, 2, 0, []),
  (false, 33, .isub, 1, 0, []),
  (false, 34, .if_icmp .gt 1247, 3, 0, [1281]),
  (false, 37, .aload_n 0, 1, 0, []),
  (false, 38, .iload_n 3, 1, 0, []),
  (false, 39, .iaload, 1, 0, []),
  (false, 40, .bipush 31, 2, 0, []),
  (false, 42, .iand, 1, 0, []),
  (false, 43, .tableswitch 1232 0 28 #[129, 172, 246, 309, 332, 385, 428, 481, 524, 547, 570, 603, 636, 669, 692, 725, 758, 791, 814, 877, 921, 974, 1027, 1061, 1094, 1128, 1162, 1196, 1219], 129, 0, [1275, 172, 215, 289, 352, 375, 428, 471, 524, 567, 590, 613, 646, 679, 712, 735, 768, 801, 834, 857, 920, 964, 1017, 1070, 1104, 1137, 1171, 1205, 1239, 1262]),
  (false, 172, .aload_n 1, 1, 0, []),
  (false, 173, .aload_n 0, 1, 0, []),
  (false, 174, .iload_n 3, 1, 0, []),
  (false, 175, .iconst 1, 1, 0, []),
  (false, 176, .iadd, 1, 0, []),
  (false, 177, .iaload, 1, 0, []),
  (false, 178, .aload_n 0, 1, 0, []),
  (false, 179, .iload_n 3, 1, 0, []),
  (false, 180, .iconst 2, 1, 0, []),
  (false, 181, .iadd, 1, 0, []),
  (false, 182, .iaload, 1, 0, []),
  (false, 183, .aload_n 0, 1, 0, [])]
def cd_L_law_1 : List CI := [(false, 184, .iload_n 3, 1, 0, []),
  (false, 185, .iconst 3, 1, 0, []),
  (false, 186, .iadd, 1, 0, []),
  (false, 187, .iaload, 1, 0, []),
  (false, 188, .invokevirtual 21, 3, 0, [1, 4, 0, 0, 0, 205, 206, 207, 208, 69, 4]),
  (false, 191, .aload_n 2, 1, 0, []),
  (false, 192, .aload_n 0, 1, 0, []),
  (false, 193, .iload_n 3, 1, 0, []),
  (false, 194, .iconst 1, 1, 0, []),
  (false, 195, .iadd, 1, 0, []),
  (false, 196, .iaload, 1, 0, []),
  (false, 197, .aload_n 0, 1, 0, []),
  (false, 198, .iload_n 3, 1, 0, []),
  (false, 199, .iconst 2, 1, 0, []),
  (false, 200, .iadd, 1, 0, []),
  (false, 201, .iaload, 1, 0, []),
  (false, 202, .aload_n 0, 1, 0, []),
  (false, 203, .iload_n 3, 1, 0, []),
  (false, 204, .iconst 3, 1, 0, []),
  (false, 205, .iadd, 1, 0, []),
  (false, 206, .iaload, 1, 0, []),
  (false, 207, .invokevirtual 25, 3, 0, [72, 4, 0, 0, 0, 689, 690, 691, 692, 74, 5]),
  (false, 210, .if_icmp .eq 1065, 3, 0, [1275]),
  (false, 213, .iconst 0, 1, 0, []),
  (false, 214, .ireturn, 1, 0, []),
  (false, 215, .aload_n 1, 1, 0, []),
  (false, 216, .aload_n 0, 1, 0, []),
  (false, 217, .iload_n 3, 1, 0, []),
  (false, 218, .iconst 1, 1, 0, []),
  (false, 219, .iadd, 1, 0, []),
  (false, 220, .iaload, 1, 0, []),
  (false, 221, .aload_n 0, 1, 0, []),
  (false, 222, .iload_n 3, 1, 0, []),
  (false, 223, .iconst 2, 1, 0, []),
  (false, 224, .iadd, 1, 0, []),
  (false, 225, .iaload, 1, 0, []),
  (false, 226, .aload_n 0, 1, 0, []),
  (false, 227, .iload_n 3, 1, 0, []),
  (false, 228, .iconst 3, 1, 0, []),
  (false, 229, .iadd, 1, 0, [])]
def cd_L_law_2 : List CI := [(false, 230, .iaload, 1, 0, []),
  (false, 231, .i2l, 1, 0, []),
  (false, 232, .bipush 32, 2, 0, []),
  (false, 234, .lshl, 1, 0, []),
  (false, 235, .aload_n 0, 1, 0, []),
  (false, 236, .iload_n 3, 1, 0, []),
  (false, 237, .iconst 4, 1, 0, []),
  (false, 238, .iadd, 1, 0, []),
  (false, 239, .iaload, 1, 0, []),
  (false, 240, .i2l, 1, 0, []),
  (false, 241, .ldc2_w 26, 3, 4294967295, [974]),
  (false, 244, .land, 1, 0, []),
  (false, 245, .lor, 1, 0, []),
  (false, 246, .invokevirtual 28, 3, 0, [2, 4, 1, 0, 0, 225, 226, 227, 228, 69, 4]),
  (false, 249, .aload_n 2, 1, 0, []),
  (false, 250, .aload_n 0, 1, 0, []),
  (false, 251, .iload_n 3, 1, 0, []),
  (false, 252, .iconst 1, 1, 0, []),
  (false, 253, .iadd, 1, 0, []),
  (false, 254, .iaload, 1, 0, []),
  (false, 255, .aload_n 0, 1, 0, []),
  (false, 256, .iload_n 3, 1, 0, []),
  (false, 257, .iconst 2, 1, 0, []),
  (false, 258, .iadd, 1, 0, []),
  (false, 259, .iaload, 1, 0, []),
  (false, 260, .aload_n 0, 1, 0, []),
  (false, 261, .iload_n 3, 1, 0, []),
  (false, 262, .iconst 3, 1, 0, []),
  (false, 263, .iadd, 1, 0, []),
  (false, 264, .iaload, 1, 0, []),
  (false, 265, .i2l, 1, 0, []),
  (false, 266, .bipush 32, 2, 0, []),
  (false, 268, .lshl, 1, 0, []),
  (false, 269, .aload_n 0, 1, 0, []),
  (false, 270, .iload_n 3, 1, 0, []),
  (false, 271, .iconst 4, 1, 0, []),
  (false, 272, .iadd, 1, 0, []),
  (false, 273, .iaload, 1, 0, []),
  (false, 274, .i2l, 1, 0, []),
  (false, 275, .ldc2_w 26, 3, 4294967295, [974])]
def cd_L_law_3 : List CI := [(false, 278, .land, 1, 0, []),
  (false, 279, .lor, 1, 0, []),
  (false, 280, .invokevirtual 32, 3, 0, [73, 4, 1, 0, 0, 704, 705, 706, 707, 74, 5]),
  (false, 283, .lcmp, 1, 0, []),
  (false, 284, .ifCond .eq 991, 3, 0, [1275]),
  (false, 287, .iconst 0, 1, 0, []),
  (false, 288, .ireturn, 1, 0, []),
  (false, 289, .aload_n 1, 1, 0, []),
  (false, 290, .aload_n 0, 1, 0, []),
  (false, 291, .iload_n 3, 1, 0, []),
  (false, 292, .iconst 1, 1, 0, []),
  (false, 293, .iadd, 1, 0, []),
  (false, 294, .iaload, 1, 0, []),
  (false, 295, .aload_n 0, 1, 0, []),
  (false, 296, .iload_n 3, 1, 0, []),
  (false, 297, .iconst 2, 1, 0, []),
  (false, 298, .iadd, 1, 0, []),
  (false, 299, .iaload, 1, 0, []),
  (false, 300, .aload_n 0, 1, 0, []),
  (false, 301, .iload_n 3, 1, 0, []),
  (false, 302, .iconst 3, 1, 0, []),
  (false, 303, .iadd, 1, 0, []),
  (false, 304, .iaload, 1, 0, []),
  (false, 305, .aload_n 0, 1, 0, []),
  (false, 306, .iload_n 3, 1, 0, []),
  (false, 307, .iconst 4, 1, 0, []),
  (false, 308, .iadd, 1, 0, []),
  (false, 309, .iaload, 1, 0, []),
  (false, 310, .aload_n 0, 1, 0, []),
  (false, 311, .iload_n 3, 1, 0, []),
  (false, 312, .iconst 5, 1, 0, []),
  (false, 313, .iadd, 1, 0, []),
  (false, 314, .iaload, 1, 0, []),
  (false, 315, .invokevirtual 33, 3, 0, [3, 6, 0, 0, 0, 233, 234, 235, 236, 69, 4]),
  (false, 318, .aload_n 2, 1, 0, []),
  (false, 319, .aload_n 0, 1, 0, []),
  (false, 320, .iload_n 3, 1, 0, []),
  (false, 321, .iconst 1, 1, 0, []),
  (false, 322, .iadd, 1, 0, []),
  (false, 323, .iaload, 1, 0, [])]
def cd_L_law_4 : List CI := [(false, 324, .aload_n 0, 1, 0, []),
  (false, 325, .iload_n 3, 1, 0, []),
  (false, 326, .iconst 2, 1, 0, []),
  (false, 327, .iadd, 1, 0, []),
  (false, 328, .iaload, 1, 0, []),
  (false, 329, .aload_n 0, 1, 0, []),
  (false, 330, .iload_n 3, 1, 0, []),
  (false, 331, .iconst 3, 1, 0, []),
  (false, 332, .iadd, 1, 0, []),
  (false, 333, .iaload, 1, 0, []),
  (false, 334, .aload_n 0, 1, 0, []),
  (false, 335, .iload_n 3, 1, 0, []),
  (false, 336, .iconst 4, 1, 0, []),
  (false, 337, .iadd, 1, 0, []),
  (false, 338, .iaload, 1, 0, []),
  (false, 339, .aload_n 0, 1, 0, []),
  (false, 340, .iload_n 3, 1, 0, []),
  (false, 341, .iconst 5, 1, 0, []),
  (false, 342, .iadd, 1, 0, []),
  (false, 343, .iaload, 1, 0, []),
  (false, 344, .invokevirtual 37, 3, 0, [74, 6, 0, 0, 0, 709, 710, 711, 712, 74, 5]),
  (false, 347, .if_icmp .eq 928, 3, 0, [1275]),
  (false, 350, .iconst 0, 1, 0, []),
  (false, 351, .ireturn, 1, 0, []),
  (false, 352, .aload_n 1, 1, 0, []),
  (false, 353, .aload_n 0, 1, 0, []),
  (false, 354, .iload_n 3, 1, 0, []),
  (false, 355, .iconst 1, 1, 0, []),
  (false, 356, .iadd, 1, 0, []),
  (false, 357, .iaload, 1, 0, []),
  (false, 358, .invokevirtual 38, 3, 0, [4, 2, 0, 0, 0, 244, 245, 246, 247, 69, 4]),
  (false, 361, .aload_n 2, 1, 0, []),
  (false, 362, .aload_n 0, 1, 0, []),
  (false, 363, .iload_n 3, 1, 0, []),
  (false, 364, .iconst 1, 1, 0, []),
  (false, 365, .iadd, 1, 0, []),
  (false, 366, .iaload, 1, 0, []),
  (false, 367, .invokevirtual 42, 3, 0, [75, 2, 0, 0, 0, 713, 714, 715, 716, 74, 5]),
  (false, 370, .if_icmp .eq 905, 3, 0, [1275]),
  (false, 373, .iconst 0, 1, 0, [])]
def cd_L_law_5 : List CI := [(false, 374, .ireturn, 1, 0, []),
  (false, 375, .aload_n 1, 1, 0, []),
  (false, 376, .aload_n 0, 1, 0, []),
  (false, 377, .iload_n 3, 1, 0, []),
  (false, 378, .iconst 1, 1, 0, []),
  (false, 379, .iadd, 1, 0, []),
  (false, 380, .iaload, 1, 0, []),
  (false, 381, .aload_n 0, 1, 0, []),
  (false, 382, .iload_n 3, 1, 0, []),
  (false, 383, .iconst 2, 1, 0, []),
  (false, 384, .iadd, 1, 0, []),
  (false, 385, .iaload, 1, 0, []),
  (false, 386, .aload_n 0, 1, 0, []),
  (false, 387, .iload_n 3, 1, 0, []),
  (false, 388, .iconst 3, 1, 0, []),
  (false, 389, .iadd, 1, 0, []),
  (false, 390, .iaload, 1, 0, []),
  (false, 391, .aload_n 0, 1, 0, []),
  (false, 392, .iload_n 3, 1, 0, []),
  (false, 393, .iconst 4, 1, 0, []),
  (false, 394, .iadd, 1, 0, []),
  (false, 395, .iaload, 1, 0, []),
  (false, 396, .invokevirtual 43, 3, 0, [5, 5, 0, 2, 15, 248, 249, 250, 251, 69, 4]),
  (false, 399, .aload_n 2, 1, 0, []),
  (false, 400, .aload_n 0, 1, 0, []),
  (false, 401, .iload_n 3, 1, 0, []),
  (false, 402, .iconst 1, 1, 0, []),
  (false, 403, .iadd, 1, 0, []),
  (false, 404, .iaload, 1, 0, []),
  (false, 405, .aload_n 0, 1, 0, []),
  (false, 406, .iload_n 3, 1, 0, []),
  (false, 407, .iconst 2, 1, 0, []),
  (false, 408, .iadd, 1, 0, []),
  (false, 409, .iaload, 1, 0, []),
  (false, 410, .aload_n 0, 1, 0, []),
  (false, 411, .iload_n 3, 1, 0, []),
  (false, 412, .iconst 3, 1, 0, []),
  (false, 413, .iadd, 1, 0, []),
  (false, 414, .iaload, 1, 0, []),
  (false, 415, .aload_n 0, 1, 0, [])]
def cd_L_law_6 : List CI := [(false, 416, .iload_n 3, 1, 0, []),
  (false, 417, .iconst 4, 1, 0, []),
  (false, 418, .iadd, 1, 0, []),
  (false, 419, .iaload, 1, 0, []),
  (false, 420, .invokevirtual 47, 3, 0, [86, 5, 0, 0, 0, 717, 718, 719, 720, 74, 5]),
  (false, 423, .if_icmp .eq 852, 3, 0, [1275]),
  (false, 426, .iconst 0, 1, 0, []),
  (false, 427, .ireturn, 1, 0, []),
  (false, 428, .aload_n 1, 1, 0, []),
  (false, 429, .aload_n 0, 1, 0, []),
  (false, 430, .iload_n 3, 1, 0, []),
  (false, 431, .iconst 1, 1, 0, []),
  (false, 432, .iadd, 1, 0, []),
  (false, 433, .iaload, 1, 0, []),
  (false, 434, .aload_n 0, 1, 0, []),
  (false, 435, .iload_n 3, 1, 0, []),
  (false, 436, .iconst 2, 1, 0, []),
  (false, 437, .iadd, 1, 0, []),
  (false, 438, .iaload, 1, 0, []),
  (false, 439, .aload_n 0, 1, 0, []),
  (false, 440, .iload_n 3, 1, 0, []),
  (false, 441, .iconst 3, 1, 0, []),
  (false, 442, .iadd, 1, 0, []),
  (false, 443, .iaload, 1, 0, []),
  (false, 444, .invokevirtual 48, 3, 0, [6, 4, 0, 2, 15, 318, 319, 320, 321, 69, 4]),
  (false, 447, .aload_n 2, 1, 0, []),
  (false, 448, .aload_n 0, 1, 0, []),
  (false, 449, .iload_n 3, 1, 0, []),
  (false, 450, .iconst 1, 1, 0, []),
  (false, 451, .iadd, 1, 0, []),
  (false, 452, .iaload, 1, 0, []),
  (false, 453, .aload_n 0, 1, 0, []),
  (false, 454, .iload_n 3, 1, 0, []),
  (false, 455, .iconst 2, 1, 0, []),
  (false, 456, .iadd, 1, 0, []),
  (false, 457, .iaload, 1, 0, []),
  (false, 458, .aload_n 0, 1, 0, []),
  (false, 459, .iload_n 3, 1, 0, []),
  (false, 460, .iconst 3, 1, 0, []),
  (false, 461, .iadd, 1, 0, [])]
def cd_L_law_7 : List CI := [(false, 462, .iaload, 1, 0, []),
  (false, 463, .invokevirtual 51, 3, 0, [90, 4, 0, 0, 0, 755, 756, 757, 758, 74, 5]),
  (false, 466, .if_icmp .eq 809, 3, 0, [1275]),
  (false, 469, .iconst 0, 1, 0, []),
  (false, 470, .ireturn, 1, 0, []),
  (false, 471, .aload_n 1, 1, 0, []),
  (false, 472, .aload_n 0, 1, 0, []),
  (false, 473, .iload_n 3, 1, 0, []),
  (false, 474, .iconst 1, 1, 0, []),
  (false, 475, .iadd, 1, 0, []),
  (false, 476, .iaload, 1, 0, []),
  (false, 477, .aload_n 0, 1, 0, []),
  (false, 478, .iload_n 3, 1, 0, []),
  (false, 479, .iconst 2, 1, 0, []),
  (false, 480, .iadd, 1, 0, []),
  (false, 481, .iaload, 1, 0, []),
  (false, 482, .aload_n 0, 1, 0, []),
  (false, 483, .iload_n 3, 1, 0, []),
  (false, 484, .iconst 3, 1, 0, []),
  (false, 485, .iadd, 1, 0, []),
  (false, 486, .iaload, 1, 0, []),
  (false, 487, .aload_n 0, 1, 0, []),
  (false, 488, .iload_n 3, 1, 0, []),
  (false, 489, .iconst 4, 1, 0, []),
  (false, 490, .iadd, 1, 0, []),
  (false, 491, .iaload, 1, 0, []),
  (false, 492, .invokevirtual 52, 3, 0, [7, 5, 0, 10, 75, 329, 330, 331, 332, 69, 4]),
  (false, 495, .aload_n 2, 1, 0, []),
  (false, 496, .aload_n 0, 1, 0, []),
  (false, 497, .iload_n 3, 1, 0, []),
  (false, 498, .iconst 1, 1, 0, []),
  (false, 499, .iadd, 1, 0, []),
  (false, 500, .iaload, 1, 0, []),
  (false, 501, .aload_n 0, 1, 0, []),
  (false, 502, .iload_n 3, 1, 0, []),
  (false, 503, .iconst 2, 1, 0, []),
  (false, 504, .iadd, 1, 0, []),
  (false, 505, .iaload, 1, 0, []),
  (false, 506, .aload_n 0, 1, 0, []),
  (false, 507, .iload_n 3, 1, 0, [])]
def cd_L_law_8 : List CI := [(false, 508, .iconst 3, 1, 0, []),
  (false, 509, .iadd, 1, 0, []),
  (false, 510, .iaload, 1, 0, []),
  (false, 511, .aload_n 0, 1, 0, []),
  (false, 512, .iload_n 3, 1, 0, []),
  (false, 513, .iconst 4, 1, 0, []),
  (false, 514, .iadd, 1, 0, []),
  (false, 515, .iaload, 1, 0, []),
  (false, 516, .invokevirtual 55, 3, 0, [93, 5, 0, 0, 0, 772, 773, 774, 775, 74, 5]),
  (false, 519, .if_icmp .eq 756, 3, 0, [1275]),
  (false, 522, .iconst 0, 1, 0, []),
  (false, 523, .ireturn, 1, 0, []),
  (false, 524, .aload_n 1, 1, 0, []),
  (false, 525, .aload_n 0, 1, 0, []),
  (false, 526, .iload_n 3, 1, 0, []),
  (false, 527, .iconst 1, 1, 0, []),
  (false, 528, .iadd, 1, 0, []),
  (false, 529, .iaload, 1, 0, []),
  (false, 530, .aload_n 0, 1, 0, []),
  (false, 531, .iload_n 3, 1, 0, []),
  (false, 532, .iconst 2, 1, 0, []),
  (false, 533, .iadd, 1, 0, []),
  (false, 534, .iaload, 1, 0, []),
  (false, 535, .aload_n 0, 1, 0, []),
  (false, 536, .iload_n 3, 1, 0, []),
  (false, 537, .iconst 3, 1, 0, []),
  (false, 538, .iadd, 1, 0, []),
  (false, 539, .iaload, 1, 0, []),
  (false, 540, .invokevirtual 56, 3, 0, [8, 4, 0, 2, 15, 366, 367, 368, 369, 69, 4]),
  (false, 543, .aload_n 2, 1, 0, []),
  (false, 544, .aload_n 0, 1, 0, []),
  (false, 545, .iload_n 3, 1, 0, []),
  (false, 546, .iconst 1, 1, 0, []),
  (false, 547, .iadd, 1, 0, []),
  (false, 548, .iaload, 1, 0, []),
  (false, 549, .aload_n 0, 1, 0, []),
  (false, 550, .iload_n 3, 1, 0, []),
  (false, 551, .iconst 2, 1, 0, []),
  (false, 552, .iadd, 1, 0, []),
  (false, 553, .iaload, 1, 0, [])]
def cd_L_law_9 : List CI := [(false, 554, .aload_n 0, 1, 0, []),
  (false, 555, .iload_n 3, 1, 0, []),
  (false, 556, .iconst 3, 1, 0, []),
  (false, 557, .iadd, 1, 0, []),
  (false, 558, .iaload, 1, 0, []),
  (false, 559, .invokevirtual 59, 3, 0, [97, 4, 0, 0, 0, 795, 796, 797, 798, 74, 5]),
  (false, 562, .if_icmp .eq 713, 3, 0, [1275]),
  (false, 565, .iconst 0, 1, 0, []),
  (false, 566, .ireturn, 1, 0, []),
  (false, 567, .aload_n 1, 1, 0, []),
  (false, 568, .aload_n 0, 1, 0, []),
  (false, 569, .iload_n 3, 1, 0, []),
  (false, 570, .iconst 1, 1, 0, []),
  (false, 571, .iadd, 1, 0, []),
  (false, 572, .iaload, 1, 0, []),
  (false, 573, .invokevirtual 60, 3, 0, [9, 2, 0, 0, 0, 370, 371, 372, 373, 69, 4]),
  (false, 576, .aload_n 2, 1, 0, []),
  (false, 577, .aload_n 0, 1, 0, []),
  (false, 578, .iload_n 3, 1, 0, []),
  (false, 579, .iconst 1, 1, 0, []),
  (false, 580, .iadd, 1, 0, []),
  (false, 581, .iaload, 1, 0, []),
  (false, 582, .invokevirtual 63, 3, 0, [98, 2, 0, 0, 0, 803, 804, 805, 806, 74, 5]),
  (false, 585, .if_icmp .eq 690, 3, 0, [1275]),
  (false, 588, .iconst 0, 1, 0, []),
  (false, 589, .ireturn, 1, 0, []),
  (false, 590, .aload_n 1, 1, 0, []),
  (false, 591, .aload_n 0, 1, 0, []),
  (false, 592, .iload_n 3, 1, 0, []),
  (false, 593, .iconst 1, 1, 0, []),
  (false, 594, .iadd, 1, 0, []),
  (false, 595, .iaload, 1, 0, []),
  (false, 596, .invokevirtual 64, 3, 0, [10, 2, 0, 0, 0, 374, 375, 376, 377, 69, 4]),
  (false, 599, .aload_n 2, 1, 0, []),
  (false, 600, .aload_n 0, 1, 0, []),
  (false, 601, .iload_n 3, 1, 0, []),
  (false, 602, .iconst 1, 1, 0, []),
  (false, 603, .iadd, 1, 0, []),
  (false, 604, .iaload, 1, 0, []),
  (false, 605, .invokevirtual 67, 3, 0, [99, 2, 0, 0, 0, 807, 808, 809, 810, 74, 5])]
def cd_L_law_10 : List CI := [(false, 608, .if_icmp .eq 667, 3, 0, [1275]),
  (false, 611, .iconst 0, 1, 0, []),
  (false, 612, .ireturn, 1, 0, []),
  (false, 613, .aload_n 1, 1, 0, []),
  (false, 614, .aload_n 0, 1, 0, []),
  (false, 615, .iload_n 3, 1, 0, []),
  (false, 616, .iconst 1, 1, 0, []),
  (false, 617, .iadd, 1, 0, []),
  (false, 618, .iaload, 1, 0, []),
  (false, 619, .aload_n 0, 1, 0, []),
  (false, 620, .iload_n 3, 1, 0, []),
  (false, 621, .iconst 2, 1, 0, []),
  (false, 622, .iadd, 1, 0, []),
  (false, 623, .iaload, 1, 0, []),
  (false, 624, .invokevirtual 68, 3, 0, [11, 3, 0, 0, 0, 378, 379, 380, 381, 69, 4]),
  (false, 627, .aload_n 2, 1, 0, []),
  (false, 628, .aload_n 0, 1, 0, []),
  (false, 629, .iload_n 3, 1, 0, []),
  (false, 630, .iconst 1, 1, 0, []),
  (false, 631, .iadd, 1, 0, []),
  (false, 632, .iaload, 1, 0, []),
  (false, 633, .aload_n 0, 1, 0, []),
  (false, 634, .iload_n 3, 1, 0, []),
  (false, 635, .iconst 2, 1, 0, []),
  (false, 636, .iadd, 1, 0, []),
  (false, 637, .iaload, 1, 0, []),
  (false, 638, .invokevirtual 72, 3, 0, [100, 3, 0, 0, 0, 811, 812, 813, 814, 74, 5]),
  (false, 641, .if_icmp .eq 634, 3, 0, [1275]),
  (false, 644, .iconst 0, 1, 0, []),
  (false, 645, .ireturn, 1, 0, []),
  (false, 646, .aload_n 1, 1, 0, []),
  (false, 647, .aload_n 0, 1, 0, []),
  (false, 648, .iload_n 3, 1, 0, []),
  (false, 649, .iconst 1, 1, 0, []),
  (false, 650, .iadd, 1, 0, []),
  (false, 651, .iaload, 1, 0, []),
  (false, 652, .aload_n 0, 1, 0, []),
  (false, 653, .iload_n 3, 1, 0, []),
  (false, 654, .iconst 2, 1, 0, []),
  (false, 655, .iadd, 1, 0, [])]
def cd_L_law_11 : List CI := [(false, 656, .iaload, 1, 0, []),
  (false, 657, .invokevirtual 73, 3, 0, [12, 3, 0, 0, 0, 382, 383, 384, 385, 69, 4]),
  (false, 660, .aload_n 2, 1, 0, []),
  (false, 661, .aload_n 0, 1, 0, []),
  (false, 662, .iload_n 3, 1, 0, []),
  (false, 663, .iconst 1, 1, 0, []),
  (false, 664, .iadd, 1, 0, []),
  (false, 665, .iaload, 1, 0, []),
  (false, 666, .aload_n 0, 1, 0, []),
  (false, 667, .iload_n 3, 1, 0, []),
  (false, 668, .iconst 2, 1, 0, []),
  (false, 669, .iadd, 1, 0, []),
  (false, 670, .iaload, 1, 0, []),
  (false, 671, .invokevirtual 76, 3, 0, [102, 3, 0, 0, 0, 816, 817, 818, 819, 74, 5]),
  (false, 674, .if_icmp .eq 601, 3, 0, [1275]),
  (false, 677, .iconst 0, 1, 0, []),
  (false, 678, .ireturn, 1, 0, []),
  (false, 679, .aload_n 1, 1, 0, []),
  (false, 680, .aload_n 0, 1, 0, []),
  (false, 681, .iload_n 3, 1, 0, []),
  (false, 682, .iconst 1, 1, 0, []),
  (false, 683, .iadd, 1, 0, []),
  (false, 684, .iaload, 1, 0, []),
  (false, 685, .aload_n 0, 1, 0, []),
  (false, 686, .iload_n 3, 1, 0, []),
  (false, 687, .iconst 2, 1, 0, []),
  (false, 688, .iadd, 1, 0, []),
  (false, 689, .iaload, 1, 0, []),
  (false, 690, .invokevirtual 77, 3, 0, [13, 3, 0, 0, 0, 386, 387, 388, 389, 69, 4]),
  (false, 693, .aload_n 2, 1, 0, []),
  (false, 694, .aload_n 0, 1, 0, []),
  (false, 695, .iload_n 3, 1, 0, []),
  (false, 696, .iconst 1, 1, 0, []),
  (false, 697, .iadd, 1, 0, []),
  (false, 698, .iaload, 1, 0, []),
  (false, 699, .aload_n 0, 1, 0, []),
  (false, 700, .iload_n 3, 1, 0, []),
  (false, 701, .iconst 2, 1, 0, []),
  (false, 702, .iadd, 1, 0, []),
  (false, 703, .iaload, 1, 0, [])]
def cd_L_law_12 : List CI := [(false, 704, .invokevirtual 80, 3, 0, [107, 3, 0, 0, 0, 828, 829, 830, 831, 74, 5]),
  (false, 707, .if_icmp .eq 568, 3, 0, [1275]),
  (false, 710, .iconst 0, 1, 0, []),
  (false, 711, .ireturn, 1, 0, []),
  (false, 712, .aload_n 1, 1, 0, []),
  (false, 713, .aload_n 0, 1, 0, []),
  (false, 714, .iload_n 3, 1, 0, []),
  (false, 715, .iconst 1, 1, 0, []),
  (false, 716, .iadd, 1, 0, []),
  (false, 717, .iaload, 1, 0, []),
  (false, 718, .invokevirtual 81, 3, 0, [14, 2, 0, 0, 0, 438, 439, 440, 441, 69, 4]),
  (false, 721, .aload_n 2, 1, 0, []),
  (false, 722, .aload_n 0, 1, 0, []),
  (false, 723, .iload_n 3, 1, 0, []),
  (false, 724, .iconst 1, 1, 0, []),
  (false, 725, .iadd, 1, 0, []),
  (false, 726, .iaload, 1, 0, []),
  (false, 727, .invokevirtual 84, 3, 0, [108, 2, 0, 0, 0, 856, 857, 858, 859, 74, 5]),
  (false, 730, .if_icmp .eq 545, 3, 0, [1275]),
  (false, 733, .iconst 0, 1, 0, []),
  (false, 734, .ireturn, 1, 0, []),
  (false, 735, .aload_n 1, 1, 0, []),
  (false, 736, .aload_n 0, 1, 0, []),
  (false, 737, .iload_n 3, 1, 0, []),
  (false, 738, .iconst 1, 1, 0, []),
  (false, 739, .iadd, 1, 0, []),
  (false, 740, .iaload, 1, 0, []),
  (false, 741, .aload_n 0, 1, 0, []),
  (false, 742, .iload_n 3, 1, 0, []),
  (false, 743, .iconst 2, 1, 0, []),
  (false, 744, .iadd, 1, 0, []),
  (false, 745, .iaload, 1, 0, []),
  (false, 746, .invokevirtual 85, 3, 0, [15, 3, 0, 0, 0, 442, 443, 444, 445, 69, 4]),
  (false, 749, .aload_n 2, 1, 0, []),
  (false, 750, .aload_n 0, 1, 0, []),
  (false, 751, .iload_n 3, 1, 0, []),
  (false, 752, .iconst 1, 1, 0, []),
  (false, 753, .iadd, 1, 0, []),
  (false, 754, .iaload, 1, 0, []),
  (false, 755, .aload_n 0, 1, 0, [])]
def cd_L_law_13 : List CI := [(false, 756, .iload_n 3, 1, 0, []),
  (false, 757, .iconst 2, 1, 0, []),
  (false, 758, .iadd, 1, 0, []),
  (false, 759, .iaload, 1, 0, []),
  (false, 760, .invokevirtual 88, 3, 0, [109, 3, 0, 0, 0, 860, 861, 862, 863, 74, 5]),
  (false, 763, .if_icmp .eq 512, 3, 0, [1275]),
  (false, 766, .iconst 0, 1, 0, []),
  (false, 767, .ireturn, 1, 0, []),
  (false, 768, .aload_n 1, 1, 0, []),
  (false, 769, .aload_n 0, 1, 0, []),
  (false, 770, .iload_n 3, 1, 0, []),
  (false, 771, .iconst 1, 1, 0, []),
  (false, 772, .iadd, 1, 0, []),
  (false, 773, .iaload, 1, 0, []),
  (false, 774, .aload_n 0, 1, 0, []),
  (false, 775, .iload_n 3, 1, 0, []),
  (false, 776, .iconst 2, 1, 0, []),
  (false, 777, .iadd, 1, 0, []),
  (false, 778, .iaload, 1, 0, []),
  (false, 779, .invokevirtual 89, 3, 0, [16, 3, 0, 2, 15, 446, 447, 448, 449, 69, 4]),
  (false, 782, .aload_n 2, 1, 0, []),
  (false, 783, .aload_n 0, 1, 0, []),
  (false, 784, .iload_n 3, 1, 0, []),
  (false, 785, .iconst 1, 1, 0, []),
  (false, 786, .iadd, 1, 0, []),
  (false, 787, .iaload, 1, 0, []),
  (false, 788, .aload_n 0, 1, 0, []),
  (false, 789, .iload_n 3, 1, 0, []),
  (false, 790, .iconst 2, 1, 0, []),
  (false, 791, .iadd, 1, 0, []),
  (false, 792, .iaload, 1, 0, []),
  (false, 793, .invokevirtual 92, 3, 0, [112, 3, 0, 0, 0, 864, 865, 866, 867, 74, 5]),
  (false, 796, .if_icmp .eq 479, 3, 0, [1275]),
  (false, 799, .iconst 0, 1, 0, []),
  (false, 800, .ireturn, 1, 0, []),
  (false, 801, .aload_n 1, 1, 0, []),
  (false, 802, .aload_n 0, 1, 0, []),
  (false, 803, .iload_n 3, 1, 0, []),
  (false, 804, .iconst 1, 1, 0, []),
  (false, 805, .iadd, 1, 0, [])]
def cd_L_law_14 : List CI := [(false, 806, .iaload, 1, 0, []),
  (false, 807, .aload_n 0, 1, 0, []),
  (false, 808, .iload_n 3, 1, 0, []),
  (false, 809, .iconst 2, 1, 0, []),
  (false, 810, .iadd, 1, 0, []),
  (false, 811, .iaload, 1, 0, []),
  (false, 812, .invokevirtual 93, 3, 0, [17, 3, 0, 0, 0, 460, 461, 462, 463, 69, 4]),
  (false, 815, .aload_n 2, 1, 0, []),
  (false, 816, .aload_n 0, 1, 0, []),
  (false, 817, .iload_n 3, 1, 0, []),
  (false, 818, .iconst 1, 1, 0, []),
  (false, 819, .iadd, 1, 0, []),
  (false, 820, .iaload, 1, 0, []),
  (false, 821, .aload_n 0, 1, 0, []),
  (false, 822, .iload_n 3, 1, 0, []),
  (false, 823, .iconst 2, 1, 0, []),
  (false, 824, .iadd, 1, 0, []),
  (false, 825, .iaload, 1, 0, []),
  (false, 826, .invokevirtual 96, 3, 0, [114, 3, 0, 0, 0, 881, 882, 883, 884, 74, 5]),
  (false, 829, .if_icmp .eq 446, 3, 0, [1275]),
  (false, 832, .iconst 0, 1, 0, []),
  (false, 833, .ireturn, 1, 0, []),
  (false, 834, .aload_n 1, 1, 0, []),
  (false, 835, .aload_n 0, 1, 0, []),
  (false, 836, .iload_n 3, 1, 0, []),
  (false, 837, .iconst 1, 1, 0, []),
  (false, 838, .iadd, 1, 0, []),
  (false, 839, .iaload, 1, 0, []),
  (false, 840, .invokevirtual 97, 3, 0, [18, 2, 0, 0, 0, 468, 469, 470, 471, 69, 4]),
  (false, 843, .aload_n 2, 1, 0, []),
  (false, 844, .aload_n 0, 1, 0, []),
  (false, 845, .iload_n 3, 1, 0, []),
  (false, 846, .iconst 1, 1, 0, []),
  (false, 847, .iadd, 1, 0, []),
  (false, 848, .iaload, 1, 0, []),
  (false, 849, .invokevirtual 100, 3, 0, [117, 2, 0, 0, 0, 885, 886, 887, 888, 74, 5]),
  (false, 852, .if_icmp .eq 423, 3, 0, [1275]),
  (false, 855, .iconst 0, 1, 0, []),
  (false, 856, .ireturn, 1, 0, []),
  (false, 857, .aload_n 1, 1, 0, [])]
def cd_L_law_15 : List CI := [(false, 858, .aload_n 0, 1, 0, []),
  (false, 859, .iload_n 3, 1, 0, []),
  (false, 860, .iconst 1, 1, 0, []),
  (false, 861, .iadd, 1, 0, []),
  (false, 862, .iaload, 1, 0, []),
  (false, 863, .aload_n 0, 1, 0, []),
  (false, 864, .iload_n 3, 1, 0, []),
  (false, 865, .iconst 2, 1, 0, []),
  (false, 866, .iadd, 1, 0, []),
  (false, 867, .iaload, 1, 0, []),
  (false, 868, .aload_n 0, 1, 0, []),
  (false, 869, .iload_n 3, 1, 0, []),
  (false, 870, .iconst 3, 1, 0, []),
  (false, 871, .iadd, 1, 0, []),
  (false, 872, .iaload, 1, 0, []),
  (false, 873, .aload_n 0, 1, 0, []),
  (false, 874, .iload_n 3, 1, 0, []),
  (false, 875, .iconst 4, 1, 0, []),
  (false, 876, .iadd, 1, 0, []),
  (false, 877, .iaload, 1, 0, []),
  (false, 878, .aload_n 0, 1, 0, []),
  (false, 879, .iload_n 3, 1, 0, []),
  (false, 880, .iconst 5, 1, 0, []),
  (false, 881, .iadd, 1, 0, []),
  (false, 882, .iaload, 1, 0, []),
  (false, 883, .invokevirtual 101, 3, 0, [19, 6, 0, 0, 0, 472, 473, 474, 475, 69, 4]),
  (false, 886, .aload_n 2, 1, 0, []),
  (false, 887, .aload_n 0, 1, 0, []),
  (false, 888, .iload_n 3, 1, 0, []),
  (false, 889, .iconst 1, 1, 0, []),
  (false, 890, .iadd, 1, 0, []),
  (false, 891, .iaload, 1, 0, []),
  (false, 892, .aload_n 0, 1, 0, []),
  (false, 893, .iload_n 3, 1, 0, []),
  (false, 894, .iconst 2, 1, 0, []),
  (false, 895, .iadd, 1, 0, []),
  (false, 896, .iaload, 1, 0, []),
  (false, 897, .aload_n 0, 1, 0, []),
  (false, 898, .iload_n 3, 1, 0, []),
  (false, 899, .iconst 3, 1, 0, [])]
def cd_L_law_16 : List CI := [(false, 900, .iadd, 1, 0, []),
  (false, 901, .iaload, 1, 0, []),
  (false, 902, .aload_n 0, 1, 0, []),
  (false, 903, .iload_n 3, 1, 0, []),
  (false, 904, .iconst 4, 1, 0, []),
  (false, 905, .iadd, 1, 0, []),
  (false, 906, .iaload, 1, 0, []),
  (false, 907, .aload_n 0, 1, 0, []),
  (false, 908, .iload_n 3, 1, 0, []),
  (false, 909, .iconst 5, 1, 0, []),
  (false, 910, .iadd, 1, 0, []),
  (false, 911, .iaload, 1, 0, []),
  (false, 912, .invokevirtual 104, 3, 0, [125, 6, 0, 0, 0, 889, 890, 891, 892, 74, 5]),
  (false, 915, .if_icmp .eq 360, 3, 0, [1275]),
  (false, 918, .iconst 0, 1, 0, []),
  (false, 919, .ireturn, 1, 0, []),
  (false, 920, .aload_n 1, 1, 0, []),
  (false, 921, .aload_n 0, 1, 0, []),
  (false, 922, .iload_n 3, 1, 0, []),
  (false, 923, .iconst 1, 1, 0, []),
  (false, 924, .iadd, 1, 0, []),
  (false, 925, .iaload, 1, 0, []),
  (false, 926, .aload_n 0, 1, 0, []),
  (false, 927, .iload_n 3, 1, 0, []),
  (false, 928, .iconst 2, 1, 0, []),
  (false, 929, .iadd, 1, 0, []),
  (false, 930, .iaload, 1, 0, []),
  (false, 931, .aload_n 0, 1, 0, []),
  (false, 932, .iload_n 3, 1, 0, []),
  (false, 933, .iconst 3, 1, 0, []),
  (false, 934, .iadd, 1, 0, []),
  (false, 935, .iaload, 1, 0, []),
  (false, 936, .invokevirtual 105, 3, 0, [20, 4, 1, 0, 0, 509, 510, 511, 512, 69, 4]),
  (false, 939, .aload_n 2, 1, 0, []),
  (false, 940, .aload_n 0, 1, 0, []),
  (false, 941, .iload_n 3, 1, 0, []),
  (false, 942, .iconst 1, 1, 0, []),
  (false, 943, .iadd, 1, 0, []),
  (false, 944, .iaload, 1, 0, []),
  (false, 945, .aload_n 0, 1, 0, [])]
def cd_L_law_17 : List CI := [(false, 946, .iload_n 3, 1, 0, []),
  (false, 947, .iconst 2, 1, 0, []),
  (false, 948, .iadd, 1, 0, []),
  (false, 949, .iaload, 1, 0, []),
  (false, 950, .aload_n 0, 1, 0, []),
  (false, 951, .iload_n 3, 1, 0, []),
  (false, 952, .iconst 3, 1, 0, []),
  (false, 953, .iadd, 1, 0, []),
  (false, 954, .iaload, 1, 0, []),
  (false, 955, .invokevirtual 109, 3, 0, [126, 4, 1, 0, 0, 916, 917, 918, 919, 74, 5]),
  (false, 958, .lcmp, 1, 0, []),
  (false, 959, .ifCond .eq 316, 3, 0, [1275]),
  (false, 962, .iconst 0, 1, 0, []),
  (false, 963, .ireturn, 1, 0, []),
  (false, 964, .aload_n 1, 1, 0, []),
  (false, 965, .aload_n 0, 1, 0, []),
  (false, 966, .iload_n 3, 1, 0, []),
  (false, 967, .iconst 1, 1, 0, []),
  (false, 968, .iadd, 1, 0, []),
  (false, 969, .iaload, 1, 0, []),
  (false, 970, .aload_n 0, 1, 0, []),
  (false, 971, .iload_n 3, 1, 0, []),
  (false, 972, .iconst 2, 1, 0, []),
  (false, 973, .iadd, 1, 0, []),
  (false, 974, .iaload, 1, 0, []),
  (false, 975, .aload_n 0, 1, 0, []),
  (false, 976, .iload_n 3, 1, 0, []),
  (false, 977, .iconst 3, 1, 0, []),
  (false, 978, .iadd, 1, 0, []),
  (false, 979, .iaload, 1, 0, []),
  (false, 980, .aload_n 0, 1, 0, []),
  (false, 981, .iload_n 3, 1, 0, []),
  (false, 982, .iconst 4, 1, 0, []),
  (false, 983, .iadd, 1, 0, []),
  (false, 984, .iaload, 1, 0, []),
  (false, 985, .invokevirtual 110, 3, 0, [21, 5, 0, 0, 0, 517, 518, 519, 520, 69, 4]),
  (false, 988, .aload_n 2, 1, 0, []),
  (false, 989, .aload_n 0, 1, 0, []),
  (false, 990, .iload_n 3, 1, 0, []),
  (false, 991, .iconst 1, 1, 0, [])]
def cd_L_law_18 : List CI := [(false, 992, .iadd, 1, 0, []),
  (false, 993, .iaload, 1, 0, []),
  (false, 994, .aload_n 0, 1, 0, []),
  (false, 995, .iload_n 3, 1, 0, []),
  (false, 996, .iconst 2, 1, 0, []),
  (false, 997, .iadd, 1, 0, []),
  (false, 998, .iaload, 1, 0, []),
  (false, 999, .aload_n 0, 1, 0, []),
  (false, 1000, .iload_n 3, 1, 0, []),
  (false, 1001, .iconst 3, 1, 0, []),
  (false, 1002, .iadd, 1, 0, []),
  (false, 1003, .iaload, 1, 0, []),
  (false, 1004, .aload_n 0, 1, 0, []),
  (false, 1005, .iload_n 3, 1, 0, []),
  (false, 1006, .iconst 4, 1, 0, []),
  (false, 1007, .iadd, 1, 0, []),
  (false, 1008, .iaload, 1, 0, []),
  (false, 1009, .invokevirtual 113, 3, 0, [127, 5, 0, 0, 0, 924, 925, 926, 927, 74, 5]),
  (false, 1012, .if_icmp .eq 263, 3, 0, [1275]),
  (false, 1015, .iconst 0, 1, 0, []),
  (false, 1016, .ireturn, 1, 0, []),
  (false, 1017, .aload_n 1, 1, 0, []),
  (false, 1018, .aload_n 0, 1, 0, []),
  (false, 1019, .iload_n 3, 1, 0, []),
  (false, 1020, .iconst 1, 1, 0, []),
  (false, 1021, .iadd, 1, 0, []),
  (false, 1022, .iaload, 1, 0, []),
  (false, 1023, .aload_n 0, 1, 0, []),
  (false, 1024, .iload_n 3, 1, 0, []),
  (false, 1025, .iconst 2, 1, 0, []),
  (false, 1026, .iadd, 1, 0, []),
  (false, 1027, .iaload, 1, 0, []),
  (false, 1028, .aload_n 0, 1, 0, []),
  (false, 1029, .iload_n 3, 1, 0, []),
  (false, 1030, .iconst 3, 1, 0, []),
  (false, 1031, .iadd, 1, 0, []),
  (false, 1032, .iaload, 1, 0, []),
  (false, 1033, .aload_n 0, 1, 0, []),
  (false, 1034, .iload_n 3, 1, 0, []),
  (false, 1035, .iconst 4, 1, 0, [])]
def cd_L_law_19 : List CI := [(false, 1036, .iadd, 1, 0, []),
  (false, 1037, .iaload, 1, 0, []),
  (false, 1038, .invokevirtual 114, 3, 0, [22, 5, 0, 0, 0, 530, 531, 532, 533, 69, 4]),
  (false, 1041, .aload_n 2, 1, 0, []),
  (false, 1042, .aload_n 0, 1, 0, []),
  (false, 1043, .iload_n 3, 1, 0, []),
  (false, 1044, .iconst 1, 1, 0, []),
  (false, 1045, .iadd, 1, 0, []),
  (false, 1046, .iaload, 1, 0, []),
  (false, 1047, .aload_n 0, 1, 0, []),
  (false, 1048, .iload_n 3, 1, 0, []),
  (false, 1049, .iconst 2, 1, 0, []),
  (false, 1050, .iadd, 1, 0, []),
  (false, 1051, .iaload, 1, 0, []),
  (false, 1052, .aload_n 0, 1, 0, []),
  (false, 1053, .iload_n 3, 1, 0, []),
  (false, 1054, .iconst 3, 1, 0, []),
  (false, 1055, .iadd, 1, 0, []),
  (false, 1056, .iaload, 1, 0, []),
  (false, 1057, .aload_n 0, 1, 0, []),
  (false, 1058, .iload_n 3, 1, 0, []),
  (false, 1059, .iconst 4, 1, 0, []),
  (false, 1060, .iadd, 1, 0, []),
  (false, 1061, .iaload, 1, 0, []),
  (false, 1062, .invokevirtual 117, 3, 0, [129, 5, 0, 0, 0, 932, 933, 934, 935, 74, 5]),
  (false, 1065, .if_icmp .eq 210, 3, 0, [1275]),
  (false, 1068, .iconst 0, 1, 0, []),
  (false, 1069, .ireturn, 1, 0, []),
  (false, 1070, .aload_n 1, 1, 0, []),
  (false, 1071, .aload_n 0, 1, 0, []),
  (false, 1072, .iload_n 3, 1, 0, []),
  (false, 1073, .iconst 1, 1, 0, []),
  (false, 1074, .iadd, 1, 0, []),
  (false, 1075, .iaload, 1, 0, []),
  (false, 1076, .aload_n 0, 1, 0, []),
  (false, 1077, .iload_n 3, 1, 0, []),
  (false, 1078, .iconst 2, 1, 0, []),
  (false, 1079, .iadd, 1, 0, []),
  (false, 1080, .iaload, 1, 0, []),
  (false, 1081, .invokevirtual 118, 3, 0, [23, 3, 1, 0, 0, 538, 539, 540, 541, 69, 4])]
def cd_L_law_20 : List CI := [(false, 1084, .aload_n 2, 1, 0, []),
  (false, 1085, .aload_n 0, 1, 0, []),
  (false, 1086, .iload_n 3, 1, 0, []),
  (false, 1087, .iconst 1, 1, 0, []),
  (false, 1088, .iadd, 1, 0, []),
  (false, 1089, .iaload, 1, 0, []),
  (false, 1090, .aload_n 0, 1, 0, []),
  (false, 1091, .iload_n 3, 1, 0, []),
  (false, 1092, .iconst 2, 1, 0, []),
  (false, 1093, .iadd, 1, 0, []),
  (false, 1094, .iaload, 1, 0, []),
  (false, 1095, .invokevirtual 122, 3, 0, [131, 3, 1, 0, 0, 936, 937, 938, 939, 74, 5]),
  (false, 1098, .lcmp, 1, 0, []),
  (false, 1099, .ifCond .eq 176, 3, 0, [1275]),
  (false, 1102, .iconst 0, 1, 0, []),
  (false, 1103, .ireturn, 1, 0, []),
  (false, 1104, .aload_n 1, 1, 0, []),
  (false, 1105, .aload_n 0, 1, 0, []),
  (false, 1106, .iload_n 3, 1, 0, []),
  (false, 1107, .iconst 1, 1, 0, []),
  (false, 1108, .iadd, 1, 0, []),
  (false, 1109, .iaload, 1, 0, []),
  (false, 1110, .aload_n 0, 1, 0, []),
  (false, 1111, .iload_n 3, 1, 0, []),
  (false, 1112, .iconst 2, 1, 0, []),
  (false, 1113, .iadd, 1, 0, []),
  (false, 1114, .iaload, 1, 0, []),
  (false, 1115, .invokevirtual 123, 3, 0, [24, 3, 0, 0, 0, 558, 559, 560, 561, 69, 4]),
  (false, 1118, .aload_n 2, 1, 0, []),
  (false, 1119, .aload_n 0, 1, 0, []),
  (false, 1120, .iload_n 3, 1, 0, []),
  (false, 1121, .iconst 1, 1, 0, []),
  (false, 1122, .iadd, 1, 0, []),
  (false, 1123, .iaload, 1, 0, []),
  (false, 1124, .aload_n 0, 1, 0, []),
  (false, 1125, .iload_n 3, 1, 0, []),
  (false, 1126, .iconst 2, 1, 0, []),
  (false, 1127, .iadd, 1, 0, []),
  (false, 1128, .iaload, 1, 0, []),
  (false, 1129, .invokevirtual 126, 3, 0, [132, 3, 0, 0, 0, 944, 945, 946, 947, 74, 5])]
def cd_L_law_21 : List CI := [(false, 1132, .if_icmp .eq 143, 3, 0, [1275]),
  (false, 1135, .iconst 0, 1, 0, []),
  (false, 1136, .ireturn, 1, 0, []),
  (false, 1137, .aload_n 1, 1, 0, []),
  (false, 1138, .aload_n 0, 1, 0, []),
  (false, 1139, .iload_n 3, 1, 0, []),
  (false, 1140, .iconst 1, 1, 0, []),
  (false, 1141, .iadd, 1, 0, []),
  (false, 1142, .iaload, 1, 0, []),
  (false, 1143, .aload_n 0, 1, 0, []),
  (false, 1144, .iload_n 3, 1, 0, []),
  (false, 1145, .iconst 2, 1, 0, []),
  (false, 1146, .iadd, 1, 0, []),
  (false, 1147, .iaload, 1, 0, []),
  (false, 1148, .invokevirtual 127, 3, 0, [25, 3, 1, 0, 0, 562, 563, 564, 565, 69, 4]),
  (false, 1151, .aload_n 2, 1, 0, []),
  (false, 1152, .aload_n 0, 1, 0, []),
  (false, 1153, .iload_n 3, 1, 0, []),
  (false, 1154, .iconst 1, 1, 0, []),
  (false, 1155, .iadd, 1, 0, []),
  (false, 1156, .iaload, 1, 0, []),
  (false, 1157, .aload_n 0, 1, 0, []),
  (false, 1158, .iload_n 3, 1, 0, []),
  (false, 1159, .iconst 2, 1, 0, []),
  (false, 1160, .iadd, 1, 0, []),
  (false, 1161, .iaload, 1, 0, []),
  (false, 1162, .invokevirtual 130, 3, 0, [134, 3, 1, 0, 0, 948, 949, 950, 951, 74, 5]),
  (false, 1165, .lcmp, 1, 0, []),
  (false, 1166, .ifCond .eq 109, 3, 0, [1275]),
  (false, 1169, .iconst 0, 1, 0, []),
  (false, 1170, .ireturn, 1, 0, []),
  (false, 1171, .aload_n 1, 1, 0, []),
  (false, 1172, .aload_n 0, 1, 0, []),
  (false, 1173, .iload_n 3, 1, 0, []),
  (false, 1174, .iconst 1, 1, 0, []),
  (false, 1175, .iadd, 1, 0, []),
  (false, 1176, .iaload, 1, 0, []),
  (false, 1177, .aload_n 0, 1, 0, []),
  (false, 1178, .iload_n 3, 1, 0, []),
  (false, 1179, .iconst 2, 1, 0, [])]
def cd_L_law_22 : List CI := [(false, 1180, .iadd, 1, 0, []),
  (false, 1181, .iaload, 1, 0, []),
  (false, 1182, .invokevirtual 131, 3, 0, [26, 3, 1, 0, 0, 569, 570, 571, 572, 69, 4]),
  (false, 1185, .aload_n 2, 1, 0, []),
  (false, 1186, .aload_n 0, 1, 0, []),
  (false, 1187, .iload_n 3, 1, 0, []),
  (false, 1188, .iconst 1, 1, 0, []),
  (false, 1189, .iadd, 1, 0, []),
  (false, 1190, .iaload, 1, 0, []),
  (false, 1191, .aload_n 0, 1, 0, []),
  (false, 1192, .iload_n 3, 1, 0, []),
  (false, 1193, .iconst 2, 1, 0, []),
  (false, 1194, .iadd, 1, 0, []),
  (false, 1195, .iaload, 1, 0, []),
  (false, 1196, .invokevirtual 134, 3, 0, [135, 3, 1, 0, 0, 956, 957, 958, 959, 74, 5]),
  (false, 1199, .lcmp, 1, 0, []),
  (false, 1200, .ifCond .eq 75, 3, 0, [1275]),
  (false, 1203, .iconst 0, 1, 0, []),
  (false, 1204, .ireturn, 1, 0, []),
  (false, 1205, .aload_n 1, 1, 0, []),
  (false, 1206, .aload_n 0, 1, 0, []),
  (false, 1207, .iload_n 3, 1, 0, []),
  (false, 1208, .iconst 1, 1, 0, []),
  (false, 1209, .iadd, 1, 0, []),
  (false, 1210, .iaload, 1, 0, []),
  (false, 1211, .aload_n 0, 1, 0, []),
  (false, 1212, .iload_n 3, 1, 0, []),
  (false, 1213, .iconst 2, 1, 0, []),
  (false, 1214, .iadd, 1, 0, []),
  (false, 1215, .iaload, 1, 0, []),
  (false, 1216, .invokevirtual 135, 3, 0, [27, 3, 1, 0, 0, 573, 574, 575, 576, 69, 4]),
  (false, 1219, .aload_n 2, 1, 0, []),
  (false, 1220, .aload_n 0, 1, 0, []),
  (false, 1221, .iload_n 3, 1, 0, []),
  (false, 1222, .iconst 1, 1, 0, []),
  (false, 1223, .iadd, 1, 0, []),
  (false, 1224, .iaload, 1, 0, []),
  (false, 1225, .aload_n 0, 1, 0, []),
  (false, 1226, .iload_n 3, 1, 0, []),
  (false, 1227, .iconst 2, 1, 0, [])]
def cd_L_law_23 : List CI := [(false, 1228, .iadd, 1, 0, []),
  (false, 1229, .iaload, 1, 0, []),
  (false, 1230, .invokevirtual 138, 3, 0, [136, 3, 1, 0, 0, 961, 962, 963, 964, 74, 5]),
  (false, 1233, .lcmp, 1, 0, []),
  (false, 1234, .ifCond .eq 41, 3, 0, [1275]),
  (false, 1237, .iconst 0, 1, 0, []),
  (false, 1238, .ireturn, 1, 0, []),
  (false, 1239, .aload_n 1, 1, 0, []),
  (false, 1240, .aload_n 0, 1, 0, []),
  (false, 1241, .iload_n 3, 1, 0, []),
  (false, 1242, .iconst 1, 1, 0, []),
  (false, 1243, .iadd, 1, 0, []),
  (false, 1244, .iaload, 1, 0, []),
  (false, 1245, .invokevirtual 139, 3, 0, [28, 2, 0, 0, 0, 581, 582, 583, 584, 69, 4]),
  (false, 1248, .aload_n 2, 1, 0, []),
  (false, 1249, .aload_n 0, 1, 0, []),
  (false, 1250, .iload_n 3, 1, 0, []),
  (false, 1251, .iconst 1, 1, 0, []),
  (false, 1252, .iadd, 1, 0, []),
  (false, 1253, .iaload, 1, 0, []),
  (false, 1254, .invokevirtual 142, 3, 0, [137, 2, 0, 0, 0, 966, 967, 968, 969, 74, 5]),
  (false, 1257, .if_icmp .eq 18, 3, 0, [1275]),
  (false, 1260, .iconst 0, 1, 0, []),
  (false, 1261, .ireturn, 1, 0, []),
  (false, 1262, .aload_n 1, 1, 0, []),
  (false, 1263, .invokevirtual 143, 3, 0, [29, 1, 0, 0, 0, 593, 594, 595, 596, 69, 4]),
  (false, 1266, .aload_n 2, 1, 0, []),
  (false, 1267, .invokevirtual 147, 3, 0, [138, 1, 0, 0, 0, 970, 971, 972, 973, 74, 5]),
  (false, 1270, .if_icmp .eq 5, 3, 0, [1275]),
  (false, 1273, .iconst 0, 1, 0, []),
  (false, 1274, .ireturn, 1, 0, []),
  (false, 1275, .iinc 3 6, 3, 0, []),
  (false, 1278, .goto (-1250), 3, 0, [28]),
  (false, 1281, .iconst 1, 1, 0, []),
  (false, 1282, .ireturn, 1, 0, [])]
def cd_L_law : List CI := cd_L_law_0 ++ (cd_L_law_1 ++ (cd_L_law_2 ++ (cd_L_law_3 ++ (cd_L_law_4 ++ (cd_L_law_5 ++ (cd_L_law_6 ++ (cd_L_law_7 ++ (cd_L_law_8 ++ (cd_L_law_9 ++ (cd_L_law_10 ++ (cd_L_law_11 ++ (cd_L_law_12 ++ (cd_L_law_13 ++ (cd_L_law_14 ++ (cd_L_law_15 ++ (cd_L_law_16 ++ (cd_L_law_17 ++ (cd_L_law_18 ++ (cd_L_law_19 ++ (cd_L_law_20 ++ (cd_L_law_21 ++ (cd_L_law_22 ++ (cd_L_law_23)))))))))))))))))))))))
def cd_JA_fillI : List CI := [(false, 0, .iconst 0, 1, 0, []),
  (false, 1, .istore_n 2, 1, 0, []),
  (false, 2, .aload_n 0, 1, 0, []),
  (false, 3, .arraylength, 1, 0, []),
  (false, 4, .istore_n 3, 1, 0, []),
  (true, 5, .iload_n 2, 1, 0, []),
  (false, 6, .iload_n 3, 1, 0, []),
  (false, 7, .if_icmp .ge 13, 3, 0, [20]),
  (false, 10, .aload_n 0, 1, 0, []),
  (false, 11, .iload_n 2, 1, 0, []),
  (false, 12, .iload_n 1, 1, 0, []),
  (false, 13, .iastore, 1, 0, []),
  (false, 14, .iinc 2 1, 3, 0, []),
  (false, 17, .goto (-12), 3, 0, [5]),
  (false, 20, .return_, 1, 0, [])]
def cd_JA_fillJ : List CI := [(false, 0, .iconst 0, 1, 0, []),
  (false, 1, .istore_n 3, 1, 0, []),
  (false, 2, .aload_n 0, 1, 0, []),
  (false, 3, .arraylength, 1, 0, []),
  (false, 4, .istore 4, 2, 0, []),
  (true, 6, .iload_n 3, 1, 0, []),
  (false, 7, .iload 4, 2, 0, []),
  (false, 9, .if_icmp .ge 13, 3, 0, [22]),
  (false, 12, .aload_n 0, 1, 0, []),
  (false, 13, .iload_n 3, 1, 0, []),
  (false, 14, .lload_n 1, 1, 0, []),
  (false, 15, .lastore, 1, 0, []),
  (false, 16, .iinc 3 1, 3, 0, []),
  (false, 19, .goto (-13), 3, 0, [6]),
  (false, 22, .return_, 1, 0, [])]
end
section
def RX0 : String := "FreeParts$Cumulants"
def TX0 : u_T := fun k => match k with
  | 0 => ("FreeParts$Cumulants", "p", "J", true)
  | 1 => ("FreeParts$Cumulants", "powers", "LFreeParts$Powers;", true)
  | _ => ("FreeParts$Cumulants", "otherPowers", "LFreeParts$Powers;", true)
def tyX0 : Nat → FieldType := fun k => match k with
  | 0 => .long
  | 1 => .object "FreeParts$Powers"
  | _ => .object "FreeParts$Powers"
theorem nmX0 : ∀ a, a < 3 → ∀ b, b < 3 → a ≠ b → (TX0 a).2.1 ≠ (TX0 b).2.1 := by decide +kernel
theorem tyX0_ok : ∀ k, k < 3 → parseFieldDescriptor (TX0 k).2.2.1 = some (tyX0 k) := by decide +kernel
abbrev cX0_init : ByteArray := prog_2_method_1_code
def yX0_init : MethodName := ⟨RX0, "<init>", "(J)V"⟩
abbrev cX0_toMoments : ByteArray := prog_2_method_2_code
def yX0_toMoments : MethodName := ⟨RX0, "toMoments", "(II[J[J)V"⟩
abbrev cX0_ofMoments : ByteArray := prog_2_method_3_code
def yX0_ofMoments : MethodName := ⟨RX0, "ofMoments", "(II[J[J)V"⟩
abbrev cX0_keepPowers : ByteArray := prog_2_method_4_code
def yX0_keepPowers : MethodName := ⟨RX0, "keepPowers", "(IIJ)V"⟩
abbrev cX0_sumOfFiner : ByteArray := prog_2_method_5_code
def yX0_sumOfFiner : MethodName := ⟨RX0, "sumOfFiner", "(II[J[J)J"⟩
abbrev cX0_multiply : ByteArray := prog_2_method_6_code
def yX0_multiply : MethodName := ⟨RX0, "multiply", "(I[J[J)V"⟩
def RX1 : String := "FreeParts$Order"
def TX1 : u_T := fun k => match k with
  | 0 => ("FreeParts$Order", "ways", "[[I", true)
  | _ => ("FreeParts$Order", "open", "[I", true)
def tyX1 : Nat → FieldType := fun k => match k with
  | 0 => .array (.array .int)
  | _ => .array .int
theorem nmX1 : ∀ a, a < 2 → ∀ b, b < 2 → a ≠ b → (TX1 a).2.1 ≠ (TX1 b).2.1 := by decide +kernel
theorem tyX1_ok : ∀ k, k < 2 → parseFieldDescriptor (TX1 k).2.2.1 = some (tyX1 k) := by decide +kernel
abbrev cX1_init : ByteArray := prog_3_method_1_code
def yX1_init : MethodName := ⟨RX1, "<init>", "()V"⟩
abbrev cX1_placeOf : ByteArray := prog_3_method_2_code
def yX1_placeOf : MethodName := ⟨RX1, "placeOf", "(LFreeParts$Thing;)I"⟩
abbrev cX1_tell : ByteArray := prog_3_method_3_code
def yX1_tell : MethodName := ⟨RX1, "tell", "(II[I)V"⟩
def RX2 : String := "FreeParts$Powers"
def TX2 : u_T := fun k => match k with
  | 0 => ("FreeParts$Powers", "p", "J", true)
  | _ => ("FreeParts$Powers", "rows", "[[J", true)
def tyX2 : Nat → FieldType := fun k => match k with
  | 0 => .long
  | _ => .array (.array .long)
theorem nmX2 : ∀ a, a < 2 → ∀ b, b < 2 → a ≠ b → (TX2 a).2.1 ≠ (TX2 b).2.1 := by decide +kernel
theorem tyX2_ok : ∀ k, k < 2 → parseFieldDescriptor (TX2 k).2.2.1 = some (tyX2 k) := by decide +kernel
abbrev cX2_init : ByteArray := prog_4_method_1_code
def yX2_init : MethodName := ⟨RX2, "<init>", "(J)V"⟩
abbrev cX2_begin : ByteArray := prog_4_method_2_code
def yX2_begin : MethodName := ⟨RX2, "begin", "(J)V"⟩
abbrev cX2_add : ByteArray := prog_4_method_3_code
def yX2_add : MethodName := ⟨RX2, "add", "(IJ)V"⟩
abbrev cX2_at : ByteArray := prog_4_method_4_code
def yX2_at : MethodName := ⟨RX2, "at", "(II)J"⟩
abbrev cX2_weighted : ByteArray := prog_4_method_5_code
def yX2_weighted : MethodName := ⟨RX2, "weighted", "([JII)J"⟩
def RX3 : String := "FreeParts$Thing"
def TX3 : u_T := fun k => match k with
  | 0 => ("FreeParts$Thing", "n", "I", true)
  | 1 => ("FreeParts$Thing", "blocks", "I", true)
  | 2 => ("FreeParts$Thing", "blockOf", "[I", true)
  | 3 => ("FreeParts$Thing", "pairs", "Z", true)
  | _ => ("FreeParts$Thing", "kind", "I", true)
def tyX3 : Nat → FieldType := fun k => match k with
  | 0 => .int
  | 1 => .int
  | 2 => .array .int
  | 3 => .boolean
  | _ => .int
theorem nmX3 : ∀ a, a < 5 → ∀ b, b < 5 → a ≠ b → (TX3 a).2.1 ≠ (TX3 b).2.1 := by decide +kernel
theorem tyX3_ok : ∀ k, k < 5 → parseFieldDescriptor (TX3 k).2.2.1 = some (tyX3 k) := by decide +kernel
abbrev cX3_init : ByteArray := prog_5_method_1_code
def yX3_init : MethodName := ⟨RX3, "<init>", "([II)V"⟩
abbrev cX3_numberBlocks : ByteArray := prog_5_method_2_code
def yX3_numberBlocks : MethodName := ⟨RX3, "numberBlocks", "([II[I)I"⟩
abbrev cX3_allInPairs : ByteArray := prog_5_method_3_code
def yX3_allInPairs : MethodName := ⟨RX3, "allInPairs", "([III)Z"⟩
abbrev cX3_pointsIn : ByteArray := prog_5_method_4_code
def yX3_pointsIn : MethodName := ⟨RX3, "pointsIn", "([III)I"⟩
abbrev cX3_kindToTell : ByteArray := prog_5_method_5_code
def yX3_kindToTell : MethodName := ⟨RX3, "kindToTell", "([IIZ)I"⟩
abbrev cX3_inRows : ByteArray := prog_5_method_6_code
def yX3_inRows : MethodName := ⟨RX3, "inRows", "([II)Z"⟩
abbrev cX3_crossesItself : ByteArray := prog_5_method_7_code
def yX3_crossesItself : MethodName := ⟨RX3, "crossesItself", "([II)Z"⟩
abbrev cX3_isCrossed : ByteArray := prog_5_method_8_code
def yX3_isCrossed : MethodName := ⟨RX3, "isCrossed", "([IIII)Z"⟩
abbrev cX3_isOf : ByteArray := prog_5_method_9_code
def yX3_isOf : MethodName := ⟨RX3, "isOf", "(I)Z"⟩
abbrev cX3_isFinerThan : ByteArray := prog_5_method_10_code
def yX3_isFinerThan : MethodName := ⟨RX3, "isFinerThan", "(LFreeParts$Thing;)Z"⟩
abbrev cX3_productOver : ByteArray := prog_5_method_11_code
def yX3_productOver : MethodName := ⟨RX3, "productOver", "([I)I"⟩
abbrev cX3_labelRings : ByteArray := prog_5_method_12_code
def yX3_labelRings : MethodName := ⟨RX3, "labelRings", "([I)I"⟩
abbrev cX3_labelRing : ByteArray := prog_5_method_13_code
def yX3_labelRing : MethodName := ⟨RX3, "labelRing", "([III)V"⟩
abbrev cX3_aheadInBlock : ByteArray := prog_5_method_14_code
def yX3_aheadInBlock : MethodName := ⟨RX3, "aheadInBlock", "(I)I"⟩
def RX4 : String := "FreeParts"
def TX4 : u_T := fun k => match k with
  | 0 => ("FreeParts", "p", "J", true)
  | 1 => ("FreeParts", "items", "[[J", true)
  | 2 => ("FreeParts", "lanes", "[I", true)
  | 3 => ("FreeParts", "sizes", "[I", true)
  | 4 => ("FreeParts", "shelf", "[LFreeParts$Thing;", true)
  | 5 => ("FreeParts", "order", "LFreeParts$Order;", true)
  | 6 => ("FreeParts", "labels", "[I", true)
  | 7 => ("FreeParts", "traced", "[I", true)
  | 8 => ("FreeParts", "tracedCount", "I", false)
  | 9 => ("FreeParts", "moments", "[[J", true)
  | 10 => ("FreeParts", "lengths", "[I", true)
  | 11 => ("FreeParts", "cumulants", "LFreeParts$Cumulants;", true)
  | 12 => ("FreeParts", "left", "[J", true)
  | 13 => ("FreeParts", "right", "[J", true)
  | 14 => ("FreeParts", "table", "[[J", true)
  | 15 => ("FreeParts", "pairings", "[[J", true)
  | 16 => ("FreeParts", "distances", "[J", true)
  | _ => ("FreeParts", "latest", "I", false)
def tyX4 : Nat → FieldType := fun k => match k with
  | 0 => .long
  | 1 => .array (.array .long)
  | 2 => .array .int
  | 3 => .array .int
  | 4 => .array (.object "FreeParts$Thing")
  | 5 => .object "FreeParts$Order"
  | 6 => .array .int
  | 7 => .array .int
  | 8 => .int
  | 9 => .array (.array .long)
  | 10 => .array .int
  | 11 => .object "FreeParts$Cumulants"
  | 12 => .array .long
  | 13 => .array .long
  | 14 => .array (.array .long)
  | 15 => .array (.array .long)
  | 16 => .array .long
  | _ => .int
theorem nmX4 : ∀ a, a < 18 → ∀ b, b < 18 → a ≠ b → (TX4 a).2.1 ≠ (TX4 b).2.1 := by decide +kernel
theorem tyX4_ok : ∀ k, k < 18 → parseFieldDescriptor (TX4 k).2.2.1 = some (tyX4 k) := by decide +kernel
abbrev cX4_init : ByteArray := prog_1_method_1_code
def yX4_init : MethodName := ⟨RX4, "<init>", "(I)V"⟩
abbrev cX4_sheet : ByteArray := prog_1_method_2_code
def yX4_sheet : MethodName := ⟨RX4, "sheet", "(III)I"⟩
abbrev cX4_set : ByteArray := prog_1_method_3_code
def yX4_set : MethodName := ⟨RX4, "set", "(IIJ)J"⟩
abbrev cX4_copy : ByteArray := prog_1_method_4_code
def yX4_copy : MethodName := ⟨RX4, "copy", "(IIIII)I"⟩
abbrev cX4_drop : ByteArray := prog_1_method_5_code
def yX4_drop : MethodName := ⟨RX4, "drop", "(I)I"⟩
abbrev cX4_part : ByteArray := prog_1_method_6_code
def yX4_part : MethodName := ⟨RX4, "part", "(IIII)I"⟩
abbrev cX4_nth : ByteArray := prog_1_method_7_code
def yX4_nth : MethodName := ⟨RX4, "nth", "(III)I"⟩
abbrev cX4_both : ByteArray := prog_1_method_8_code
def yX4_both : MethodName := ⟨RX4, "both", "(IIII)I"⟩
abbrev cX4_turn : ByteArray := prog_1_method_9_code
def yX4_turn : MethodName := ⟨RX4, "turn", "(III)I"⟩
abbrev cX4_clear : ByteArray := prog_1_method_10_code
def yX4_clear : MethodName := ⟨RX4, "clear", "(I)I"⟩
abbrev cX4_kind : ByteArray := prog_1_method_11_code
def yX4_kind : MethodName := ⟨RX4, "kind", "(I)I"⟩
abbrev cX4_is : ByteArray := prog_1_method_12_code
def yX4_is : MethodName := ⟨RX4, "is", "(II)I"⟩
abbrev cX4_as : ByteArray := prog_1_method_13_code
def yX4_as : MethodName := ⟨RX4, "as", "(II)I"⟩
abbrev cX4_ask : ByteArray := prog_1_method_14_code
def yX4_ask : MethodName := ⟨RX4, "ask", "(II)I"⟩
abbrev cX4_trace : ByteArray := prog_1_method_15_code
def yX4_trace : MethodName := ⟨RX4, "trace", "(I)I"⟩
abbrev cX4_block : ByteArray := prog_1_method_16_code
def yX4_block : MethodName := ⟨RX4, "block", "(II)I"⟩
abbrev cX4_told : ByteArray := prog_1_method_17_code
def yX4_told : MethodName := ⟨RX4, "told", "(II)I"⟩
abbrev cX4_finer : ByteArray := prog_1_method_18_code
def yX4_finer : MethodName := ⟨RX4, "finer", "(II)I"⟩
abbrev cX4_handles : ByteArray := prog_1_method_19_code
def yX4_handles : MethodName := ⟨RX4, "handles", "(I)I"⟩
abbrev cX4_series : ByteArray := prog_1_method_20_code
def yX4_series : MethodName := ⟨RX4, "series", "(IIIII)I"⟩
abbrev cX4_number : ByteArray := prog_1_method_21_code
def yX4_number : MethodName := ⟨RX4, "number", "(III)J"⟩
abbrev cX4_join : ByteArray := prog_1_method_22_code
def yX4_join : MethodName := ⟨RX4, "join", "(IIII)I"⟩
abbrev cX4_change : ByteArray := prog_1_method_23_code
def yX4_change : MethodName := ⟨RX4, "change", "(IIII)I"⟩
abbrev cX4_hankel : ByteArray := prog_1_method_24_code
def yX4_hankel : MethodName := ⟨RX4, "hankel", "(II)J"⟩
abbrev cX4_same : ByteArray := prog_1_method_25_code
def yX4_same : MethodName := ⟨RX4, "same", "(II)I"⟩
abbrev cX4_genus : ByteArray := prog_1_method_26_code
def yX4_genus : MethodName := ⟨RX4, "genus", "(II)J"⟩
abbrev cX4_mean : ByteArray := prog_1_method_27_code
def yX4_mean : MethodName := ⟨RX4, "mean", "(II)J"⟩
abbrev cX4_walks : ByteArray := prog_1_method_28_code
def yX4_walks : MethodName := ⟨RX4, "walks", "(II)J"⟩
abbrev cX4_count : ByteArray := prog_1_method_29_code
def yX4_count : MethodName := ⟨RX4, "count", "(I)I"⟩
abbrev cX4_status : ByteArray := prog_1_method_30_code
def yX4_status : MethodName := ⟨RX4, "status", "()I"⟩
abbrev cX4_noSheet : ByteArray := prog_1_method_31_code
def yX4_noSheet : MethodName := ⟨RX4, "noSheet", "(I)Z"⟩
abbrev cX4_noPlace : ByteArray := prog_1_method_32_code
def yX4_noPlace : MethodName := ⟨RX4, "noPlace", "(I)Z"⟩
abbrev cX4_noSeries : ByteArray := prog_1_method_33_code
def yX4_noSeries : MethodName := ⟨RX4, "noSeries", "(I)Z"⟩
abbrev cX4_noSort : ByteArray := prog_1_method_34_code
def yX4_noSort : MethodName := ⟨RX4, "noSort", "(I)Z"⟩
abbrev cX4_noPairs : ByteArray := prog_1_method_35_code
def yX4_noPairs : MethodName := ⟨RX4, "noPairs", "(I)Z"⟩
abbrev cX4_noRun : ByteArray := prog_1_method_36_code
def yX4_noRun : MethodName := ⟨RX4, "noRun", "(III)Z"⟩
abbrev cX4_finding : ByteArray := prog_1_method_37_code
def yX4_finding : MethodName := ⟨RX4, "finding", "(I)I"⟩
abbrev cX4_fine : ByteArray := prog_1_method_38_code
def yX4_fine : MethodName := ⟨RX4, "fine", "(I)I"⟩
abbrev cX4_lowestBits : ByteArray := prog_1_method_39_code
def yX4_lowestBits : MethodName := ⟨RX4, "lowestBits", "(IJ)J"⟩
abbrev cX4_labelLikeItems : ByteArray := prog_1_method_40_code
def yX4_labelLikeItems : MethodName := ⟨RX4, "labelLikeItems", "([JII)V"⟩
abbrev cX4_shelve : ByteArray := prog_1_method_41_code
def yX4_shelve : MethodName := ⟨RX4, "shelve", "(ILFreeParts$Thing;)I"⟩
abbrev cX4_meetOf : ByteArray := prog_1_method_42_code
def yX4_meetOf : MethodName := ⟨RX4, "meetOf", "(LFreeParts$Thing;LFreeParts$Thing;)LFreeParts$Thing;"⟩
abbrev cX4_joinOf : ByteArray := prog_1_method_43_code
def yX4_joinOf : MethodName := ⟨RX4, "joinOf", "(LFreeParts$Thing;LFreeParts$Thing;)LFreeParts$Thing;"⟩
abbrev cX4_turnedBy : ByteArray := prog_1_method_44_code
def yX4_turnedBy : MethodName := ⟨RX4, "turnedBy", "(LFreeParts$Thing;I)LFreeParts$Thing;"⟩
abbrev cX4_complementOf : ByteArray := prog_1_method_45_code
def yX4_complementOf : MethodName := ⟨RX4, "complementOf", "(LFreeParts$Thing;)LFreeParts$Thing;"⟩
abbrev cX4_handlesOf : ByteArray := prog_1_method_46_code
def yX4_handlesOf : MethodName := ⟨RX4, "handlesOf", "(LFreeParts$Thing;)I"⟩
abbrev cX4_countSheets : ByteArray := prog_1_method_47_code
def yX4_countSheets : MethodName := ⟨RX4, "countSheets", "()I"⟩
abbrev cX4_countThings : ByteArray := prog_1_method_48_code
def yX4_countThings : MethodName := ⟨RX4, "countThings", "(I)I"⟩
abbrev cX4_sizeOf : ByteArray := prog_1_method_49_code
def yX4_sizeOf : MethodName := ⟨RX4, "sizeOf", "(LFreeParts$Thing;)I"⟩
abbrev cX4_markOf : ByteArray := prog_1_method_50_code
def yX4_markOf : MethodName := ⟨RX4, "markOf", "(LFreeParts$Thing;)I"⟩
abbrev cX4_leaveTrace : ByteArray := prog_1_method_51_code
def yX4_leaveTrace : MethodName := ⟨RX4, "leaveTrace", "(I)V"⟩
abbrev cX4_body10 : ByteArray := prog_1_method_52_code
def yX4_body10 : MethodName := ⟨RX4, "body10", "(LFreeParts$Thing;)I"⟩
abbrev cX4_body11 : ByteArray := prog_1_method_53_code
def yX4_body11 : MethodName := ⟨RX4, "body11", "(LFreeParts$Thing;)I"⟩
abbrev cX4_body12 : ByteArray := prog_1_method_54_code
def yX4_body12 : MethodName := ⟨RX4, "body12", "(LFreeParts$Thing;)I"⟩
abbrev cX4_body13 : ByteArray := prog_1_method_55_code
def yX4_body13 : MethodName := ⟨RX4, "body13", "(LFreeParts$Thing;)I"⟩
abbrev cX4_body14 : ByteArray := prog_1_method_56_code
def yX4_body14 : MethodName := ⟨RX4, "body14", "(LFreeParts$Thing;)I"⟩
abbrev cX4_body20 : ByteArray := prog_1_method_57_code
def yX4_body20 : MethodName := ⟨RX4, "body20", "(LFreeParts$Thing;)I"⟩
abbrev cX4_body21 : ByteArray := prog_1_method_58_code
def yX4_body21 : MethodName := ⟨RX4, "body21", "(LFreeParts$Thing;)I"⟩
abbrev cX4_body22 : ByteArray := prog_1_method_59_code
def yX4_body22 : MethodName := ⟨RX4, "body22", "(LFreeParts$Thing;)I"⟩
abbrev cX4_isPrime : ByteArray := prog_1_method_60_code
def yX4_isPrime : MethodName := ⟨RX4, "isPrime", "(I)Z"⟩
abbrev cX4_power : ByteArray := prog_1_method_61_code
def yX4_power : MethodName := ⟨RX4, "power", "(JJ)J"⟩
abbrev cX4_multiplyByPowers : ByteArray := prog_1_method_62_code
def yX4_multiplyByPowers : MethodName := ⟨RX4, "multiplyByPowers", "(I[J[JJJ)V"⟩
abbrev cX4_determinant : ByteArray := prog_1_method_63_code
def yX4_determinant : MethodName := ⟨RX4, "determinant", "(I)J"⟩
abbrev cX4_swapRows : ByteArray := prog_1_method_64_code
def yX4_swapRows : MethodName := ⟨RX4, "swapRows", "(III)V"⟩
abbrev cX4_clearColumnBelow : ByteArray := prog_1_method_65_code
def yX4_clearColumnBelow : MethodName := ⟨RX4, "clearColumnBelow", "(II)V"⟩
abbrev cX4_countPairings : ByteArray := prog_1_method_66_code
def yX4_countPairings : MethodName := ⟨RX4, "countPairings", "([[J)V"⟩
abbrev cX4_walkOneStep : ByteArray := prog_1_method_67_code
def yX4_walkOneStep : MethodName := ⟨RX4, "walkOneStep", "(I)V"⟩
def RX5 : String := "FreePartsModel"
def TX5 : u_T := fun k => match k with
  | 0 => ("FreePartsModel", "thrown", "I", false)
  | 1 => ("FreePartsModel", "status", "I", false)
  | 2 => ("FreePartsModel", "prime", "I", true)
  | 3 => ("FreePartsModel", "lane", "[I", true)
  | 4 => ("FreePartsModel", "many", "[I", true)
  | 5 => ("FreePartsModel", "item", "[J", true)
  | 6 => ("FreePartsModel", "kind", "[I", true)
  | 7 => ("FreePartsModel", "points", "[I", true)
  | 8 => ("FreePartsModel", "block", "[I", true)
  | 9 => ("FreePartsModel", "row", "[I", true)
  | 10 => ("FreePartsModel", "name", "[I", true)
  | 11 => ("FreePartsModel", "trace", "[I", true)
  | 12 => ("FreePartsModel", "traced", "I", false)
  | 13 => ("FreePartsModel", "catalan", "[I", true)
  | 14 => ("FreePartsModel", "isGone", "[Z", true)
  | 15 => ("FreePartsModel", "size", "[I", true)
  | 16 => ("FreePartsModel", "moment", "[J", true)
  | 17 => ("FreePartsModel", "cumulant", "[J", true)
  | 18 => ("FreePartsModel", "now", "[J", true)
  | 19 => ("FreePartsModel", "power", "[J", true)
  | 20 => ("FreePartsModel", "table", "[J", true)
  | 21 => ("FreePartsModel", "pairings", "[J", true)
  | 22 => ("FreePartsModel", "depth", "[J", true)
  | _ => ("FreePartsModel", "then", "[J", true)
def tyX5 : Nat → FieldType := fun k => match k with
  | 0 => .int
  | 1 => .int
  | 2 => .int
  | 3 => .array .int
  | 4 => .array .int
  | 5 => .array .long
  | 6 => .array .int
  | 7 => .array .int
  | 8 => .array .int
  | 9 => .array .int
  | 10 => .array .int
  | 11 => .array .int
  | 12 => .int
  | 13 => .array .int
  | 14 => .array .boolean
  | 15 => .array .int
  | 16 => .array .long
  | 17 => .array .long
  | 18 => .array .long
  | 19 => .array .long
  | 20 => .array .long
  | 21 => .array .long
  | 22 => .array .long
  | _ => .array .long
theorem nmX5 : ∀ a, a < 24 → ∀ b, b < 24 → a ≠ b → (TX5 a).2.1 ≠ (TX5 b).2.1 := by decide +kernel
theorem tyX5_ok : ∀ k, k < 24 → parseFieldDescriptor (TX5 k).2.2.1 = some (tyX5 k) := by decide +kernel
abbrev cX5_in : ByteArray := prog_7_method_2_code
def yX5_in : MethodName := ⟨RX5, "in", "(JJJ)Z"⟩
abbrev cX5_found : ByteArray := prog_7_method_3_code
def yX5_found : MethodName := ⟨RX5, "found", "(I)I"⟩
abbrev cX5_isPrime : ByteArray := prog_7_method_4_code
def yX5_isPrime : MethodName := ⟨RX5, "isPrime", "(I)Z"⟩
abbrev cX5_init : ByteArray := prog_7_method_5_code
def yX5_init : MethodName := ⟨RX5, "<init>", "(I)V"⟩
abbrev cX5_isSheet : ByteArray := prog_7_method_6_code
def yX5_isSheet : MethodName := ⟨RX5, "isSheet", "(I)Z"⟩
abbrev cX5_sheet : ByteArray := prog_7_method_7_code
def yX5_sheet : MethodName := ⟨RX5, "sheet", "(III)I"⟩
abbrev cX5_set : ByteArray := prog_7_method_8_code
def yX5_set : MethodName := ⟨RX5, "set", "(IIJ)J"⟩
abbrev cX5_copy : ByteArray := prog_7_method_9_code
def yX5_copy : MethodName := ⟨RX5, "copy", "(IIIII)I"⟩
abbrev cX5_drop : ByteArray := prog_7_method_10_code
def yX5_drop : MethodName := ⟨RX5, "drop", "(I)I"⟩
abbrev cX5_isPlace : ByteArray := prog_7_method_11_code
def yX5_isPlace : MethodName := ⟨RX5, "isPlace", "(I)Z"⟩
abbrev cX5_load : ByteArray := prog_7_method_12_code
def yX5_load : MethodName := ⟨RX5, "load", "(II)V"⟩
abbrev cX5_number : ByteArray := prog_7_method_13_code
def yX5_number : MethodName := ⟨RX5, "number", "(II)V"⟩
abbrev cX5_crossedAt : ByteArray := prog_7_method_14_code
def yX5_crossedAt : MethodName := ⟨RX5, "crossedAt", "(II)I"⟩
abbrev cX5_isFree : ByteArray := prog_7_method_15_code
def yX5_isFree : MethodName := ⟨RX5, "isFree", "(II)Z"⟩
abbrev cX5_blocks : ByteArray := prog_7_method_16_code
def yX5_blocks : MethodName := ⟨RX5, "blocks", "(II)I"⟩
abbrev cX5_sizeOf : ByteArray := prog_7_method_17_code
def yX5_sizeOf : MethodName := ⟨RX5, "sizeOf", "(III)I"⟩
abbrev cX5_isOfPairs : ByteArray := prog_7_method_18_code
def yX5_isOfPairs : MethodName := ⟨RX5, "isOfPairs", "(II)Z"⟩
abbrev cX5_kindOf : ByteArray := prog_7_method_19_code
def yX5_kindOf : MethodName := ⟨RX5, "kindOf", "(II)I"⟩
abbrev cX5_lay : ByteArray := prog_7_method_20_code
def yX5_lay : MethodName := ⟨RX5, "lay", "(III)I"⟩
abbrev cX5_part : ByteArray := prog_7_method_21_code
def yX5_part : MethodName := ⟨RX5, "part", "(IIII)I"⟩
abbrev cX5_next : ByteArray := prog_7_method_22_code
def yX5_next : MethodName := ⟨RX5, "next", "(II)Z"⟩
abbrev cX5_nextFree : ByteArray := prog_7_method_23_code
def yX5_nextFree : MethodName := ⟨RX5, "nextFree", "(II)Z"⟩
abbrev cX5_first : ByteArray := prog_7_method_24_code
def yX5_first : MethodName := ⟨RX5, "first", "(II)V"⟩
abbrev cX5_nth : ByteArray := prog_7_method_25_code
def yX5_nth : MethodName := ⟨RX5, "nth", "(III)I"⟩
abbrev cX5_isOf : ByteArray := prog_7_method_26_code
def yX5_isOf : MethodName := ⟨RX5, "isOf", "(II)Z"⟩
abbrev cX5_asked : ByteArray := prog_7_method_27_code
def yX5_asked : MethodName := ⟨RX5, "asked", "(II)I"⟩
abbrev cX5_both : ByteArray := prog_7_method_28_code
def yX5_both : MethodName := ⟨RX5, "both", "(IIII)I"⟩
abbrev cX5_mix : ByteArray := prog_7_method_29_code
def yX5_mix : MethodName := ⟨RX5, "mix", "(III)V"⟩
abbrev cX5_crossing : ByteArray := prog_7_method_30_code
def yX5_crossing : MethodName := ⟨RX5, "crossing", "(III)Z"⟩
abbrev cX5_complement : ByteArray := prog_7_method_31_code
def yX5_complement : MethodName := ⟨RX5, "complement", "(II)V"⟩
abbrev cX5_turn : ByteArray := prog_7_method_32_code
def yX5_turn : MethodName := ⟨RX5, "turn", "(III)I"⟩
abbrev cX5_clear : ByteArray := prog_7_method_33_code
def yX5_clear : MethodName := ⟨RX5, "clear", "(I)I"⟩
abbrev cX5_kind : ByteArray := prog_7_method_34_code
def yX5_kind : MethodName := ⟨RX5, "kind", "(I)I"⟩
abbrev cX5_is : ByteArray := prog_7_method_35_code
def yX5_is : MethodName := ⟨RX5, "is", "(II)I"⟩
abbrev cX5_blocksAt : ByteArray := prog_7_method_36_code
def yX5_blocksAt : MethodName := ⟨RX5, "blocksAt", "(I)I"⟩
abbrev cX5_as : ByteArray := prog_7_method_37_code
def yX5_as : MethodName := ⟨RX5, "as", "(II)I"⟩
abbrev cX5_began : ByteArray := prog_7_method_38_code
def yX5_began : MethodName := ⟨RX5, "began", "(I)V"⟩
abbrev cX5_plainMark : ByteArray := prog_7_method_39_code
def yX5_plainMark : MethodName := ⟨RX5, "plainMark", "(I)I"⟩
abbrev cX5_sized : ByteArray := prog_7_method_40_code
def yX5_sized : MethodName := ⟨RX5, "sized", "(I)I"⟩
abbrev cX5_marked : ByteArray := prog_7_method_41_code
def yX5_marked : MethodName := ⟨RX5, "marked", "(I)I"⟩
abbrev cX5_ask : ByteArray := prog_7_method_42_code
def yX5_ask : MethodName := ⟨RX5, "ask", "(II)I"⟩
abbrev cX5_trace : ByteArray := prog_7_method_43_code
def yX5_trace : MethodName := ⟨RX5, "trace", "(I)I"⟩
abbrev cX5_block : ByteArray := prog_7_method_44_code
def yX5_block : MethodName := ⟨RX5, "block", "(II)I"⟩
abbrev cX5_isFiner : ByteArray := prog_7_method_45_code
def yX5_isFiner : MethodName := ⟨RX5, "isFiner", "(III)Z"⟩
abbrev cX5_product : ByteArray := prog_7_method_46_code
def yX5_product : MethodName := ⟨RX5, "product", "(III)I"⟩
abbrev cX5_told : ByteArray := prog_7_method_47_code
def yX5_told : MethodName := ⟨RX5, "told", "(II)I"⟩
abbrev cX5_isSame : ByteArray := prog_7_method_48_code
def yX5_isSame : MethodName := ⟨RX5, "isSame", "(I)Z"⟩
abbrev cX5_finer : ByteArray := prog_7_method_49_code
def yX5_finer : MethodName := ⟨RX5, "finer", "(II)I"⟩
abbrev cX5_handlesBy : ByteArray := prog_7_method_50_code
def yX5_handlesBy : MethodName := ⟨RX5, "handlesBy", "(II)I"⟩
abbrev cX5_handlesOf : ByteArray := prog_7_method_51_code
def yX5_handlesOf : MethodName := ⟨RX5, "handlesOf", "(I)I"⟩
abbrev cX5_handles : ByteArray := prog_7_method_52_code
def yX5_handles : MethodName := ⟨RX5, "handles", "(I)I"⟩
abbrev cX5_isSeries : ByteArray := prog_7_method_53_code
def yX5_isSeries : MethodName := ⟨RX5, "isSeries", "(I)Z"⟩
abbrev cX5_m : ByteArray := prog_7_method_54_code
def yX5_m : MethodName := ⟨RX5, "m", "(II)J"⟩
abbrev cX5_choose : ByteArray := prog_7_method_55_code
def yX5_choose : MethodName := ⟨RX5, "choose", "(II)J"⟩
abbrev cX5_lesser : ByteArray := prog_7_method_56_code
def yX5_lesser : MethodName := ⟨RX5, "lesser", "(IIII)J"⟩
abbrev cX5_findCumulants : ByteArray := prog_7_method_57_code
def yX5_findCumulants : MethodName := ⟨RX5, "findCumulants", "(III)V"⟩
abbrev cX5_findMoments : ByteArray := prog_7_method_58_code
def yX5_findMoments : MethodName := ⟨RX5, "findMoments", "(IIII)V"⟩
abbrev cX5_modulo : ByteArray := prog_7_method_59_code
def yX5_modulo : MethodName := ⟨RX5, "modulo", "(J)J"⟩
abbrev cX5_series : ByteArray := prog_7_method_60_code
def yX5_series : MethodName := ⟨RX5, "series", "(IIIII)I"⟩
abbrev cX5_number_ : ByteArray := prog_7_method_61_code
def yX5_number_ : MethodName := ⟨RX5, "number", "(III)J"⟩
abbrev cX5_join : ByteArray := prog_7_method_62_code
def yX5_join : MethodName := ⟨RX5, "join", "(IIII)I"⟩
abbrev cX5_mixed : ByteArray := prog_7_method_63_code
def yX5_mixed : MethodName := ⟨RX5, "mixed", "(I)J"⟩
abbrev cX5_change : ByteArray := prog_7_method_64_code
def yX5_change : MethodName := ⟨RX5, "change", "(IIII)I"⟩
abbrev cX5_inverse : ByteArray := prog_7_method_65_code
def yX5_inverse : MethodName := ⟨RX5, "inverse", "(J)J"⟩
abbrev cX5_hankel : ByteArray := prog_7_method_66_code
def yX5_hankel : MethodName := ⟨RX5, "hankel", "(II)J"⟩
abbrev cX5_same : ByteArray := prog_7_method_67_code
def yX5_same : MethodName := ⟨RX5, "same", "(II)I"⟩
abbrev cX5_findPairings : ByteArray := prog_7_method_68_code
def yX5_findPairings : MethodName := ⟨RX5, "findPairings", "()V"⟩
abbrev cX5_genus : ByteArray := prog_7_method_69_code
def yX5_genus : MethodName := ⟨RX5, "genus", "(II)J"⟩
abbrev cX5_mean : ByteArray := prog_7_method_70_code
def yX5_mean : MethodName := ⟨RX5, "mean", "(II)J"⟩
abbrev cX5_walks : ByteArray := prog_7_method_71_code
def yX5_walks : MethodName := ⟨RX5, "walks", "(II)J"⟩
abbrev cX5_count : ByteArray := prog_7_method_72_code
def yX5_count : MethodName := ⟨RX5, "count", "(I)I"⟩
abbrev cX5_status : ByteArray := prog_7_method_73_code
def yX5_status : MethodName := ⟨RX5, "status", "()I"⟩
def RJ9 : String := "java/lang/Math"
abbrev cJ9_floorMod_f86c9 : ByteArray := prog_8_method_52_code
def yJ9_floorMod_f86c9 : MethodName := ⟨RJ9, "floorMod", "(JJ)J"⟩
abbrev cJ9_max_7cf53 : ByteArray := prog_8_method_65_code
def yJ9_max_7cf53 : MethodName := ⟨RJ9, "max", "(II)I"⟩
abbrev cJ9_min_7cf53 : ByteArray := prog_8_method_69_code
def yJ9_min_7cf53 : MethodName := ⟨RJ9, "min", "(II)I"⟩
def RJ10 : String := "java/lang/System"
def RJ7 : String := "java/util/Arrays"
abbrev cJ7_fill_d0a16 : ByteArray := prog_10_method_101_code
def yJ7_fill_d0a16 : MethodName := ⟨RJ7, "fill", "([JJ)V"⟩
abbrev cJ7_fill_53178 : ByteArray := prog_10_method_103_code
def yJ7_fill_53178 : MethodName := ⟨RJ7, "fill", "([II)V"⟩
def RL : String := "FreePartsLaw"
abbrev cL_cell : ByteArray := method_2_code
def yL_cell : MethodName := ⟨RL, "cell", "([II)I"⟩
abbrev cL_law : ByteArray := code
def yL_law : MethodName := ⟨RL, "law", "([I)Z"⟩
end
section
/-! integers and the machine's numbers -/
theorem i32_lt {a b : Int} (ha : am_in32 a) (hb : am_in32 b) : Int32.ofInt a < Int32.ofInt b ↔ a < b := Int32.ofInt_lt_iff_lt ha.1 ha.2 hb.1 hb.2
theorem i32_le {a b : Int} (ha : am_in32 a) (hb : am_in32 b) : Int32.ofInt a ≤ Int32.ofInt b ↔ a ≤ b := Int32.ofInt_le_iff_le ha.1 ha.2 hb.1 hb.2
theorem i32_toInt {a : Int} (ha : am_in32 a) : (Int32.ofInt a).toInt = a := Int32.toInt_ofInt_of_le (by omega) (by omega)
theorem i64_toInt {a : Int} (ha : am_in64 a) : (Int64.ofInt a).toInt = a := Int64.toInt_ofInt_of_le (by omega) (by omega)
theorem i32_eq {a b : Int} (ha : am_in32 a) (hb : am_in32 b) : Int32.ofInt a = Int32.ofInt b ↔ a = b := ⟨fun h => by rw [← i32_toInt ha, ← i32_toInt hb, h], fun h => by rw [h]⟩
theorem i64_lt {a b : Int} (ha : am_in64 a) (hb : am_in64 b) : Int64.ofInt a < Int64.ofInt b ↔ a < b := Int64.ofInt_lt_iff_lt ha.1 ha.2 hb.1 hb.2
theorem i64_le {a b : Int} (ha : am_in64 a) (hb : am_in64 b) : Int64.ofInt a ≤ Int64.ofInt b ↔ a ≤ b := Int64.ofInt_le_iff_le ha.1 ha.2 hb.1 hb.2
theorem i64_eq {a b : Int} (ha : am_in64 a) (hb : am_in64 b) : Int64.ofInt a = Int64.ofInt b ↔ a = b := ⟨fun h => by rw [← i64_toInt ha, ← i64_toInt hb, h], fun h => by rw [h]⟩
theorem i32_clamp {a : Int} (h0 : 0 ≤ a) (h1 : a ≤ 2147483647) : (Int32.ofInt a).toNatClampNeg = a.toNat := Int32.toNatClampNeg_ofInt_of_le (by omega) (by omega)
theorem i32_in {a : Int} {n : Nat} (h0 : 0 ≤ a) (h1 : a < (n : Int)) (hn : n < 2 ^ 31) : vp_in (Int32.ofInt a) n := by
  rw [vp_in_iff, i32_toInt ⟨by omega, by omega⟩]
  exact ⟨h0, h1⟩
theorem i32_nn {a : Int} (h0 : 0 ≤ a) (h1 : a ≤ 2147483647) : ¬ Int32.ofInt a < 0 := by
  intro h
  have := (i32_lt (a := a) (b := 0) ⟨by omega, h1⟩ ⟨by omega, by omega⟩).mp h
  omega
theorem i32_ne0 {a : Int} (h0 : 0 < a) (h1 : a ≤ 2147483647) : ¬ Int32.ofInt a = 0 := by
  intro h
  have := (i32_eq (a := a) (b := 0) ⟨by omega, h1⟩ ⟨by omega, by omega⟩).mp h
  omega
theorem i64_ne0 {a : Int} (h0 : 0 < a) (h1 : a ≤ 9223372036854775807) : ¬ Int64.ofInt a = 0 := by
  intro h
  have := (i64_eq (a := a) (b := 0) ⟨by omega, h1⟩ ⟨by omega, by omega⟩).mp h
  omega
theorem i32_div {a b : Int} (h0 : 0 ≤ a) (h1 : a ≤ 2147483647) (h2 : 0 < b) (h3 : b ≤ 2147483647) : Int32.ofInt a / Int32.ofInt b = Int32.ofInt (a / b) := by
  rw [← Int.tdiv_eq_ediv_of_nonneg h0]
  exact (Int32.ofInt_tdiv (show (-2147483648 : Int) ≤ a by omega) h1 (show (-2147483648 : Int) ≤ b by omega) h3).symm
theorem i32_rem {a b : Int} (h0 : 0 ≤ a) (h1 : a ≤ 2147483647) (h2 : 0 < b) (h3 : b ≤ 2147483647) : Int32.ofInt a - Int32.ofInt a / Int32.ofInt b * Int32.ofInt b = Int32.ofInt (a % b) := by
  rw [i32_div h0 h1 h2 h3, ← Int32.ofInt_mul, ← Int32.ofInt_sub]
  congr 1
  have := Int.mul_ediv_add_emod a b
  rw [Int.mul_comm (a / b) b]
  omega
theorem i64_tdiv {a b : Int} (ha : am_in64 a) (h2 : 0 < b) (h3 : b ≤ 9223372036854775807) : Int64.ofInt a / Int64.ofInt b = Int64.ofInt (a.tdiv b) :=
  (Int64.ofInt_tdiv ha.1 ha.2 (show (-9223372036854775808 : Int) ≤ b by omega) h3).symm
theorem i64_div {a b : Int} (h0 : 0 ≤ a) (h1 : a ≤ 9223372036854775807) (h2 : 0 < b) (h3 : b ≤ 9223372036854775807) : Int64.ofInt a / Int64.ofInt b = Int64.ofInt (a / b) := by
  rw [← Int.tdiv_eq_ediv_of_nonneg h0]
  exact i64_tdiv ⟨by omega, h1⟩ h2 h3
theorem i64_rem {a b : Int} (ha : am_in64 a) (h2 : 0 < b) (h3 : b ≤ 9223372036854775807) : Int64.ofInt a - Int64.ofInt a / Int64.ofInt b * Int64.ofInt b = Int64.ofInt (a.tmod b) := by
  rw [i64_tdiv ha h2 h3, ← Int64.ofInt_mul, ← Int64.ofInt_sub]
  congr 1
  have := Int.mul_tdiv_add_tmod a b
  rw [Int.mul_comm (a.tdiv b) b]
  omega
theorem i32_i2l {a : Int} (ha : am_in32 a) : (Int32.ofInt a).toInt64 = Int64.ofInt a := Int32.toInt64_ofInt ha.1 ha.2
theorem i32_i2b (a : Int) : (Int32.ofInt a).toInt8.toInt32 = Int32.ofInt (Int.bmod a 256) := by
  rw [Int32.toInt8_ofInt, ← Int32.ofInt_int8ToInt, Int8.toInt_ofInt]
theorem i64_l2i (a : Int) : (Int64.ofInt a).toInt32 = Int32.ofInt (Int.bmod a 4294967296) := by
  rw [Int64.toInt32_ofInt]
  apply Int32.toInt_inj.mp
  rw [Int32.toInt_ofInt, Int32.toInt_ofInt]
  exact (Int.bmod_bmod).symm
theorem i32_and31 (a : Int) : Int32.ofInt a &&& Int32.ofInt 31 = Int32.ofInt (a % 32) := by
  have h := pk_and (Int32.ofInt a) (m := Int32.ofInt 31) 5 (by decide)
  rw [h]
  have h2 : (Int32.ofInt a).toBitVec.toNat = (a % 4294967296).toNat := by
    rw [Int32.toBitVec_ofInt, BitVec.toNat_ofInt]
    rfl
  rw [h2]
  unfold nI
  rw [← Int32.ofInt_eq_ofNat]
  congr 1
  omega
theorem i64_bv (a : Int) : (Int64.ofInt a).toBitVec = BitVec.ofInt 64 a := Int64.toBitVec_ofInt a
theorem i64_and32 (a : Int) : Int64.ofInt a &&& Int64.ofInt 4294967295 = Int64.ofInt (a % 4294967296) := by
  apply Int64.toBitVec_inj.mp
  rw [Int64.toBitVec_and, i64_bv, i64_bv, i64_bv]
  apply BitVec.eq_of_toNat_eq
  rw [BitVec.toNat_and, BitVec.toNat_ofInt, BitVec.toNat_ofInt, BitVec.toNat_ofInt]
  have e : ((4294967295 : Int) % ((2 ^ 64 : Nat) : Int)).toNat = 2 ^ 32 - 1 := by decide
  rw [e, Nat.and_two_pow_sub_one_eq_mod]
  omega
theorem i64_or32 {a b : Int} (h : a % 4294967296 = 0) (h0 : 0 ≤ b) (h1 : b < 4294967296) : Int64.ofInt a ||| Int64.ofInt b = Int64.ofInt (a + b) := by
  apply Int64.toBitVec_inj.mp
  rw [Int64.toBitVec_or, i64_bv, i64_bv, i64_bv]
  apply BitVec.eq_of_toNat_eq
  rw [BitVec.toNat_or, BitVec.toNat_ofInt, BitVec.toNat_ofInt, BitVec.toNat_ofInt]
  obtain ⟨q, hq⟩ : ∃ q : Nat, (a % ((2 ^ 64 : Nat) : Int)).toNat = 2 ^ 32 * q := ⟨(a % ((2 ^ 64 : Nat) : Int)).toNat / 2 ^ 32, by omega⟩
  have hb : (b % ((2 ^ 64 : Nat) : Int)).toNat < 2 ^ 32 := by omega
  rw [hq, ← Nat.two_pow_add_eq_or_of_lt hb]
  omega
theorem i64_shl32 (a : Int) : Int64.ofInt a <<< ((Int32.ofInt 32).toInt64 &&& 63) = Int64.ofInt (a * 4294967296) := by
  have e : ((Int32.ofInt 32).toInt64 &&& 63) = (32 : Int64) := by decide
  rw [e]
  apply Int64.toBitVec_inj.mp
  rw [Int64.toBitVec_shiftLeft, i64_bv, i64_bv]
  have e2 : (Int64.toBitVec 32).smod 64 = 32#64 := by decide
  rw [e2]
  apply BitVec.eq_of_toNat_eq
  rw [BitVec.shiftLeft_eq', BitVec.toNat_shiftLeft, BitVec.toNat_ofInt, BitVec.toNat_ofInt]
  have e3 : (32#64).toNat = 32 := by decide
  rw [e3, Nat.shiftLeft_eq]
  omega
theorem i64_xor_sign {a b : Int} (ha : am_in64 a) (hb : am_in64 b) : ∃ x : Int, am_in64 x ∧ (x < 0 ↔ ((a < 0 ∧ 0 ≤ b) ∨ (0 ≤ a ∧ b < 0))) ∧ Int64.ofInt a ^^^ Int64.ofInt b = Int64.ofInt x := by
  refine ⟨(Int64.ofInt a ^^^ Int64.ofInt b).toInt, ⟨Int64.minValue_le_toInt _, Int64.toInt_le _⟩, ?_, (Int64.ofInt_toInt _).symm⟩
  have key : ∀ z : Int64, z.toInt < 0 ↔ z.toBitVec.msb = true := fun z => by
    rw [show z.toInt = z.toBitVec.toInt from rfl, BitVec.msb_eq_toInt]
    simp
  rw [key, Int64.toBitVec_xor, BitVec.msb_xor]
  have ka := key (Int64.ofInt a)
  have kb := key (Int64.ofInt b)
  rw [i64_toInt ha] at ka
  rw [i64_toInt hb] at kb
  cases h1 : (Int64.ofInt a).toBitVec.msb <;> cases h2 : (Int64.ofInt b).toBitVec.msb <;> rw [h1] at ka <;> rw [h2] at kb <;> simp at ka kb ⊢ <;> omega
end
section
/-! the abstract memory and the heap -/
def am_TT (c : Nat) : u_T := match c with
  | 0 => TX0
  | 1 => TX1
  | 2 => TX2
  | 3 => TX3
  | 4 => TX4
  | _ => TX5
def am_NN (c : Nat) : Nat := match c with
  | 0 => 3
  | 1 => 2
  | 2 => 2
  | 3 => 5
  | 4 => 18
  | _ => 24
def am_RR (c : Nat) : String := match c with
  | 0 => RX0
  | 1 => RX1
  | 2 => RX2
  | 3 => RX3
  | 4 => RX4
  | _ => RX5
def am_ty (c : Nat) : Nat → FieldType := match c with
  | 0 => tyX0
  | 1 => tyX1
  | 2 => tyX2
  | 3 => tyX3
  | 4 => tyX4
  | _ => tyX5
abbrev am_cls : List vw_C := [(RX0, TX0, 3), (RX1, TX1, 2), (RX2, TX2, 2), (RX3, TX3, 5), (RX4, TX4, 18), (RX5, TX5, 24)]
theorem am_cls_at : ∀ c, c < 6 → am_cls[c]? = some (am_RR c, am_TT c, am_NN c)
  | 0, _ => rfl
  | 1, _ => rfl
  | 2, _ => rfl
  | 3, _ => rfl
  | 4, _ => rfl
  | 5, _ => rfl
  | n + 6, h => absurd h (by omega)
theorem am_nm : ∀ c, c < 6 → ∀ a, a < am_NN c → ∀ b, b < am_NN c → a ≠ b → (am_TT c a).2.1 ≠ (am_TT c b).2.1
  | 0, _ => nmX0
  | 1, _ => nmX1
  | 2, _ => nmX2
  | 3, _ => nmX3
  | 4, _ => nmX4
  | 5, _ => nmX5
  | n + 6, h => absurd h (by omega)
theorem am_tyok : ∀ c, c < 6 → ∀ k, k < am_NN c → parseFieldDescriptor (am_TT c k).2.2.1 = some (am_ty c k)
  | 0, _ => tyX0_ok
  | 1, _ => tyX1_ok
  | 2, _ => tyX2_ok
  | 3, _ => tyX3_ok
  | 4, _ => tyX4_ok
  | 5, _ => tyX5_ok
  | n + 6, h => absurd h (by omega)
/-- a field's kind: 0 int, 1 long, 2 boolean, 3 a reference -/
def am_fk (c k : Nat) : Nat := match am_ty c k with
  | .int => 0
  | .long => 1
  | .boolean => 2
  | .object _ => 3
  | .array _ => 3
  | _ => 9
/-- the launch, the classes' numbers, where the new cells begin, where the script and the two constant rows lie, the array classes' numbers -/
abbrev am_G : Type := Launch × va_G × Nat × (Nat → Nat) × (Nat → ClassId)
abbrev am_G.l (G : am_G) : Launch := G.1
abbrev am_G.D (G : am_G) : va_G := G.2.1
abbrev am_G.b (G : am_G) : Nat := G.2.2.1
abbrev am_G.ex (G : am_G) : Nat → Nat := G.2.2.2.1
abbrev am_G.cy (G : am_G) : Nat → ClassId := G.2.2.2.2
abbrev am_tys (G : am_G) : List (ClassId × FieldType) := [(am_G.cy G 0, .int), (am_G.cy G 1, .long), (am_G.cy G 2, .boolean), (am_G.cy G 3, .array .long), (am_G.cy G 4, .array .int), (am_G.cy G 5, .object RX3)]
def am_ad (G : am_G) (a : Nat) : Nat := if a < 3 then am_G.ex G a else am_G.b G + (a - 3)
def am_cv (G : am_G) : AV → Value
  | .inl z => .int (Int32.ofInt z)
  | .inr (.inl z) => .long (Int64.ofInt z)
  | .inr (.inr none) => .null
  | .inr (.inr (some (.inl a))) => .ref (am_ad G a)
  | .inr (.inr (some (.inr (a, i)))) => .ref (am_ad G a + 1 + i.toNat)
def am_fv (G : am_G) (V : am_V) (R : am_T) (c a j : Nat) : Value := match am_fk c j with
  | 0 => .int (Int32.ofInt (V a j))
  | 1 => .long (Int64.ofInt (V a j))
  | 2 => .int (Int32.ofInt (V a j))
  | _ => va_rf ((R a j).map (am_ad G))
def am_e (G : am_G) (V : am_V) (R : am_T) (a : Nat) : va_E := match am_lay a with
  | (0, n, _, _) => .inl (am_G.cy G 0, n, .inl (fun j => Int32.ofInt (V a j)))
  | (1, n, _, _) => .inl (am_G.cy G 1, n, .inr (.inl (fun j => Int64.ofInt (V a j))))
  | (2, n, _, _) => .inl (am_G.cy G 2, n, .inl (fun j => Int32.ofInt (V a j)))
  | (3, n, _, _) => .inl (am_G.cy G 3, n, .inr (.inr (.inr (.inr (fun j => if j < n then some (am_ad G a + 1 + j) else none)))))
  | (4, n, _, _) => .inl (am_G.cy G 4, n, .inr (.inr (.inr (.inr (fun j => if j < n then some (am_ad G a + 1 + j) else none)))))
  | (5, n, _, _) => .inl (am_G.cy G 5, n, .inr (.inr (.inr (.inr (fun j => (R a j).map (am_ad G))))))
  | (6, n, o, i) => .inl (am_G.cy G 1, n, .inr (.inl (fun j => if j < n then Int64.ofInt (V o (64 * (i : Int) + j)) else 0)))
  | (7, n, o, i) => .inl (am_G.cy G 0, n, .inl (fun j => if j < n then Int32.ofInt (V o (64 * (i : Int) + j)) else 0))
  | (k, n, _, _) => .inr (k - 10, (List.range n).map (am_fv G V R (k - 10) a))
def am_ws (G : am_G) (V : am_V) (R : am_T) (T : Nat) : va_W := (List.range (T - 3)).map (fun i => (am_G.b G + i, am_e G V R (i + 3)))
theorem am_ad_ge {G : am_G} {a : Nat} (h : 3 ≤ a) : am_ad G a = am_G.b G + (a - 3) := if_neg (by omega)
theorem am_ws_at {G : am_G} {V : am_V} {R : am_T} {T a : Nat} (h : 3 ≤ a) (ht : a < T) : (am_ws G V R T)[a - 3]? = some (am_ad G a, am_e G V R a) := by
  unfold am_ws
  rw [List.getElem?_map, List.getElem?_range (by omega), am_ad_ge h]
  show some (am_G.b G + (a - 3), am_e G V R (a - 3 + 3)) = _
  rw [show a - 3 + 3 = a by omega]
theorem am_ws_len {G : am_G} {V : am_V} {R : am_T} {T : Nat} : (am_ws G V R T).length = T - 3 := by simp [am_ws]
theorem am_ws_of {G : am_G} {V : am_V} {R : am_T} {T i : Nat} {q : Nat × va_E} (h : (am_ws G V R T)[i]? = some q) : i < T - 3 ∧ q = (am_G.b G + i, am_e G V R (i + 3)) := by
  have hl := (List.getElem?_eq_some_iff.mp h).1
  rw [am_ws_len] at hl
  unfold am_ws at h
  rw [List.getElem?_map, List.getElem?_range hl] at h
  exact ⟨hl, (Option.some.inj h).symm⟩
theorem am_ws_set {G : am_G} {V V' : am_V} {R R' : am_T} {T a : Nat} (h : 3 ≤ a) (ht : a < T) {x : va_E} (hx : am_e G V' R' a = x) (ho : ∀ b, b < T → b ≠ a → am_e G V' R' b = am_e G V R b) : (am_ws G V R T).set (a - 3) (am_ad G a, x) = am_ws G V' R' T := by
  apply List.ext_getElem?
  intro i
  by_cases hi : i < T - 3
  · by_cases e : i = a - 3
    · subst e
      rw [List.getElem?_set_self (by rw [am_ws_len]; omega), am_ws_at h ht, hx]
    · rw [List.getElem?_set_ne (fun q => e q.symm)]
      have h1 := am_ws_at (G := G) (V := V) (R := R) (T := T) (a := i + 3) (by omega) (by omega)
      have h2 := am_ws_at (G := G) (V := V') (R := R') (T := T) (a := i + 3) (by omega) (by omega)
      rw [show i + 3 - 3 = i by omega] at h1 h2
      rw [h1, h2, ho (i + 3) (by omega) (by omega)]
  · rw [List.getElem?_eq_none (by rw [List.length_set, am_ws_len]; omega), List.getElem?_eq_none (by rw [am_ws_len]; omega)]
theorem am_ws_push {G : am_G} {V V' : am_V} {R R' : am_T} {T : Nat} (h : 3 ≤ T) {x : va_E} (hx : am_e G V' R' T = x) (ho : ∀ b, b < T → am_e G V' R' b = am_e G V R b) : am_ws G V R T ++ [(am_ad G T, x)] = am_ws G V' R' (T + 1) := by
  apply List.ext_getElem?
  intro i
  rcases Nat.lt_trichotomy i (T - 3) with hi | hi | hi
  · rw [List.getElem?_append_left (by rw [am_ws_len]; exact hi)]
    have h1 := am_ws_at (G := G) (V := V) (R := R) (T := T) (a := i + 3) (by omega) (by omega)
    have h2 := am_ws_at (G := G) (V := V') (R := R') (T := T + 1) (a := i + 3) (by omega) (by omega)
    rw [show i + 3 - 3 = i by omega] at h1 h2
    rw [h1, h2, ho (i + 3) (by omega)]
  · have h2 := am_ws_at (G := G) (V := V') (R := R') (T := T + 1) (a := T) (by omega) (by omega)
    rw [List.getElem?_append_right (by rw [am_ws_len]; omega), am_ws_len, hi, h2, hx]
    simp
  · rw [List.getElem?_eq_none (by rw [List.length_append, am_ws_len]; simp; omega), List.getElem?_eq_none (by rw [am_ws_len]; omega)]
theorem am_D {G : am_G} {V : am_V} {R : am_T} {T : Nat} : va_D (fun q => am_G.b G ≤ q) (am_ws G V R T) := by
  refine ⟨fun i j x y hi hj hxy => ?_, fun k q hk => ?_⟩
  · obtain ⟨-, rfl⟩ := am_ws_of hi
    obtain ⟨-, rfl⟩ := am_ws_of hj
    have : am_G.b G + i = am_G.b G + j := hxy
    omega
  · obtain ⟨-, rfl⟩ := am_ws_of hk
    exact Nat.le_add_right _ _
/-- tables and their rows lie as they must -/
theorem am_grid : (List.range 107).all (fun a => (List.range 64).all (fun i => match am_lay a with
    | (3, n, w, _) => !decide (i < n) || (decide (am_lay (a + 1 + i) = (6, w, a, i)) && decide (w ≤ 64))
    | (4, n, w, _) => !decide (i < n) || (decide (am_lay (a + 1 + i) = (7, w, a, i)) && decide (w ≤ 64))
    | (k, n, o, j) => !(decide (k = 6) || decide (k = 7)) || (decide (a = o + 1 + j) && (decide ((am_lay o).1 = k - 3) && (decide ((am_lay o).2.2.1 = n) && decide (j < (am_lay o).2.1)))))) = true := by decide +kernel
theorem am_lay_hi {a : Nat} (h : 107 ≤ a) : am_lay a = (13, 5, 0, 0) ∨ am_lay a = (0, 10, 0, 0) := by
  unfold am_lay
  rw [Nat.ble_eq_true_of_le h]
  cases hb : Nat.beq ((a - 107) % 2) 0
  · exact Or.inr rfl
  · exact Or.inl rfl
theorem am_grid3 {a n w x : Nat} (h : am_lay a = (3, n, w, x)) {i : Nat} (hi : i < n) (h64 : n ≤ 64) : am_lay (a + 1 + i) = (6, w, a, i) ∧ w ≤ 64 := by
  have ha : a < 107 := by
    rcases Nat.lt_or_ge a 107 with q | q
    · exact q
    · rcases am_lay_hi q with r | r <;> rw [h] at r <;> cases r
  have h1 := List.all_eq_true.mp (List.all_eq_true.mp am_grid a (List.mem_range.mpr ha)) i (List.mem_range.mpr (by omega))
  rw [h] at h1
  simpa [hi] using h1
theorem am_grid4 {a n w x : Nat} (h : am_lay a = (4, n, w, x)) {i : Nat} (hi : i < n) (h64 : n ≤ 64) : am_lay (a + 1 + i) = (7, w, a, i) ∧ w ≤ 64 := by
  have ha : a < 107 := by
    rcases Nat.lt_or_ge a 107 with q | q
    · exact q
    · rcases am_lay_hi q with r | r <;> rw [h] at r <;> cases r
  have h1 := List.all_eq_true.mp (List.all_eq_true.mp am_grid a (List.mem_range.mpr ha)) i (List.mem_range.mpr (by omega))
  rw [h] at h1
  simpa [hi] using h1
theorem am_small : (List.range 107).all (fun a => decide ((am_lay a).2.1 < 3000) && (decide ((am_lay a).1 < 16) && (!decide ((am_lay a).1 = 3 ∨ (am_lay a).1 = 4) || decide ((am_lay a).2.1 ≤ 64)))) = true := by decide +kernel
theorem am_lay_len (a : Nat) : (am_lay a).2.1 < 3000 ∧ (am_lay a).1 < 16 ∧ ((am_lay a).1 = 3 ∨ (am_lay a).1 = 4 → (am_lay a).2.1 ≤ 64) := by
  rcases Nat.lt_or_ge a 107 with q | q
  · have h := List.all_eq_true.mp am_small a (List.mem_range.mpr q)
    simp only [Bool.and_eq_true, Bool.or_eq_true, Bool.not_eq_true', decide_eq_true_eq, decide_eq_false_iff_not] at h
    exact ⟨h.1, h.2.1, fun z => h.2.2.resolve_left (fun y => y z)⟩
  · rcases am_lay_hi q with r | r <;> rw [r] <;> exact ⟨by decide, by decide, by decide⟩
end
section
/-! the frame: locals, stack, memory against the machine's -/
def am_asc (G : am_G) : Nat → am_L → List (Nat × Value)
  | _, [] => []
  | i, some v :: l => (i, am_cv G v) :: am_asc G (i + 1) l
  | i, none :: l => am_asc G (i + 1) l
theorem am_asc_mem {G : am_G} : ∀ (l : am_L) (i : Nat) (q : Nat × Value), q ∈ am_asc G i l ↔ ∃ j v, am_get l j = some v ∧ q = (i + j, am_cv G v)
  | [], i, q => by simp [am_asc, am_get]
  | some w :: l, i, q => by
    rw [am_asc, List.mem_cons, am_asc_mem l]
    constructor
    · rintro (h | ⟨j, v, h1, h2⟩)
      · exact ⟨0, w, rfl, h⟩
      · exact ⟨j + 1, v, h1, by rw [h2, show i + 1 + j = i + (j + 1) by omega]⟩
    · rintro ⟨j, v, h1, h2⟩
      cases j with
      | zero =>
        left
        have : w = v := by simpa [am_get] using h1
        rw [h2, this]
        rfl
      | succ j => exact Or.inr ⟨j, v, h1, by rw [h2, show i + 1 + j = i + (j + 1) by omega]⟩
  | none :: l, i, q => by
    rw [am_asc, am_asc_mem l]
    constructor
    · rintro ⟨j, v, h1, h2⟩
      exact ⟨j + 1, v, h1, by rw [h2, show i + 1 + j = i + (j + 1) by omega]⟩
    · rintro ⟨j, v, h1, h2⟩
      cases j with
      | zero => simp [am_get] at h1
      | succ j => exact ⟨j, v, h1, by rw [h2, show i + 1 + j = i + (j + 1) by omega]⟩
theorem am_get_set : ∀ (l : am_L) (i j : Nat) (x : Option AV), am_get (am_set l i x) j = if j = i ∧ i < l.length then x else am_get l j
  | [], i, j, x => by simp [am_set, am_get]
  | v :: l, 0, 0, x => by simp [am_set, am_get]
  | v :: l, 0, j + 1, x => by simp [am_set, am_get]
  | v :: l, i + 1, 0, x => by simp [am_set, am_get]
  | v :: l, i + 1, j + 1, x => by simp [am_set, am_get, am_get_set l i j x]
theorem am_set_len : ∀ (l : am_L) (i : Nat) (x : Option AV), (am_set l i x).length = l.length
  | [], _, _ => rfl
  | _ :: _, 0, _ => rfl
  | _ :: l, i + 1, x => by simp [am_set, am_set_len l i x]
theorem am_cut_len (l : am_L) (i : Nat) : (am_cut l i).length = l.length := by
  cases i with
  | zero => rfl
  | succ n =>
    simp only [am_cut]
    split
    · exact am_set_len _ _ _
    · rfl
theorem am_cut_get {l : am_L} {i j : Nat} {v : AV} (h : am_get (am_cut l i) j = some v) : am_get l j = some v ∧ ¬ (j + 1 = i ∧ ∃ z, v = .inr (.inl z)) := by
  cases i with
  | zero => exact ⟨h, fun q => absurd q.1 (by omega)⟩
  | succ n =>
    simp only [am_cut] at h
    split at h
    · rename_i z hz
      rw [am_get_set] at h
      split at h
      · cases h
      · rename_i hn
        refine ⟨h, fun q => ?_⟩
        have hj : j = n := by omega
        subst hj
        have : ¬ j < l.length := fun q => hn ⟨rfl, q⟩
        have hge : ∀ (l : am_L) (j : Nat), ¬ j < l.length → am_get l j = none := by
          intro l
          induction l with
          | nil => intro j _; rfl
          | cons a l ih =>
            intro j hj
            cases j with
            | zero => simp at hj
            | succ j => exact ih j (by simpa using hj)
        rw [hge l j this] at h
        cases h
    · rename_i hne
      refine ⟨h, fun q => ?_⟩
      obtain ⟨q1, z, rfl⟩ := q
      have : j = n := by omega
      subst this
      exact hne z h
def am_okv (T : Nat) : AV → Prop
  | .inr (.inr (some (.inl a))) => a < T
  | .inr (.inr (some (.inr (a, i)))) => 3 ≤ a ∧ ((am_lay a).1 = 3 ∨ (am_lay a).1 = 4) ∧ a + (am_lay a).2.1 < T ∧ 0 ≤ i ∧ i < ((am_lay a).2.1 : Int)
  | _ => True
theorem am_okv.mono {T T' : Nat} {v : AV} (h : am_okv T v) (ht : T ≤ T') : am_okv T' v := by
  match v, h with
  | .inl _, _ => trivial
  | .inr (.inl _), _ => trivial
  | .inr (.inr none), _ => trivial
  | .inr (.inr (some (.inl a))), h => exact Nat.lt_of_lt_of_le h ht
  | .inr (.inr (some (.inr (a, i)))), h => exact ⟨h.1, h.2.1, Nat.lt_of_lt_of_le h.2.2.1 ht, h.2.2.2⟩
def am_okR (R : am_T) (T : Nat) : Prop := (∀ a k b, a < T → R a k = some b → b < T) ∧ ∀ a, a < T → ((am_lay a).1 = 3 ∨ (am_lay a).1 = 4) → a + (am_lay a).2.1 < T
/-- the locals: as many as the machine's, each known one is there, its cells are made -/
def am_loc (G : am_G) (nL T : Nat) (ls : am_L) (la : Array Slot) : Prop := ls.length = nL ∧ lv_has la nL (am_asc G 0 ls) ∧ ∀ j v, am_get ls j = some v → am_okv T v
theorem am_loc.at {G : am_G} {nL T : Nat} {ls : am_L} {la : Array Slot} (h : am_loc G nL T ls la) {i : Nat} {v : AV} (hv : am_get ls i = some v) : la[i]? = some (.val (am_cv G v)) :=
  h.2.1.2.2 (i, am_cv G v) ((am_asc_mem ls 0 _).mpr ⟨i, v, hv, by rw [Nat.zero_add]⟩)
theorem am_cat1 {G : am_G} {v : AV} (h : ∀ z, v ≠ .inr (.inl z)) : (am_cv G v).category = 1 := by
  match v, h with
  | .inl _, _ => rfl
  | .inr (.inl z), h => exact absurd rfl (h z)
  | .inr (.inr none), _ => rfl
  | .inr (.inr (some (.inl a))), _ => rfl
  | .inr (.inr (some (.inr (a, i)))), _ => rfl
theorem am_cat2 {G : am_G} {v : AV} (h : (am_cv G v).category = 2) : ∃ z, v = .inr (.inl z) := by
  match v, h with
  | .inl _, h => cases h
  | .inr (.inl z), h => exact ⟨z, rfl⟩
  | .inr (.inr none), h => cases h
  | .inr (.inr (some (.inl a))), h => cases h
  | .inr (.inr (some (.inr (a, i)))), h => cases h
theorem am_has_sub {la : Array Slot} {nL : Nat} {l l' : List (Nat × Value)} (h : lv_has la nL l) (hs : ∀ q ∈ l', q ∈ l) : lv_has la nL l' := ⟨h.1, h.2.1, fun q hq => h.2.2 q (hs q hq)⟩
theorem am_loc.st1 {G : am_G} {nL T : Nat} {ls : am_L} {la la' : Array Slot} (h : am_loc G nL T ls la) {i : Nat} {v : AV} (ho : am_okv T v)
    (hl : lv_has la' nL ((i, am_cv G v) :: (am_asc G 0 ls).filter (fun q => !(q.1 == i) && !(q.1 + 1 == i && q.2.category == 2)))) : am_loc G nL T (am_st1 ls i v) la' := by
  have key : ∀ j w, am_get (am_st1 ls i v) j = some w → (j = i ∧ w = v) ∨ (j ≠ i ∧ am_get ls j = some w ∧ ¬ (j + 1 = i ∧ ∃ z, w = .inr (.inl z))) := by
    intro j w hw
    unfold am_st1 at hw
    rw [am_get_set] at hw
    split at hw
    · rename_i q
      exact Or.inl ⟨q.1, (Option.some.inj hw).symm⟩
    · rename_i q
      obtain ⟨h1, h2⟩ := am_cut_get hw
      by_cases e : j = i
      · subst e
        exfalso
        apply q
        refine ⟨rfl, ?_⟩
        rw [am_cut_len]
        have hge : ∀ (l : am_L) (j : Nat) (w : AV), am_get l j = some w → j < l.length := by
          intro l
          induction l with
          | nil => intro j w h; cases h
          | cons a l ih =>
            intro j w h
            cases j with
            | zero => simp
            | succ j => simpa using ih j w h
        exact hge _ _ _ h1
      · exact Or.inr ⟨e, h1, h2⟩
  refine ⟨by unfold am_st1; rw [am_set_len, am_cut_len]; exact h.1, am_has_sub hl (fun q hq => ?_), fun j w hw => ?_⟩
  · obtain ⟨j, w, hw, rfl⟩ := (am_asc_mem _ _ _).mp hq
    rw [Nat.zero_add]
    rcases key j w hw with ⟨rfl, rfl⟩ | ⟨h1, h2, h3⟩
    · exact List.mem_cons_self
    · refine List.mem_cons_of_mem _ (List.mem_filter.mpr ⟨(am_asc_mem _ _ _).mpr ⟨j, w, h2, by rw [Nat.zero_add]⟩, ?_⟩)
      have e1 : (j == i) = false := by simpa using h1
      cases e2 : (j + 1 == i) with
      | false => simp [e1, e2]
      | true =>
        have : (am_cv G w).category ≠ 2 := fun c => h3 ⟨by simpa using e2, am_cat2 c⟩
        simp [e1, e2, this]
  · rcases key j w hw with ⟨rfl, rfl⟩ | ⟨h1, h2, h3⟩
    · exact ho
    · exact h.2.2 j w h2
theorem am_loc.st2 {G : am_G} {nL T : Nat} {ls : am_L} {la la' : Array Slot} (h : am_loc G nL T ls la) {i : Nat} {v : AV} (ho : am_okv T v)
    (hl : lv_has la' nL ((i, am_cv G v) :: (am_asc G 0 ls).filter (fun q => !(q.1 == i) && (!(q.1 == i + 1) && !(q.1 + 1 == i && q.2.category == 2))))) : am_loc G nL T (am_st2 ls i v) la' := by
  have hge : ∀ (l : am_L) (j : Nat) (w : AV), am_get l j = some w → j < l.length := by
    intro l
    induction l with
    | nil => intro j w h; cases h
    | cons a l ih =>
      intro j w h
      cases j with
      | zero => simp
      | succ j => simpa using ih j w h
  have key : ∀ j w, am_get (am_st2 ls i v) j = some w → (j = i ∧ w = v) ∨ (j ≠ i ∧ j ≠ i + 1 ∧ am_get ls j = some w ∧ ¬ (j + 1 = i ∧ ∃ z, w = .inr (.inl z))) := by
    intro j w hw
    have hj := hge _ _ _ hw
    unfold am_st2 at hw hj
    rw [am_set_len, am_set_len, am_cut_len] at hj
    rw [am_get_set, am_set_len, am_cut_len] at hw
    split at hw
    · cases hw
    · rename_i q0
      rw [am_get_set, am_cut_len] at hw
      split at hw
      · rename_i q
        exact Or.inl ⟨q.1, (Option.some.inj hw).symm⟩
      · rename_i q
        obtain ⟨h1, h2⟩ := am_cut_get hw
        refine Or.inr ⟨fun e => ?_, fun e => ?_, h1, h2⟩
        · exact q ⟨e, by omega⟩
        · exact q0 ⟨e, by omega⟩
  refine ⟨by unfold am_st2; rw [am_set_len, am_set_len, am_cut_len]; exact h.1, am_has_sub hl (fun q hq => ?_), fun j w hw => ?_⟩
  · obtain ⟨j, w, hw, rfl⟩ := (am_asc_mem _ _ _).mp hq
    rw [Nat.zero_add]
    rcases key j w hw with ⟨rfl, rfl⟩ | ⟨h1, h1', h2, h3⟩
    · exact List.mem_cons_self
    · refine List.mem_cons_of_mem _ (List.mem_filter.mpr ⟨(am_asc_mem _ _ _).mpr ⟨j, w, h2, by rw [Nat.zero_add]⟩, ?_⟩)
      have e1 : (j == i) = false := by simpa using h1
      have e1' : (j == i + 1) = false := by simpa using h1'
      cases e2 : (j + 1 == i) with
      | false => simp [e1, e1', e2]
      | true =>
        have : (am_cv G w).category ≠ 2 := fun c => h3 ⟨by simpa using e2, am_cat2 c⟩
        simp [e1, e1', e2, this]
  · rcases key j w hw with ⟨rfl, rfl⟩ | ⟨h1, h1', h2, h3⟩
    · exact ho
    · exact h.2.2 j w h2
theorem am_loc.mono {G : am_G} {nL T T' : Nat} {ls : am_L} {la : Array Slot} (h : am_loc G nL T ls la) (ht : T ≤ T') : am_loc G nL T' ls la := ⟨h.1, h.2.1, fun j v hv => (h.2.2 j v hv).mono ht⟩
/-- what the tables and the old cells say at a method's start -/
def am_K (G : am_G) (V0 : am_V) (s : State) : Prop :=
  va_K (am_G.D G) am_cls (am_tys G) s ∧ va_AO RX3 s ∧ (Jvm.Cond.arrayOver (.array .long)).before #[] s = true ∧ (Jvm.Cond.arrayOver (.array .int)).before #[] s = true ∧
  va_Z "FreeParts" "FREE_ONES" "[I" (.ref (am_G.ex G 1)) (fun q => am_G.b G ≤ q) s s.heap ∧ va_Z "FreeParts" "WEIGHTS" "[I" (.ref (am_G.ex G 2)) (fun q => am_G.b G ≤ q) s s.heap ∧
  (0 ≤ V0 0 (-1) ∧ V0 0 (-1) ≤ 2147483647) ∧ va_T .int (am_G.ex G 0) (V0 0 (-1)).toNat (fun j => .int (Int32.ofInt (V0 0 j))) (fun q => am_G.b G ≤ q) s s.heap ∧
  va_T .int (am_G.ex G 1) 11 (fun j => .int (Int32.ofInt (V0 1 j))) (fun q => am_G.b G ≤ q) s s.heap ∧ va_T .int (am_G.ex G 2) 11 (fun j => .int (Int32.ofInt (V0 2 j))) (fun q => am_G.b G ≤ q) s s.heap
/-- a frame under way -/
def am_fr (G : am_G) (s : State) (V0 : am_V) (T0 nL Bc Bs : Nat) (ls : am_L) (st : List AV) (V : am_V) (R : am_T) (T cc cs : Nat) (la : Array Slot) (H : Heap) (locs : List Loc) : Prop :=
  H.size = am_G.b G + (T - 3) ∧ 3 ≤ T0 ∧ T0 ≤ T ∧ va_P (am_G.D G) am_cls (am_ws G V R T) H ∧ va_S (fun q => am_G.b G ≤ q) s.heap H locs ∧ am_okR R T ∧ (∀ e, e < 3 → V e = V0 e) ∧ am_loc G nL T ls la ∧ (∀ v ∈ st, am_okv T v) ∧ cc ≤ Bc ∧ cs ≤ Bs
abbrev am_X : Type := Program × Env × Room × State × MethodId × Array Value × List Frame × Method × Code × (State → Prop) × am_G × String × ByteArray × Nat × Nat × Nat × am_V × Nat
def am_W (X : am_X) (pc : Nat) (ls : am_L) (st : List AV) (V : am_V) (R : am_T) (T cc cs : Nat) : Prop := match X with
  | (p, e, Rm, s, m, args, below, meth, c, QQ, G, _, _, nL, Bc, Bs, V0, T0) => ∀ la H locs, am_fr G s V0 T0 nL Bc Bs ls st V R T cc cs la H locs → W p (am_G.l G) e Rm s m args below meth c H locs cc cs QQ (F0 m pc la (st.map (am_cv G)))
def am_cx (X : am_X) : Prop := match X with
  | (p, e, Rm, s, m, args, below, meth, c, QQ, G, own, bytes, nL, Bc, Bs, V0, T0) => p.tables.exec = Jvm.exec ∧ c.code = bytes ∧ c.maxLocals = nL ∧ s.vm.findClass own = some m.cls ∧ (∀ w, w ∈ lw_tbl → goodWord w = true → w.before args s = true) ∧ am_K G V0 s ∧ Rm.cells = Bc ∧ Rm.slots = Bs
abbrev am_X.bytes (X : am_X) : ByteArray := X.2.2.2.2.2.2.2.2.2.2.2.2.1
abbrev am_X.own (X : am_X) : String := X.2.2.2.2.2.2.2.2.2.2.2.1
abbrev am_X.nL (X : am_X) : Nat := X.2.2.2.2.2.2.2.2.2.2.2.2.2.1
abbrev am_X.meth (X : am_X) : Method := X.2.2.2.2.2.2.2.1
abbrev am_X.g (X : am_X) : am_G := X.2.2.2.2.2.2.2.2.2.2.1
abbrev am_X.Rm (X : am_X) : Room := X.2.2.1
end
section
/-! cells that a change leaves alone; helpers of the frame -/
theorem am_row_of {b n o i k : Nat} (h : am_lay b = (k, n, o, i)) (hk : k = 6 ∨ k = 7) : b = o + 1 + i ∧ (am_lay o).1 = k - 3 ∧ (am_lay o).2.2.1 = n ∧ i < (am_lay o).2.1 := by
  have ha : b < 107 := by
    rcases Nat.lt_or_ge b 107 with q | q
    · exact q
    · rcases am_lay_hi q with r | r <;> rw [h] at r <;> cases r <;> simp at hk
  have h1 := List.all_eq_true.mp (List.all_eq_true.mp am_grid b (List.mem_range.mpr ha)) 0 (List.mem_range.mpr (by omega))
  rw [h] at h1
  rcases hk with rfl | rfl <;> simpa using h1
theorem am_e_off {G : am_G} {V V' : am_V} {R R' : am_T} {a b : Nat} (hV : ∀ x, x ≠ a → V' x = V x) (hR : ∀ x, x ≠ a → R' x = R x) (ha : (am_lay a).1 ≠ 3 ∧ (am_lay a).1 ≠ 4) (hb : b ≠ a) : am_e G V' R' b = am_e G V R b := by
  have e1 := hV b hb
  have e2 := hR b hb
  have key : ∀ k n o i, am_lay b = (k, n, o, i) → (k = 6 ∨ k = 7) → V' o = V o := by
    intro k n o i h hk
    apply hV
    intro q
    have h1 := (am_row_of h hk).2.1
    rw [q] at h1
    rcases hk with rfl | rfl
    · exact ha.1 h1
    · exact ha.2 h1
  have fe : ∀ c, am_fv G V' R' c b = am_fv G V R c b := by
    intro c
    funext j
    unfold am_fv
    rw [e1, e2]
  unfold am_e
  split <;> rename_i h
  · rw [e1]
  · rw [e1]
  · rw [e1]
  · rfl
  · rfl
  · rw [e2]
  · rw [key _ _ _ _ h (Or.inl rfl)]
  · rw [key _ _ _ _ h (Or.inr rfl)]
  · rw [fe]
theorem am_up_ne {V : am_V} {a : Nat} {k x : Int} {b : Nat} (h : b ≠ a) : am_up V a k x b = V b := by funext j; unfold am_up; rw [if_neg h]
theorem am_upR_ne {R : am_T} {a : Nat} {k : Int} {x : Option Nat} {b : Nat} (h : b ≠ a) : am_upR R a k x b = R b := by funext j; unfold am_upR; rw [if_neg h]
theorem am_up_at {V : am_V} {a : Nat} {k x j : Int} : am_up V a k x a j = if j = k then x else V a j := by unfold am_up; rw [if_pos rfl]
theorem am_upR_at {R : am_T} {a : Nat} {k : Int} {x : Option Nat} {j : Int} : am_upR R a k x a j = if j = k then x else R a j := by unfold am_upR; rw [if_pos rfl]
theorem am_zero_ne {V : am_V} {a b : Nat} (h : b ≠ a) : am_zero V a b = V b := by funext j; unfold am_zero; rw [if_neg h]
theorem am_zeroR_ne {R : am_T} {a b : Nat} (h : b ≠ a) : am_zeroR R a b = R b := by funext j; unfold am_zeroR; rw [if_neg h]
theorem am_zero_at {V : am_V} {a : Nat} {j : Int} : am_zero V a a j = 0 := by unfold am_zero; rw [if_pos rfl]
theorem am_zeroR_at {R : am_T} {a : Nat} {j : Int} : am_zeroR R a a j = none := by unfold am_zeroR; rw [if_pos rfl]
theorem am_upd_i {V : am_V} {a : Nat} {i x : Int} (h0 : 0 ≤ i) : (fun j : Nat => Int32.ofInt (am_up V a i x a j)) = upd (fun j : Nat => Int32.ofInt (V a j)) i.toNat (Int32.ofInt x) := by
  funext j
  rw [am_up_at]
  by_cases h : j = i.toNat
  · subst h
    rw [if_pos (by omega), pk_us]
  · rw [if_neg (by omega), pk_un h]
theorem am_upd_l {V : am_V} {a : Nat} {i x : Int} (h0 : 0 ≤ i) : (fun j : Nat => Int64.ofInt (am_up V a i x a j)) = vp_updL (fun j : Nat => Int64.ofInt (V a j)) i.toNat (Int64.ofInt x) := by
  funext j
  rw [am_up_at]
  by_cases h : j = i.toNat
  · subst h
    rw [if_pos (by omega), pk_uLs]
  · rw [if_neg (by omega), pk_uLn h]
/-- one row of a table is changed -/
theorem am_e_row {G : am_G} {V : am_V} {R : am_T} {a q w : Nat} {i x : Int} (hw : w ≤ 64) (hlw : (am_lay a).2.2.1 = w) (hr : (am_lay (a + 1 + q)).2.2 = (a, q)) (h0 : 0 ≤ i) (h1 : i < (w : Int)) {b : Nat} (hb : b ≠ a + 1 + q) (hk : (am_lay a).1 = 3 ∨ (am_lay a).1 = 4) : am_e G (am_up V a (64 * (q : Int) + i) x) R b = am_e G V R b := by
  by_cases hba : b = a
  · subst hba
    unfold am_e
    split <;> rename_i h <;> rw [h] at hk <;> simp at hk <;> first | rfl | (rcases hk with hk | hk <;> simp_all)
  · have e1 : am_up V a (64 * (q : Int) + i) x b = V b := am_up_ne hba
    have key : ∀ k n o j, am_lay b = (k, n, o, j) → (k = 6 ∨ k = 7) → ∀ z : Nat, z < n → am_up V a (64 * (q : Int) + i) x o (64 * (j : Int) + z) = V o (64 * (j : Int) + z) := by
      intro k n o j h hk z hz
      obtain ⟨h1', -, h3, -⟩ := am_row_of h hk
      by_cases ho : o = a
      · subst ho
        rw [am_up_at, if_neg]
        intro c
        have : j ≠ q := fun e => hb (by rw [h1', e])
        have : n = w := by rw [← h3, hlw]
        omega
      · rw [am_up_ne ho]
    have fe : ∀ c, am_fv G (am_up V a (64 * (q : Int) + i) x) R c b = am_fv G V R c b := by
      intro c
      funext j
      unfold am_fv
      rw [e1]
    unfold am_e
    split <;> rename_i h
    · rw [e1]
    · rw [e1]
    · rw [e1]
    · rfl
    · rfl
    · rfl
    · have := key _ _ _ _ h (Or.inl rfl)
      congr 5
      funext z
      split
      · rw [this z (by assumption)]
      · rfl
    · have := key _ _ _ _ h (Or.inr rfl)
      congr 4
      funext z
      split
      · rw [this z (by assumption)]
      · rfl
    · rw [fe]
section FR
variable {G : am_G} {s : State} {V0 : am_V} {T0 nL Bc Bs : Nat} {ls : am_L} {st : List AV} {V : am_V} {R : am_T} {T cc cs : Nat} {la : Array Slot} {H : Heap} {locs : List Loc}
theorem am_fr.sz (h : am_fr G s V0 T0 nL Bc Bs ls st V R T cc cs la H locs) : H.size = am_G.b G + (T - 3) := h.1
theorem am_fr.T3 (h : am_fr G s V0 T0 nL Bc Bs ls st V R T cc cs la H locs) : 3 ≤ T := Nat.le_trans h.2.1 h.2.2.1
theorem am_fr.oP (h : am_fr G s V0 T0 nL Bc Bs ls st V R T cc cs la H locs) : va_P (am_G.D G) am_cls (am_ws G V R T) H := h.2.2.2.1
theorem am_fr.oS (h : am_fr G s V0 T0 nL Bc Bs ls st V R T cc cs la H locs) : va_S (fun q => am_G.b G ≤ q) s.heap H locs := h.2.2.2.2.1
theorem am_fr.oR (h : am_fr G s V0 T0 nL Bc Bs ls st V R T cc cs la H locs) : am_okR R T := h.2.2.2.2.2.1
theorem am_fr.oV (h : am_fr G s V0 T0 nL Bc Bs ls st V R T cc cs la H locs) : ∀ e, e < 3 → V e = V0 e := h.2.2.2.2.2.2.1
theorem am_fr.oL (h : am_fr G s V0 T0 nL Bc Bs ls st V R T cc cs la H locs) : am_loc G nL T ls la := h.2.2.2.2.2.2.2.1
theorem am_fr.ok (h : am_fr G s V0 T0 nL Bc Bs ls st V R T cc cs la H locs) : ∀ v ∈ st, am_okv T v := h.2.2.2.2.2.2.2.2.1
theorem am_fr.oB (h : am_fr G s V0 T0 nL Bc Bs ls st V R T cc cs la H locs) : cc ≤ Bc ∧ cs ≤ Bs := h.2.2.2.2.2.2.2.2.2
theorem am_fr.stk (h : am_fr G s V0 T0 nL Bc Bs ls st V R T cc cs la H locs) {st' : List AV} (h' : ∀ v ∈ st', am_okv T v) : am_fr G s V0 T0 nL Bc Bs ls st' V R T cc cs la H locs := ⟨h.1, h.2.1, h.2.2.1, h.oP, h.oS, h.oR, h.oV, h.oL, h', h.oB⟩
theorem am_fr.loc (h : am_fr G s V0 T0 nL Bc Bs ls st V R T cc cs la H locs) {ls' : am_L} {la' : Array Slot} {st' : List AV} (hl : am_loc G nL T ls' la') (h' : ∀ v ∈ st', am_okv T v) : am_fr G s V0 T0 nL Bc Bs ls' st' V R T cc cs la' H locs := ⟨h.1, h.2.1, h.2.2.1, h.oP, h.oS, h.oR, h.oV, hl, h', h.oB⟩
theorem am_fr.pop {v : AV} (h : am_fr G s V0 T0 nL Bc Bs ls (v :: st) V R T cc cs la H locs) : am_fr G s V0 T0 nL Bc Bs ls st V R T cc cs la H locs := h.stk (fun w hw => h.ok w (List.mem_cons_of_mem _ hw))
theorem am_fr.push {v : AV} (h : am_fr G s V0 T0 nL Bc Bs ls st V R T cc cs la H locs) (hv : am_okv T v) : am_fr G s V0 T0 nL Bc Bs ls (v :: st) V R T cc cs la H locs := h.stk (fun w hw => (List.mem_cons.mp hw).elim (fun e => e ▸ hv) (h.ok w))
/-- memory written, nothing made -/
theorem am_fr.mem (h : am_fr G s V0 T0 nL Bc Bs ls st V R T cc cs la H locs) {V' : am_V} {R' : am_T} {H' : Heap} {locs' : List Loc} (hs : H'.size = H.size) (hP : va_P (am_G.D G) am_cls (am_ws G V' R' T) H') (hS : va_S (fun q => am_G.b G ≤ q) s.heap H' locs') (hR : am_okR R' T) (hV : ∀ e, e < 3 → V' e = V e) : am_fr G s V0 T0 nL Bc Bs ls st V' R' T cc cs la H' locs' := ⟨hs.trans h.1, h.2.1, h.2.2.1, hP, hS, hR, fun e he => (hV e he).trans (h.oV e he), h.oL, h.ok, h.oB⟩
end FR
def am_gw : List Jvm.Cond := lw_tbl.filter goodWord
theorem am_gw_of {w : Jvm.Cond} (h : w ∈ lw_tbl) (hg : goodWord w = true) : w ∈ am_gw := List.mem_filter.mpr ⟨h, hg⟩
theorem am_in0 : (u_ws RX0 TX0 3).all (fun w => decide (w ∈ lw_tbl) && goodWord w) = true := by decide +kernel
theorem am_in1 : (u_ws RX1 TX1 2).all (fun w => decide (w ∈ lw_tbl) && goodWord w) = true := by decide +kernel
theorem am_in2 : (u_ws RX2 TX2 2).all (fun w => decide (w ∈ lw_tbl) && goodWord w) = true := by decide +kernel
theorem am_in3 : (u_ws RX3 TX3 5).all (fun w => decide (w ∈ lw_tbl) && goodWord w) = true := by decide +kernel
theorem am_in4 : (u_ws RX4 TX4 18).all (fun w => decide (w ∈ lw_tbl) && goodWord w) = true := by decide +kernel
theorem am_in5 : (u_ws RX5 TX5 24).all (fun w => decide (w ∈ lw_tbl) && goodWord w) = true := by decide +kernel
theorem am_inc : ∀ c, c < 6 → ∀ w ∈ u_ws (am_RR c) (am_TT c) (am_NN c), w ∈ am_gw := by
  have key : ∀ l : List Jvm.Cond, l.all (fun w => decide (w ∈ lw_tbl) && goodWord w) = true → ∀ w ∈ l, w ∈ am_gw := fun l h w hw => by
    have h1 := List.all_eq_true.mp h w hw
    simp only [Bool.and_eq_true, decide_eq_true_eq] at h1
    exact am_gw_of h1.1 h1.2
  intro c hc
  match c, hc with
  | 0, _ => exact key _ am_in0
  | 1, _ => exact key _ am_in1
  | 2, _ => exact key _ am_in2
  | 3, _ => exact key _ am_in3
  | 4, _ => exact key _ am_in4
  | 5, _ => exact key _ am_in5
  | n + 6, h => exact absurd h (by omega)
end
section
/-! one instruction each: the abstract step is the machine's -/
theorem so_iload_n {X : am_X} (cx : am_cx X) {pc : Nat} {ls : am_L} {st : List AV} {V : am_V} {R : am_T} {T cc cs : Nat} {i : Fin 4} {z : Int} (hv : am_get ls i.val = some (.inl z)) (hd : decode (am_X.bytes X) pc = .ok (.iload_n i, 1)) (k : am_W X (pc + 1) ls (.inl z :: st) V R T cc cs) : am_W X pc ls st V R T cc cs := by
  obtain ⟨p, e, Rm, s, m, args, below, meth, c, QQ, G, own, bytes, nL, Bc, Bs, V0, T0⟩ := X
  obtain ⟨hx, hb, hml, hown, hts, hK, hRc, hRs⟩ := cx
  intro la H locs hf
  refine lv_iload_n hx hb hd rfl (hf.oL.at hv) ?_
  exact k la H locs (hf.push trivial)
theorem so_lload_n {X : am_X} (cx : am_cx X) {pc : Nat} {ls : am_L} {st : List AV} {V : am_V} {R : am_T} {T cc cs : Nat} {i : Fin 4} {z : Int} (hv : am_get ls i.val = some (.inr (.inl z))) (hd : decode (am_X.bytes X) pc = .ok (.lload_n i, 1)) (k : am_W X (pc + 1) ls (.inr (.inl z) :: st) V R T cc cs) : am_W X pc ls st V R T cc cs := by
  obtain ⟨p, e, Rm, s, m, args, below, meth, c, QQ, G, own, bytes, nL, Bc, Bs, V0, T0⟩ := X
  obtain ⟨hx, hb, hml, hown, hts, hK, hRc, hRs⟩ := cx
  intro la H locs hf
  refine lv_lload_n hx hb hd rfl (hf.oL.at hv) ?_
  exact k la H locs (hf.push trivial)
theorem so_aload_n {X : am_X} (cx : am_cx X) {pc : Nat} {ls : am_L} {st : List AV} {V : am_V} {R : am_T} {T cc cs : Nat} {i : Fin 4} {z : am_Ref} (hv : am_get ls i.val = some (.inr (.inr z))) (hd : decode (am_X.bytes X) pc = .ok (.aload_n i, 1)) (k : am_W X (pc + 1) ls (.inr (.inr z) :: st) V R T cc cs) : am_W X pc ls st V R T cc cs := by
  obtain ⟨p, e, Rm, s, m, args, below, meth, c, QQ, G, own, bytes, nL, Bc, Bs, V0, T0⟩ := X
  obtain ⟨hx, hb, hml, hown, hts, hK, hRc, hRs⟩ := cx
  intro la H locs hf
  have ho := hf.oL.2.2 _ _ hv
  have ha := hf.oL.at hv
  match z, ho, ha with
  | none, ho, ha =>
    refine lv_aload_nN hx hb hd rfl ha ?_
    exact k la H locs (hf.push ho)
  | some (.inl a), ho, ha =>
    refine lv_aload_n hx hb hd rfl ha ?_
    exact k la H locs (hf.push ho)
  | some (.inr (a, i)), ho, ha =>
    refine lv_aload_n hx hb hd rfl ha ?_
    exact k la H locs (hf.push ho)
theorem so_istore_n {X : am_X} (cx : am_cx X) {pc : Nat} {ls : am_L} {st : List AV} {V : am_V} {R : am_T} {T cc cs : Nat} {i : Fin 4} {z : Int} (hn : i.val < am_X.nL X) (hd : decode (am_X.bytes X) pc = .ok (.istore_n i, 1)) (k : am_W X (pc + 1) (am_st1 ls i.val (.inl z)) st V R T cc cs) : am_W X pc ls (.inl z :: st) V R T cc cs := by
  obtain ⟨p, e, Rm, s, m, args, below, meth, c, QQ, G, own, bytes, nL, Bc, Bs, V0, T0⟩ := X
  obtain ⟨hx, hb, hml, hown, hts, hK, hRc, hRs⟩ := cx
  intro la H locs hf
  refine lv_istore_n hx hb hd rfl hf.oL.2.1 hn rfl (fun la hl => ?_)
  exact k la H locs (hf.pop.loc (hf.oL.st1 trivial hl) hf.pop.ok)
theorem so_lstore_n {X : am_X} (cx : am_cx X) {pc : Nat} {ls : am_L} {st : List AV} {V : am_V} {R : am_T} {T cc cs : Nat} {i : Fin 4} {z : Int} (hn : i.val + 1 < am_X.nL X) (hd : decode (am_X.bytes X) pc = .ok (.lstore_n i, 1)) (k : am_W X (pc + 1) (am_st2 ls i.val (.inr (.inl z))) st V R T cc cs) : am_W X pc ls (.inr (.inl z) :: st) V R T cc cs := by
  obtain ⟨p, e, Rm, s, m, args, below, meth, c, QQ, G, own, bytes, nL, Bc, Bs, V0, T0⟩ := X
  obtain ⟨hx, hb, hml, hown, hts, hK, hRc, hRs⟩ := cx
  intro la H locs hf
  refine lv_lstore_n hx hb hd rfl hf.oL.2.1 hn rfl (fun la hl => ?_)
  exact k la H locs (hf.pop.loc (hf.oL.st2 trivial hl) hf.pop.ok)
theorem so_astore_n {X : am_X} (cx : am_cx X) {pc : Nat} {ls : am_L} {st : List AV} {V : am_V} {R : am_T} {T cc cs : Nat} {i : Fin 4} {z : am_Ref} (hn : i.val < am_X.nL X) (hd : decode (am_X.bytes X) pc = .ok (.astore_n i, 1)) (k : am_W X (pc + 1) (am_st1 ls i.val (.inr (.inr z))) st V R T cc cs) : am_W X pc ls (.inr (.inr z) :: st) V R T cc cs := by
  obtain ⟨p, e, Rm, s, m, args, below, meth, c, QQ, G, own, bytes, nL, Bc, Bs, V0, T0⟩ := X
  obtain ⟨hx, hb, hml, hown, hts, hK, hRc, hRs⟩ := cx
  intro la H locs hf
  have ho := hf.ok _ List.mem_cons_self
  match z, ho, k, hf with
  | none, ho, k, hf =>
    refine lv_astore_nN hx hb hd rfl hf.oL.2.1 hn rfl (fun la hl => ?_)
    exact k la H locs (hf.pop.loc (hf.oL.st1 ho hl) hf.pop.ok)
  | some (.inl a), ho, k, hf =>
    refine lv_astore_n hx hb hd rfl hf.oL.2.1 hn rfl (fun la hl => ?_)
    exact k la H locs (hf.pop.loc (hf.oL.st1 ho hl) hf.pop.ok)
  | some (.inr (a, j)), ho, k, hf =>
    refine lv_astore_n hx hb hd rfl hf.oL.2.1 hn rfl (fun la hl => ?_)
    exact k la H locs (hf.pop.loc (hf.oL.st1 ho hl) hf.pop.ok)
theorem so_iload {X : am_X} (cx : am_cx X) {pc : Nat} {ls : am_L} {st : List AV} {V : am_V} {R : am_T} {T cc cs : Nat} {i : Nat} {z : Int} (hv : am_get ls i = some (.inl z)) (hd : decode (am_X.bytes X) pc = .ok (.iload i, 2)) (k : am_W X (pc + 2) ls (.inl z :: st) V R T cc cs) : am_W X pc ls st V R T cc cs := by
  obtain ⟨p, e, Rm, s, m, args, below, meth, c, QQ, G, own, bytes, nL, Bc, Bs, V0, T0⟩ := X
  obtain ⟨hx, hb, hml, hown, hts, hK, hRc, hRs⟩ := cx
  intro la H locs hf
  refine lv_iload hx hb hd (hf.oL.at hv) ?_
  exact k la H locs (hf.push trivial)
theorem so_lload {X : am_X} (cx : am_cx X) {pc : Nat} {ls : am_L} {st : List AV} {V : am_V} {R : am_T} {T cc cs : Nat} {i : Nat} {z : Int} (hv : am_get ls i = some (.inr (.inl z))) (hd : decode (am_X.bytes X) pc = .ok (.lload i, 2)) (k : am_W X (pc + 2) ls (.inr (.inl z) :: st) V R T cc cs) : am_W X pc ls st V R T cc cs := by
  obtain ⟨p, e, Rm, s, m, args, below, meth, c, QQ, G, own, bytes, nL, Bc, Bs, V0, T0⟩ := X
  obtain ⟨hx, hb, hml, hown, hts, hK, hRc, hRs⟩ := cx
  intro la H locs hf
  refine lv_lload hx hb hd (hf.oL.at hv) ?_
  exact k la H locs (hf.push trivial)
theorem so_aload {X : am_X} (cx : am_cx X) {pc : Nat} {ls : am_L} {st : List AV} {V : am_V} {R : am_T} {T cc cs : Nat} {i : Nat} {z : am_Ref} (hv : am_get ls i = some (.inr (.inr z))) (hd : decode (am_X.bytes X) pc = .ok (.aload i, 2)) (k : am_W X (pc + 2) ls (.inr (.inr z) :: st) V R T cc cs) : am_W X pc ls st V R T cc cs := by
  obtain ⟨p, e, Rm, s, m, args, below, meth, c, QQ, G, own, bytes, nL, Bc, Bs, V0, T0⟩ := X
  obtain ⟨hx, hb, hml, hown, hts, hK, hRc, hRs⟩ := cx
  intro la H locs hf
  have ho := hf.oL.2.2 _ _ hv
  have ha := hf.oL.at hv
  match z, ho, ha with
  | none, ho, ha =>
    refine lv_aloadN hx hb hd ha ?_
    exact k la H locs (hf.push ho)
  | some (.inl a), ho, ha =>
    refine lv_aload hx hb hd ha ?_
    exact k la H locs (hf.push ho)
  | some (.inr (a, i)), ho, ha =>
    refine lv_aload hx hb hd ha ?_
    exact k la H locs (hf.push ho)
theorem so_istore {X : am_X} (cx : am_cx X) {pc : Nat} {ls : am_L} {st : List AV} {V : am_V} {R : am_T} {T cc cs : Nat} {i : Nat} {z : Int} (hn : i < am_X.nL X) (hd : decode (am_X.bytes X) pc = .ok (.istore i, 2)) (k : am_W X (pc + 2) (am_st1 ls i (.inl z)) st V R T cc cs) : am_W X pc ls (.inl z :: st) V R T cc cs := by
  obtain ⟨p, e, Rm, s, m, args, below, meth, c, QQ, G, own, bytes, nL, Bc, Bs, V0, T0⟩ := X
  obtain ⟨hx, hb, hml, hown, hts, hK, hRc, hRs⟩ := cx
  intro la H locs hf
  refine lv_istore hx hb hd hf.oL.2.1 hn rfl (fun la hl => ?_)
  exact k la H locs (hf.pop.loc (hf.oL.st1 trivial hl) hf.pop.ok)
theorem so_lstore {X : am_X} (cx : am_cx X) {pc : Nat} {ls : am_L} {st : List AV} {V : am_V} {R : am_T} {T cc cs : Nat} {i : Nat} {z : Int} (hn : i + 1 < am_X.nL X) (hd : decode (am_X.bytes X) pc = .ok (.lstore i, 2)) (k : am_W X (pc + 2) (am_st2 ls i (.inr (.inl z))) st V R T cc cs) : am_W X pc ls (.inr (.inl z) :: st) V R T cc cs := by
  obtain ⟨p, e, Rm, s, m, args, below, meth, c, QQ, G, own, bytes, nL, Bc, Bs, V0, T0⟩ := X
  obtain ⟨hx, hb, hml, hown, hts, hK, hRc, hRs⟩ := cx
  intro la H locs hf
  refine lv_lstore hx hb hd hf.oL.2.1 hn rfl (fun la hl => ?_)
  exact k la H locs (hf.pop.loc (hf.oL.st2 trivial hl) hf.pop.ok)
theorem so_astore {X : am_X} (cx : am_cx X) {pc : Nat} {ls : am_L} {st : List AV} {V : am_V} {R : am_T} {T cc cs : Nat} {i : Nat} {z : am_Ref} (hn : i < am_X.nL X) (hd : decode (am_X.bytes X) pc = .ok (.astore i, 2)) (k : am_W X (pc + 2) (am_st1 ls i (.inr (.inr z))) st V R T cc cs) : am_W X pc ls (.inr (.inr z) :: st) V R T cc cs := by
  obtain ⟨p, e, Rm, s, m, args, below, meth, c, QQ, G, own, bytes, nL, Bc, Bs, V0, T0⟩ := X
  obtain ⟨hx, hb, hml, hown, hts, hK, hRc, hRs⟩ := cx
  intro la H locs hf
  have ho := hf.ok _ List.mem_cons_self
  match z, ho, k, hf with
  | none, ho, k, hf =>
    refine lv_astoreN hx hb hd hf.oL.2.1 hn rfl (fun la hl => ?_)
    exact k la H locs (hf.pop.loc (hf.oL.st1 ho hl) hf.pop.ok)
  | some (.inl a), ho, k, hf =>
    refine lv_astore hx hb hd hf.oL.2.1 hn rfl (fun la hl => ?_)
    exact k la H locs (hf.pop.loc (hf.oL.st1 ho hl) hf.pop.ok)
  | some (.inr (a, j)), ho, k, hf =>
    refine lv_astore hx hb hd hf.oL.2.1 hn rfl (fun la hl => ?_)
    exact k la H locs (hf.pop.loc (hf.oL.st1 ho hl) hf.pop.ok)
theorem so_iinc {X : am_X} (cx : am_cx X) {pc : Nat} {ls : am_L} {st : List AV} {V : am_V} {R : am_T} {T cc cs : Nat} {i : Nat} {x z : Int} (hv : am_get ls i = some (.inl z)) (hn : i < am_X.nL X) (hd : decode (am_X.bytes X) pc = .ok (.iinc i x, 3)) (k : am_W X (pc + 3) (am_st1 ls i (.inl (z + x))) st V R T cc cs) : am_W X pc ls st V R T cc cs := by
  obtain ⟨p, e, Rm, s, m, args, below, meth, c, QQ, G, own, bytes, nL, Bc, Bs, V0, T0⟩ := X
  obtain ⟨hx, hb, hml, hown, hts, hK, hRc, hRs⟩ := cx
  intro la H locs hf
  have hm := (am_asc_mem (G := G) ls 0 (i, am_cv G (.inl z))).mpr ⟨i, _, hv, by rw [Nat.zero_add]⟩
  obtain ⟨q, hq⟩ := List.getElem?_of_mem hm
  refine lv_iinc (k := q) (v := Int32.ofInt (z + x)) hx hb hd hf.oL.2.1 hq (by rw [Int32.ofInt_add]) hn rfl (fun la hl => ?_)
  exact k la H locs (hf.loc (hf.oL.st1 (v := .inl (z + x)) trivial hl) hf.ok)
theorem so_iconst {X : am_X} (cx : am_cx X) {pc : Nat} {ls : am_L} {st : List AV} {V : am_V} {R : am_T} {T cc cs : Nat} {x : Int} (hd : decode (am_X.bytes X) pc = .ok (.iconst x, 1)) (k : am_W X (pc + 1) ls (.inl x :: st) V R T cc cs) : am_W X pc ls st V R T cc cs := by
  obtain ⟨p, e, Rm, s, m, args, below, meth, c, QQ, G, own, bytes, nL, Bc, Bs, V0, T0⟩ := X
  obtain ⟨hx, hb, hml, hown, hts, hK, hRc, hRs⟩ := cx
  intro la H locs hf
  refine lv_iconst (v := Int32.ofInt x) hx hb hd rfl ?_
  exact k la H locs (hf.push trivial)
theorem so_bipush {X : am_X} (cx : am_cx X) {pc : Nat} {ls : am_L} {st : List AV} {V : am_V} {R : am_T} {T cc cs : Nat} {x : Int} (hv : (Int8.ofInt x).toInt32 = Int32.ofInt x) (hd : decode (am_X.bytes X) pc = .ok (.bipush x, 2)) (k : am_W X (pc + 2) ls (.inl x :: st) V R T cc cs) : am_W X pc ls st V R T cc cs := by
  obtain ⟨p, e, Rm, s, m, args, below, meth, c, QQ, G, own, bytes, nL, Bc, Bs, V0, T0⟩ := X
  obtain ⟨hx, hb, hml, hown, hts, hK, hRc, hRs⟩ := cx
  intro la H locs hf
  refine lv_bipush (v := Int32.ofInt x) hx hb hd hv ?_
  exact k la H locs (hf.push trivial)
theorem so_sipush {X : am_X} (cx : am_cx X) {pc : Nat} {ls : am_L} {st : List AV} {V : am_V} {R : am_T} {T cc cs : Nat} {x : Int} (hv : (Int16.ofInt x).toInt32 = Int32.ofInt x) (hd : decode (am_X.bytes X) pc = .ok (.sipush x, 3)) (k : am_W X (pc + 3) ls (.inl x :: st) V R T cc cs) : am_W X pc ls st V R T cc cs := by
  obtain ⟨p, e, Rm, s, m, args, below, meth, c, QQ, G, own, bytes, nL, Bc, Bs, V0, T0⟩ := X
  obtain ⟨hx, hb, hml, hown, hts, hK, hRc, hRs⟩ := cx
  intro la H locs hf
  refine lv_sipush (v := Int32.ofInt x) hx hb hd hv ?_
  exact k la H locs (hf.push trivial)
theorem so_lconst {X : am_X} (cx : am_cx X) {pc : Nat} {ls : am_L} {st : List AV} {V : am_V} {R : am_T} {T cc cs : Nat} {x : Fin 2} (hd : decode (am_X.bytes X) pc = .ok (.lconst x, 1)) (k : am_W X (pc + 1) ls (.inr (.inl (x.val : Int)) :: st) V R T cc cs) : am_W X pc ls st V R T cc cs := by
  obtain ⟨p, e, Rm, s, m, args, below, meth, c, QQ, G, own, bytes, nL, Bc, Bs, V0, T0⟩ := X
  obtain ⟨hx, hb, hml, hown, hts, hK, hRc, hRs⟩ := cx
  intro la H locs hf
  refine lv_lconst (v := Int64.ofInt (x.val : Int)) hx hb hd (by rw [Int64.ofInt_eq_ofNat]) ?_
  exact k la H locs (hf.push trivial)
theorem so_ldc {X : am_X} (cx : am_cx X) {pc : Nat} {ls : am_L} {st : List AV} {V : am_V} {R : am_T} {T cc cs : Nat} {i w : Nat} {z : Int} (hw : lw_tbl[w]? = some (.constant (am_X.own X) i (Int32.ofInt z))) (hd : decode (am_X.bytes X) pc = .ok (.ldc i, 2)) (k : am_W X (pc + 2) ls (.inl z :: st) V R T cc cs) : am_W X pc ls st V R T cc cs := by
  obtain ⟨p, e, Rm, s, m, args, below, meth, c, QQ, G, own, bytes, nL, Bc, Bs, V0, T0⟩ := X
  obtain ⟨hx, hb, hml, hown, hts, hK, hRc, hRs⟩ := cx
  intro la H locs hf
  refine lv_ldc hx hb hown (hts _ (List.mem_of_getElem? hw) rfl) hd ?_
  exact k la H locs (hf.push trivial)
theorem so_ldc_w {X : am_X} (cx : am_cx X) {pc : Nat} {ls : am_L} {st : List AV} {V : am_V} {R : am_T} {T cc cs : Nat} {i w : Nat} {z : Int} (hw : lw_tbl[w]? = some (.constant (am_X.own X) i (Int32.ofInt z))) (hd : decode (am_X.bytes X) pc = .ok (.ldc_w i, 3)) (k : am_W X (pc + 3) ls (.inl z :: st) V R T cc cs) : am_W X pc ls st V R T cc cs := by
  obtain ⟨p, e, Rm, s, m, args, below, meth, c, QQ, G, own, bytes, nL, Bc, Bs, V0, T0⟩ := X
  obtain ⟨hx, hb, hml, hown, hts, hK, hRc, hRs⟩ := cx
  intro la H locs hf
  refine lv_ldcw hx hb hown (hts _ (List.mem_of_getElem? hw) rfl) hd ?_
  exact k la H locs (hf.push trivial)
theorem so_ldc2_w {X : am_X} (cx : am_cx X) {pc : Nat} {ls : am_L} {st : List AV} {V : am_V} {R : am_T} {T cc cs : Nat} {i w : Nat} {z : Int} (hw : lw_tbl[w]? = some (.constantLong (am_X.own X) i (Int64.ofInt z))) (hd : decode (am_X.bytes X) pc = .ok (.ldc2_w i, 3)) (k : am_W X (pc + 3) ls (.inr (.inl z) :: st) V R T cc cs) : am_W X pc ls st V R T cc cs := by
  obtain ⟨p, e, Rm, s, m, args, below, meth, c, QQ, G, own, bytes, nL, Bc, Bs, V0, T0⟩ := X
  obtain ⟨hx, hb, hml, hown, hts, hK, hRc, hRs⟩ := cx
  intro la H locs hf
  refine lv_ldc2 hx hb hown (hts _ (List.mem_of_getElem? hw) rfl) hd ?_
  exact k la H locs (hf.push trivial)
theorem so_aconst_null {X : am_X} (cx : am_cx X) {pc : Nat} {ls : am_L} {st : List AV} {V : am_V} {R : am_T} {T cc cs : Nat}  (hd : decode (am_X.bytes X) pc = .ok (.aconst_null, 1)) (k : am_W X (pc + 1) ls (.inr (.inr none) :: st) V R T cc cs) : am_W X pc ls st V R T cc cs := by
  obtain ⟨p, e, Rm, s, m, args, below, meth, c, QQ, G, own, bytes, nL, Bc, Bs, V0, T0⟩ := X
  obtain ⟨hx, hb, hml, hown, hts, hK, hRc, hRs⟩ := cx
  intro la H locs hf
  refine lv_null hx hb hd ?_
  exact k la H locs (hf.push trivial)
theorem so_iadd {X : am_X} (cx : am_cx X) {pc : Nat} {ls : am_L} {st : List AV} {V : am_V} {R : am_T} {T cc cs : Nat} {a b : Int} (hd : decode (am_X.bytes X) pc = .ok (.iadd, 1)) (k : am_W X (pc + 1) ls (.inl (a + b) :: st) V R T cc cs) : am_W X pc ls (.inl b :: .inl a :: st) V R T cc cs := by
  obtain ⟨p, e, Rm, s, m, args, below, meth, c, QQ, G, own, bytes, nL, Bc, Bs, V0, T0⟩ := X
  obtain ⟨hx, hb, hml, hown, hts, hK, hRc, hRs⟩ := cx
  intro la H locs hf
  refine lv_iadd hx hb hd ?_
  rw [← Int32.ofInt_add]
  exact k la H locs (hf.pop.pop.push trivial)
theorem so_ladd {X : am_X} (cx : am_cx X) {pc : Nat} {ls : am_L} {st : List AV} {V : am_V} {R : am_T} {T cc cs : Nat} {a b : Int} (hd : decode (am_X.bytes X) pc = .ok (.ladd, 1)) (k : am_W X (pc + 1) ls (.inr (.inl (a + b)) :: st) V R T cc cs) : am_W X pc ls (.inr (.inl b) :: .inr (.inl a) :: st) V R T cc cs := by
  obtain ⟨p, e, Rm, s, m, args, below, meth, c, QQ, G, own, bytes, nL, Bc, Bs, V0, T0⟩ := X
  obtain ⟨hx, hb, hml, hown, hts, hK, hRc, hRs⟩ := cx
  intro la H locs hf
  refine lv_ladd hx hb hd ?_
  rw [← Int64.ofInt_add]
  exact k la H locs (hf.pop.pop.push trivial)
theorem so_isub {X : am_X} (cx : am_cx X) {pc : Nat} {ls : am_L} {st : List AV} {V : am_V} {R : am_T} {T cc cs : Nat} {a b : Int} (hd : decode (am_X.bytes X) pc = .ok (.isub, 1)) (k : am_W X (pc + 1) ls (.inl (a - b) :: st) V R T cc cs) : am_W X pc ls (.inl b :: .inl a :: st) V R T cc cs := by
  obtain ⟨p, e, Rm, s, m, args, below, meth, c, QQ, G, own, bytes, nL, Bc, Bs, V0, T0⟩ := X
  obtain ⟨hx, hb, hml, hown, hts, hK, hRc, hRs⟩ := cx
  intro la H locs hf
  refine lv_isub hx hb hd ?_
  rw [← Int32.ofInt_sub]
  exact k la H locs (hf.pop.pop.push trivial)
theorem so_lsub {X : am_X} (cx : am_cx X) {pc : Nat} {ls : am_L} {st : List AV} {V : am_V} {R : am_T} {T cc cs : Nat} {a b : Int} (hd : decode (am_X.bytes X) pc = .ok (.lsub, 1)) (k : am_W X (pc + 1) ls (.inr (.inl (a - b)) :: st) V R T cc cs) : am_W X pc ls (.inr (.inl b) :: .inr (.inl a) :: st) V R T cc cs := by
  obtain ⟨p, e, Rm, s, m, args, below, meth, c, QQ, G, own, bytes, nL, Bc, Bs, V0, T0⟩ := X
  obtain ⟨hx, hb, hml, hown, hts, hK, hRc, hRs⟩ := cx
  intro la H locs hf
  refine lv_lsub hx hb hd ?_
  rw [← Int64.ofInt_sub]
  exact k la H locs (hf.pop.pop.push trivial)
theorem so_imul {X : am_X} (cx : am_cx X) {pc : Nat} {ls : am_L} {st : List AV} {V : am_V} {R : am_T} {T cc cs : Nat} {a b : Int} (hd : decode (am_X.bytes X) pc = .ok (.imul, 1)) (k : am_W X (pc + 1) ls (.inl (a * b) :: st) V R T cc cs) : am_W X pc ls (.inl b :: .inl a :: st) V R T cc cs := by
  obtain ⟨p, e, Rm, s, m, args, below, meth, c, QQ, G, own, bytes, nL, Bc, Bs, V0, T0⟩ := X
  obtain ⟨hx, hb, hml, hown, hts, hK, hRc, hRs⟩ := cx
  intro la H locs hf
  refine lv_imul hx hb hd ?_
  rw [← Int32.ofInt_mul]
  exact k la H locs (hf.pop.pop.push trivial)
theorem so_lmul {X : am_X} (cx : am_cx X) {pc : Nat} {ls : am_L} {st : List AV} {V : am_V} {R : am_T} {T cc cs : Nat} {a b : Int} (hd : decode (am_X.bytes X) pc = .ok (.lmul, 1)) (k : am_W X (pc + 1) ls (.inr (.inl (a * b)) :: st) V R T cc cs) : am_W X pc ls (.inr (.inl b) :: .inr (.inl a) :: st) V R T cc cs := by
  obtain ⟨p, e, Rm, s, m, args, below, meth, c, QQ, G, own, bytes, nL, Bc, Bs, V0, T0⟩ := X
  obtain ⟨hx, hb, hml, hown, hts, hK, hRc, hRs⟩ := cx
  intro la H locs hf
  refine lv_lmul hx hb hd ?_
  rw [← Int64.ofInt_mul]
  exact k la H locs (hf.pop.pop.push trivial)
theorem so_ineg {X : am_X} (cx : am_cx X) {pc : Nat} {ls : am_L} {st : List AV} {V : am_V} {R : am_T} {T cc cs : Nat} {b : Int} (hd : decode (am_X.bytes X) pc = .ok (.ineg, 1)) (k : am_W X (pc + 1) ls (.inl (-b) :: st) V R T cc cs) : am_W X pc ls (.inl b :: st) V R T cc cs := by
  obtain ⟨p, e, Rm, s, m, args, below, meth, c, QQ, G, own, bytes, nL, Bc, Bs, V0, T0⟩ := X
  obtain ⟨hx, hb, hml, hown, hts, hK, hRc, hRs⟩ := cx
  intro la H locs hf
  refine lv_ineg hx hb hd ?_
  rw [← Int32.ofInt_neg]
  exact k la H locs (hf.pop.push trivial)
theorem so_idiv {X : am_X} (cx : am_cx X) {pc : Nat} {ls : am_L} {st : List AV} {V : am_V} {R : am_T} {T cc cs : Nat} {a b : Int} (ha : 0 ≤ a ∧ a ≤ 2147483647) (hb0 : 0 < b ∧ b ≤ 2147483647) (hd : decode (am_X.bytes X) pc = .ok (.idiv, 1)) (k : am_W X (pc + 1) ls (.inl (a / b) :: st) V R T cc cs) : am_W X pc ls (.inl b :: .inl a :: st) V R T cc cs := by
  obtain ⟨p, e, Rm, s, m, args, below, meth, c, QQ, G, own, bytes, nL, Bc, Bs, V0, T0⟩ := X
  obtain ⟨hx, hb, hml, hown, hts, hK, hRc, hRs⟩ := cx
  intro la H locs hf
  refine lv_idiv hx hb hd (i32_ne0 hb0.1 hb0.2) ?_
  rw [i32_div ha.1 ha.2 hb0.1 hb0.2]
  exact k la H locs (hf.pop.pop.push trivial)
theorem so_irem {X : am_X} (cx : am_cx X) {pc : Nat} {ls : am_L} {st : List AV} {V : am_V} {R : am_T} {T cc cs : Nat} {a b : Int} (ha : 0 ≤ a ∧ a ≤ 2147483647) (hb0 : 0 < b ∧ b ≤ 2147483647) (hd : decode (am_X.bytes X) pc = .ok (.irem, 1)) (k : am_W X (pc + 1) ls (.inl (a % b) :: st) V R T cc cs) : am_W X pc ls (.inl b :: .inl a :: st) V R T cc cs := by
  obtain ⟨p, e, Rm, s, m, args, below, meth, c, QQ, G, own, bytes, nL, Bc, Bs, V0, T0⟩ := X
  obtain ⟨hx, hb, hml, hown, hts, hK, hRc, hRs⟩ := cx
  intro la H locs hf
  refine lv_irem hx hb hd (i32_ne0 hb0.1 hb0.2) ?_
  rw [i32_rem ha.1 ha.2 hb0.1 hb0.2]
  exact k la H locs (hf.pop.pop.push trivial)
theorem so_iand {X : am_X} (cx : am_cx X) {pc : Nat} {ls : am_L} {st : List AV} {V : am_V} {R : am_T} {T cc cs : Nat} {a : Int} (hd : decode (am_X.bytes X) pc = .ok (.iand, 1)) (k : am_W X (pc + 1) ls (.inl (a % 32) :: st) V R T cc cs) : am_W X pc ls (.inl 31 :: .inl a :: st) V R T cc cs := by
  obtain ⟨p, e, Rm, s, m, args, below, meth, c, QQ, G, own, bytes, nL, Bc, Bs, V0, T0⟩ := X
  obtain ⟨hx, hb, hml, hown, hts, hK, hRc, hRs⟩ := cx
  intro la H locs hf
  refine lv_iand hx hb hd ?_
  rw [i32_and31]
  exact k la H locs (hf.pop.pop.push trivial)
theorem so_i2l {X : am_X} (cx : am_cx X) {pc : Nat} {ls : am_L} {st : List AV} {V : am_V} {R : am_T} {T cc cs : Nat} {a : Int} (ha : am_in32 a) (hd : decode (am_X.bytes X) pc = .ok (.i2l, 1)) (k : am_W X (pc + 1) ls (.inr (.inl a) :: st) V R T cc cs) : am_W X pc ls (.inl a :: st) V R T cc cs := by
  obtain ⟨p, e, Rm, s, m, args, below, meth, c, QQ, G, own, bytes, nL, Bc, Bs, V0, T0⟩ := X
  obtain ⟨hx, hb, hml, hown, hts, hK, hRc, hRs⟩ := cx
  intro la H locs hf
  refine lv_i2l hx hb hd (i32_i2l ha) ?_
  exact k la H locs (hf.pop.push trivial)
theorem so_i2b {X : am_X} (cx : am_cx X) {pc : Nat} {ls : am_L} {st : List AV} {V : am_V} {R : am_T} {T cc cs : Nat} {a : Int} (hd : decode (am_X.bytes X) pc = .ok (.i2b, 1)) (k : am_W X (pc + 1) ls (.inl (Int.bmod a 256) :: st) V R T cc cs) : am_W X pc ls (.inl a :: st) V R T cc cs := by
  obtain ⟨p, e, Rm, s, m, args, below, meth, c, QQ, G, own, bytes, nL, Bc, Bs, V0, T0⟩ := X
  obtain ⟨hx, hb, hml, hown, hts, hK, hRc, hRs⟩ := cx
  intro la H locs hf
  refine lv_i2b hx hb hd (i32_i2b a) ?_
  exact k la H locs (hf.pop.push trivial)
theorem so_l2i {X : am_X} (cx : am_cx X) {pc : Nat} {ls : am_L} {st : List AV} {V : am_V} {R : am_T} {T cc cs : Nat} {a : Int} (hd : decode (am_X.bytes X) pc = .ok (.l2i, 1)) (k : am_W X (pc + 1) ls (.inl (Int.bmod a 4294967296) :: st) V R T cc cs) : am_W X pc ls (.inr (.inl a) :: st) V R T cc cs := by
  obtain ⟨p, e, Rm, s, m, args, below, meth, c, QQ, G, own, bytes, nL, Bc, Bs, V0, T0⟩ := X
  obtain ⟨hx, hb, hml, hown, hts, hK, hRc, hRs⟩ := cx
  intro la H locs hf
  refine lv_l2i hx hb hd (i64_l2i a) ?_
  exact k la H locs (hf.pop.push trivial)
theorem so_ldiv {X : am_X} (cx : am_cx X) {pc : Nat} {ls : am_L} {st : List AV} {V : am_V} {R : am_T} {T cc cs : Nat} {a b : Int} (ha : 0 ≤ a ∧ a ≤ 9223372036854775807) (hb0 : 0 < b ∧ b ≤ 9223372036854775807) (hd : decode (am_X.bytes X) pc = .ok (.ldiv, 1)) (k : am_W X (pc + 1) ls (.inr (.inl (a / b)) :: st) V R T cc cs) : am_W X pc ls (.inr (.inl b) :: .inr (.inl a) :: st) V R T cc cs := by
  obtain ⟨p, e, Rm, s, m, args, below, meth, c, QQ, G, own, bytes, nL, Bc, Bs, V0, T0⟩ := X
  obtain ⟨hx, hb, hml, hown, hts, hK, hRc, hRs⟩ := cx
  intro la H locs hf
  refine lv_ldiv hx hb hd (i64_ne0 hb0.1 hb0.2) ?_
  rw [i64_div ha.1 ha.2 hb0.1 hb0.2]
  exact k la H locs (hf.pop.pop.push trivial)
theorem so_lrem {X : am_X} (cx : am_cx X) {pc : Nat} {ls : am_L} {st : List AV} {V : am_V} {R : am_T} {T cc cs : Nat} {a b : Int} (ha : am_in64 a) (hb0 : 0 < b ∧ b ≤ 9223372036854775807) (hd : decode (am_X.bytes X) pc = .ok (.lrem, 1)) (k : am_W X (pc + 1) ls (.inr (.inl (Int.tmod a b)) :: st) V R T cc cs) : am_W X pc ls (.inr (.inl b) :: .inr (.inl a) :: st) V R T cc cs := by
  obtain ⟨p, e, Rm, s, m, args, below, meth, c, QQ, G, own, bytes, nL, Bc, Bs, V0, T0⟩ := X
  obtain ⟨hx, hb, hml, hown, hts, hK, hRc, hRs⟩ := cx
  intro la H locs hf
  refine lv_lrem hx hb hd (i64_ne0 hb0.1 hb0.2) ?_
  rw [i64_rem ha hb0.1 hb0.2]
  exact k la H locs (hf.pop.pop.push trivial)
theorem so_land {X : am_X} (cx : am_cx X) {pc : Nat} {ls : am_L} {st : List AV} {V : am_V} {R : am_T} {T cc cs : Nat} {a : Int} (hd : decode (am_X.bytes X) pc = .ok (.land, 1)) (k : am_W X (pc + 1) ls (.inr (.inl (a % 4294967296)) :: st) V R T cc cs) : am_W X pc ls (.inr (.inl 4294967295) :: .inr (.inl a) :: st) V R T cc cs := by
  obtain ⟨p, e, Rm, s, m, args, below, meth, c, QQ, G, own, bytes, nL, Bc, Bs, V0, T0⟩ := X
  obtain ⟨hx, hb, hml, hown, hts, hK, hRc, hRs⟩ := cx
  intro la H locs hf
  refine lv_land hx hb hd ?_
  rw [i64_and32]
  exact k la H locs (hf.pop.pop.push trivial)
theorem so_lor {X : am_X} (cx : am_cx X) {pc : Nat} {ls : am_L} {st : List AV} {V : am_V} {R : am_T} {T cc cs : Nat} {a b : Int} (ha : a % 4294967296 = 0) (hb0 : 0 ≤ b ∧ b < 4294967296) (hd : decode (am_X.bytes X) pc = .ok (.lor, 1)) (k : am_W X (pc + 1) ls (.inr (.inl (a + b)) :: st) V R T cc cs) : am_W X pc ls (.inr (.inl b) :: .inr (.inl a) :: st) V R T cc cs := by
  obtain ⟨p, e, Rm, s, m, args, below, meth, c, QQ, G, own, bytes, nL, Bc, Bs, V0, T0⟩ := X
  obtain ⟨hx, hb, hml, hown, hts, hK, hRc, hRs⟩ := cx
  intro la H locs hf
  refine lv_lor hx hb hd ?_
  rw [i64_or32 ha hb0.1 hb0.2]
  exact k la H locs (hf.pop.pop.push trivial)
theorem so_lxor {X : am_X} (cx : am_cx X) {pc : Nat} {ls : am_L} {st : List AV} {V : am_V} {R : am_T} {T cc cs : Nat} {a b : Int} (ha : am_in64 a) (hb0 : am_in64 b) (hd : decode (am_X.bytes X) pc = .ok (.lxor, 1)) (k : ∀ x : Int, am_in64 x → (x < 0 ↔ ((a < 0 ∧ 0 ≤ b) ∨ (0 ≤ a ∧ b < 0))) → am_W X (pc + 1) ls (.inr (.inl x) :: st) V R T cc cs) : am_W X pc ls (.inr (.inl b) :: .inr (.inl a) :: st) V R T cc cs := by
  obtain ⟨p, e, Rm, s, m, args, below, meth, c, QQ, G, own, bytes, nL, Bc, Bs, V0, T0⟩ := X
  obtain ⟨hx, hb, hml, hown, hts, hK, hRc, hRs⟩ := cx
  intro la H locs hf
  refine lv_lxor hx hb hd ?_
  obtain ⟨x, h1, h2, h3⟩ := i64_xor_sign ha hb0
  rw [h3]
  exact k x h1 h2 la H locs (hf.pop.pop.push trivial)
theorem so_lshl {X : am_X} (cx : am_cx X) {pc : Nat} {ls : am_L} {st : List AV} {V : am_V} {R : am_T} {T cc cs : Nat} {a : Int} (hd : decode (am_X.bytes X) pc = .ok (.lshl, 1)) (k : am_W X (pc + 1) ls (.inr (.inl (a * 4294967296)) :: st) V R T cc cs) : am_W X pc ls (.inl 32 :: .inr (.inl a) :: st) V R T cc cs := by
  obtain ⟨p, e, Rm, s, m, args, below, meth, c, QQ, G, own, bytes, nL, Bc, Bs, V0, T0⟩ := X
  obtain ⟨hx, hb, hml, hown, hts, hK, hRc, hRs⟩ := cx
  intro la H locs hf
  refine lv_lshl hx hb hd (i64_shl32 a) ?_
  exact k la H locs (hf.pop.pop.push trivial)
theorem so_dup {X : am_X} (cx : am_cx X) {pc : Nat} {ls : am_L} {st : List AV} {V : am_V} {R : am_T} {T cc cs : Nat} {v : AV} (hv : ∀ z, v ≠ .inr (.inl z)) (hd : decode (am_X.bytes X) pc = .ok (.dup, 1)) (k : am_W X (pc + 1) ls (v :: v :: st) V R T cc cs) : am_W X pc ls (v :: st) V R T cc cs := by
  obtain ⟨p, e, Rm, s, m, args, below, meth, c, QQ, G, own, bytes, nL, Bc, Bs, V0, T0⟩ := X
  obtain ⟨hx, hb, hml, hown, hts, hK, hRc, hRs⟩ := cx
  intro la H locs hf
  refine lv_dup hx hb hd (am_cat1 hv) ?_
  exact k la H locs (hf.push (hf.ok v List.mem_cons_self))
theorem so_pop {X : am_X} (cx : am_cx X) {pc : Nat} {ls : am_L} {st : List AV} {V : am_V} {R : am_T} {T cc cs : Nat} {v : AV} (hv : ∀ z, v ≠ .inr (.inl z)) (hd : decode (am_X.bytes X) pc = .ok (.pop, 1)) (k : am_W X (pc + 1) ls st V R T cc cs) : am_W X pc ls (v :: st) V R T cc cs := by
  obtain ⟨p, e, Rm, s, m, args, below, meth, c, QQ, G, own, bytes, nL, Bc, Bs, V0, T0⟩ := X
  obtain ⟨hx, hb, hml, hown, hts, hK, hRc, hRs⟩ := cx
  intro la H locs hf
  refine lv_pop hx hb hd (am_cat1 hv) ?_
  exact k la H locs hf.pop
theorem so_dup2 {X : am_X} (cx : am_cx X) {pc : Nat} {ls : am_L} {st : List AV} {V : am_V} {R : am_T} {T cc cs : Nat} {b : Int} {a : am_Ref} (hd : decode (am_X.bytes X) pc = .ok (.dup2, 1)) (k : am_W X (pc + 1) ls (.inl b :: .inr (.inr a) :: .inl b :: .inr (.inr a) :: st) V R T cc cs) : am_W X pc ls (.inl b :: .inr (.inr a) :: st) V R T cc cs := by
  obtain ⟨p, e, Rm, s, m, args, below, meth, c, QQ, G, own, bytes, nL, Bc, Bs, V0, T0⟩ := X
  obtain ⟨hx, hb, hml, hown, hts, hK, hRc, hRs⟩ := cx
  intro la H locs hf
  refine lv_dup2_11 hx hb hd rfl (am_cat1 (v := .inr (.inr a)) (fun z h => by cases h)) ?_
  exact k la H locs ((hf.push (hf.pop.ok _ List.mem_cons_self)).push trivial)
theorem so_goto {X : am_X} (cx : am_cx X) {pc : Nat} {ls : am_L} {st : List AV} {V : am_V} {R : am_T} {T cc cs : Nat} {x : Int} {t : Nat} (ht : (pc : Int) + x = (t : Int)) (hd : decode (am_X.bytes X) pc = .ok (.goto x, 3)) (k : am_W X t ls st V R T cc cs) : am_W X pc ls st V R T cc cs := by
  obtain ⟨p, e, Rm, s, m, args, below, meth, c, QQ, G, own, bytes, nL, Bc, Bs, V0, T0⟩ := X
  obtain ⟨hx, hb, hml, hown, hts, hK, hRc, hRs⟩ := cx
  intro la H locs hf
  refine lv_goto hx hb hd ht ?_
  exact k la H locs hf
theorem so_if_icmp {X : am_X} (cx : am_cx X) {pc : Nat} {ls : am_L} {st : List AV} {V : am_V} {R : am_T} {T cc cs : Nat} {q : ClassFile.Cond} {a b x : Int} {t : Nat} (ha : am_in32 a) (hb0 : am_in32 b) (ht : (pc : Int) + x = (t : Int)) (hd : decode (am_X.bytes X) pc = .ok (.if_icmp q x, 3)) (k : am_br q a b (am_W X t ls st V R T cc cs) (am_W X (pc + 3) ls st V R T cc cs)) : am_W X pc ls (.inl b :: .inl a :: st) V R T cc cs := by
  obtain ⟨p, e, Rm, s, m, args, below, meth, c, QQ, G, own, bytes, nL, Bc, Bs, V0, T0⟩ := X
  obtain ⟨hx, hb, hml, hown, hts, hK, hRc, hRs⟩ := cx
  intro la H locs hf
  have hb1 : am_in32 b := hb0
  have eL := i32_lt ha hb1
  have eE := i32_eq ha hb1
  have eM := i32_lt hb1 ha
  have eN := i32_le ha hb1
  have eO := i32_le hb1 ha
  have hp : am_fr G s V0 T0 nL Bc Bs ls st V R T cc cs la H locs := hf.pop.pop
  cases q with
  | eq =>
    refine lv_icmp_eq hx hb hd ht (fun h => ?_) (fun h => ?_)
    · exact k.1 (eE.mp h) la H locs hp
    · exact k.2 (fun w => h (eE.mpr w)) la H locs hp
  | ne =>
    refine lv_icmp_ne hx hb hd ht (fun h => ?_) (fun h => ?_)
    · exact k.1 (fun w => by first | exact h (eE.mpr w) | exact absurd (eE.mpr w) h) la H locs hp
    · exact k.2 (eE.mp (by first | exact h | exact Decidable.of_not_not h)) la H locs hp
  | lt =>
    refine lv_icmp_lt hx hb hd ht (fun h => ?_) (fun h => ?_)
    · exact k.1 (eL.mp h) la H locs hp
    · exact k.2 (Int.not_lt.mp (fun w => h (eL.mpr w))) la H locs hp
  | ge =>
    refine lv_icmp_ge hx hb hd ht (fun h => ?_) (fun h => ?_)
    · exact k.1 (eO.mp h) la H locs hp
    · exact k.2 (Int.not_le.mp (fun w => h (eO.mpr w))) la H locs hp
  | gt =>
    refine lv_icmp_gt hx hb hd ht (fun h => ?_) (fun h => ?_)
    · exact k.1 (eM.mp h) la H locs hp
    · exact k.2 (Int.not_lt.mp (fun w => h (eM.mpr w))) la H locs hp
  | le =>
    refine lv_icmp_le hx hb hd ht (fun h => ?_) (fun h => ?_)
    · exact k.1 (eN.mp h) la H locs hp
    · exact k.2 (Int.not_le.mp (fun w => h (eN.mpr w))) la H locs hp
theorem so_ifCond {X : am_X} (cx : am_cx X) {pc : Nat} {ls : am_L} {st : List AV} {V : am_V} {R : am_T} {T cc cs : Nat} {q : ClassFile.Cond} {a x : Int} {t : Nat} (ha : am_in32 a) (ht : (pc : Int) + x = (t : Int)) (hd : decode (am_X.bytes X) pc = .ok (.ifCond q x, 3)) (k : am_br q a 0 (am_W X t ls st V R T cc cs) (am_W X (pc + 3) ls st V R T cc cs)) : am_W X pc ls (.inl a :: st) V R T cc cs := by
  obtain ⟨p, e, Rm, s, m, args, below, meth, c, QQ, G, own, bytes, nL, Bc, Bs, V0, T0⟩ := X
  obtain ⟨hx, hb, hml, hown, hts, hK, hRc, hRs⟩ := cx
  intro la H locs hf
  have hb1 : am_in32 0 := ⟨by decide, by decide⟩
  have eL := i32_lt ha hb1
  have eE := i32_eq ha hb1
  have eM := i32_lt hb1 ha
  have eN := i32_le ha hb1
  have eO := i32_le hb1 ha
  have hp : am_fr G s V0 T0 nL Bc Bs ls st V R T cc cs la H locs := hf.pop
  cases q with
  | eq =>
    refine lv_if_eq hx hb hd ht (fun h => ?_) (fun h => ?_)
    · exact k.1 (eE.mp h) la H locs hp
    · exact k.2 (fun w => h (eE.mpr w)) la H locs hp
  | ne =>
    refine lv_if_ne hx hb hd ht (fun h => ?_) (fun h => ?_)
    · exact k.1 (fun w => by first | exact h (eE.mpr w) | exact absurd (eE.mpr w) h) la H locs hp
    · exact k.2 (eE.mp (by first | exact h | exact Decidable.of_not_not h)) la H locs hp
  | lt =>
    refine lv_if_lt hx hb hd ht (fun h => ?_) (fun h => ?_)
    · exact k.1 (eL.mp h) la H locs hp
    · exact k.2 (Int.not_lt.mp (fun w => h (eL.mpr w))) la H locs hp
  | ge =>
    refine lv_if_ge hx hb hd ht (fun h => ?_) (fun h => ?_)
    · exact k.1 (eO.mp h) la H locs hp
    · exact k.2 (Int.not_le.mp (fun w => h (eO.mpr w))) la H locs hp
  | gt =>
    refine lv_if_gt hx hb hd ht (fun h => ?_) (fun h => ?_)
    · exact k.1 (eM.mp h) la H locs hp
    · exact k.2 (Int.not_lt.mp (fun w => h (eM.mpr w))) la H locs hp
  | le =>
    refine lv_if_le hx hb hd ht (fun h => ?_) (fun h => ?_)
    · exact k.1 (eN.mp h) la H locs hp
    · exact k.2 (Int.not_le.mp (fun w => h (eN.mpr w))) la H locs hp
theorem so_ifnull {X : am_X} (cx : am_cx X) {pc : Nat} {ls : am_L} {st : List AV} {V : am_V} {R : am_T} {T cc cs : Nat} {z : am_Ref} {x : Int} {t : Nat} (ht : (pc : Int) + x = (t : Int)) (hd : decode (am_X.bytes X) pc = .ok (.ifnull x, 3)) (k : (z = none → am_W X t ls st V R T cc cs) ∧ (∀ y, z = some y → am_W X (pc + 3) ls st V R T cc cs)) : am_W X pc ls (.inr (.inr z) :: st) V R T cc cs := by
  obtain ⟨p, e, Rm, s, m, args, below, meth, c, QQ, G, own, bytes, nL, Bc, Bs, V0, T0⟩ := X
  obtain ⟨hx, hb, hml, hown, hts, hK, hRc, hRs⟩ := cx
  intro la H locs hf
  match z, k, hf with
  | none, k, hf =>
    refine lv_ifnullN hx hb hd ht ?_
    exact k.1 rfl la H locs hf.pop
  | some (.inl a), k, hf =>
    refine lv_ifnull hx hb hd ?_
    exact k.2 _ rfl la H locs hf.pop
  | some (.inr (a, i)), k, hf =>
    refine lv_ifnull hx hb hd ?_
    exact k.2 _ rfl la H locs hf.pop
theorem so_ifnonnull {X : am_X} (cx : am_cx X) {pc : Nat} {ls : am_L} {st : List AV} {V : am_V} {R : am_T} {T cc cs : Nat} {z : am_Ref} {x : Int} {t : Nat} (ht : (pc : Int) + x = (t : Int)) (hd : decode (am_X.bytes X) pc = .ok (.ifnonnull x, 3)) (k : (∀ y, z = some y → am_W X t ls st V R T cc cs) ∧ (z = none → am_W X (pc + 3) ls st V R T cc cs)) : am_W X pc ls (.inr (.inr z) :: st) V R T cc cs := by
  obtain ⟨p, e, Rm, s, m, args, below, meth, c, QQ, G, own, bytes, nL, Bc, Bs, V0, T0⟩ := X
  obtain ⟨hx, hb, hml, hown, hts, hK, hRc, hRs⟩ := cx
  intro la H locs hf
  match z, k, hf with
  | none, k, hf =>
    refine lv_ifnonnullN hx hb hd ?_
    exact k.2 rfl la H locs hf.pop
  | some (.inl a), k, hf =>
    refine lv_ifnonnull hx hb hd ht ?_
    exact k.1 _ rfl la H locs hf.pop
  | some (.inr (a, i)), k, hf =>
    refine lv_ifnonnull hx hb hd ht ?_
    exact k.1 _ rfl la H locs hf.pop
end
section
theorem am_if_of {b : Bool} {P : Prop} (h : am_if b P) : b = true ∧ P := by
  cases b with
  | true => exact ⟨rfl, h⟩
  | false => exact False.elim h
theorem am_len31 (a : Nat) : (am_lay a).2.1 < 2 ^ 31 := Nat.lt_trans (am_lay_len a).1 (by decide)
theorem so_lcmp {X : am_X} (cx : am_cx X) {pc : Nat} {ls : am_L} {st : List AV} {V : am_V} {R : am_T} {T cc cs : Nat} {q : ClassFile.Cond} {a b x : Int} {t : Nat} (ha : am_in64 a) (hb0 : am_in64 b) (ht : ((pc + 1 : Nat) : Int) + x = (t : Int)) (hd : decode (am_X.bytes X) pc = .ok (.lcmp, 1)) (hd2 : decode (am_X.bytes X) (pc + 1) = .ok (.ifCond q x, 3)) (k : am_br q a b (am_W X t ls st V R T cc cs) (am_W X (pc + 1 + 3) ls st V R T cc cs)) : am_W X pc ls (.inr (.inl b) :: .inr (.inl a) :: st) V R T cc cs := by
  obtain ⟨p, e, Rm, s, m, args, below, meth, c, QQ, G, own, bytes, nL, Bc, Bs, V0, T0⟩ := X
  obtain ⟨hx, hb, hml, hown, hts, hK, hRc, hRs⟩ := cx
  intro la H locs hf
  have eL := i64_lt ha hb0
  have eE := i64_eq ha hb0
  have eM := i64_lt hb0 ha
  have eN := i64_le ha hb0
  have eO := i64_le hb0 ha
  have hp : am_fr G s V0 T0 nL Bc Bs ls st V R T cc cs la H locs := hf.pop.pop
  refine W.lcmp hx hb hd ?_
  cases q with
  | eq =>
    refine lv_if_eq hx hb hd2 ht (fun h => ?_) (fun h => ?_)
    · exact k.1 (eE.mp ((lg_cmp_eq _ _).mp h)) la H locs hp
    · exact k.2 (fun w => h ((lg_cmp_eq _ _).mpr (eE.mpr w))) la H locs hp
  | ne =>
    refine lv_if_ne hx hb hd2 ht (fun h => ?_) (fun h => ?_)
    · exact k.1 (fun w => absurd ((lg_cmp_eq _ _).mpr (eE.mpr w)) h) la H locs hp
    · exact k.2 (eE.mp ((lg_cmp_eq _ _).mp (by first | exact h | exact Decidable.of_not_not h))) la H locs hp
  | lt =>
    refine lv_if_lt hx hb hd2 ht (fun h => ?_) (fun h => ?_)
    · exact k.1 (eL.mp ((lg_cmp_lt _ _).mp h)) la H locs hp
    · exact k.2 (Int.not_lt.mp (fun w => h ((lg_cmp_lt _ _).mpr (eL.mpr w)))) la H locs hp
  | ge =>
    refine lv_if_ge hx hb hd2 ht (fun h => ?_) (fun h => ?_)
    · exact k.1 (eO.mp ((lg_cmp_ge _ _).mp h)) la H locs hp
    · exact k.2 (Int.not_le.mp (fun w => h ((lg_cmp_ge _ _).mpr (eO.mpr w)))) la H locs hp
  | gt =>
    refine lv_if_gt hx hb hd2 ht (fun h => ?_) (fun h => ?_)
    · exact k.1 (eM.mp ((lg_cmp_gt _ _).mp h)) la H locs hp
    · exact k.2 (Int.not_lt.mp (fun w => h ((lg_cmp_gt _ _).mpr (eM.mpr w)))) la H locs hp
  | le =>
    refine lv_if_le hx hb hd2 ht (fun h => ?_) (fun h => ?_)
    · exact k.1 (eN.mp ((lg_cmp_le _ _).mp h)) la H locs hp
    · exact k.2 (Int.not_le.mp (fun w => h ((lg_cmp_le _ _).mpr (eN.mpr w)))) la H locs hp
theorem am_sw_at {k : Nat → Prop} : ∀ (l : List Nat) (z lo : Int) (d : Nat), am_sw l z lo k d → (∀ (i t : Nat), l[i]? = some t → z = lo + (i : Int) → k t) ∧ ((z < lo ∨ lo + l.length ≤ z) → k d)
  | [], z, lo, d, h => ⟨fun i t hi => by simp at hi, fun _ => h⟩
  | t :: l, z, lo, d, h => by
    obtain ⟨h1, h2⟩ := h
    refine ⟨fun i t' hi hz => ?_, fun hz => ?_⟩
    · cases i with
      | zero =>
        have : t = t' := by simpa using hi
        subst this
        exact h1 (by simpa using hz)
      | succ i =>
        have hne : ¬ z = lo := by omega
        exact (am_sw_at l z (lo + 1) d (h2 hne)).1 i t' (by simpa using hi) (by omega)
    · have hl : (t :: l).length = l.length + 1 := rfl
      have hne : ¬ z = lo := by omega
      exact (am_sw_at l z (lo + 1) d (h2 hne)).2 (by omega)
theorem so_tableswitch {X : am_X} (cx : am_cx X) {pc len : Nat} {ls : am_L} {st : List AV} {V : am_V} {R : am_T} {T cc cs : Nat} {a dflt lo hi : Int} {offs : Array Int} {ts : List Nat} {d : Nat} {k : Nat → Prop} (ha : am_in32 a) (hd : decode (am_X.bytes X) pc = .ok (.tableswitch dflt lo hi offs, len)) (hdd : (pc : Int) + dflt = (d : Int)) (hts' : offs.toList.map (fun o => (pc : Int) + o) = ts.map (fun t : Nat => (t : Int))) (hhi : hi = lo + ts.length - 1) (h : am_sw ts a lo k d) (hk : ∀ t, k t → am_W X t ls st V R T cc cs) : am_W X pc ls (.inl a :: st) V R T cc cs := by
  obtain ⟨p, e, Rm, s, m, args, below, meth, c, QQ, G, own, bytes, nL, Bc, Bs, V0, T0⟩ := X
  obtain ⟨hx, hb, hml, hown, hts, hK, hRc, hRs⟩ := cx
  intro la H locs hf
  obtain ⟨h1, h2⟩ := am_sw_at ts a lo d h
  have ei := i32_toInt ha
  by_cases hr : a < lo ∨ hi < a
  · refine lv_tableOut (x := Int32.ofInt a) hx hb hd (by rw [ei]; exact hr) hdd ?_
    exact hk d (h2 (by omega)) la H locs hf.pop
  · have hlt : (a - lo).toNat < ts.length := by omega
    have hlen : offs.toList.length = ts.length := by
      have := congrArg List.length hts'
      simpa using this
    have e1 : ts[(a - lo).toNat]? = some ts[(a - lo).toNat] := List.getElem?_eq_getElem hlt
    have hlt2 : (a - lo).toNat < offs.size := by rw [← Array.length_toList, hlen]; exact hlt
    have e2 : offs[(a - lo).toNat]? = some offs[(a - lo).toNat] := Array.getElem?_eq_getElem hlt2
    have e3 : (pc : Int) + offs[(a - lo).toNat] = (ts[(a - lo).toNat] : Int) := by
      have q := congrArg (fun l => l[(a - lo).toNat]?) hts'
      simp only [List.getElem?_map, Array.getElem?_toList, e1, e2, Option.map_some] at q
      exact Option.some.inj q
    refine lv_tableIn (x := Int32.ofInt a) (off := offs[(a - lo).toNat]) (tgt := ts[(a - lo).toNat]) hx hb hd (by rw [ei]; omega) (by rw [ei]; omega) (by rw [ei]; exact e2) e3 ?_
    exact hk _ (h1 _ _ e1 (by omega)) la H locs hf.pop
/-- the entry of a cell by its kind -/
theorem am_e0 {G : am_G} {V : am_V} {R : am_T} {a n w x : Nat} (h : am_lay a = (0, n, w, x)) : am_e G V R a = .inl (am_G.cy G 0, n, .inl (fun j => Int32.ofInt (V a j))) := by unfold am_e; rw [h]; rfl
theorem am_e1 {G : am_G} {V : am_V} {R : am_T} {a n w x : Nat} (h : am_lay a = (1, n, w, x)) : am_e G V R a = .inl (am_G.cy G 1, n, .inr (.inl (fun j => Int64.ofInt (V a j)))) := by unfold am_e; rw [h]; rfl
theorem am_e2 {G : am_G} {V : am_V} {R : am_T} {a n w x : Nat} (h : am_lay a = (2, n, w, x)) : am_e G V R a = .inl (am_G.cy G 2, n, .inl (fun j => Int32.ofInt (V a j))) := by unfold am_e; rw [h]; rfl
theorem am_e3 {G : am_G} {V : am_V} {R : am_T} {a n w x : Nat} (h : am_lay a = (3, n, w, x)) : am_e G V R a = .inl (am_G.cy G 3, n, .inr (.inr (.inr (.inr (fun j => if j < n then some (am_ad G a + 1 + j) else none))))) := by unfold am_e; rw [h]; rfl
theorem am_e4 {G : am_G} {V : am_V} {R : am_T} {a n w x : Nat} (h : am_lay a = (4, n, w, x)) : am_e G V R a = .inl (am_G.cy G 4, n, .inr (.inr (.inr (.inr (fun j => if j < n then some (am_ad G a + 1 + j) else none))))) := by unfold am_e; rw [h]; rfl
theorem am_e5 {G : am_G} {V : am_V} {R : am_T} {a n w x : Nat} (h : am_lay a = (5, n, w, x)) : am_e G V R a = .inl (am_G.cy G 5, n, .inr (.inr (.inr (.inr (fun j => (R a j).map (am_ad G)))))) := by unfold am_e; rw [h]; rfl
theorem am_e6 {G : am_G} {V : am_V} {R : am_T} {a n w x : Nat} (h : am_lay a = (6, n, w, x)) : am_e G V R a = .inl (am_G.cy G 1, n, .inr (.inl (fun j => if j < n then Int64.ofInt (V w (64 * (x : Int) + j)) else 0))) := by unfold am_e; rw [h]; rfl
theorem am_e7 {G : am_G} {V : am_V} {R : am_T} {a n w x : Nat} (h : am_lay a = (7, n, w, x)) : am_e G V R a = .inl (am_G.cy G 0, n, .inl (fun j => if j < n then Int32.ofInt (V w (64 * (x : Int) + j)) else 0)) := by unfold am_e; rw [h]; rfl
theorem am_eO {G : am_G} {V : am_V} {R : am_T} {a c n w x : Nat} (h : am_lay a = (10 + c, n, w, x)) : am_e G V R a = .inr (c, (List.range n).map (am_fv G V R c a)) := by
  unfold am_e
  rw [h]
  split <;> rename_i q <;> first | (cases q; done) | skip
  all_goals (try (simp only [Prod.mk.injEq] at q; omega))
  rename_i k n' _ _ _ _ _ _ _ _ _ _
  simp only [Prod.mk.injEq] at q
  obtain ⟨rfl, rfl, -, -⟩ := q
  rw [show 10 + c - 10 = c by omega]
/-- where a row of a table lies -/
theorem am_rowcell {G : am_G} {T a : Nat} {q : Int} (h : am_okv T (.inr (.inr (some (.inr (a, q)))))) : am_ad G a + 1 + q.toNat = am_ad G (a + 1 + q.toNat) ∧ 3 ≤ a + 1 + q.toNat ∧ a + 1 + q.toNat < T ∧ q.toNat < (am_lay a).2.1 := by
  obtain ⟨h1, h2, h3, h4, h5⟩ := h
  rw [am_ad_ge h1, am_ad_ge (by omega)]
  omega
theorem am_row3 {T a n w x : Nat} {q : Int} (h : am_okv T (.inr (.inr (some (.inr (a, q)))))) (hl : am_lay a = (3, n, w, x)) : am_lay (a + 1 + q.toNat) = (6, w, a, q.toNat) ∧ w ≤ 64 := by
  obtain ⟨h1, h2, h3, h4, h5⟩ := h
  have h6 := (am_lay_len a).2.2 h2
  rw [hl] at h5 h6
  have h5 : q < (n : Int) := h5
  exact am_grid3 hl (by omega) h6
theorem am_row4 {T a n w x : Nat} {q : Int} (h : am_okv T (.inr (.inr (some (.inr (a, q)))))) (hl : am_lay a = (4, n, w, x)) : am_lay (a + 1 + q.toNat) = (7, w, a, q.toNat) ∧ w ≤ 64 := by
  obtain ⟨h1, h2, h3, h4, h5⟩ := h
  have h6 := (am_lay_len a).2.2 h2
  rw [hl] at h5 h6
  have h5 : q < (n : Int) := h5
  exact am_grid4 hl (by omega) h6
end
section
/-! arrays: reading, writing -/
theorem am_fld {n k : Nat} {f : Nat → Value} (h : k < n) : ((List.range n).map f)[k]? = some (f k) := by
  rw [List.getElem?_map, List.getElem?_range h]
  rfl
theorem am_ad_lt {G : am_G} {V0 : am_V} {s : State} (hK : am_K G V0 s) : True := trivial
theorem so_iaload {X : am_X} (cx : am_cx X) {pc : Nat} {ls : am_L} {st : List AV} {V : am_V} {R : am_T} {T cc cs : Nat} {r : am_Ref} {i : Int} {k : Nat → Int → Prop} (hd : decode (am_X.bytes X) pc = .ok (.iaload, 1)) (h : am_ix 0 4 V r i k) (hk : ∀ a j, k a j → am_W X (pc + 1) ls (.inl (V a j) :: st) V R T cc cs) : am_W X pc ls (.inl i :: .inr (.inr r) :: st) V R T cc cs := by
  obtain ⟨p, e, Rm, s, m, args, below, meth, c, QQ, G, own, bytes, nL, Bc, Bs, V0, T0⟩ := X
  obtain ⟨hx, hb, hml, hown, hts, hK, hRc, hRs⟩ := cx
  intro la H locs hf
  have ho := hf.pop.ok _ List.mem_cons_self
  match r, h, ho with
  | none, h, _ => exact False.elim h
  | some (.inl a), h, ho =>
    simp only [am_ix] at h
    obtain ⟨⟨kd, n, w, x⟩, hl⟩ : ∃ q, am_lay a = q := ⟨_, rfl⟩
    rw [hl] at h
    obtain ⟨hkd, h⟩ := am_if_of h
    have hkd := Nat.eq_of_beq_eq_true hkd
    subst hkd
    have hn : n < 2 ^ 31 := by have := am_len31 a; rw [hl] at this; exact this
    match a, hl, h, ho with
    | 0, hl, h, ho =>
      obtain ⟨⟨h0, h1⟩, h2⟩ := h
      have eV := hf.oV 0 (by decide)
      rw [eV] at h1
      obtain ⟨hz0, hz1⟩ := hK.2.2.2.2.2.2.1
      refine va_ti (t := am_G.ex G 0) (N := (V0 0 (-1)).toNat) (f := fun j => .int (Int32.ofInt (V0 0 j))) (v := .int (Int32.ofInt (V 0 i))) hx hb hK.2.2.2.2.2.2.2.1 hf.oS (i32_in h0 (by omega) (by omega)) ?_ hd ?_
      · show Value.int (Int32.ofInt (V0 0 (((Int32.ofInt i).toNatClampNeg : Nat) : Int))) = _
        rw [i32_clamp h0 (by omega), eV, Int.toNat_of_nonneg h0]
      · exact hk 0 i h2 la H locs (hf.pop.pop.push trivial)
    | 1, hl, h, ho =>
      cases hl
      obtain ⟨⟨h0, h1⟩, h2⟩ := h
      have h1 : i < 11 := h1
      have eV := hf.oV 1 (by decide)
      refine va_ti (t := am_G.ex G 1) (N := 11) (f := fun j => .int (Int32.ofInt (V0 1 j))) (v := .int (Int32.ofInt (V 1 i))) hx hb hK.2.2.2.2.2.2.2.2.1 hf.oS (i32_in h0 h1 (by decide)) ?_ hd ?_
      · show Value.int (Int32.ofInt (V0 1 (((Int32.ofInt i).toNatClampNeg : Nat) : Int))) = _
        rw [i32_clamp h0 (by omega), eV, Int.toNat_of_nonneg h0]
      · exact hk 1 i h2 la H locs (hf.pop.pop.push trivial)
    | 2, hl, h, ho =>
      cases hl
      obtain ⟨⟨h0, h1⟩, h2⟩ := h
      have h1 : i < 11 := h1
      have eV := hf.oV 2 (by decide)
      refine va_ti (t := am_G.ex G 2) (N := 11) (f := fun j => .int (Int32.ofInt (V0 2 j))) (v := .int (Int32.ofInt (V 2 i))) hx hb hK.2.2.2.2.2.2.2.2.2 hf.oS (i32_in h0 h1 (by decide)) ?_ hd ?_
      · show Value.int (Int32.ofInt (V0 2 (((Int32.ofInt i).toNatClampNeg : Nat) : Int))) = _
        rw [i32_clamp h0 (by omega), eV, Int.toNat_of_nonneg h0]
      · exact hk 2 i h2 la H locs (hf.pop.pop.push trivial)
    | a + 3, hl, h, ho =>
      obtain ⟨⟨h0, h1⟩, h2⟩ := h
      have h1 : i < (n : Int) := h1
      have hat := am_ws_at (G := G) (V := V) (R := R) (T := T) (a := a + 3) (by omega) ho
      rw [am_e0 hl] at hat
      refine va_iald hx hb hK.1 hf.oP (a + 3 - 3) 0 hat rfl (i32_in h0 h1 hn) hd ?_
      rw [i32_clamp h0 (by omega), Int.toNat_of_nonneg h0]
      exact hk (a + 3) i h2 la H locs (hf.pop.pop.push trivial)
  | some (.inr (a, q)), h, ho =>
    simp only [am_ix] at h
    obtain ⟨⟨kd, n, w, x⟩, hl⟩ : ∃ q, am_lay a = q := ⟨_, rfl⟩
    rw [hl] at h
    obtain ⟨hkd, ⟨h0, h1⟩, h2⟩ := am_if_of h
    have h1 : i < (w : Int) := h1
    have hkd := Nat.eq_of_beq_eq_true hkd
    subst hkd
    obtain ⟨c1, c2, c3, c4⟩ := am_rowcell (G := G) ho
    obtain ⟨r1, r2⟩ := am_row4 ho hl
    have hat := am_ws_at (G := G) (V := V) (R := R) (T := T) c2 c3
    rw [am_e7 r1, ← c1] at hat
    have hq : (q.toNat : Int) = q := Int.toNat_of_nonneg ho.2.2.2.1
    refine va_iald hx hb hK.1 hf.oP (a + 1 + q.toNat - 3) 0 hat rfl (i32_in h0 h1 (by omega)) hd ?_
    rw [i32_clamp h0 (by omega), if_pos (by omega), Int.toNat_of_nonneg h0, hq]
    exact hk a (64 * q + i) h2 la H locs (hf.pop.pop.push trivial)
theorem so_laload {X : am_X} (cx : am_cx X) {pc : Nat} {ls : am_L} {st : List AV} {V : am_V} {R : am_T} {T cc cs : Nat} {r : am_Ref} {i : Int} {k : Nat → Int → Prop} (hd : decode (am_X.bytes X) pc = .ok (.laload, 1)) (h : am_ix 1 3 V r i k) (hk : ∀ a j, k a j → am_W X (pc + 1) ls (.inr (.inl (V a j)) :: st) V R T cc cs) : am_W X pc ls (.inl i :: .inr (.inr r) :: st) V R T cc cs := by
  obtain ⟨p, e, Rm, s, m, args, below, meth, c, QQ, G, own, bytes, nL, Bc, Bs, V0, T0⟩ := X
  obtain ⟨hx, hb, hml, hown, hts, hK, hRc, hRs⟩ := cx
  intro la H locs hf
  have ho := hf.pop.ok _ List.mem_cons_self
  match r, h, ho with
  | none, h, _ => exact False.elim h
  | some (.inl a), h, ho =>
    simp only [am_ix] at h
    obtain ⟨⟨kd, n, w, x⟩, hl⟩ : ∃ q, am_lay a = q := ⟨_, rfl⟩
    rw [hl] at h
    obtain ⟨hkd, h⟩ := am_if_of h
    have hkd := Nat.eq_of_beq_eq_true hkd
    subst hkd
    have hn : n < 2 ^ 31 := by have := am_len31 a; rw [hl] at this; exact this
    match a, hl, h, ho with
    | 0, hl, h, ho => cases hl
    | 1, hl, h, ho => cases hl
    | 2, hl, h, ho => cases hl
    | a + 3, hl, h, ho =>
      obtain ⟨⟨h0, h1⟩, h2⟩ := h
      have h1 : i < (n : Int) := h1
      have hat := am_ws_at (G := G) (V := V) (R := R) (T := T) (a := a + 3) (by omega) ho
      rw [am_e1 hl] at hat
      refine va_lald hx hb hK.1 hf.oP (a + 3 - 3) 1 hat rfl (i32_in h0 h1 hn) hd ?_
      rw [i32_clamp h0 (by omega), Int.toNat_of_nonneg h0]
      exact hk (a + 3) i h2 la H locs (hf.pop.pop.push trivial)
  | some (.inr (a, q)), h, ho =>
    simp only [am_ix] at h
    obtain ⟨⟨kd, n, w, x⟩, hl⟩ : ∃ q, am_lay a = q := ⟨_, rfl⟩
    rw [hl] at h
    obtain ⟨hkd, ⟨h0, h1⟩, h2⟩ := am_if_of h
    have h1 : i < (w : Int) := h1
    have hkd := Nat.eq_of_beq_eq_true hkd
    subst hkd
    obtain ⟨c1, c2, c3, c4⟩ := am_rowcell (G := G) ho
    obtain ⟨r1, r2⟩ := am_row3 ho hl
    have hat := am_ws_at (G := G) (V := V) (R := R) (T := T) c2 c3
    rw [am_e6 r1, ← c1] at hat
    have hq : (q.toNat : Int) = q := Int.toNat_of_nonneg ho.2.2.2.1
    refine va_lald hx hb hK.1 hf.oP (a + 1 + q.toNat - 3) 1 hat rfl (i32_in h0 h1 (by omega)) hd ?_
    rw [i32_clamp h0 (by omega), if_pos (by omega), Int.toNat_of_nonneg h0, hq]
    exact hk a (64 * q + i) h2 la H locs (hf.pop.pop.push trivial)
theorem so_baload {X : am_X} (cx : am_cx X) {pc : Nat} {ls : am_L} {st : List AV} {V : am_V} {R : am_T} {T cc cs : Nat} {r : am_Ref} {i : Int} {k : Nat → Int → Prop} (hd : decode (am_X.bytes X) pc = .ok (.baload, 1)) (h : am_ix 2 99 V r i k) (hk : ∀ a j, k a j → am_W X (pc + 1) ls (.inl (V a j) :: st) V R T cc cs) : am_W X pc ls (.inl i :: .inr (.inr r) :: st) V R T cc cs := by
  obtain ⟨p, e, Rm, s, m, args, below, meth, c, QQ, G, own, bytes, nL, Bc, Bs, V0, T0⟩ := X
  obtain ⟨hx, hb, hml, hown, hts, hK, hRc, hRs⟩ := cx
  intro la H locs hf
  have ho := hf.pop.ok _ List.mem_cons_self
  match r, h, ho with
  | none, h, _ => exact False.elim h
  | some (.inl a), h, ho =>
    simp only [am_ix] at h
    obtain ⟨⟨kd, n, w, x⟩, hl⟩ : ∃ q, am_lay a = q := ⟨_, rfl⟩
    rw [hl] at h
    obtain ⟨hkd, h⟩ := am_if_of h
    have hkd := Nat.eq_of_beq_eq_true hkd
    subst hkd
    have hn : n < 2 ^ 31 := by have := am_len31 a; rw [hl] at this; exact this
    match a, hl, h, ho with
    | 0, hl, h, ho => cases hl
    | 1, hl, h, ho => cases hl
    | 2, hl, h, ho => cases hl
    | a + 3, hl, h, ho =>
      obtain ⟨⟨h0, h1⟩, h2⟩ := h
      have h1 : i < (n : Int) := h1
      have hat := am_ws_at (G := G) (V := V) (R := R) (T := T) (a := a + 3) (by omega) ho
      rw [am_e2 hl] at hat
      refine va_zald hx hb hK.1 hf.oP (a + 3 - 3) 2 hat rfl (i32_in h0 h1 hn) hd ?_
      rw [i32_clamp h0 (by omega), Int.toNat_of_nonneg h0]
      exact hk (a + 3) i h2 la H locs (hf.pop.pop.push trivial)
  | some (.inr (a, q)), h, ho =>
    simp only [am_ix] at h
    obtain ⟨hkd, h⟩ := am_if_of h
    have := (am_lay_len a).2.1
    rw [Nat.eq_of_beq_eq_true hkd] at this
    omega
theorem am_cell_i {c : ClassId} {n k : Nat} {f : Nat → Int32} {x : Int32} : (vp_cell c (n, .inl f)).setSlot k (.int x) = vp_cell c (n, .inl (upd f k x)) := by
  rw [vp_cell_i, vp_cell_i, arrV_store]
  refine congrArg (arrV c n) (funext fun j => ?_)
  by_cases hq : j = k
  · subst hq; simp [updV, upd]
  · simp [updV, upd, hq]
theorem am_cell_l {c : ClassId} {n k : Nat} {f : Nat → Int64} {x : Int64} : (vp_cell c (n, .inr (.inl f))).setSlot k (.long x) = vp_cell c (n, .inr (.inl (vp_updL f k x))) := by
  rw [vp_cell_l, vp_cell_l, arrV_store]
  refine congrArg (arrV c n) (funext fun j => ?_)
  by_cases hq : j = k
  · subst hq; simp [updV, vp_updL]
  · simp [updV, vp_updL, hq]
theorem am_cell_q {c : ClassId} {n k : Nat} {f : Nat → Option Nat} {x : Option Nat} : (vp_cell c (n, .inr (.inr (.inr (.inr f))))).setSlot k (va_rf x) = vp_cell c (n, .inr (.inr (.inr (.inr (va_up f k x))))) := by
  rw [vp_cell_q, vp_cell_q, arrV_store]
  refine congrArg (arrV c n) (funext fun j => ?_)
  by_cases hq : j = k
  · subst hq; simp [updV, va_up]
  · simp [updV, va_up, hq]
/-- a cell is written: the frame goes on over the new memory -/
theorem am_wr {G : am_G} {s : State} {V0 : am_V} {T0 nL Bc Bs : Nat} {ls : am_L} {st : List AV} {V V' : am_V} {R R' : am_T} {T cc cs : Nat} {la : Array Slot} {H : Heap} {locs : List Loc} (hf : am_fr G s V0 T0 nL Bc Bs ls st V R T cc cs la H locs) {b k : Nat} (hb3 : 3 ≤ b) (hbT : b < T) (ho : ∀ y, y < T → y ≠ b → am_e G V' R' y = am_e G V R y) (hR : am_okR R' T) (hV : ∀ e, e < 3 → V' e = V e) {H1 : Heap} (e : va_at (am_G.D G) am_cls (am_ad G b, am_e G V' R' b) H1) (z : H1.size = H.size) (oq : ∀ q, q ≠ am_ad G b → H1[q]? = H[q]?) : am_fr G s V0 T0 nL Bc Bs ls st V' R' T cc cs la H1 (locs ++ [⟨am_ad G b, k⟩]) := by
  have hat := am_ws_at (G := G) (V := V) (R := R) (T := T) hb3 hbT
  have hP := hf.oP.set am_D hat e oq
  rw [am_ws_set hb3 hbT rfl ho] at hP
  exact hf.mem z hP (hf.oS.put z oq (am_D.2 _ _ hat)) hR hV
theorem am_up_row_i {V : am_V} {a q w : Nat} {i x : Int} (h0 : 0 ≤ i) (h1 : i < (w : Int)) : (fun j : Nat => if j < w then Int32.ofInt (am_up V a (64 * (q : Int) + i) x a (64 * (q : Int) + j)) else 0) = upd (fun j : Nat => if j < w then Int32.ofInt (V a (64 * (q : Int) + j)) else 0) i.toNat (Int32.ofInt x) := by
  funext j
  by_cases h : j = i.toNat
  · subst h
    rw [if_pos (by omega), am_up_at, if_pos (by omega), pk_us]
  · rw [pk_un h]
    by_cases hw : j < w
    · rw [if_pos hw, if_pos hw, am_up_at, if_neg (by omega)]
    · rw [if_neg hw, if_neg hw]
theorem am_up_row_l {V : am_V} {a q w : Nat} {i x : Int} (h0 : 0 ≤ i) (h1 : i < (w : Int)) : (fun j : Nat => if j < w then Int64.ofInt (am_up V a (64 * (q : Int) + i) x a (64 * (q : Int) + j)) else 0) = vp_updL (fun j : Nat => if j < w then Int64.ofInt (V a (64 * (q : Int) + j)) else 0) i.toNat (Int64.ofInt x) := by
  funext j
  by_cases h : j = i.toNat
  · subst h
    rw [if_pos (by omega), am_up_at, if_pos (by omega), pk_uLs]
  · rw [pk_uLn h]
    by_cases hw : j < w
    · rw [if_pos hw, if_pos hw, am_up_at, if_neg (by omega)]
    · rw [if_neg hw, if_neg hw]
theorem so_iastore {X : am_X} (cx : am_cx X) {pc : Nat} {ls : am_L} {st : List AV} {V : am_V} {R : am_T} {T cc cs : Nat} {r : am_Ref} {i x : Int} {k : Nat → Int → Prop} (hd : decode (am_X.bytes X) pc = .ok (.iastore, 1)) (h : am_ix 0 4 V r i k) (hk : ∀ a j, k a j → 3 ≤ a ∧ am_W X (pc + 1) ls st (am_up V a j x) R T cc cs) : am_W X pc ls (.inl x :: .inl i :: .inr (.inr r) :: st) V R T cc cs := by
  obtain ⟨p, e, Rm, s, m, args, below, meth, c, QQ, G, own, bytes, nL, Bc, Bs, V0, T0⟩ := X
  obtain ⟨hx, hb, hml, hown, hts, hK, hRc, hRs⟩ := cx
  intro la H locs hf
  have ho := hf.pop.pop.ok _ List.mem_cons_self
  match r, h, ho with
  | none, h, _ => exact False.elim h
  | some (.inl a), h, ho =>
    simp only [am_ix] at h
    obtain ⟨⟨kd, n, w, y⟩, hl⟩ : ∃ q, am_lay a = q := ⟨_, rfl⟩
    rw [hl] at h
    obtain ⟨hkd, h⟩ := am_if_of h
    have hkd := Nat.eq_of_beq_eq_true hkd
    subst hkd
    have hn : n < 2 ^ 31 := by have := am_len31 a; rw [hl] at this; exact this
    match a, hl, h, ho with
    | 0, hl, h, ho => exact absurd (hk _ _ h.2).1 (by decide)
    | 1, hl, h, ho => exact absurd (hk _ _ h.2).1 (by decide)
    | 2, hl, h, ho => exact absurd (hk _ _ h.2).1 (by decide)
    | a + 3, hl, h, ho =>
      obtain ⟨⟨h0, h1⟩, h2⟩ := h
      have h1 : i < (n : Int) := h1
      have hat := am_ws_at (G := G) (V := V) (R := R) (T := T) (a := a + 3) (by omega) ho
      rw [am_e0 hl] at hat
      have hk' := (hk (a + 3) i h2).2
      refine W.iast hx hb (hf.oP _ _ hat) ((hK.1.2 0 _ rfl).1 n _) (fun q => by cases q) (by show ¬ (_ < 0 ∨ (arrV _ _ _).slots.size ≤ _); rw [arrV_size]; exact i32_in h0 h1 hn) rfl rfl hd fun H1 e z oq => ?_
      rw [am_cell_i, i32_clamp h0 (by omega), ← am_upd_i h0] at e
      exact hk' la H1 _ (am_wr (b := a + 3) hf.pop.pop.pop (by omega) ho (fun y _ hy => am_e_off (fun q hq => am_up_ne hq) (fun _ _ => rfl) (by rw [hl]; simp) hy) hf.oR (fun q hq => am_up_ne (by omega)) (by rw [am_e0 hl]; exact e) z oq)
  | some (.inr (a, q)), h, ho =>
    simp only [am_ix] at h
    obtain ⟨⟨kd, n, w, y⟩, hl⟩ : ∃ q, am_lay a = q := ⟨_, rfl⟩
    rw [hl] at h
    obtain ⟨hkd, ⟨h0, h1⟩, h2⟩ := am_if_of h
    have h1 : i < (w : Int) := h1
    have hkd := Nat.eq_of_beq_eq_true hkd
    subst hkd
    obtain ⟨c1, c2, c3, c4⟩ := am_rowcell (G := G) ho
    obtain ⟨r1, r2⟩ := am_row4 ho hl
    have hat := am_ws_at (G := G) (V := V) (R := R) (T := T) c2 c3
    rw [am_e7 r1] at hat
    have hq : (q.toNat : Int) = q := Int.toNat_of_nonneg ho.2.2.2.1
    have hk' := (hk a (64 * q + i) h2).2
    rw [← hq] at hk'
    have hw31 : w < 2 ^ 31 := by omega
    have c1' : am_cv G (.inr (.inr (some (.inr (a, q))))) = .ref (am_ad G (a + 1 + q.toNat)) := by rw [← c1]; rfl
    have hst : ((.inl x :: .inl i :: .inr (.inr (some (.inr (a, q)))) :: st : List AV).map (am_cv G)) = am_cv G (.inl x) :: am_cv G (.inl i) :: .ref (am_ad G (a + 1 + q.toNat)) :: st.map (am_cv G) := by rw [List.map_cons, List.map_cons, List.map_cons, c1']
    rw [hst]
    refine W.iast hx hb (hf.oP _ _ hat) ((hK.1.2 0 _ rfl).1 w _) (fun q => by cases q) (by show ¬ (_ < 0 ∨ (arrV _ _ _).slots.size ≤ _); rw [arrV_size]; exact i32_in h0 h1 hw31) rfl rfl hd fun H1 e z oq => ?_
    rw [am_cell_i, i32_clamp h0 (by omega), ← am_up_row_i h0 h1] at e
    exact hk' la H1 _ (am_wr (b := a + 1 + q.toNat) hf.pop.pop.pop c2 c3 (fun y _ hy => am_e_row r2 (by rw [hl]) (by rw [r1]) h0 h1 hy (by rw [hl]; simp)) hf.oR (fun q hq => am_up_ne (by have := ho.1; omega)) (by rw [am_e7 r1]; exact e) z oq)
theorem so_lastore {X : am_X} (cx : am_cx X) {pc : Nat} {ls : am_L} {st : List AV} {V : am_V} {R : am_T} {T cc cs : Nat} {r : am_Ref} {i x : Int} {k : Nat → Int → Prop} (hd : decode (am_X.bytes X) pc = .ok (.lastore, 1)) (h : am_ix 1 3 V r i k) (hk : ∀ a j, k a j → am_W X (pc + 1) ls st (am_up V a j x) R T cc cs) : am_W X pc ls (.inr (.inl x) :: .inl i :: .inr (.inr r) :: st) V R T cc cs := by
  obtain ⟨p, e, Rm, s, m, args, below, meth, c, QQ, G, own, bytes, nL, Bc, Bs, V0, T0⟩ := X
  obtain ⟨hx, hb, hml, hown, hts, hK, hRc, hRs⟩ := cx
  intro la H locs hf
  have ho := hf.pop.pop.ok _ List.mem_cons_self
  match r, h, ho with
  | none, h, _ => exact False.elim h
  | some (.inl a), h, ho =>
    simp only [am_ix] at h
    obtain ⟨⟨kd, n, w, y⟩, hl⟩ : ∃ q, am_lay a = q := ⟨_, rfl⟩
    rw [hl] at h
    obtain ⟨hkd, h⟩ := am_if_of h
    have hkd := Nat.eq_of_beq_eq_true hkd
    subst hkd
    have hn : n < 2 ^ 31 := by have := am_len31 a; rw [hl] at this; exact this
    match a, hl, h, ho with
    | 0, hl, h, ho => cases hl
    | 1, hl, h, ho => cases hl
    | 2, hl, h, ho => cases hl
    | a + 3, hl, h, ho =>
      obtain ⟨⟨h0, h1⟩, h2⟩ := h
      have h1 : i < (n : Int) := h1
      have hat := am_ws_at (G := G) (V := V) (R := R) (T := T) (a := a + 3) (by omega) ho
      rw [am_e1 hl] at hat
      have hk' := hk (a + 3) i h2
      refine W.last hx hb (hf.oP _ _ hat) ((hK.1.2 1 _ rfl).1 n _) (fun q => by cases q) (by show ¬ (_ < 0 ∨ (arrV _ _ _).slots.size ≤ _); rw [arrV_size]; exact i32_in h0 h1 hn) rfl rfl hd fun H1 e z oq => ?_
      rw [am_cell_l, i32_clamp h0 (by omega), ← am_upd_l h0] at e
      exact hk' la H1 _ (am_wr (b := a + 3) hf.pop.pop.pop (by omega) ho (fun y _ hy => am_e_off (fun q hq => am_up_ne hq) (fun _ _ => rfl) (by rw [hl]; simp) hy) hf.oR (fun q hq => am_up_ne (by omega)) (by rw [am_e1 hl]; exact e) z oq)
  | some (.inr (a, q)), h, ho =>
    simp only [am_ix] at h
    obtain ⟨⟨kd, n, w, y⟩, hl⟩ : ∃ q, am_lay a = q := ⟨_, rfl⟩
    rw [hl] at h
    obtain ⟨hkd, ⟨h0, h1⟩, h2⟩ := am_if_of h
    have h1 : i < (w : Int) := h1
    have hkd := Nat.eq_of_beq_eq_true hkd
    subst hkd
    obtain ⟨c1, c2, c3, c4⟩ := am_rowcell (G := G) ho
    obtain ⟨r1, r2⟩ := am_row3 ho hl
    have hat := am_ws_at (G := G) (V := V) (R := R) (T := T) c2 c3
    rw [am_e6 r1] at hat
    have hq : (q.toNat : Int) = q := Int.toNat_of_nonneg ho.2.2.2.1
    have hk' := hk a (64 * q + i) h2
    rw [← hq] at hk'
    have hw31 : w < 2 ^ 31 := by omega
    have c1' : am_cv G (.inr (.inr (some (.inr (a, q))))) = .ref (am_ad G (a + 1 + q.toNat)) := by rw [← c1]; rfl
    have hst : ((.inr (.inl x) :: .inl i :: .inr (.inr (some (.inr (a, q)))) :: st : List AV).map (am_cv G)) = am_cv G (.inr (.inl x)) :: am_cv G (.inl i) :: .ref (am_ad G (a + 1 + q.toNat)) :: st.map (am_cv G) := by rw [List.map_cons, List.map_cons, List.map_cons, c1']
    rw [hst]
    refine W.last hx hb (hf.oP _ _ hat) ((hK.1.2 1 _ rfl).1 w _) (fun q => by cases q) (by show ¬ (_ < 0 ∨ (arrV _ _ _).slots.size ≤ _); rw [arrV_size]; exact i32_in h0 h1 hw31) rfl rfl hd fun H1 e z oq => ?_
    rw [am_cell_l, i32_clamp h0 (by omega), ← am_up_row_l h0 h1] at e
    exact hk' la H1 _ (am_wr (b := a + 1 + q.toNat) hf.pop.pop.pop c2 c3 (fun y _ hy => am_e_row r2 (by rw [hl]) (by rw [r1]) h0 h1 hy (by rw [hl]; simp)) hf.oR (fun q hq => am_up_ne (by have := ho.1; omega)) (by rw [am_e6 r1]; exact e) z oq)
theorem so_bastore {X : am_X} (cx : am_cx X) {pc : Nat} {ls : am_L} {st : List AV} {V : am_V} {R : am_T} {T cc cs : Nat} {r : am_Ref} {i x : Int} {k : Nat → Int → Prop} (hd : decode (am_X.bytes X) pc = .ok (.bastore, 1)) (h : am_ix 2 99 V r i k) (hk : ∀ a j, k a j → (x = 0 ∨ x = 1) ∧ am_W X (pc + 1) ls st (am_up V a j x) R T cc cs) : am_W X pc ls (.inl x :: .inl i :: .inr (.inr r) :: st) V R T cc cs := by
  obtain ⟨p, e, Rm, s, m, args, below, meth, c, QQ, G, own, bytes, nL, Bc, Bs, V0, T0⟩ := X
  obtain ⟨hx, hb, hml, hown, hts, hK, hRc, hRs⟩ := cx
  intro la H locs hf
  have ho := hf.pop.pop.ok _ List.mem_cons_self
  match r, h, ho with
  | none, h, _ => exact False.elim h
  | some (.inl a), h, ho =>
    simp only [am_ix] at h
    obtain ⟨⟨kd, n, w, y⟩, hl⟩ : ∃ q, am_lay a = q := ⟨_, rfl⟩
    rw [hl] at h
    obtain ⟨hkd, h⟩ := am_if_of h
    have hkd := Nat.eq_of_beq_eq_true hkd
    subst hkd
    have hn : n < 2 ^ 31 := by have := am_len31 a; rw [hl] at this; exact this
    match a, hl, h, ho with
    | 0, hl, h, ho => cases hl
    | 1, hl, h, ho => cases hl
    | 2, hl, h, ho => cases hl
    | a + 3, hl, h, ho =>
      obtain ⟨⟨h0, h1⟩, h2⟩ := h
      have h1 : i < (n : Int) := h1
      have hat := am_ws_at (G := G) (V := V) (R := R) (T := T) (a := a + 3) (by omega) ho
      rw [am_e2 hl] at hat
      have hk' := (hk (a + 3) i h2).2
      have hx01 := (hk (a + 3) i h2).1
      refine W.zast hx hb (hf.oP _ _ hat) ((hK.1.2 2 _ rfl).1 n _) (fun q => by cases q) (by show ¬ (_ < 0 ∨ (arrV _ _ _).slots.size ≤ _); rw [arrV_size]; exact i32_in h0 h1 hn) rfl rfl hd fun H1 e z oq => ?_
      have en : narrow .boolean (.int (Int32.ofInt x)) = .int (Int32.ofInt x) := by rcases hx01 with rfl | rfl <;> rfl
      first | rw [en] at e | skip
      rw [am_cell_i, i32_clamp h0 (by omega), ← am_upd_i h0] at e
      exact hk' la H1 _ (am_wr (b := a + 3) hf.pop.pop.pop (by omega) ho (fun y _ hy => am_e_off (fun q hq => am_up_ne hq) (fun _ _ => rfl) (by rw [hl]; simp) hy) hf.oR (fun q hq => am_up_ne (by omega)) (by rw [am_e2 hl]; exact e) z oq)
  | some (.inr (a, q)), h, ho =>
    simp only [am_ix] at h
    obtain ⟨hkd, h⟩ := am_if_of h
    have := (am_lay_len a).2.1
    rw [Nat.eq_of_beq_eq_true hkd] at this
    omega
end
section
/-! fields, references, new cells -/
theorem am_objN : (List.range 107).all (fun a => Nat.blt (am_lay a).1 10 || (decide ((am_lay a).1 - 10 < 6) && decide ((am_lay a).2.1 = am_NN ((am_lay a).1 - 10)))) = true := by decide +kernel
theorem am_obj {a c n w x : Nat} (h : am_lay a = (10 + c, n, w, x)) : c < 6 ∧ n = am_NN c ∧ 3 ≤ a := by
  have h3 : 3 ≤ a := by
    match a, h with
    | 0, h => simp [am_lay, am_layG, am_layT] at h; omega
    | 1, h => simp [am_lay, am_layG, am_layT] at h; omega
    | 2, h => simp [am_lay, am_layG, am_layT] at h; omega
    | a + 3, _ => omega
  rcases Nat.lt_or_ge a 107 with q | q
  · have h1 := List.all_eq_true.mp am_objN a (List.mem_range.mpr q)
    rw [h] at h1
    simp only [Bool.or_eq_true, Bool.and_eq_true, decide_eq_true_eq] at h1
    rcases h1 with h1 | h1
    · have := Nat.le_of_ble_eq_true h1
      omega
    · rw [show 10 + c - 10 = c by omega] at h1
      exact ⟨h1.1, h1.2, h3⟩
  · rcases am_lay_hi q with r | r
    · rw [h] at r
      simp only [Prod.mk.injEq] at r
      have hc : c = 3 := by omega
      subst hc
      exact ⟨by decide, r.2.1, h3⟩
    · rw [h] at r
      simp only [Prod.mk.injEq] at r
      omega
theorem am_hts {args : Array Value} {s : State} (hts : ∀ w, w ∈ lw_tbl → goodWord w = true → w.before args s = true) : ∀ w ∈ am_gw, w.before args s = true := fun w hw => hts w (List.mem_filter.mp hw).1 (List.mem_filter.mp hw).2
/-- a field is read -/
theorem so_get {X : am_X} (cx : am_cx X) {pc : Nat} {ls : am_L} {st : List AV} {V : am_V} {R : am_T} {T cc cs : Nat} {o i k c wi : Nat} {v : AV} (hd : decode (am_X.bytes X) pc = .ok (.getfield i, 3)) (hl : (am_lay o).1 = 10 + c) (hk : k < am_NN c) (hw : lw_tbl[wi]? = some (.fieldLink (am_X.own X) i (am_TT c k).1 (am_TT c k).2.1 (am_TT c k).2.2.1)) (hv : am_fv (am_X.g X) V R c o k = am_cv (am_X.g X) v) (ho : o < T → am_okR R T → am_okv T v) (kk : am_W X (pc + 3) ls (v :: st) V R T cc cs) : am_W X pc ls (.inr (.inr (some (.inl o))) :: st) V R T cc cs := by
  obtain ⟨p, e, Rm, s, m, args, below, meth, cd, QQ, G, own, bytes, nL, Bc, Bs, V0, T0⟩ := X
  obtain ⟨hx, hb, hml, hown, hts, hK, hRc, hRs⟩ := cx
  intro la H locs hf
  have hoT : o < T := hf.ok _ List.mem_cons_self
  obtain ⟨⟨kd, n, w, y⟩, hq⟩ : ∃ q, am_lay o = q := ⟨_, rfl⟩
  rw [hq] at hl
  have hl : kd = 10 + c := hl
  subst hl
  obtain ⟨hc, hn, h3⟩ := am_obj hq
  subst hn
  have hat := am_ws_at (G := G) (V := V) (R := R) (T := T) h3 hoT
  rw [am_eO hq] at hat
  refine va_get (ci := c) (v := am_cv G v) hx hb (am_hts hts) (am_inc c hc) hown hK.1 hf.oP (o - 3) hat (am_cls_at c hc) k hk (hts _ (List.mem_of_getElem? hw) rfl) (fun _ h => h) (by rw [am_fld hk, hv]) hd ?_
  exact kk la H locs (hf.pop.push (ho hoT hf.oR))
theorem am_set_fld {n k : Nat} {f g : Nat → Value} {v : Value} (hv : g k = v) (ho : ∀ j, j ≠ k → g j = f j) : ((List.range n).map f).set k v = (List.range n).map g := by
  apply List.ext_getElem?
  intro j
  by_cases hj : j < n
  · by_cases e : j = k
    · subst e
      rw [List.getElem?_set_self (by simpa using hj), am_fld hj, hv]
    · rw [List.getElem?_set_ne (fun q => e q.symm), am_fld hj, am_fld hj, ho j e]
  · rw [List.getElem?_eq_none (by simp; omega), List.getElem?_eq_none (by simp; omega)]
/-- a field is written -/
theorem so_put {X : am_X} (cx : am_cx X) {pc : Nat} {ls : am_L} {st : List AV} {V V' : am_V} {R R' : am_T} {T cc cs : Nat} {o i k c wi : Nat} {v : AV} (hd : decode (am_X.bytes X) pc = .ok (.putfield i, 3)) (hl : (am_lay o).1 = 10 + c) (hk : k < am_NN c) (hw : lw_tbl[wi]? = some (.fieldLink (am_X.own X) i (am_TT c k).1 (am_TT c k).2.1 (am_TT c k).2.2.1)) (hfin : (am_TT c k).2.2.2 = false ∨ ((am_TT c k).2.2.2 = true ∧ (am_X.meth X).name = "<init>" ∧ (am_TT c k).1 = am_X.own X))
    (hn : narrow (am_ty c k) (am_cv (am_X.g X) v) = am_cv (am_X.g X) v) (hfit : fits (am_ty c k) (am_cv (am_X.g X) v) = true) (hV : ∀ x, x ≠ o → V' x = V x) (hR : ∀ x, x ≠ o → R' x = R x) (hv : am_fv (am_X.g X) V' R' c o k = am_cv (am_X.g X) v) (hoth : ∀ j, j ≠ k → am_fv (am_X.g X) V' R' c o j = am_fv (am_X.g X) V R c o j) (hokR : am_okv T v → am_okR R T → am_okR R' T) (kk : am_W X (pc + 3) ls st V' R' T cc cs) : am_W X pc ls (v :: .inr (.inr (some (.inl o))) :: st) V R T cc cs := by
  obtain ⟨p, e, Rm, s, m, args, below, meth, cd, QQ, G, own, bytes, nL, Bc, Bs, V0, T0⟩ := X
  obtain ⟨hx, hb, hml, hown, hts, hK, hRc, hRs⟩ := cx
  intro la H locs hf
  have hoT : o < T := hf.pop.ok _ List.mem_cons_self
  obtain ⟨⟨kd, n, w, y⟩, hq⟩ : ∃ q, am_lay o = q := ⟨_, rfl⟩
  rw [hq] at hl
  have hl : kd = 10 + c := hl
  subst hl
  obtain ⟨hc, hn', h3⟩ := am_obj hq
  subst hn'
  have hat := am_ws_at (G := G) (V := V) (R := R) (T := T) h3 hoT
  rw [am_eO hq] at hat
  have hgt := am_hts hts
  have hin := am_inc c hc
  have hcl := am_cls_at c hc
  have hap := va_apart (own := own) hgt hin (am_ty c) (am_tyok c hc) (am_nm c hc) hK.1 hcl
  obtain ⟨r, h1, cell, q1, q2, q3, q4⟩ := hf.oP _ _ hat
  have hr : r = (am_RR c, am_TT c, am_NN c) := Option.some.inj (h1.symm.trans hcl)
  subst hr
  obtain ⟨hS, hfc, kC, hkC, hkind⟩ := hK.1.1 c _ hcl
  obtain ⟨cf, kf, fi, f, hi, hsl⟩ := hS k hk
  have hlay := hgt _ (hin _ (u_in_lay hk))
  unfold u_lay at hlay
  have hst := (u_facts hfc hkC (u_lays hgt hin hk) hi).1
  have hlk := hts _ (List.mem_of_getElem? hw) rfl
  have hfin2 : ∀ H' : Heap, H'[am_ad G o]? = some (cell.setSlot f.slot (am_cv G v)) → H'.size = H.size → (∀ q, q ≠ am_ad G o → H'[q]? = H[q]?) → W p (am_G.l G) e Rm s m args below meth cd H' (locs ++ [⟨am_ad G o, f.slot⟩]) cc cs QQ (F0 m (pc + 3) la (st.map (am_cv G))) := by
    intro H' e1 e2 e3
    rw [hsl] at e1
    have key : va_at (am_G.D G) am_cls (am_ad G o, am_e G V' R' o) H' := by
      rw [am_eO hq, ← am_set_fld (f := am_fv G V R c o) hv hoth]
      exact ⟨_, hcl, t_OB.to (V := updV (vp_V ((List.range (am_NN c)).map (am_fv G V R c o))) k (am_cv G v)) ⟨_, e1, q2, q3, t_set q4 hap hk (am_cv G v)⟩ (fun j _ => vp_updV_set (by simpa using hk) (am_cv G v) j)⟩
    refine kk la H' _ (am_wr hf.pop.pop h3 hoT (fun y _ hy => am_e_off hV hR (by rw [hq]; constructor <;> (intro z; simp at z; omega)) hy) (hokR (hf.ok _ List.mem_cons_self) hf.oR) (fun e he => hV e (by omega)) key e2 e3)
  rcases hfin with hfin | ⟨hfin, hin2, hdecl⟩
  · rw [if_neg (by rw [hfin]; decide)] at hlay
    have h6 := u_store hfc hkC hkind hlay hi (am_tyok c hc k hk) hn hfit
    exact W.putK hx hb (f := f) ⟨hown, hlk, ⟨_, _, _, hi⟩, hst⟩ (by rw [q2]; exact h6) q1 q3 (by rw [hsl]; exact k2_hasslot (q4 k hk)) rfl rfl hd hfin2
  · rw [if_pos hfin] at hlay
    have hcf : m.cls = cf := by
      obtain ⟨_, _, c', _, _, _, -, -, hf', -, -, -, hown2, -⟩ := Cond.laysFinal_spec hlay
      have e1 : c' = cf := by have := hi.symm.trans hf'; simp at this; exact this.1.symm
      rw [hdecl] at hown2
      rw [← e1]; exact Option.some.inj (hown.symm.trans hown2)
    have h6 := u_fits hfc hkC hkind (Or.inr hlay) hi (am_tyok c hc k hk) hn hfit
    exact W.putFinK hx hb hown hlk hi hst hcf hin2 (by rw [q2]; exact h6) q1 q3 (by rw [hsl]; exact k2_hasslot (q4 k hk)) rfl rfl hd hfin2
theorem so_getstatic1 {X : am_X} (cx : am_cx X) {pc : Nat} {ls : am_L} {st : List AV} {V : am_V} {R : am_T} {T cc cs : Nat} {i wi : Nat} (hd : decode (am_X.bytes X) pc = .ok (.getstatic i, 3)) (hw : lw_tbl[wi]? = some (.fieldLink (am_X.own X) i "FreeParts" "FREE_ONES" "[I")) (kk : am_W X (pc + 3) ls (.inr (.inr (some (.inl 1))) :: st) V R T cc cs) : am_W X pc ls st V R T cc cs := by
  obtain ⟨p, e, Rm, s, m, args, below, meth, cd, QQ, G, own, bytes, nL, Bc, Bs, V0, T0⟩ := X
  obtain ⟨hx, hb, hml, hown, hts, hK, hRc, hRs⟩ := cx
  intro la H locs hf
  refine va_gets hx hb hK.2.2.2.2.1 hf.oS hown (hts _ (List.mem_of_getElem? hw) rfl) (fun _ h => h) hd ?_
  exact kk la H locs (hf.push (Nat.lt_of_lt_of_le (by decide : 1 < 3) hf.T3))
theorem so_getstatic2 {X : am_X} (cx : am_cx X) {pc : Nat} {ls : am_L} {st : List AV} {V : am_V} {R : am_T} {T cc cs : Nat} {i wi : Nat} (hd : decode (am_X.bytes X) pc = .ok (.getstatic i, 3)) (hw : lw_tbl[wi]? = some (.fieldLink (am_X.own X) i "FreeParts" "WEIGHTS" "[I")) (kk : am_W X (pc + 3) ls (.inr (.inr (some (.inl 2))) :: st) V R T cc cs) : am_W X pc ls st V R T cc cs := by
  obtain ⟨p, e, Rm, s, m, args, below, meth, cd, QQ, G, own, bytes, nL, Bc, Bs, V0, T0⟩ := X
  obtain ⟨hx, hb, hml, hown, hts, hK, hRc, hRs⟩ := cx
  intro la H locs hf
  refine va_gets hx hb hK.2.2.2.2.2.1 hf.oS hown (hts _ (List.mem_of_getElem? hw) rfl) (fun _ h => h) hd ?_
  exact kk la H locs (hf.push (Nat.lt_of_lt_of_le (by decide : 2 < 3) hf.T3))
end
section
/-! references in arrays, lengths, new cells -/
theorem so_aaload3 {X : am_X} (cx : am_cx X) {pc : Nat} {ls : am_L} {st : List AV} {V : am_V} {R : am_T} {T cc cs : Nat} {a n w y : Nat} {i : Int} (hd : decode (am_X.bytes X) pc = .ok (.aaload, 1)) (hl : am_lay a = (3, n, w, y)) (h0 : 0 ≤ i) (h1 : i < (n : Int)) (kk : am_W X (pc + 1) ls (.inr (.inr (some (.inr (a, i)))) :: st) V R T cc cs) : am_W X pc ls (.inl i :: .inr (.inr (some (.inl a))) :: st) V R T cc cs := by
  obtain ⟨p, e, Rm, s, m, args, below, meth, c, QQ, G, own, bytes, nL, Bc, Bs, V0, T0⟩ := X
  obtain ⟨hx, hb, hml, hown, hts, hK, hRc, hRs⟩ := cx
  intro la H locs hf
  have hoT : a < T := hf.pop.ok _ List.mem_cons_self
  have hn : n < 2 ^ 31 := by have := am_len31 a; rw [hl] at this; exact this
  have h3 : 3 ≤ a := by
    match a, hl with
    | 0, h => cases h
    | 1, h => cases h
    | 2, h => cases h
    | a + 3, _ => omega
  have hat := am_ws_at (G := G) (V := V) (R := R) (T := T) h3 hoT
  rw [am_e3 hl] at hat
  have hlt : (Int32.ofInt i).toNatClampNeg < n := by rw [i32_clamp h0 (by omega)]; omega
  refine W.aald (v := .ref (am_ad G a + 1 + i.toNat)) (ty := .array .long) hx hb (hf.oP _ _ hat) ((hK.1.2 3 _ rfl).1 n _) rfl (fun q => by cases q) (by show ¬ (_ < 0 ∨ (arrV _ _ _).slots.size ≤ _); rw [arrV_size]; exact i32_in h0 h1 hn) (by show (arrV _ _ _).slots[_]? = _; rw [arrV_read _ _ hlt, i32_clamp h0 (by omega)]; show some (va_rf (if i.toNat < n then some (am_ad G a + 1 + i.toNat) else none)) = _; rw [if_pos (by omega)]; rfl) rfl rfl hd ?_
  exact kk la H locs (hf.pop.pop.push ⟨h3, Or.inl (by rw [hl]), by have := hf.oR.2 a hoT (Or.inl (by rw [hl])); exact this, h0, by rw [hl]; exact h1⟩)
theorem so_aaload4 {X : am_X} (cx : am_cx X) {pc : Nat} {ls : am_L} {st : List AV} {V : am_V} {R : am_T} {T cc cs : Nat} {a n w y : Nat} {i : Int} (hd : decode (am_X.bytes X) pc = .ok (.aaload, 1)) (hl : am_lay a = (4, n, w, y)) (h0 : 0 ≤ i) (h1 : i < (n : Int)) (kk : am_W X (pc + 1) ls (.inr (.inr (some (.inr (a, i)))) :: st) V R T cc cs) : am_W X pc ls (.inl i :: .inr (.inr (some (.inl a))) :: st) V R T cc cs := by
  obtain ⟨p, e, Rm, s, m, args, below, meth, c, QQ, G, own, bytes, nL, Bc, Bs, V0, T0⟩ := X
  obtain ⟨hx, hb, hml, hown, hts, hK, hRc, hRs⟩ := cx
  intro la H locs hf
  have hoT : a < T := hf.pop.ok _ List.mem_cons_self
  have hn : n < 2 ^ 31 := by have := am_len31 a; rw [hl] at this; exact this
  have h3 : 3 ≤ a := by
    match a, hl with
    | 0, h => cases h
    | 1, h => cases h
    | 2, h => cases h
    | a + 3, _ => omega
  have hat := am_ws_at (G := G) (V := V) (R := R) (T := T) h3 hoT
  rw [am_e4 hl] at hat
  have hlt : (Int32.ofInt i).toNatClampNeg < n := by rw [i32_clamp h0 (by omega)]; omega
  refine W.aald (v := .ref (am_ad G a + 1 + i.toNat)) (ty := .array .int) hx hb (hf.oP _ _ hat) ((hK.1.2 4 _ rfl).1 n _) rfl (fun q => by cases q) (by show ¬ (_ < 0 ∨ (arrV _ _ _).slots.size ≤ _); rw [arrV_size]; exact i32_in h0 h1 hn) (by show (arrV _ _ _).slots[_]? = _; rw [arrV_read _ _ hlt, i32_clamp h0 (by omega)]; show some (va_rf (if i.toNat < n then some (am_ad G a + 1 + i.toNat) else none)) = _; rw [if_pos (by omega)]; rfl) rfl rfl hd ?_
  exact kk la H locs (hf.pop.pop.push ⟨h3, Or.inr (by rw [hl]), by have := hf.oR.2 a hoT (Or.inr (by rw [hl])); exact this, h0, by rw [hl]; exact h1⟩)
theorem so_aaload5 {X : am_X} (cx : am_cx X) {pc : Nat} {ls : am_L} {st : List AV} {V : am_V} {R : am_T} {T cc cs : Nat} {a n w y : Nat} {i : Int} (hd : decode (am_X.bytes X) pc = .ok (.aaload, 1)) (hl : am_lay a = (5, n, w, y)) (h0 : 0 ≤ i) (h1 : i < (n : Int)) (k0 : R a i = none → am_W X (pc + 1) ls (.inr (.inr none) :: st) V R T cc cs) (k1 : ∀ x, R a i = some x → am_W X (pc + 1) ls (.inr (.inr (some (.inl x))) :: st) V R T cc cs) : am_W X pc ls (.inl i :: .inr (.inr (some (.inl a))) :: st) V R T cc cs := by
  obtain ⟨p, e, Rm, s, m, args, below, meth, c, QQ, G, own, bytes, nL, Bc, Bs, V0, T0⟩ := X
  obtain ⟨hx, hb, hml, hown, hts, hK, hRc, hRs⟩ := cx
  intro la H locs hf
  have hoT : a < T := hf.pop.ok _ List.mem_cons_self
  have hn : n < 2 ^ 31 := by have := am_len31 a; rw [hl] at this; exact this
  have h3 : 3 ≤ a := by
    match a, hl with
    | 0, h => cases h
    | 1, h => cases h
    | 2, h => cases h
    | a + 3, _ => omega
  have hat := am_ws_at (G := G) (V := V) (R := R) (T := T) h3 hoT
  rw [am_e5 hl] at hat
  refine va_aldq hx hb hK.1 hf.oP _ 5 hat rfl (i32_in h0 h1 hn) hd ?_
  rw [i32_clamp h0 (by omega), Int.toNat_of_nonneg h0]
  cases hr : R a i with
  | none => exact k0 hr la H locs (hf.pop.pop.push trivial)
  | some x => exact k1 x hr la H locs (hf.pop.pop.push (hf.oR.1 a i x hoT hr))
theorem am_upR_q {G : am_G} {R : am_T} {a : Nat} {i : Int} {x : Option Nat} (h0 : 0 ≤ i) : (fun j : Nat => (am_upR R a i x a j).map (am_ad G)) = va_up (fun j : Nat => (R a j).map (am_ad G)) i.toNat (x.map (am_ad G)) := by
  funext j
  rw [am_upR_at]
  by_cases h : j = i.toNat
  · subst h
    rw [if_pos (by omega)]
    simp [va_up]
  · rw [if_neg (by omega)]
    simp [va_up, h]
theorem am_okR_up {R : am_T} {T a : Nat} {i : Int} {x : Option Nat} (h : am_okR R T) (hx : ∀ b, x = some b → b < T) : am_okR (am_upR R a i x) T := by
  refine ⟨fun a' k b ha hb => ?_, h.2⟩
  unfold am_upR at hb
  split at hb
  · split at hb
    · exact hx b hb
    · exact h.1 a' k b ha hb
  · exact h.1 a' k b ha hb
theorem so_aastore {X : am_X} (cx : am_cx X) {pc : Nat} {ls : am_L} {st : List AV} {V : am_V} {R : am_T} {T cc cs : Nat} {a n w y q : Nat} {i : Int} (hd : decode (am_X.bytes X) pc = .ok (.aastore, 1)) (hl : am_lay a = (5, n, w, y)) (hq : (am_lay q).1 = 13) (h0 : 0 ≤ i) (h1 : i < (n : Int)) (kk : am_W X (pc + 1) ls st V (am_upR R a i (some q)) T cc cs) : am_W X pc ls (.inr (.inr (some (.inl q))) :: .inl i :: .inr (.inr (some (.inl a))) :: st) V R T cc cs := by
  obtain ⟨p, e, Rm, s, m, args, below, meth, c, QQ, G, own, bytes, nL, Bc, Bs, V0, T0⟩ := X
  obtain ⟨hx, hb, hml, hown, hts, hK, hRc, hRs⟩ := cx
  intro la H locs hf
  have hoT : a < T := hf.pop.pop.ok _ List.mem_cons_self
  have hqT : q < T := hf.ok _ List.mem_cons_self
  have hn : n < 2 ^ 31 := by have := am_len31 a; rw [hl] at this; exact this
  have h3 : 3 ≤ a := by
    match a, hl with
    | 0, h => cases h
    | 1, h => cases h
    | 2, h => cases h
    | a + 3, _ => omega
  obtain ⟨⟨kd, nq, wq, yq⟩, hlq⟩ : ∃ z, am_lay q = z := ⟨_, rfl⟩
  rw [hlq] at hq
  have hq : kd = 10 + 3 := hq
  subst hq
  obtain ⟨-, hnq, hq3⟩ := am_obj hlq
  have hat := am_ws_at (G := G) (V := V) (R := R) (T := T) h3 hoT
  rw [am_e5 hl] at hat
  have hatq := am_ws_at (G := G) (V := V) (R := R) (T := T) hq3 hqT
  rw [am_eO hlq] at hatq
  have hlt : (Int32.ofInt i).toNatClampNeg < n := by rw [i32_clamp h0 (by omega)]; omega
  obtain ⟨r', hr', cellV, g1, g2, g3, -⟩ := hf.oP _ _ hatq
  have hcls := (hK.1.1 3 _ (am_cls_at 3 (by decide))).2
  obtain ⟨kA, comp, k1, k2, k3, -⟩ := (hK.1.2 5 _ rfl).2
  have hcomp : comp = (am_G.D G).1 3 := Option.some.inj (k3.symm.trans hcls.1)
  subst hcomp
  obtain ⟨kC, hkC, -⟩ := hcls.2
  refine W.aast hx hb (hf.oP _ _ hat) (fun q h => by cases h) (fun h => by cases h) k1 k2 rfl hkC ⟨i32_nn h0 (by omega), by show _ < (arrV _ _ _).slots.size; rw [arrV_size]; exact hlt⟩ g1 (fun q h => by rw [g3] at h; cases h) (by rw [g2]; exact hkC) (by rw [g2]; exact va_assign hcls) rfl rfl hd fun H1 e z oq => ?_
  have e' : H1[am_ad G a]? = some ((vp_cell (am_G.cy G 5) (n, .inr (.inr (.inr (.inr (fun j : Nat => (R a j).map (am_ad G))))))).setSlot (Int32.ofInt i).toNatClampNeg (va_rf ((some q).map (am_ad G)))) := e
  rw [am_cell_q, i32_clamp h0 (by omega), ← am_upR_q h0] at e'
  exact kk la H1 _ (am_wr (b := a) hf.pop.pop.pop h3 hoT (fun y _ hy => am_e_off (fun _ _ => rfl) (fun q hq => am_upR_ne hq) (by rw [hl]; simp) hy) (am_okR_up hf.oR (fun b hb => by cases hb; exact hqT)) (fun _ _ => rfl) (by rw [am_e5 hl]; exact e') z oq)
theorem so_aastoreN {X : am_X} (cx : am_cx X) {pc : Nat} {ls : am_L} {st : List AV} {V : am_V} {R : am_T} {T cc cs : Nat} {a n w y : Nat} {i : Int} (hd : decode (am_X.bytes X) pc = .ok (.aastore, 1)) (hl : am_lay a = (5, n, w, y)) (h0 : 0 ≤ i) (h1 : i < (n : Int)) (kk : am_W X (pc + 1) ls st V (am_upR R a i none) T cc cs) : am_W X pc ls (.inr (.inr none) :: .inl i :: .inr (.inr (some (.inl a))) :: st) V R T cc cs := by
  obtain ⟨p, e, Rm, s, m, args, below, meth, c, QQ, G, own, bytes, nL, Bc, Bs, V0, T0⟩ := X
  obtain ⟨hx, hb, hml, hown, hts, hK, hRc, hRs⟩ := cx
  intro la H locs hf
  have hoT : a < T := hf.pop.pop.ok _ List.mem_cons_self
  have hn : n < 2 ^ 31 := by have := am_len31 a; rw [hl] at this; exact this
  have h3 : 3 ≤ a := by
    match a, hl with
    | 0, h => cases h
    | 1, h => cases h
    | 2, h => cases h
    | a + 3, _ => omega
  have hat := am_ws_at (G := G) (V := V) (R := R) (T := T) h3 hoT
  rw [am_e5 hl] at hat
  refine va_WaastN (C := RX3) hx hb (hf.oP _ _ hat) ((hK.1.2 5 _ rfl).1 n _) (fun h => by cases h) (by show ¬ (_ < 0 ∨ (arrV _ _ _).slots.size ≤ _); rw [arrV_size]; exact i32_in h0 h1 hn) rfl rfl hd fun H1 e z oq => ?_
  have e' : H1[am_ad G a]? = some ((vp_cell (am_G.cy G 5) (n, .inr (.inr (.inr (.inr (fun j : Nat => (R a j).map (am_ad G))))))).setSlot (Int32.ofInt i).toNatClampNeg (va_rf ((none : Option Nat).map (am_ad G)))) := e
  rw [am_cell_q, i32_clamp h0 (by omega), ← am_upR_q h0] at e'
  exact kk la H1 _ (am_wr (b := a) hf.pop.pop.pop h3 hoT (fun y _ hy => am_e_off (fun _ _ => rfl) (fun q hq => am_upR_ne hq) (by rw [hl]; simp) hy) (am_okR_up hf.oR (fun b hb => by cases hb)) (fun _ _ => rfl) (by rw [am_e5 hl]; exact e') z oq)
theorem am_ofNat (n : Nat) : Int32.ofNat n = Int32.ofInt (n : Int) := (Int32.ofInt_eq_ofNat).symm
/-- lengths -/
theorem so_alen {X : am_X} (cx : am_cx X) {pc : Nat} {ls : am_L} {st : List AV} {V : am_V} {R : am_T} {T cc cs : Nat} {a kd n w y : Nat} (hd : decode (am_X.bytes X) pc = .ok (.arraylength, 1)) (hl : am_lay a = (kd, n, w, y)) (hkd : kd ≤ 5) (k0 : a = 0 → am_W X (pc + 1) ls (.inl (V 0 (-1)) :: st) V R T cc cs) (k1 : a ≠ 0 → am_W X (pc + 1) ls (.inl (n : Int) :: st) V R T cc cs) : am_W X pc ls (.inr (.inr (some (.inl a))) :: st) V R T cc cs := by
  obtain ⟨p, e, Rm, s, m, args, below, meth, c, QQ, G, own, bytes, nL, Bc, Bs, V0, T0⟩ := X
  obtain ⟨hx, hb, hml, hown, hts, hK, hRc, hRs⟩ := cx
  intro la H locs hf
  have hoT : a < T := hf.ok _ List.mem_cons_self
  match a, hl, hoT, k0, k1 with
  | 0, hl, hoT, k0, k1 =>
    have eV := hf.oV 0 (by decide)
    obtain ⟨hz0, hz1⟩ := hK.2.2.2.2.2.2.1
    refine va_tlen (v := Int32.ofInt (V 0 (-1))) hx hb hK.2.2.2.2.2.2.2.1 hf.oS (by rw [am_ofNat, eV, Int.toNat_of_nonneg hz0]) hd ?_
    exact k0 rfl la H locs (hf.pop.push trivial)
  | 1, hl, hoT, k0, k1 =>
    cases hl
    refine va_tlen (v := Int32.ofInt 11) hx hb hK.2.2.2.2.2.2.2.2.1 hf.oS rfl hd ?_
    exact k1 (by decide) la H locs (hf.pop.push trivial)
  | 2, hl, hoT, k0, k1 =>
    cases hl
    refine va_tlen (v := Int32.ofInt 11) hx hb hK.2.2.2.2.2.2.2.2.2 hf.oS rfl hd ?_
    exact k1 (by decide) la H locs (hf.pop.push trivial)
  | a + 3, hl, hoT, k0, k1 =>
    have hat := am_ws_at (G := G) (V := V) (R := R) (T := T) (a := a + 3) (by omega) hoT
    have go := k1 (by omega) la H locs (hf.pop.push trivial)
    match kd, hkd, hl with
    | 0, _, hl => rw [am_e0 hl] at hat; exact va_alen hx hb hK.1 hf.oP _ 0 hat rfl (am_ofNat n) hd go
    | 1, _, hl => rw [am_e1 hl] at hat; exact va_alen hx hb hK.1 hf.oP _ 1 hat rfl (am_ofNat n) hd go
    | 2, _, hl => rw [am_e2 hl] at hat; exact va_alen hx hb hK.1 hf.oP _ 2 hat rfl (am_ofNat n) hd go
    | 3, _, hl => rw [am_e3 hl] at hat; exact va_alen hx hb hK.1 hf.oP _ 3 hat rfl (am_ofNat n) hd go
    | 4, _, hl => rw [am_e4 hl] at hat; exact va_alen hx hb hK.1 hf.oP _ 4 hat rfl (am_ofNat n) hd go
    | 5, _, hl => rw [am_e5 hl] at hat; exact va_alen hx hb hK.1 hf.oP _ 5 hat rfl (am_ofNat n) hd go
    | k + 6, h, _ => exact absurd h (by omega)
theorem so_alenR {X : am_X} (cx : am_cx X) {pc : Nat} {ls : am_L} {st : List AV} {V : am_V} {R : am_T} {T cc cs : Nat} {a kd n w y : Nat} {q : Int} (hd : decode (am_X.bytes X) pc = .ok (.arraylength, 1)) (hl : am_lay a = (kd, n, w, y)) (k1 : am_W X (pc + 1) ls (.inl (w : Int) :: st) V R T cc cs) : am_W X pc ls (.inr (.inr (some (.inr (a, q)))) :: st) V R T cc cs := by
  obtain ⟨p, e, Rm, s, m, args, below, meth, c, QQ, G, own, bytes, nL, Bc, Bs, V0, T0⟩ := X
  obtain ⟨hx, hb, hml, hown, hts, hK, hRc, hRs⟩ := cx
  intro la H locs hf
  have ho := hf.ok _ List.mem_cons_self
  obtain ⟨c1, c2, c3, c4⟩ := am_rowcell (G := G) ho
  have hat := am_ws_at (G := G) (V := V) (R := R) (T := T) c2 c3
  have go := k1 la H locs (hf.pop.push trivial)
  have hkd : kd = 3 ∨ kd = 4 := by have := ho.2.1; rw [hl] at this; exact this
  rcases hkd with rfl | rfl
  · obtain ⟨r1, r2⟩ := am_row3 ho hl
    rw [am_e6 r1, ← c1] at hat
    exact va_alen hx hb hK.1 hf.oP _ 1 hat rfl (am_ofNat w) hd go
  · obtain ⟨r1, r2⟩ := am_row4 ho hl
    rw [am_e7 r1, ← c1] at hat
    exact va_alen hx hb hK.1 hf.oP _ 0 hat rfl (am_ofNat w) hd go
end
section
/-! new cells -/
theorem am_e_new {G : am_G} {V V' : am_V} {R R' : am_T} {T b : Nat} (hV : ∀ x, x ≠ T → V' x = V x) (hR : ∀ x, x ≠ T → R' x = R x) (hb : b < T) : am_e G V' R' b = am_e G V R b := by
  have e1 := hV b (by omega)
  have e2 := hR b (by omega)
  have key : ∀ k n o i, am_lay b = (k, n, o, i) → (k = 6 ∨ k = 7) → V' o = V o := by
    intro k n o i h hk
    apply hV
    have h1 := (am_row_of h hk).1
    omega
  have fe : ∀ c, am_fv G V' R' c b = am_fv G V R c b := by
    intro c
    funext j
    unfold am_fv
    rw [e1, e2]
  unfold am_e
  split <;> rename_i h
  · rw [e1]
  · rw [e1]
  · rw [e1]
  · rfl
  · rfl
  · rw [e2]
  · rw [key _ _ _ _ h (Or.inl rfl)]
  · rw [key _ _ _ _ h (Or.inr rfl)]
  · rw [fe]
theorem am_gr {G : am_G} {s : State} {V0 : am_V} {T0 nL Bc Bs : Nat} {ls : am_L} {st : List AV} {V V' : am_V} {R R' : am_T} {T cc cs cc' cs' : Nat} {la : Array Slot} {H H1 : Heap} {locs : List Loc} (hf : am_fr G s V0 T0 nL Bc Bs ls st V R T cc cs la H locs) (n : Nat) (z : H1.size = H.size + n) (o1 : ∀ q, q < H.size → H1[q]? = H[q]?) (e : ∀ j, j < n → va_at (am_G.D G) am_cls (am_ad G (T + j), am_e G V' R' (T + j)) H1) (ho : ∀ b, b < T → am_e G V' R' b = am_e G V R b) (hV : ∀ x, x < 3 → V' x = V x) (hR : am_okR R' (T + n)) (hB : cc' ≤ Bc ∧ cs' ≤ Bs) : am_fr G s V0 T0 nL Bc Bs ls st V' R' (T + n) cc' cs' la H1 locs := by
  have h3 := hf.T3
  have hsz := hf.sz
  refine ⟨by rw [z, hsz]; omega, hf.2.1, Nat.le_trans hf.2.2.1 (Nat.le_add_right _ _), fun k q hk => ?_, ⟨Nat.le_trans hf.oS.1 (by omega), fun q h1 h2 => ?_, hf.oS.2.2⟩, hR, fun x hx => (hV x hx).trans (hf.oV x hx), hf.oL.mono (Nat.le_add_right _ _), fun v hv => (hf.ok v hv).mono (Nat.le_add_right _ _), hB⟩
  · obtain ⟨hl, rfl⟩ := am_ws_of hk
    by_cases hlt : k < T - 3
    · have hat := am_ws_at (G := G) (V := V) (R := R) (T := T) (a := k + 3) (by omega) (by omega)
      rw [show k + 3 - 3 = k by omega] at hat
      have h1 := hf.oP _ _ hat
      rw [am_ad_ge (by omega), show k + 3 - 3 = k by omega, ← ho (k + 3) (by omega)] at h1
      refine h1.kept (o1 _ ?_)
      show am_G.b G + k < H.size
      omega
    · have h1 := e (k + 3 - T) (by omega)
      rw [show T + (k + 3 - T) = k + 3 by omega, am_ad_ge (by omega), show k + 3 - 3 = k by omega] at h1
      exact h1
  · rw [o1 q (Nat.lt_of_lt_of_le h1 hf.oS.1)]
    exact hf.oS.2.1 q h1 h2
theorem am_okR_new {R R' : am_T} {T : Nat} (h : am_okR R T) (hR : ∀ x, x ≠ T → R' x = R x) (hT : ∀ k, R' T k = none) (hk : (am_lay T).1 ≠ 3 ∧ (am_lay T).1 ≠ 4) : am_okR R' (T + 1) := by
  refine ⟨fun a k b ha hb => ?_, fun a ha hk' => ?_⟩
  · by_cases e : a = T
    · subst e
      rw [hT] at hb
      cases hb
    · rw [hR a e] at hb
      have := h.1 a k b (by omega) hb
      omega
  · by_cases e : a = T
    · subst e
      exact absurd hk' (by rintro (q | q); exact hk.1 q; exact hk.2 q)
    · have := h.2 a (by omega) hk'
      omega
theorem am_fv_zero {G : am_G} {V : am_V} {R : am_T} {c T j : Nat} (hj : am_fk c j ≠ 9) : am_fv G (am_zero V T) (am_zeroR R T) c T j = defaultValue (am_ty c j) := by
  unfold am_fv am_fk at *
  cases h : am_ty c j <;> rw [h] at hj <;> simp [am_zero_at, am_zeroR_at, defaultValue, va_rf] at hj ⊢ <;> rfl
theorem am_fk9 : (List.range 6).all (fun c => (List.range (am_NN c)).all (fun j => decide (am_fk c j ≠ 9))) = true := by decide +kernel
theorem so_new {X : am_X} (cx : am_cx X) {pc : Nat} {ls : am_L} {st : List AV} {V : am_V} {R : am_T} {T cc cs : Nat} {i c n w y w1 w2 w3 : Nat} (hd : decode (am_X.bytes X) pc = .ok (.new i, 3)) (hl : am_lay T = (10 + c, n, w, y)) (h1 : lw_tbl[w1]? = some (.classLink (am_X.own X) i (am_RR c))) (h2 : lw_tbl[w2]? = some (.instantiable (am_RR c) (am_NN c))) (h3 : lw_tbl[w3]? = some (.initialized (am_RR c))) (hB : cc + 1 ≤ (am_X.Rm X).cells ∧ cs + n ≤ (am_X.Rm X).slots) (kk : am_W X (pc + 3) ls (.inr (.inr (some (.inl T))) :: st) (am_zero V T) (am_zeroR R T) (T + 1) (cc + 1) (cs + n)) : am_W X pc ls st V R T cc cs := by
  obtain ⟨p, e, Rm, s, m, args, below, meth, cd, QQ, G, own, bytes, nL, Bc, Bs, V0, T0⟩ := X
  obtain ⟨hx, hb, hml, hown, hts, hK, hRc, hRs⟩ := cx
  intro la H locs hf
  obtain ⟨hc, hn, hT3⟩ := am_obj hl
  subst hn
  have hcl := am_cls_at c hc
  have hKn := hK.1.1 c _ hcl
  have hR9 : ∀ j, j < am_NN c → am_fk c j ≠ 9 := fun j hj => by
    have := List.all_eq_true.mp (List.all_eq_true.mp am_fk9 c (List.mem_range.mpr hc)) j (List.mem_range.mpr hj)
    simpa using this
  have hHs : H.size = am_ad G T := by rw [am_ad_ge hT3]; exact hf.sz
  refine W.newcK hx hb hown (hts _ (List.mem_of_getElem? h1) rfl) (hts _ (List.mem_of_getElem? h2) rfl) (hts _ (List.mem_of_getElem? h3) rfl) rfl hd hB.1 hB.2 hKn.2.1 rfl fun H1 kC hkC e1 z1 o1 => ?_
  have hf2 : am_fr G s V0 T0 nL Bc Bs ls st (am_zero V T) (am_zeroR R T) (T + 1) (cc + 1) (cs + am_NN c) la H1 locs := by
    refine am_gr hf 1 z1 o1 (fun j hj => ?_) (fun b hb => am_e_new (fun x hx => am_zero_ne hx) (fun x hx => am_zeroR_ne hx) hb) (fun x hx => am_zero_ne (by omega)) (am_okR_new hf.oR (fun x hx => am_zeroR_ne hx) (fun k => am_zeroR_at) (by rw [hl]; constructor <;> (intro z; simp at z; omega))) ⟨by rw [← hRc]; exact hB.1, by rw [← hRs]; exact hB.2⟩
    have hj0 : j = 0 := by omega
    subst hj0
    rw [Nat.add_zero, am_eO hl, ← hHs]
    refine ⟨_, hcl, (u_born (am_ty c) (am_hts hts) (am_inc c hc) hKn hkC e1 (am_tyok c hc)).to (fun j hj => ?_)⟩
    unfold vp_V
    rw [List.getD_eq_getElem?_getD, am_fld hj]
    exact (am_fv_zero (hR9 j hj)).symm
  have hst : (.ref H.size :: st.map (am_cv G)) = (.inr (.inr (some (.inl T))) :: st : List AV).map (am_cv G) := by rw [hHs]; rfl
  have := kk la H1 locs (hf2.push (Nat.lt_succ_self T))
  rw [← hst] at this
  exact this
theorem so_newarray {X : am_X} (cx : am_cx X) {pc : Nat} {ls : am_L} {st : List AV} {V : am_V} {R : am_T} {T cc cs : Nat} {at_ : ArrayType} {kd n w y w1 : Nat} (hd : decode (am_X.bytes X) pc = .ok (.newarray at_, 2)) (hl : am_lay T = (kd, n, w, y)) (hk : (kd = 0 ∧ at_ = .int) ∨ (kd = 1 ∧ at_ = .long) ∨ (kd = 2 ∧ at_ = .boolean)) (h1 : lw_tbl[w1]? = some (.arrayClass (newarray.typeOf at_))) (hB : cc + 1 ≤ (am_X.Rm X).cells ∧ cs + n ≤ (am_X.Rm X).slots) (kk : am_W X (pc + 2) ls (.inr (.inr (some (.inl T))) :: st) (am_zero V T) (am_zeroR R T) (T + 1) (cc + 1) (cs + n)) : am_W X pc ls (.inl (n : Int) :: st) V R T cc cs := by
  obtain ⟨p, e, Rm, s, m, args, below, meth, cd, QQ, G, own, bytes, nL, Bc, Bs, V0, T0⟩ := X
  obtain ⟨hx, hb, hml, hown, hts, hK, hRc, hRs⟩ := cx
  intro la H locs hf
  have hn : n < 3000 := by have := (am_lay_len T).1; rw [hl] at this; exact this
  have hT3 := hf.T3
  have hHs : H.size = am_ad G T := by rw [am_ad_ge hT3]; exact hf.sz
  have hby : n * componentBytes (newarray.typeOf at_) ≤ 536870912 := by
    have : componentBytes (newarray.typeOf at_) ≤ 8 := by cases at_ <;> decide
    have := Nat.mul_le_mul (Nat.le_of_lt hn) this
    omega
  refine va_newaK (N := n) hx hb (hts _ (List.mem_of_getElem? h1) rfl) rfl hd rfl (i32_nn (by omega) (by omega)) (by rw [i32_clamp (by omega) (by omega)]; omega) hby hB.1 hB.2 rfl fun H1 cA e1 z1 o1 hAr hNm => ?_
  have hf2 : am_fr G s V0 T0 nL Bc Bs ls st (am_zero V T) (am_zeroR R T) (T + 1) (cc + 1) (cs + n) la H1 locs := by
    refine am_gr hf.pop 1 z1 o1 (fun j hj => ?_) (fun b hb => am_e_new (fun x hx => am_zero_ne hx) (fun x hx => am_zeroR_ne hx) hb) (fun x hx => am_zero_ne (by omega)) (am_okR_new hf.oR (fun x hx => am_zeroR_ne hx) (fun k => am_zeroR_at) (by rw [hl]; rcases hk with ⟨rfl, -⟩ | ⟨rfl, -⟩ | ⟨rfl, -⟩ <;> simp)) ⟨by rw [← hRc]; exact hB.1, by rw [← hRs]; exact hB.2⟩
    have hj0 : j = 0 := by omega
    subst hj0
    rw [Nat.add_zero, ← hHs]
    rcases hk with ⟨rfl, rfl⟩ | ⟨rfl, rfl⟩ | ⟨rfl, rfl⟩
    · have ec : cA = am_G.cy G 0 := Option.some.inj (hNm.symm.trans (hK.1.2 0 _ rfl).2)
      subst ec
      rw [am_e0 hl]
      show H1[H.size]? = some (vp_cell _ _)
      rw [e1, vp_cell_i]
      congr 2
      funext j
      rw [am_zero_at]
      rfl
    · have ec : cA = am_G.cy G 1 := Option.some.inj (hNm.symm.trans (hK.1.2 1 _ rfl).2)
      subst ec
      rw [am_e1 hl]
      show H1[H.size]? = some (vp_cell _ _)
      rw [e1, vp_cell_l]
      congr 2
      funext j
      rw [am_zero_at]
      rfl
    · have ec : cA = am_G.cy G 2 := Option.some.inj (hNm.symm.trans (hK.1.2 2 _ rfl).2)
      subst ec
      rw [am_e2 hl]
      show H1[H.size]? = some (vp_cell _ _)
      rw [e1, vp_cell_i]
      congr 2
      funext j
      rw [am_zero_at]
      rfl
  have hst : (.ref H.size :: st.map (am_cv G)) = (.inr (.inr (some (.inl T))) :: st : List AV).map (am_cv G) := by rw [hHs]; rfl
  have := kk la H1 locs (hf2.push (Nat.lt_succ_self T))
  rw [← hst] at this
  exact this
theorem so_anewarray {X : am_X} (cx : am_cx X) {pc : Nat} {ls : am_L} {st : List AV} {V : am_V} {R : am_T} {T cc cs : Nat} {i n w y w1 : Nat} (hd : decode (am_X.bytes X) pc = .ok (.anewarray i, 3)) (hl : am_lay T = (5, n, w, y)) (h1 : lw_tbl[w1]? = some (.classLink (am_X.own X) i RX3)) (hB : cc + 1 ≤ (am_X.Rm X).cells ∧ cs + n ≤ (am_X.Rm X).slots) (kk : am_W X (pc + 3) ls (.inr (.inr (some (.inl T))) :: st) V (am_zeroR R T) (T + 1) (cc + 1) (cs + n)) : am_W X pc ls (.inl (n : Int) :: st) V R T cc cs := by
  obtain ⟨p, e, Rm, s, m, args, below, meth, cd, QQ, G, own, bytes, nL, Bc, Bs, V0, T0⟩ := X
  obtain ⟨hx, hb, hml, hown, hts, hK, hRc, hRs⟩ := cx
  intro la H locs hf
  have hn : n < 3000 := by have := (am_lay_len T).1; rw [hl] at this; exact this
  have hT3 := hf.T3
  have hHs : H.size = am_ad G T := by rw [am_ad_ge hT3]; exact hf.sz
  have hcn : (Int32.ofInt (n : Int)).toNatClampNeg = n := by rw [i32_clamp (by omega) (by omega)]; omega
  refine W.anew hx hb hown (hts _ (List.mem_of_getElem? h1) rfl) (va_AO.use hK.2.1) rfl hd rfl (i32_nn (by omega) (by omega)) (by rw [hcn]; omega) hB.1 (by rw [hcn]; exact hB.2) fun cA kA comp f1 f2 f3 f4 => ?_
  rw [hcn]
  generalize hH1 : H.push ({ cls := cA, slots := Array.replicate n .null, vm := .none } : Cell) = H1
  have z1 : H1.size = H.size + 1 := by rw [← hH1, Array.size_push]
  have e1 : H1[H.size]? = some (arrV cA n (fun _ => .null)) := by rw [← hH1, Array.getElem?_push_size, ← arrV_new]
  have o1 : ∀ q : Nat, q < H.size → H1[q]? = H[q]? := fun q hq => by rw [← hH1, Array.getElem?_push, if_neg (Nat.ne_of_lt hq)]
  have hf2 : am_fr G s V0 T0 nL Bc Bs ls st V (am_zeroR R T) (T + 1) (cc + 1) (cs + n) la H1 locs := by
    refine am_gr hf.pop 1 z1 o1 (fun j hj => ?_) (fun b hb => am_e_new (fun x hx => rfl) (fun x hx => am_zeroR_ne hx) hb) (fun x hx => rfl) (am_okR_new hf.oR (fun x hx => am_zeroR_ne hx) (fun k => am_zeroR_at) (by rw [hl]; simp)) ⟨by rw [← hRc]; exact hB.1, by rw [← hRs]; exact hB.2⟩
    have hj0 : j = 0 := by omega
    subst hj0
    rw [Nat.add_zero, ← hHs]
    have ec : cA = am_G.cy G 5 := by
      obtain ⟨_, _, -, -, -, h4⟩ := (hK.1.2 5 _ rfl).2
      exact Option.some.inj (f1.symm.trans h4)
    subst ec
    rw [am_e5 hl]
    show H1[H.size]? = some (vp_cell _ _)
    rw [e1, vp_cell_q]
    congr 2
    funext j
    rw [am_zeroR_at]
    rfl
  have hst : (.ref H.size :: st.map (am_cv G)) = (.inr (.inr (some (.inl T))) :: st : List AV).map (am_cv G) := by rw [hHs]; rfl
  have := kk la H1 locs (hf2.push (Nat.lt_succ_self T))
  rw [← hst] at this
  exact this
end
section
theorem am_smallw : (List.range 107).all (fun a => decide ((am_lay a).2.2.1 < 3000)) = true := by decide +kernel
theorem am_lay_w (a : Nat) : (am_lay a).2.2.1 < 3000 := by
  rcases Nat.lt_or_ge a 107 with q | q
  · simpa using List.all_eq_true.mp am_smallw a (List.mem_range.mpr q)
  · rcases am_lay_hi q with r | r <;> rw [r] <;> decide
theorem am_zeroRn_lo {R : am_T} {T n b : Nat} (h : b < T) : am_zeroRn R T n b = R b := by
  funext j
  unfold am_zeroRn
  rw [if_neg (by omega)]
theorem am_e_newL {G : am_G} {V V' : am_V} {R R' : am_T} {T b : Nat} (hV : ∀ x, x < T → V' x = V x) (hR : ∀ x, x < T → R' x = R x) (hb : b < T) : am_e G V' R' b = am_e G V R b := by
  have e1 := hV b hb
  have e2 := hR b hb
  have key : ∀ k n o i, am_lay b = (k, n, o, i) → (k = 6 ∨ k = 7) → V' o = V o := by
    intro k n o i h hk
    apply hV
    have h1 := (am_row_of h hk).1
    omega
  have fe : ∀ c, am_fv G V' R' c b = am_fv G V R c b := by
    intro c
    funext j
    unfold am_fv
    rw [e1, e2]
  unfold am_e
  split <;> rename_i h
  · rw [e1]
  · rw [e1]
  · rw [e1]
  · rfl
  · rfl
  · rw [e2]
  · rw [key _ _ _ _ h (Or.inl rfl)]
  · rw [key _ _ _ _ h (Or.inr rfl)]
  · rw [fe]
theorem vr_outer (c : ClassId) (N h0 : Nat) : ∀ i : Nat, Jvm.Free.Multi.outerC c N h0 i = arrV c N (fun j => va_rf (if j < i then some (h0 + 1 + j) else none))
  | 0 => by
    show ({ cls := c, slots := Array.replicate N .null, vm := .none } : Cell) = _
    rw [arrV_new]
    refine congrArg (arrV c N) (funext fun j => ?_)
    simp [va_rf]
  | i + 1 => by
    show (Jvm.Free.Multi.outerC c N h0 i).setSlot i (.ref (h0 + 1 + i)) = _
    rw [vr_outer c N h0 i, arrV_store]
    refine congrArg (arrV c N) (funext fun j => ?_)
    by_cases e : j = i
    · subst e
      simp [updV, va_rf]
    · by_cases h : j < i
      · simp [updV, e, h, Nat.lt_succ_of_lt h]
      · simp [updV, e, h, show ¬ j < i + 1 by omega]
/-- a table of numbers -/
theorem so_multi {X : am_X} (cx : am_cx X) {pc : Nat} {ls : am_L} {st : List AV} {V : am_V} {R : am_T} {T cc cs : Nat} {i kd n w y w1 w2 : Nat} {ty : FieldType} (hd : decode (am_X.bytes X) pc = .ok (.multianewarray i 2, 4)) (hl : am_lay T = (kd, n, w, y)) (hk : (kd = 3 ∧ ty = .long) ∨ (kd = 4 ∧ ty = .int)) (h1 : lw_tbl[w1]? = some (.classLink (am_X.own X) i ("[" ++ (FieldType.array ty).toString))) (h2 : lw_tbl[w2]? = some (.arrayClass ty)) (hB : cc + (1 + n) ≤ (am_X.Rm X).cells ∧ cs + (n + n * w) ≤ (am_X.Rm X).slots) (kk : am_W X (pc + 4) ls (.inr (.inr (some (.inl T))) :: st) (am_zero V T) (am_zeroRn R T (1 + n)) (T + (1 + n)) (cc + (1 + n)) (cs + (n + n * w))) : am_W X pc ls (.inl (w : Int) :: .inl (n : Int) :: st) V R T cc cs := by
  obtain ⟨p, e, Rm, s, m, args, below, meth, cd, QQ, G, own, bytes, nL, Bc, Bs, V0, T0⟩ := X
  obtain ⟨hx, hb, hml, hown, hts, hK, hRc, hRs⟩ := cx
  intro la H locs hf
  have hkd : (am_lay T).1 = 3 ∨ (am_lay T).1 = 4 := by rw [hl]; rcases hk with ⟨rfl, -⟩ | ⟨rfl, -⟩ <;> simp
  have hn : n ≤ 64 := by have := (am_lay_len T).2.2 hkd; rw [hl] at this; exact this
  have hT3 := hf.T3
  have hHs : H.size = am_ad G T := by rw [am_ad_ge hT3]; exact hf.sz
  have hrow : ∀ j, j < n → am_lay (T + 1 + j) = (kd + 3, w, T, j) ∧ w ≤ 64 := fun j hj => by
    rcases hk with ⟨rfl, -⟩ | ⟨rfl, -⟩
    · exact am_grid3 hl hj hn
    · exact am_grid4 hl hj hn
  have hw : w ≤ 64 ∨ n = 0 := by
    cases n with
    | zero => exact Or.inr rfl
    | succ n => exact Or.inl (hrow 0 (by omega)).2
  have hover : (Jvm.Cond.arrayOver (.array ty)).before args s = true := by
    rcases hk with ⟨-, rfl⟩ | ⟨-, rfl⟩
    · exact hK.2.2.1
    · exact hK.2.2.2.1
  intro T' hT' Xs
  have hcn : (Int32.ofInt (n : Int)).toNatClampNeg = n := by rw [i32_clamp (by omega) (by omega)]; omega
  have hw3 : w < 3000 := by
    have := am_lay_w T
    rw [hl] at this
    exact this
  have hcw : (Int32.ofInt (w : Int)).toNatClampNeg = w := by rw [i32_clamp (by omega) (by omega)]; omega
  have hby : w * componentBytes ty ≤ 536870912 := by
    have : componentBytes ty ≤ 8 := by rcases hk with ⟨-, rfl⟩ | ⟨-, rfl⟩ <;> decide
    have := Nat.mul_le_mul (Nat.le_of_lt hw3) this
    omega
  obtain ⟨vm₁, cA, comp, -, fA, fC, hO, -, X', step⟩ := Xs.multianewarray2F hx hown (hts _ (List.mem_of_getElem? h1) rfl) hover (hts _ (List.mem_of_getElem? h2) rfl) (g := F0 m pc la (.int (Int32.ofInt (w : Int)) :: .int (Int32.ofInt (n : Int)) :: st.map (am_cv G))) rfl (by rw [hb]; exact hd) rfl (i32_nn (by omega) (by omega)) (i32_nn (by omega) (by omega)) (by rw [hcn]; omega) (by rw [hcw]; exact hby) (by rw [hcw]; omega) (by rcases hk with ⟨-, rfl⟩ | ⟨-, rfl⟩ <;> rfl) (by rcases hk with ⟨-, rfl⟩ | ⟨-, rfl⟩ <;> rfl) (by rw [hcn]; exact hB.1) (by rw [hcn, hcw]; exact hB.2)
  rw [hcn, hcw] at X' step
  generalize hF : Jvm.Free.Multi.fill (T'.setVm vm₁) cA comp n w (defaultValue ty) n = F at X' step
  have hTh : (T'.setVm vm₁).heap = H := hT'
  obtain ⟨f1, f2, -, -⟩ := Jvm.Free.Multi.fill_facts (T'.setVm vm₁) cA comp n w (defaultValue ty) n
  rw [hF, hTh] at f1 f2
  have hold : ∀ x : Nat, x < H.size → F.heap[x]? = H[x]? := fun x hx => by
    have := Jvm.Free.Multi.fill_old (T'.setVm vm₁) cA comp n w (defaultValue ty) (a := x) (by rw [hTh]; exact hx) n
    rw [hF, hTh] at this
    exact this
  have hinner : ∀ j : Nat, j < n → F.heap[H.size + 1 + j]? = some (Jvm.Free.Multi.innerC comp w (defaultValue ty)) := fun j hj => by
    have := Jvm.Free.Multi.fill_inner (T'.setVm vm₁) cA comp n w (defaultValue ty) n j hj
    rw [hF, hTh] at this
    exact this
  rw [vr_outer cA n H.size n] at f2
  have hf2 : am_fr G s V0 T0 nL Bc Bs ls st (am_zero V T) (am_zeroRn R T (1 + n)) (T + (1 + n)) (cc + (1 + n)) (cs + (n + n * w)) la F.heap locs := by
    refine am_gr hf.pop.pop (1 + n) (by rw [f1]; omega) hold (fun j hj => ?_) (fun b hb => am_e_newL (fun x hx => am_zero_ne (by omega)) (fun x hx => am_zeroRn_lo hx) hb) (fun x hx => am_zero_ne (by omega)) ⟨fun a k b ha hb => ?_, fun a ha hk' => ?_⟩ ⟨by rw [← hRc]; exact hB.1, by rw [← hRs]; exact hB.2⟩
    · cases j with
      | zero =>
        rw [Nat.add_zero, ← hHs]
        rcases hk with ⟨rfl, rfl⟩ | ⟨rfl, rfl⟩
        · have ec : cA = am_G.cy G 3 := Option.some.inj (fA.symm.trans (hK.1.2 3 _ rfl).2)
          subst ec
          rw [am_e3 hl]
          show F.heap[H.size]? = some (vp_cell _ _)
          rw [f2, vp_cell_q, hHs]
        · have ec : cA = am_G.cy G 4 := Option.some.inj (fA.symm.trans (hK.1.2 4 _ rfl).2)
          subst ec
          rw [am_e4 hl]
          show F.heap[H.size]? = some (vp_cell _ _)
          rw [f2, vp_cell_q, hHs]
      | succ j =>
        have hj : j < n := by omega
        have hr := (hrow j hj).1
        have ead : am_ad G (T + (j + 1)) = H.size + 1 + j := by rw [hHs, am_ad_ge (by omega), am_ad_ge hT3]; omega
        rw [ead, show T + (j + 1) = T + 1 + j by omega]
        rcases hk with ⟨rfl, rfl⟩ | ⟨rfl, rfl⟩
        · have ec : comp = am_G.cy G 1 := Option.some.inj (fC.symm.trans (hK.1.2 1 _ rfl).2)
          subst ec
          rw [am_e6 hr]
          show F.heap[H.size + 1 + j]? = some (vp_cell _ _)
          rw [hinner j hj, vp_cell_l]
          show some ({ cls := am_G.cy G 1, slots := Array.replicate w (.long 0), vm := .none } : Cell) = _
          rw [arrV_new]
          congr 2
          funext z
          rw [am_zero_at]
          split <;> rfl
        · have ec : comp = am_G.cy G 0 := Option.some.inj (fC.symm.trans (hK.1.2 0 _ rfl).2)
          subst ec
          rw [am_e7 hr]
          show F.heap[H.size + 1 + j]? = some (vp_cell _ _)
          rw [hinner j hj, vp_cell_i]
          show some ({ cls := am_G.cy G 0, slots := Array.replicate w (.int 0), vm := .none } : Cell) = _
          rw [arrV_new]
          congr 2
          funext z
          rw [am_zero_at]
          split <;> rfl
    · by_cases e9 : a < T
      · rw [am_zeroRn_lo e9] at hb
        have := hf.oR.1 a k b e9 hb
        omega
      · unfold am_zeroRn at hb
        rw [if_pos ⟨by omega, by omega⟩] at hb
        cases hb
    · by_cases e9 : a < T
      · have := hf.oR.2 a e9 hk'
        omega
      · by_cases e8 : a = T
        · subst e8
          rw [hl]
          show a + n < a + (1 + n)
          omega
        · have hr := (hrow (a - T - 1) (by omega)).1
          rw [show T + 1 + (a - T - 1) = a by omega] at hr
          rw [hr] at hk'
          rcases hk with ⟨rfl, -⟩ | ⟨rfl, -⟩ <;> simp at hk'
  have hst : (.ref H.size :: st.map (am_cv G)) = (.inr (.inr (some (.inl T))) :: st : List AV).map (am_cv G) := by rw [hHs]; rfl
  have k2 := kk la F.heap locs (hf2.push (by show T < T + (1 + n); omega))
  rw [← hst] at k2
  obtain ⟨t, a1, b1⟩ := k2 F rfl (by
    have := X'
    rw [show cc + 1 + n = cc + (1 + n) by omega, show cs + n + n * w = cs + (n + n * w) by omega] at this
    exact this)
  refine ⟨t, step t ?_, b1⟩
  have e : T'.heap.size = H.size := by rw [hT']
  rw [e]
  exact a1
end
section
/-! System.arraycopy, Object's constructor -/
theorem am_src {G : am_G} {T : Nat} {r : am_Ref} {m : Int} {k : Nat → Int → Prop} (V : am_V) (R : am_T) (ho : am_okv T (.inr (.inr r))) (h : am_seg r m k) : ∃ (a : Nat) (off : Int) (b n : Nat) (f : Nat → Int64), k a off ∧ 3 ≤ b ∧ b < T ∧ am_cv G (.inr (.inr r)) = .ref (am_ad G b) ∧ m ≤ (n : Int) ∧ n < 2 ^ 31 ∧ am_e G V R b = .inl (am_G.cy G 1, n, .inr (.inl f)) ∧ ∀ j : Nat, j < n → f j = Int64.ofInt (V a (off + j)) := by
  match r, ho, h with
  | none, _, h => exact False.elim h
  | some (.inl a), ho, h =>
    simp only [am_seg] at h
    obtain ⟨⟨kd, n, w, x⟩, hl⟩ : ∃ q, am_lay a = q := ⟨_, rfl⟩
    rw [hl] at h
    obtain ⟨hkd, h1, h2⟩ := am_if_of h
    have hkd := Nat.eq_of_beq_eq_true hkd
    subst hkd
    have hn : n < 2 ^ 31 := by have := am_len31 a; rw [hl] at this; exact this
    have h3 : 3 ≤ a := by
      match a, hl with
      | 0, h => cases h
      | 1, h => cases h
      | 2, h => cases h
      | a + 3, _ => omega
    exact ⟨a, 0, a, n, _, h2, h3, ho, rfl, h1, hn, am_e1 hl, fun j _ => by rw [Int.zero_add]⟩
  | some (.inr (a, q)), ho, h =>
    simp only [am_seg] at h
    obtain ⟨⟨kd, n, w, x⟩, hl⟩ : ∃ q, am_lay a = q := ⟨_, rfl⟩
    rw [hl] at h
    obtain ⟨hkd, h1, h2⟩ := am_if_of h
    have hkd := Nat.eq_of_beq_eq_true hkd
    subst hkd
    obtain ⟨c1, c2, c3, c4⟩ := am_rowcell (G := G) ho
    obtain ⟨r1, r2⟩ := am_row3 ho hl
    have hq : (q.toNat : Int) = q := Int.toNat_of_nonneg ho.2.2.2.1
    exact ⟨a, 64 * q, a + 1 + q.toNat, w, _, h2, c2, c3, by rw [← c1]; rfl, h1, by omega, am_e6 r1, fun j hj => by rw [if_pos hj, hq]⟩
theorem am_cpy_ne {V : am_V} {p q x : Nat} {sp dp n : Int} (h : x ≠ q) : am_cpy V p sp q dp n x = V x := by funext j; unfold am_cpy; rw [if_neg h]
theorem am_cpy_at {V : am_V} {p q : Nat} {sp dp n j : Int} : am_cpy V p sp q dp n q j = if dp ≤ j ∧ j < dp + n then V p (sp + (j - dp)) else V q j := by unfold am_cpy; rw [if_pos rfl]
theorem am_e_rowS {G : am_G} {V V' : am_V} {R : am_T} {a q w : Nat} (hw : w ≤ 64) (hlw : (am_lay a).2.2.1 = w) (hV : ∀ x, x ≠ a → V' x = V x) (hr : ∀ j : Int, ¬ (64 * (q : Int) ≤ j ∧ j < 64 * (q : Int) + w) → V' a j = V a j) {b : Nat} (hb : b ≠ a + 1 + q) (hk : (am_lay a).1 = 3 ∨ (am_lay a).1 = 4) : am_e G V' R b = am_e G V R b := by
  by_cases hba : b = a
  · subst hba
    unfold am_e
    split <;> rename_i h <;> rw [h] at hk <;> simp at hk <;> first | rfl | (rcases hk with hk | hk <;> simp_all)
  · have e1 : V' b = V b := hV b hba
    have key : ∀ k n o j, am_lay b = (k, n, o, j) → (k = 6 ∨ k = 7) → ∀ z : Nat, z < n → V' o (64 * (j : Int) + z) = V o (64 * (j : Int) + z) := by
      intro k n o j h hk z hz
      obtain ⟨h1', -, h3, -⟩ := am_row_of h hk
      by_cases ho : o = a
      · subst ho
        apply hr
        have : j ≠ q := fun e => hb (by rw [h1', e])
        have : n = w := by rw [← h3, hlw]
        omega
      · rw [hV o ho]
    have fe : ∀ c, am_fv G V' R c b = am_fv G V R c b := by
      intro c
      funext j
      unfold am_fv
      rw [e1]
    unfold am_e
    split <;> rename_i h
    · rw [e1]
    · rw [e1]
    · rw [e1]
    · rfl
    · rfl
    · rfl
    · have := key _ _ _ _ h (Or.inl rfl)
      congr 5
      funext z
      split
      · rw [this z (by assumption)]
      · rfl
    · have := key _ _ _ _ h (Or.inr rfl)
      congr 4
      funext z
      split
      · rw [this z (by assumption)]
      · rfl
    · rw [fe]
/-- what the copy leaves -/
theorem am_dst {G : am_G} {T : Nat} {r : am_Ref} {dp m : Int} {k : Nat → Int → Prop} (V : am_V) (R : am_T) (ho : am_okv T (.inr (.inr r))) (h : am_seg r (dp + m) k) (h0 : 0 ≤ dp) (hm : 0 ≤ m) : ∃ (a : Nat) (off : Int) (b n : Nat) (g : Nat → Int64), k a off ∧ 3 ≤ b ∧ b < T ∧ 3 ≤ a ∧ am_cv G (.inr (.inr r)) = .ref (am_ad G b) ∧ dp + m ≤ (n : Int) ∧ n < 2 ^ 31 ∧ am_e G V R b = .inl (am_G.cy G 1, n, .inr (.inl g)) ∧
    ∀ (p n0 : Nat) (sp o1 : Int) (f : Nat → Int64), 0 ≤ sp → sp + m ≤ (n0 : Int) → (∀ j : Nat, j < n0 → f j = Int64.ofInt (V p (o1 + j))) → am_e G (am_cpy V p (o1 + sp) a (off + dp) m) R b = .inl (am_G.cy G 1, n, .inr (.inl (va_cpy f g sp.toNat dp.toNat m.toNat))) ∧ ∀ y, y < T → y ≠ b → am_e G (am_cpy V p (o1 + sp) a (off + dp) m) R y = am_e G V R y := by
  match r, ho, h with
  | none, _, h => exact False.elim h
  | some (.inl a), ho, h =>
    simp only [am_seg] at h
    obtain ⟨⟨kd, n, w, x⟩, hl⟩ : ∃ q, am_lay a = q := ⟨_, rfl⟩
    rw [hl] at h
    obtain ⟨hkd, h1, h2⟩ := am_if_of h
    have hkd := Nat.eq_of_beq_eq_true hkd
    subst hkd
    have h1 : dp + m ≤ (n : Int) := h1
    have hn : n < 2 ^ 31 := by have := am_len31 a; rw [hl] at this; exact this
    have h3 : 3 ≤ a := by
      match a, hl with
      | 0, h => cases h
      | 1, h => cases h
      | 2, h => cases h
      | a + 3, _ => omega
    refine ⟨a, 0, a, n, _, h2, h3, ho, h3, rfl, h1, hn, am_e1 hl, fun p n0 sp o1 f hs hsn hf => ⟨?_, fun y _ hy => am_e_off (fun x hx => am_cpy_ne hx) (fun _ _ => rfl) (by rw [hl]; simp) hy⟩⟩
    rw [am_e1 hl]
    congr 5
    funext j
    rw [am_cpy_at]
    unfold va_cpy
    by_cases hj : dp ≤ (j : Int) ∧ (j : Int) < dp + m
    · rw [if_pos (by omega), if_pos (by omega), hf _ (by omega)]
      congr 2
      omega
    · rw [if_neg (by omega), if_neg (by omega)]
  | some (.inr (a, q)), ho, h =>
    simp only [am_seg] at h
    obtain ⟨⟨kd, n, w, x⟩, hl⟩ : ∃ q, am_lay a = q := ⟨_, rfl⟩
    rw [hl] at h
    obtain ⟨hkd, h1, h2⟩ := am_if_of h
    have hkd := Nat.eq_of_beq_eq_true hkd
    subst hkd
    have h1 : dp + m ≤ (w : Int) := h1
    obtain ⟨c1, c2, c3, c4⟩ := am_rowcell (G := G) ho
    obtain ⟨r1, r2⟩ := am_row3 ho hl
    have hq : (q.toNat : Int) = q := Int.toNat_of_nonneg ho.2.2.2.1
    refine ⟨a, 64 * q, a + 1 + q.toNat, w, _, h2, c2, c3, ho.1, by rw [← c1]; rfl, h1, by omega, am_e6 r1, fun p n0 sp o1 f hs hsn hf => ⟨?_, fun y _ hy => am_e_rowS r2 (by rw [hl]) (fun x hx => am_cpy_ne hx) (fun j hj => by rw [am_cpy_at, if_neg (by omega)]) hy (Or.inl (by rw [hl]))⟩⟩
    rw [am_e6 r1]
    congr 5
    funext j
    show _ = if dp.toNat ≤ j ∧ j < dp.toNat + m.toNat then f (sp.toNat + (j - dp.toNat)) else (if j < w then Int64.ofInt (V a (64 * (q.toNat : Int) + j)) else 0)
    by_cases hjw : j < w
    · rw [if_pos hjw, if_pos hjw, am_cpy_at]
      by_cases hj : dp ≤ (j : Int) ∧ (j : Int) < dp + m
      · rw [if_pos (by omega), if_pos (by omega), hf _ (by omega)]
        congr 2
        omega
      · rw [if_neg (by omega), if_neg (by omega)]
    · rw [if_neg hjw, if_neg hjw, if_neg (by omega)]
theorem am_cats_sum {G : am_G} : ∀ l : List AV, ((l.map (am_cv G)).map fun v => v.category).sum = am_cats l
  | [] => rfl
  | .inl _ :: l => by rw [List.map_cons, List.map_cons, List.sum_cons, am_cats_sum l]; rfl
  | .inr (.inl _) :: l => by rw [List.map_cons, List.map_cons, List.sum_cons, am_cats_sum l]; rfl
  | .inr (.inr none) :: l => by rw [List.map_cons, List.map_cons, List.sum_cons, am_cats_sum l]; rfl
  | .inr (.inr (some (.inl _))) :: l => by rw [List.map_cons, List.map_cons, List.sum_cons, am_cats_sum l]; rfl
  | .inr (.inr (some (.inr (_, _)))) :: l => by rw [List.map_cons, List.map_cons, List.sum_cons, am_cats_sum l]; rfl
theorem so_copy {X : am_X} (cx : am_cx X) {pc : Nat} {ls : am_L} {st : List AV} {V : am_V} {R : am_T} {T cc cs : Nat} {i w1 w2 w3 w4 : Nat} {ra rb : am_Ref} {sp dp m : Int} {k2 : Nat → Int → Nat → Int → Prop} (hd : decode (am_X.bytes X) pc = .ok (.invokestatic i, 3)) (h1 : lw_tbl[w1]? = some (.methodLink (am_X.own X) i arraycopyName)) (h2 : lw_tbl[w2]? = some (.native arraycopyName)) (h3 : lw_tbl[w3]? = some (.static arraycopyName)) (h4 : lw_tbl[w4]? = some (.initialized "java/lang/System")) (hfr : 1 ≤ (am_X.Rm X).frames) (hlo : 36 ≤ (am_X.Rm X).locals) (hc : am_cats st ≤ 8) (hs0 : 0 ≤ sp) (hd0 : 0 ≤ dp) (hm0 : 0 ≤ m)
    (h : am_seg ra (sp + m) (fun p o => am_seg rb (dp + m) (fun q o2 => k2 p o q o2))) (hk : ∀ p o q o2, k2 p o q o2 → am_W X (pc + 3) ls st (am_cpy V p (o + sp) q (o2 + dp) m) R T cc cs) : am_W X pc ls (.inl m :: .inl dp :: .inr (.inr rb) :: .inl sp :: .inr (.inr ra) :: st) V R T cc cs := by
  obtain ⟨p, e, Rm, s, me, args, below, meth, c, QQ, G, own, bytes, nL, Bc, Bs, V0, T0⟩ := X
  obtain ⟨hx, hb, hml, hown, hts, hK, hRc, hRs⟩ := cx
  intro la H locs hf
  have hoa := hf.pop.pop.pop.pop.ok _ List.mem_cons_self
  have hob := hf.pop.pop.ok _ List.mem_cons_self
  obtain ⟨a0, o1, b0, n0, f, hk0, hb03, hb0T, ecv0, hle0, hn0, he0, hfv⟩ := am_src (G := G) V R hoa h
  obtain ⟨a1, o2, b1, n1, g, hk1, hb13, hb1T, ha13, ecv1, hle1, hn1, he1, hup⟩ := am_dst (G := G) V R hob hk0 hd0 hm0
  obtain ⟨hu1, hu2⟩ := hup a0 n0 sp o1 f hs0 hle0 hfv
  have hat0 := am_ws_at (G := G) (V := V) (R := R) (T := T) hb03 hb0T
  have hat1 := am_ws_at (G := G) (V := V) (R := R) (T := T) hb13 hb1T
  rw [he0] at hat0
  rw [he1] at hat1
  have c0 := i32_clamp hs0 (by omega : sp ≤ 2147483647)
  have c1 := i32_clamp hd0 (by omega : dp ≤ 2147483647)
  have c2 := i32_clamp hm0 (by omega : m ≤ 2147483647)
  have nn0 := i32_nn hs0 (by omega : sp ≤ 2147483647)
  have nn1 := i32_nn hd0 (by omega : dp ≤ 2147483647)
  have nn2 := i32_nn hm0 (by omega : m ≤ 2147483647)
  have t0 := i32_toInt (⟨by omega, by omega⟩ : am_in32 sp)
  have t1 := i32_toInt (⟨by omega, by omega⟩ : am_in32 dp)
  have t2 := i32_toInt (⟨by omega, by omega⟩ : am_in32 m)
  have hstk : ((.inl m :: .inl dp :: .inr (.inr rb) :: .inl sp :: .inr (.inr ra) :: st : List AV).map (am_cv G)) = .int (Int32.ofInt m) :: .int (Int32.ofInt dp) :: .ref (am_ad G b1) :: .int (Int32.ofInt sp) :: .ref (am_ad G b0) :: st.map (am_cv G) := by
    simp only [List.map_cons, ecv0, ecv1]
    rfl
  rw [hstk]
  intro T' hT' Xs
  have hc0 : H[am_ad G b0]? = some (vp_cell (am_G.cy G 1) (n0, .inr (.inl f))) := hf.oP _ _ hat0
  have hc1 : H[am_ad G b1]? = some (vp_cell (am_G.cy G 1) (n1, .inr (.inl g))) := hf.oP _ _ hat1
  obtain ⟨-, k0, hk0', cm0, hkk0⟩ := (hK.1.2 1 _ rfl).1 n0 (fun j => .long (f j))
  obtain ⟨-, k1, hk1', cm1, hkk1⟩ := (hK.1.2 1 _ rfl).1 n1 (fun j => .long (g j))
  obtain ⟨vm', X', step⟩ := Xs.arraycopy hx hown (hts _ (List.mem_of_getElem? h1) rfl) (hts _ (List.mem_of_getElem? h2) rfl) (hts _ (List.mem_of_getElem? h3) rfl) (hts _ (List.mem_of_getElem? h4) rfl) (src := am_ad G b0) (dst := am_ad G b1) (cs := vp_cell (am_G.cy G 1) (n0, .inr (.inl f))) (cd := vp_cell (am_G.cy G 1) (n1, .inr (.inl g))) (srcPos := Int32.ofInt sp) (destPos := Int32.ofInt dp) (n := Int32.ofInt m) (by rw [hT']; exact hc0) (by rw [hT']; exact hc1)
    (fun _ h => by cases h) (fun _ h => by cases h) (fun h => by cases h) (fun h => by cases h) hk0' hk1' hkk0 hkk1 (by simp [refKind]) nn0 nn1 nn2
    (by rw [t0, t2]; show ¬ _ > ((arrV _ n0 (fun j => .long (f j))).slots.size : Int); rw [arrV_size]; omega)
    (by rw [t1, t2]; show ¬ _ > ((arrV _ n1 (fun j => .long (g j))).slots.size : Int); rw [arrV_size]; omega)
    (fun vm₁ _ i hi => by
      rw [c2] at hi
      have e : (vp_cell (am_G.cy G 1) (n0, .inr (.inl f))).slots.getD ((Int32.ofInt sp).toNatClampNeg + i) .null = .long (f ((Int32.ofInt sp).toNatClampNeg + i)) := by
        show (arrV _ n0 (fun j => .long (f j))).slots.getD _ _ = _
        rw [Array.getD_eq_getD_getElem?, arrV_read _ _ (by rw [c0]; omega)]
        rfl
      refine ⟨?_, ?_⟩
      · rw [e]
        rfl
      · rw [e]
        exact trivial)
    (g := F0 me pc la (.int (Int32.ofInt m) :: .int (Int32.ofInt dp) :: .ref (am_ad G b1) :: .int (Int32.ofInt sp) :: .ref (am_ad G b0) :: st.map (am_cv G))) rfl (by rw [hml]; exact hf.oL.2.1.1) (rest := st.map (am_cv G)) rfl (by rw [hb]; exact hd) hfr (by
      rw [am_cats_sum]
      have e9 : nativeFrameWords "java/lang/System" "arraycopy" 5 + 11 ≤ 28 := by decide +kernel
      have hlo : 36 ≤ Rm.locals := hlo
      show 2 * 0 + _ + _ ≤ Rm.locals
      omega)
  have e1 : copied (vp_cell (am_G.cy G 1) (n0, .inr (.inl f))) (vp_cell (am_G.cy G 1) (n1, .inr (.inl g))) (Int32.ofInt sp) (Int32.ofInt dp) (Int32.ofInt m) = vp_cell (am_G.cy G 1) (n1, .inr (.inl (va_cpy f g sp.toNat dp.toNat m.toNat))) := by
    have := va_copied (fun z => .long z) (am_G.cy G 1) (am_G.cy G 1) f g (n0 := n0) (n1 := n1) (sp := (Int32.ofInt sp).toNatClampNeg) (dp := (Int32.ofInt dp).toNatClampNeg) (n := (Int32.ofInt m).toNatClampNeg) (by rw [c0, c2]; omega)
    rw [c0, c1, c2] at this
    unfold copied
    rw [c0, c1, c2]
    exact this
  rw [e1] at X' step
  have hl : am_ad G b1 < H.size := (Array.getElem?_eq_some_iff.mp hc1).1
  generalize hnew : vp_cell (am_G.cy G 1) (n1, .inr (.inl (va_cpy f g sp.toNat dp.toNat m.toNat))) = nc at X' step
  have hheap : ((T'.setVm vm').setCell (am_ad G b1) nc).heap = H.setIfInBounds (am_ad G b1) nc := by rw [← hT']; rfl
  have oq : ∀ q : Nat, q ≠ am_ad G b1 → (H.setIfInBounds (am_ad G b1) nc)[q]? = H[q]? := fun q hq => by simp [Array.getElem?_setIfInBounds, Ne.symm hq]
  have hself : (H.setIfInBounds (am_ad G b1) nc)[am_ad G b1]? = some nc := by simp [Array.getElem?_setIfInBounds, hl]
  have hf5 := hf.pop.pop.pop.pop.pop
  have hP := hf5.oP.set (e := am_e G (am_cpy V a0 (o1 + sp) a1 (o2 + dp) m) R b1) am_D (am_ws_at (G := G) (V := V) (R := R) (T := T) hb13 hb1T) (H1 := H.setIfInBounds (am_ad G b1) nc) (by rw [hu1]; show _ = some (vp_cell _ _); rw [hnew]; exact hself) oq
  rw [am_ws_set hb13 hb1T rfl hu2] at hP
  have hA1 : am_G.b G ≤ am_ad G b1 := am_D.2 _ _ hat1
  obtain ⟨t, a2, b2⟩ := hk a0 o1 a1 o2 hk1 la (H.setIfInBounds (am_ad G b1) nc) _ (hf5.mem (by simp) hP ⟨by simp; exact hf5.oS.1, fun q g1 g2 => by
      rw [oq q (fun e => g2 (by rw [e]; exact hA1))]
      exact hf5.oS.2.1 q g1 g2, fun q hq => by
      rcases List.mem_append.mp hq with h | h
      · exact hf5.oS.2.2 q h
      · obtain ⟨z, -, hz⟩ := List.mem_map.mp h
        rw [← hz]
        exact hA1⟩ hf5.oR (fun x hx => am_cpy_ne (by omega))) _ hheap X'
  exact ⟨t, step t a2, b2⟩
theorem so_objInit {X : am_X} (cx : am_cx X) {pc : Nat} {ls : am_L} {st : List AV} {V : am_V} {R : am_T} {T cc cs : Nat} {i w1 w2 w3 a : Nat} (hd : decode (am_X.bytes X) pc = .ok (.invokespecial i, 3)) (h1 : lw_tbl[w1]? = some (.methodLink (am_X.own X) i Lib.objectInit)) (h2 : lw_tbl[w2]? = some (.instanceMethod Lib.objectInit)) (h3 : lw_tbl[w3]? = some (.code Lib.objectInit ⟨#[0xb1]⟩ 1 none)) (hfr : 1 ≤ (am_X.Rm X).frames) (hlo : 36 ≤ (am_X.Rm X).locals) (hc : am_cats st ≤ 8) (kk : am_W X (pc + 3) ls st V R T cc cs) : am_W X pc ls (.inr (.inr (some (.inl a))) :: st) V R T cc cs := by
  obtain ⟨p, e, Rm, s, me, args, below, meth, c, QQ, G, own, bytes, nL, Bc, Bs, V0, T0⟩ := X
  obtain ⟨hx, hb, hml, hown, hts, hK, hRc, hRs⟩ := cx
  intro la H locs hf
  refine W.objInit hx hb hown (hts _ (List.mem_of_getElem? h1) rfl) (hts _ (List.mem_of_getElem? h2) rfl) (hts _ (List.mem_of_getElem? h3) rfl) rfl (by rw [hml]; exact hf.oL.2.1.1) rfl hd hfr (by
    have := am_cats_sum (G := G) st
    have hlo : 36 ≤ Rm.locals := hlo
    show 2 * 0 + _ + _ ≤ Rm.locals
    omega) ?_
  exact kk la H locs hf.pop
end
section
/-- every method: its class, name, bytes, locals, answer, cells and slots that it may make, code -/
abbrev am_M : Type := String × MethodName × ByteArray × Nat × Option FieldType × Nat × Nat × List CI
def am_mt : List am_M := [(RX4, yX4_init, prog_1_method_1_code, 4, none, 82, 938, cd_F_init),
  (RX4, yX4_sheet, prog_1_method_2_code, 4, (some .int), 0, 0, cd_F_sheet),
  (RX4, yX4_set, prog_1_method_3_code, 5, (some .long), 0, 0, cd_F_set),
  (RX4, yX4_copy, prog_1_method_4_code, 6, (some .int), 0, 0, cd_F_copy),
  (RX4, yX4_drop, prog_1_method_5_code, 3, (some .int), 0, 0, cd_F_drop),
  (RX4, yX4_part, prog_1_method_6_code, 5, (some .int), 2, 15, cd_F_part),
  (RX4, yX4_nth, prog_1_method_7_code, 4, (some .int), 2, 15, cd_F_nth),
  (RX4, yX4_both, prog_1_method_8_code, 7, (some .int), 10, 75, cd_F_both),
  (RX4, yX4_turn, prog_1_method_9_code, 5, (some .int), 2, 15, cd_F_turn),
  (RX4, yX4_clear, prog_1_method_10_code, 3, (some .int), 0, 0, cd_F_clear),
  (RX4, yX4_kind, prog_1_method_11_code, 3, (some .int), 0, 0, cd_F_kind),
  (RX4, yX4_is, prog_1_method_12_code, 4, (some .int), 0, 0, cd_F_is),
  (RX4, yX4_as, prog_1_method_13_code, 4, (some .int), 0, 0, cd_F_as),
  (RX4, yX4_ask, prog_1_method_14_code, 4, (some .int), 0, 0, cd_F_ask),
  (RX4, yX4_trace, prog_1_method_15_code, 2, (some .int), 0, 0, cd_F_trace),
  (RX4, yX4_block, prog_1_method_16_code, 4, (some .int), 0, 0, cd_F_block),
  (RX4, yX4_told, prog_1_method_17_code, 4, (some .int), 2, 15, cd_F_told),
  (RX4, yX4_finer, prog_1_method_18_code, 5, (some .int), 0, 0, cd_F_finer),
  (RX4, yX4_handles, prog_1_method_19_code, 3, (some .int), 0, 0, cd_F_handles),
  (RX4, yX4_series, prog_1_method_20_code, 7, (some .int), 0, 0, cd_F_series),
  (RX4, yX4_number, prog_1_method_21_code, 4, (some .long), 0, 0, cd_F_number),
  (RX4, yX4_join, prog_1_method_22_code, 8, (some .int), 0, 0, cd_F_join),
  (RX4, yX4_change, prog_1_method_23_code, 6, (some .int), 0, 0, cd_F_change),
  (RX4, yX4_hankel, prog_1_method_24_code, 4, (some .long), 0, 0, cd_F_hankel),
  (RX4, yX4_same, prog_1_method_25_code, 4, (some .int), 0, 0, cd_F_same),
  (RX4, yX4_genus, prog_1_method_26_code, 3, (some .long), 0, 0, cd_F_genus),
  (RX4, yX4_mean, prog_1_method_27_code, 6, (some .long), 0, 0, cd_F_mean),
  (RX4, yX4_walks, prog_1_method_28_code, 4, (some .long), 0, 0, cd_F_walks),
  (RX4, yX4_count, prog_1_method_29_code, 2, (some .int), 0, 0, cd_F_count),
  (RX4, yX4_status, prog_1_method_30_code, 1, (some .int), 0, 0, cd_F_status),
  (RX4, yX4_noSheet, prog_1_method_31_code, 1, (some .boolean), 0, 0, cd_F_noSheet),
  (RX4, yX4_noPlace, prog_1_method_32_code, 1, (some .boolean), 0, 0, cd_F_noPlace),
  (RX4, yX4_noSeries, prog_1_method_33_code, 1, (some .boolean), 0, 0, cd_F_noSeries),
  (RX4, yX4_noSort, prog_1_method_34_code, 1, (some .boolean), 0, 0, cd_F_noSort),
  (RX4, yX4_noPairs, prog_1_method_35_code, 1, (some .boolean), 0, 0, cd_F_noPairs),
  (RX4, yX4_noRun, prog_1_method_36_code, 4, (some .boolean), 0, 0, cd_F_noRun),
  (RX4, yX4_finding, prog_1_method_37_code, 2, (some .int), 0, 0, cd_F_finding),
  (RX4, yX4_fine, prog_1_method_38_code, 2, (some .int), 0, 0, cd_F_fine),
  (RX4, yX4_lowestBits, prog_1_method_39_code, 3, (some .long), 0, 0, cd_F_lowestBits),
  (RX4, yX4_labelLikeItems, prog_1_method_40_code, 6, none, 0, 0, cd_F_labelLikeItems),
  (RX4, yX4_shelve, prog_1_method_41_code, 3, (some .int), 0, 0, cd_F_shelve),
  (RX4, yX4_meetOf, prog_1_method_42_code, 4, (some (.object "FreeParts$Thing")), 2, 15, cd_F_meetOf),
  (RX4, yX4_joinOf, prog_1_method_43_code, 4, (some (.object "FreeParts$Thing")), 10, 75, cd_F_joinOf),
  (RX4, yX4_turnedBy, prog_1_method_44_code, 5, (some (.object "FreeParts$Thing")), 2, 15, cd_F_turnedBy),
  (RX4, yX4_complementOf, prog_1_method_45_code, 2, (some (.object "FreeParts$Thing")), 2, 15, cd_F_complementOf),
  (RX4, yX4_handlesOf, prog_1_method_46_code, 3, (some .int), 0, 0, cd_F_handlesOf),
  (RX4, yX4_countSheets, prog_1_method_47_code, 6, (some .int), 0, 0, cd_F_countSheets),
  (RX4, yX4_countThings, prog_1_method_48_code, 7, (some .int), 0, 0, cd_F_countThings),
  (RX4, yX4_sizeOf, prog_1_method_49_code, 2, (some .int), 0, 0, cd_F_sizeOf),
  (RX4, yX4_markOf, prog_1_method_50_code, 2, (some .int), 0, 0, cd_F_markOf),
  (RX4, yX4_leaveTrace, prog_1_method_51_code, 2, none, 0, 0, cd_F_leaveTrace),
  (RX4, yX4_body10, prog_1_method_52_code, 2, (some .int), 0, 0, cd_F_body10),
  (RX4, yX4_body11, prog_1_method_53_code, 2, (some .int), 0, 0, cd_F_body11),
  (RX4, yX4_body12, prog_1_method_54_code, 2, (some .int), 0, 0, cd_F_body12),
  (RX4, yX4_body13, prog_1_method_55_code, 3, (some .int), 0, 0, cd_F_body13),
  (RX4, yX4_body14, prog_1_method_56_code, 2, (some .int), 0, 0, cd_F_body14),
  (RX4, yX4_body20, prog_1_method_57_code, 2, (some .int), 0, 0, cd_F_body20),
  (RX4, yX4_body21, prog_1_method_58_code, 2, (some .int), 0, 0, cd_F_body21),
  (RX4, yX4_body22, prog_1_method_59_code, 3, (some .int), 0, 0, cd_F_body22),
  (RX4, yX4_isPrime, prog_1_method_60_code, 2, (some .boolean), 0, 0, cd_F_isPrime),
  (RX4, yX4_power, prog_1_method_61_code, 11, (some .long), 0, 0, cd_F_power),
  (RX4, yX4_multiplyByPowers, prog_1_method_62_code, 11, none, 0, 0, cd_F_multiplyByPowers),
  (RX4, yX4_determinant, prog_1_method_63_code, 6, (some .long), 0, 0, cd_F_determinant),
  (RX4, yX4_swapRows, prog_1_method_64_code, 7, none, 0, 0, cd_F_swapRows),
  (RX4, yX4_clearColumnBelow, prog_1_method_65_code, 9, none, 0, 0, cd_F_clearColumnBelow),
  (RX4, yX4_countPairings, prog_1_method_66_code, 7, none, 0, 0, cd_F_countPairings),
  (RX4, yX4_walkOneStep, prog_1_method_67_code, 7, none, 0, 0, cd_F_walkOneStep),
  (RX5, yX5_in, prog_7_method_2_code, 6, (some .boolean), 0, 0, cd_M_in),
  (RX5, yX5_found, prog_7_method_3_code, 2, (some .int), 0, 0, cd_M_found),
  (RX5, yX5_isPrime, prog_7_method_4_code, 3, (some .boolean), 0, 0, cd_M_isPrime),
  (RX5, yX5_init, prog_7_method_5_code, 3, none, 20, 787, cd_M_init),
  (RX5, yX5_isSheet, prog_7_method_6_code, 1, (some .boolean), 0, 0, cd_M_isSheet),
  (RX5, yX5_sheet, prog_7_method_7_code, 5, (some .int), 0, 0, cd_M_sheet),
  (RX5, yX5_set, prog_7_method_8_code, 5, (some .long), 0, 0, cd_M_set),
  (RX5, yX5_copy, prog_7_method_9_code, 9, (some .int), 0, 0, cd_M_copy),
  (RX5, yX5_drop, prog_7_method_10_code, 2, (some .int), 0, 0, cd_M_drop),
  (RX5, yX5_isPlace, prog_7_method_11_code, 1, (some .boolean), 0, 0, cd_M_isPlace),
  (RX5, yX5_load, prog_7_method_12_code, 4, none, 0, 0, cd_M_load),
  (RX5, yX5_number, prog_7_method_13_code, 7, none, 0, 0, cd_M_relabel),
  (RX5, yX5_crossedAt, prog_7_method_14_code, 7, (some .int), 0, 0, cd_M_crossedAt),
  (RX5, yX5_isFree, prog_7_method_15_code, 3, (some .boolean), 0, 0, cd_M_isFree),
  (RX5, yX5_blocks, prog_7_method_16_code, 5, (some .int), 0, 0, cd_M_blocks),
  (RX5, yX5_sizeOf, prog_7_method_17_code, 6, (some .int), 0, 0, cd_M_sizeOf),
  (RX5, yX5_isOfPairs, prog_7_method_18_code, 5, (some .boolean), 0, 0, cd_M_isOfPairs),
  (RX5, yX5_kindOf, prog_7_method_19_code, 6, (some .int), 0, 0, cd_M_kindOf),
  (RX5, yX5_lay, prog_7_method_20_code, 5, (some .int), 0, 0, cd_M_lay),
  (RX5, yX5_part, prog_7_method_21_code, 7, (some .int), 0, 0, cd_M_part),
  (RX5, yX5_next, prog_7_method_22_code, 6, (some .boolean), 0, 0, cd_M_next),
  (RX5, yX5_nextFree, prog_7_method_23_code, 7, (some .boolean), 0, 0, cd_M_nextFree),
  (RX5, yX5_first, prog_7_method_24_code, 4, none, 0, 0, cd_M_first),
  (RX5, yX5_nth, prog_7_method_25_code, 5, (some .int), 0, 0, cd_M_nth),
  (RX5, yX5_isOf, prog_7_method_26_code, 2, (some .boolean), 0, 0, cd_M_isOf),
  (RX5, yX5_asked, prog_7_method_27_code, 3, (some .int), 0, 0, cd_M_asked),
  (RX5, yX5_both, prog_7_method_28_code, 11, (some .int), 0, 0, cd_M_both),
  (RX5, yX5_mix, prog_7_method_29_code, 5, none, 0, 0, cd_M_mix),
  (RX5, yX5_crossing, prog_7_method_30_code, 10, (some .boolean), 0, 0, cd_M_crossing),
  (RX5, yX5_complement, prog_7_method_31_code, 8, none, 0, 0, cd_M_complement),
  (RX5, yX5_turn, prog_7_method_32_code, 7, (some .int), 0, 0, cd_M_turn),
  (RX5, yX5_clear, prog_7_method_33_code, 3, (some .int), 0, 0, cd_M_clear),
  (RX5, yX5_kind, prog_7_method_34_code, 2, (some .int), 0, 0, cd_M_kind),
  (RX5, yX5_is, prog_7_method_35_code, 3, (some .int), 0, 0, cd_M_is),
  (RX5, yX5_blocksAt, prog_7_method_36_code, 2, (some .int), 0, 0, cd_M_blocksAt),
  (RX5, yX5_as, prog_7_method_37_code, 4, (some .int), 0, 0, cd_M_as),
  (RX5, yX5_began, prog_7_method_38_code, 2, none, 0, 0, cd_M_began),
  (RX5, yX5_plainMark, prog_7_method_39_code, 2, (some .int), 0, 0, cd_M_plainMark),
  (RX5, yX5_sized, prog_7_method_40_code, 4, (some .int), 0, 0, cd_M_sized),
  (RX5, yX5_marked, prog_7_method_41_code, 2, (some .int), 0, 0, cd_M_marked),
  (RX5, yX5_ask, prog_7_method_42_code, 3, (some .int), 0, 0, cd_M_ask),
  (RX5, yX5_trace, prog_7_method_43_code, 2, (some .int), 0, 0, cd_M_trace),
  (RX5, yX5_block, prog_7_method_44_code, 3, (some .int), 0, 0, cd_M_block),
  (RX5, yX5_isFiner, prog_7_method_45_code, 6, (some .boolean), 0, 0, cd_M_isFiner),
  (RX5, yX5_product, prog_7_method_46_code, 7, (some .int), 0, 0, cd_M_product),
  (RX5, yX5_told, prog_7_method_47_code, 9, (some .int), 0, 0, cd_M_told),
  (RX5, yX5_isSame, prog_7_method_48_code, 4, (some .boolean), 0, 0, cd_M_isSame),
  (RX5, yX5_finer, prog_7_method_49_code, 3, (some .int), 0, 0, cd_M_finer),
  (RX5, yX5_handlesBy, prog_7_method_50_code, 8, (some .int), 0, 0, cd_M_handlesBy),
  (RX5, yX5_handlesOf, prog_7_method_51_code, 2, (some .int), 0, 0, cd_M_handlesOf),
  (RX5, yX5_handles, prog_7_method_52_code, 2, (some .int), 0, 0, cd_M_handles),
  (RX5, yX5_isSeries, prog_7_method_53_code, 1, (some .boolean), 0, 0, cd_M_isSeries),
  (RX5, yX5_m, prog_7_method_54_code, 3, (some .long), 0, 0, cd_M_m),
  (RX5, yX5_choose, prog_7_method_55_code, 5, (some .long), 0, 0, cd_M_choose),
  (RX5, yX5_lesser, prog_7_method_56_code, 14, (some .long), 0, 0, cd_M_lesser),
  (RX5, yX5_findCumulants, prog_7_method_57_code, 5, none, 0, 0, cd_M_findCumulants),
  (RX5, yX5_findMoments, prog_7_method_58_code, 6, none, 0, 0, cd_M_findMoments),
  (RX5, yX5_modulo, prog_7_method_59_code, 5, (some .long), 0, 0, cd_M_modulo),
  (RX5, yX5_series, prog_7_method_60_code, 7, (some .int), 0, 0, cd_M_series),
  (RX5, yX5_number_, prog_7_method_61_code, 4, (some .long), 0, 0, cd_M_number),
  (RX5, yX5_join, prog_7_method_62_code, 8, (some .int), 0, 0, cd_M_join),
  (RX5, yX5_mixed, prog_7_method_63_code, 8, (some .long), 0, 0, cd_M_mixed),
  (RX5, yX5_change, prog_7_method_64_code, 9, (some .int), 0, 0, cd_M_change),
  (RX5, yX5_inverse, prog_7_method_65_code, 8, (some .long), 0, 0, cd_M_inverse),
  (RX5, yX5_hankel, prog_7_method_66_code, 14, (some .long), 0, 0, cd_M_hankel),
  (RX5, yX5_same, prog_7_method_67_code, 5, (some .int), 0, 0, cd_M_same),
  (RX5, yX5_findPairings, prog_7_method_68_code, 5, none, 0, 0, cd_M_findPairings),
  (RX5, yX5_genus, prog_7_method_69_code, 3, (some .long), 0, 0, cd_M_genus),
  (RX5, yX5_mean, prog_7_method_70_code, 9, (some .long), 0, 0, cd_M_mean),
  (RX5, yX5_walks, prog_7_method_71_code, 5, (some .long), 0, 0, cd_M_walks),
  (RX5, yX5_count, prog_7_method_72_code, 4, (some .int), 0, 0, cd_M_count),
  (RX5, yX5_status, prog_7_method_73_code, 1, (some .int), 0, 0, cd_M_status),
  (RX0, yX0_init, prog_2_method_1_code, 3, none, 22, 184, cd_C_init),
  (RX0, yX0_toMoments, prog_2_method_2_code, 6, none, 0, 0, cd_C_toMoments),
  (RX0, yX0_ofMoments, prog_2_method_3_code, 6, none, 0, 0, cd_C_ofMoments),
  (RX0, yX0_keepPowers, prog_2_method_4_code, 5, none, 0, 0, cd_C_keepPowers),
  (RX0, yX0_sumOfFiner, prog_2_method_5_code, 12, (some .long), 0, 0, cd_C_sumOfFiner),
  (RX0, yX0_multiply, prog_2_method_6_code, 11, none, 0, 0, cd_C_multiply),
  (RX1, yX1_init, prog_3_method_1_code, 5, none, 13, 142, cd_O_init),
  (RX1, yX1_placeOf, prog_3_method_2_code, 6, (some .int), 0, 0, cd_O_placeOf),
  (RX1, yX1_tell, prog_3_method_3_code, 9, none, 0, 0, cd_O_tell),
  (RX2, yX2_init, prog_4_method_1_code, 3, none, 10, 90, cd_P_init),
  (RX2, yX2_begin, prog_4_method_2_code, 4, none, 0, 0, cd_P_begin),
  (RX2, yX2_add, prog_4_method_3_code, 8, none, 0, 0, cd_P_add),
  (RX2, yX2_at, prog_4_method_4_code, 3, (some .long), 0, 0, cd_P_at),
  (RX2, yX2_weighted, prog_4_method_5_code, 7, (some .long), 0, 0, cd_P_weighted),
  (RX3, yX3_init, prog_5_method_1_code, 3, none, 1, 10, cd_T_init),
  (RX3, yX3_numberBlocks, prog_5_method_2_code, 6, (some .int), 0, 0, cd_T_numberBlocks),
  (RX3, yX3_allInPairs, prog_5_method_3_code, 4, (some .boolean), 0, 0, cd_T_allInPairs),
  (RX3, yX3_pointsIn, prog_5_method_4_code, 5, (some .int), 0, 0, cd_T_pointsIn),
  (RX3, yX3_kindToTell, prog_5_method_5_code, 3, (some .int), 0, 0, cd_T_kindToTell),
  (RX3, yX3_inRows, prog_5_method_6_code, 3, (some .boolean), 0, 0, cd_T_inRows),
  (RX3, yX3_crossesItself, prog_5_method_7_code, 4, (some .boolean), 0, 0, cd_T_crossesItself),
  (RX3, yX3_isCrossed, prog_5_method_8_code, 6, (some .boolean), 0, 0, cd_T_isCrossed),
  (RX3, yX3_isOf, prog_5_method_9_code, 2, (some .boolean), 0, 0, cd_T_isOf),
  (RX3, yX3_isFinerThan, prog_5_method_10_code, 5, (some .boolean), 0, 0, cd_T_isFinerThan),
  (RX3, yX3_productOver, prog_5_method_11_code, 4, (some .int), 0, 0, cd_T_productOver),
  (RX3, yX3_labelRings, prog_5_method_12_code, 4, (some .int), 0, 0, cd_T_labelRings),
  (RX3, yX3_labelRing, prog_5_method_13_code, 6, none, 0, 0, cd_T_labelRing),
  (RX3, yX3_aheadInBlock, prog_5_method_14_code, 4, (some .int), 0, 0, cd_T_aheadInBlock),
  (RL, yL_cell, method_2_code, 2, (some .int), 0, 0, cd_L_cell),
  (RL, x, code, 4, ret, 600000, 7302250, cd_L_law),
  (RJ7, yJ7_fill_53178, prog_10_method_103_code, 4, none, 0, 0, cd_JA_fillI),
  (RJ7, yJ7_fill_d0a16, prog_10_method_101_code, 5, none, 0, 0, cd_JA_fillJ)]
abbrev am_M.own (μ : am_M) : String := μ.1
abbrev am_M.y (μ : am_M) : MethodName := μ.2.1
abbrev am_M.bytes (μ : am_M) : ByteArray := μ.2.2.1
abbrev am_M.nL (μ : am_M) : Nat := μ.2.2.2.1
abbrev am_M.ret (μ : am_M) : Option FieldType := μ.2.2.2.2.1
abbrev am_M.bc (μ : am_M) : Nat := μ.2.2.2.2.2.1
abbrev am_M.bs (μ : am_M) : Nat := μ.2.2.2.2.2.2.1
abbrev am_M.code (μ : am_M) : List CI := μ.2.2.2.2.2.2.2
def am_ilen (ins : Instr) : Nat := match ins with
  | .iload _ | .lload _ | .aload _ | .istore _ | .lstore _ | .astore _ | .bipush _ | .ldc _ | .newarray _ => 2
  | .iinc _ _ | .sipush _ | .ldc_w _ | .ldc2_w _ | .goto _ | .if_icmp _ _ | .ifCond _ _ | .ifnull _ | .ifnonnull _ | .getfield _ | .putfield _ | .getstatic _ | .new _ | .anewarray _ | .invokevirtual _ | .invokestatic _ | .invokespecial _ => 3
  | .multianewarray _ _ => 4
  | _ => 1
def am_isSw (ins : Instr) : Bool := match ins with
  | .tableswitch _ _ _ _ => true
  | _ => false
def am_wd (i : Nat) (w : Jvm.Cond) : Bool := decide (lw_tbl[i]? = some w)
/-- a call's words: of kind 0 by the object, 1 static, 2 a constructor -/
def am_okc (own : String) (kd i : Nat) (aux : List Nat) : Bool := match am_mt[am_nth aux 0]? with
  | some (_, y, bytes, maxL, ret, bc, bs, _) => Nat.beq bc (am_nth aux 3) && (Nat.beq bs (am_nth aux 4) && (am_wd (am_nth aux 5) (.methodLink own i y) && (am_wd (am_nth aux 8) (.code y bytes maxL ret) && (am_wd (am_nth aux 9) (.initialized y.cls) && (Nat.ble maxL 17 && (decide (y.cls ≠ "java/lang/invoke/MethodHandle" ∧ y.cls ≠ "java/lang/invoke/VarHandle") && (match kd with
    | 0 => am_wd (am_nth aux 6) (.instanceMethod y) && (am_wd (am_nth aux 7) (.selects y.cls y y) && (decide (am_RR (am_nth aux 10) = y.cls) && (Nat.blt (am_nth aux 10) 6 && decide ((parseMethodDescriptor y.desc).map (fun d => d.parameters.length + 1) = some (am_nth aux 1)))))
    | 1 => am_wd (am_nth aux 6) (.static y) && decide ((parseMethodDescriptor y.desc).map (fun d => d.parameters.length) = some (am_nth aux 1))
    | _ => am_wd (am_nth aux 6) (.instanceMethod y) && (decide (y.name = "<init>") && (decide (ret = none) && decide ((parseMethodDescriptor y.desc).map (fun d => d.parameters.length + 1) = some (am_nth aux 1)))))))))))
  | none => false
def am_ok2 (own : String) (init : Bool) (ret : Option FieldType) (nL pc : Nat) (ins : Instr) (z : Int) (aux : List Nat) : Bool := match ins with
  | .istore_n i => Nat.blt i.val nL
  | .istore i => Nat.blt i nL
  | .astore_n i => Nat.blt i.val nL
  | .astore i => Nat.blt i nL
  | .lstore_n i => Nat.blt (i.val + 1) nL
  | .lstore i => Nat.blt (i + 1) nL
  | .iinc i _ => Nat.blt i nL
  | .bipush v => decide ((Int8.ofInt v).toInt32 = Int32.ofInt v)
  | .sipush v => decide ((Int16.ofInt v).toInt32 = Int32.ofInt v)
  | .ldc i => am_wd (am_nth aux 0) (.constant own i (Int32.ofInt z))
  | .ldc_w i => am_wd (am_nth aux 0) (.constant own i (Int32.ofInt z))
  | .ldc2_w i => am_wd (am_nth aux 0) (.constantLong own i (Int64.ofInt z))
  | .goto v => decide ((pc : Int) + v = (am_nth aux 0 : Int))
  | .if_icmp _ v => decide ((pc : Int) + v = (am_nth aux 0 : Int))
  | .ifCond _ v => decide ((pc : Int) + v = (am_nth aux 0 : Int))
  | .ifnull v => decide ((pc : Int) + v = (am_nth aux 0 : Int))
  | .ifnonnull v => decide ((pc : Int) + v = (am_nth aux 0 : Int))
  | .tableswitch d lo hi offs => decide (lo = z) && (decide ((pc : Int) + d = (am_nth aux 0 : Int)) && (decide (offs.toList.map (fun o => (pc : Int) + o) = (aux.drop 1).map (fun t : Nat => (t : Int))) && decide (hi = lo + (aux.drop 1).length - 1)))
  | .lconst v => decide (z = (v.val : Int))
  | .getfield i => decide (z = (am_nth aux 0 : Int)) && (Nat.blt (am_nth aux 0) (am_NN (am_nth aux 2)) && (Nat.beq (am_fk (am_nth aux 2) (am_nth aux 0)) (am_nth aux 1) && (am_wd (am_nth aux 3) (.fieldLink own i (am_TT (am_nth aux 2) (am_nth aux 0)).1 (am_TT (am_nth aux 2) (am_nth aux 0)).2.1 (am_TT (am_nth aux 2) (am_nth aux 0)).2.2.1))))
  | .putfield i => decide (z = (am_nth aux 0 : Int)) && (Nat.blt (am_nth aux 0) (am_NN (am_nth aux 2)) && (Nat.beq (am_fk (am_nth aux 2) (am_nth aux 0)) (am_nth aux 1) && (am_wd (am_nth aux 3) (.fieldLink own i (am_TT (am_nth aux 2) (am_nth aux 0)).1 (am_TT (am_nth aux 2) (am_nth aux 0)).2.1 (am_TT (am_nth aux 2) (am_nth aux 0)).2.2.1) && (!(am_TT (am_nth aux 2) (am_nth aux 0)).2.2.2 || (init && decide ((am_TT (am_nth aux 2) (am_nth aux 0)).1 = own))))))
  | .getstatic i => (Nat.beq (am_nth aux 0) 1 && am_wd (am_nth aux 1) (.fieldLink own i "FreeParts" "FREE_ONES" "[I")) || (Nat.beq (am_nth aux 0) 2 && am_wd (am_nth aux 1) (.fieldLink own i "FreeParts" "WEIGHTS" "[I"))
  | .new i => am_wd (am_nth aux 1) (.classLink own i (am_RR (am_nth aux 0))) && (am_wd (am_nth aux 2) (.instantiable (am_RR (am_nth aux 0)) (am_NN (am_nth aux 0))) && am_wd (am_nth aux 3) (.initialized (am_RR (am_nth aux 0))))
  | .anewarray i => am_wd (am_nth aux 0) (.classLink own i RX3)
  | .multianewarray i d => Nat.beq d 2 && ((Nat.beq (am_nth aux 0) 1 && (am_wd (am_nth aux 1) (.classLink own i ("[" ++ (FieldType.array .long).toString)) && am_wd (am_nth aux 2) (.arrayClass .long))) || (Nat.beq (am_nth aux 0) 0 && (am_wd (am_nth aux 1) (.classLink own i ("[" ++ (FieldType.array .int).toString)) && am_wd (am_nth aux 2) (.arrayClass .int))))
  | .newarray a => (Nat.beq (am_nth aux 0) 0 && decide (a = .int) || Nat.beq (am_nth aux 0) 1 && decide (a = .long) || Nat.beq (am_nth aux 0) 2 && decide (a = .boolean)) && am_wd (am_nth aux 1) (.arrayClass (newarray.typeOf a))
  | .invokevirtual i => am_okc own 0 i aux
  | .invokestatic i => (match Nat.beq (am_nth aux 0) 1000 with
    | true => am_wd (am_nth aux 5) (.methodLink own i arraycopyName) && (am_wd (am_nth aux 6) (.native arraycopyName) && (am_wd (am_nth aux 7) (.static arraycopyName) && am_wd (am_nth aux 8) (.initialized "java/lang/System")))
    | false => (match Nat.ble 1002 (am_nth aux 0) with
      | true => (match Nat.beq (am_nth aux 0) 1002 with
        | true => am_wd (am_nth aux 5) (.methodLink own i Lib.Math.max.name) && (am_wd (am_nth aux 6) (.static Lib.Math.max.name) && (am_wd (am_nth aux 8) (.code Lib.Math.max.name Lib.Math.max.code 2 (some .int)) && am_wd (am_nth aux 9) (.initialized "java/lang/Math")))
        | false => (match Nat.beq (am_nth aux 0) 1003 with
          | true => am_wd (am_nth aux 5) (.methodLink own i Lib.Math.min.name) && (am_wd (am_nth aux 6) (.static Lib.Math.min.name) && (am_wd (am_nth aux 8) (.code Lib.Math.min.name Lib.Math.min.code 2 (some .int)) && am_wd (am_nth aux 9) (.initialized "java/lang/Math")))
          | false => am_wd (am_nth aux 5) (.methodLink own i Jvm.Free.JP.Math_floorMod_JJ.yN) && (am_wd (am_nth aux 6) (.static Jvm.Free.JP.Math_floorMod_JJ.yN) && (am_wd (am_nth aux 8) (.code Jvm.Free.JP.Math_floorMod_JJ.yN Jvm.Free.JP.Math_floorMod_JJ.yB 6 (some .long)) && am_wd (am_nth aux 9) (.initialized "java/lang/Math")))))
      | false => am_okc own 1 i aux))
  | .invokespecial i => (match Nat.beq (am_nth aux 0) 1001 with
    | true => am_wd (am_nth aux 5) (.methodLink own i Lib.objectInit) && (am_wd (am_nth aux 6) (.instanceMethod Lib.objectInit) && am_wd (am_nth aux 7) (.code Lib.objectInit ⟨#[0xb1]⟩ 1 none))
    | false => am_okc own 2 i aux)
  | .ireturn => decide (ret = some .int ∨ ret = some .boolean)
  | .lreturn => decide (ret = some .long)
  | .areturn => decide (ret = some (.object RX3))
  | .return_ => decide (ret = none)
  | _ => true
def am_ok1 (own : String) (init : Bool) (ret : Option FieldType) (bytes : ByteArray) (nL : Nat) (q : CI) : Bool := decide (decode bytes q.2.1 = .ok (q.2.2.1, q.2.2.2.1)) && ((am_isSw q.2.2.1 || Nat.beq q.2.2.2.1 (am_ilen q.2.2.1)) && am_ok2 own init ret nL q.2.1 q.2.2.1 q.2.2.2.2.1 q.2.2.2.2.2)
def am_lin : List CI → Bool
  | [] => true
  | q :: l => (match l with
    | [] => true
    | q2 :: _ => Nat.beq (q.2.1 + q.2.2.2.1) q2.2.1) && am_lin l
def am_chk (ix : Nat) : Bool := match am_mt[ix]? with
  | some μ => (am_M.code μ).all (am_ok1 (am_M.own μ) (decide ((am_M.y μ).name = "<init>")) (am_M.ret μ) (am_M.bytes μ) (am_M.nL μ)) && (am_lin (am_M.code μ) && (decide ((am_M.y μ).cls = am_M.own μ) && plainName (am_M.y μ).cls))
  | none => false
end
section
theorem ok_F_init : am_chk 0 = true := by decide +kernel
theorem ok_F_sheet : am_chk 1 = true := by decide +kernel
theorem ok_F_set : am_chk 2 = true := by decide +kernel
theorem ok_F_copy : am_chk 3 = true := by decide +kernel
theorem ok_F_drop : am_chk 4 = true := by decide +kernel
theorem ok_F_part : am_chk 5 = true := by decide +kernel
theorem ok_F_nth : am_chk 6 = true := by decide +kernel
theorem ok_F_both : am_chk 7 = true := by decide +kernel
theorem ok_F_turn : am_chk 8 = true := by decide +kernel
theorem ok_F_clear : am_chk 9 = true := by decide +kernel
theorem ok_F_kind : am_chk 10 = true := by decide +kernel
theorem ok_F_is : am_chk 11 = true := by decide +kernel
theorem ok_F_as : am_chk 12 = true := by decide +kernel
theorem ok_F_ask : am_chk 13 = true := by decide +kernel
theorem ok_F_trace : am_chk 14 = true := by decide +kernel
theorem ok_F_block : am_chk 15 = true := by decide +kernel
theorem ok_F_told : am_chk 16 = true := by decide +kernel
theorem ok_F_finer : am_chk 17 = true := by decide +kernel
theorem ok_F_handles : am_chk 18 = true := by decide +kernel
theorem ok_F_series : am_chk 19 = true := by decide +kernel
theorem ok_F_number : am_chk 20 = true := by decide +kernel
theorem ok_F_join : am_chk 21 = true := by decide +kernel
theorem ok_F_change : am_chk 22 = true := by decide +kernel
theorem ok_F_hankel : am_chk 23 = true := by decide +kernel
theorem ok_F_same : am_chk 24 = true := by decide +kernel
theorem ok_F_genus : am_chk 25 = true := by decide +kernel
theorem ok_F_mean : am_chk 26 = true := by decide +kernel
theorem ok_F_walks : am_chk 27 = true := by decide +kernel
theorem ok_F_count : am_chk 28 = true := by decide +kernel
theorem ok_F_status : am_chk 29 = true := by decide +kernel
theorem ok_F_noSheet : am_chk 30 = true := by decide +kernel
theorem ok_F_noPlace : am_chk 31 = true := by decide +kernel
theorem ok_F_noSeries : am_chk 32 = true := by decide +kernel
theorem ok_F_noSort : am_chk 33 = true := by decide +kernel
theorem ok_F_noPairs : am_chk 34 = true := by decide +kernel
theorem ok_F_noRun : am_chk 35 = true := by decide +kernel
theorem ok_F_finding : am_chk 36 = true := by decide +kernel
theorem ok_F_fine : am_chk 37 = true := by decide +kernel
theorem ok_F_lowestBits : am_chk 38 = true := by decide +kernel
theorem ok_F_labelLikeItems : am_chk 39 = true := by decide +kernel
theorem ok_F_shelve : am_chk 40 = true := by decide +kernel
theorem ok_F_meetOf : am_chk 41 = true := by decide +kernel
end
section
theorem ok_F_joinOf : am_chk 42 = true := by decide +kernel
theorem ok_F_turnedBy : am_chk 43 = true := by decide +kernel
theorem ok_F_complementOf : am_chk 44 = true := by decide +kernel
theorem ok_F_handlesOf : am_chk 45 = true := by decide +kernel
theorem ok_F_countSheets : am_chk 46 = true := by decide +kernel
theorem ok_F_countThings : am_chk 47 = true := by decide +kernel
theorem ok_F_sizeOf : am_chk 48 = true := by decide +kernel
theorem ok_F_markOf : am_chk 49 = true := by decide +kernel
theorem ok_F_leaveTrace : am_chk 50 = true := by decide +kernel
theorem ok_F_body10 : am_chk 51 = true := by decide +kernel
theorem ok_F_body11 : am_chk 52 = true := by decide +kernel
theorem ok_F_body12 : am_chk 53 = true := by decide +kernel
theorem ok_F_body13 : am_chk 54 = true := by decide +kernel
theorem ok_F_body14 : am_chk 55 = true := by decide +kernel
theorem ok_F_body20 : am_chk 56 = true := by decide +kernel
theorem ok_F_body21 : am_chk 57 = true := by decide +kernel
theorem ok_F_body22 : am_chk 58 = true := by decide +kernel
theorem ok_F_isPrime : am_chk 59 = true := by decide +kernel
theorem ok_F_power : am_chk 60 = true := by decide +kernel
theorem ok_F_multiplyByPowers : am_chk 61 = true := by decide +kernel
theorem ok_F_determinant : am_chk 62 = true := by decide +kernel
theorem ok_F_swapRows : am_chk 63 = true := by decide +kernel
theorem ok_F_clearColumnBelow : am_chk 64 = true := by decide +kernel
theorem ok_F_countPairings : am_chk 65 = true := by decide +kernel
theorem ok_F_walkOneStep : am_chk 66 = true := by decide +kernel
theorem ok_M_in : am_chk 67 = true := by decide +kernel
theorem ok_M_found : am_chk 68 = true := by decide +kernel
theorem ok_M_isPrime : am_chk 69 = true := by decide +kernel
theorem ok_M_init : am_chk 70 = true := by decide +kernel
theorem ok_M_isSheet : am_chk 71 = true := by decide +kernel
theorem ok_M_sheet : am_chk 72 = true := by decide +kernel
theorem ok_M_set : am_chk 73 = true := by decide +kernel
theorem ok_M_copy : am_chk 74 = true := by decide +kernel
theorem ok_M_drop : am_chk 75 = true := by decide +kernel
theorem ok_M_isPlace : am_chk 76 = true := by decide +kernel
theorem ok_M_load : am_chk 77 = true := by decide +kernel
theorem ok_M_relabel : am_chk 78 = true := by decide +kernel
theorem ok_M_crossedAt : am_chk 79 = true := by decide +kernel
theorem ok_M_isFree : am_chk 80 = true := by decide +kernel
theorem ok_M_blocks : am_chk 81 = true := by decide +kernel
theorem ok_M_sizeOf : am_chk 82 = true := by decide +kernel
theorem ok_M_isOfPairs : am_chk 83 = true := by decide +kernel
theorem ok_M_kindOf : am_chk 84 = true := by decide +kernel
end
section
theorem ok_M_lay : am_chk 85 = true := by decide +kernel
theorem ok_M_part : am_chk 86 = true := by decide +kernel
theorem ok_M_next : am_chk 87 = true := by decide +kernel
theorem ok_M_nextFree : am_chk 88 = true := by decide +kernel
theorem ok_M_first : am_chk 89 = true := by decide +kernel
theorem ok_M_nth : am_chk 90 = true := by decide +kernel
theorem ok_M_isOf : am_chk 91 = true := by decide +kernel
theorem ok_M_asked : am_chk 92 = true := by decide +kernel
theorem ok_M_both : am_chk 93 = true := by decide +kernel
theorem ok_M_mix : am_chk 94 = true := by decide +kernel
theorem ok_M_crossing : am_chk 95 = true := by decide +kernel
theorem ok_M_complement : am_chk 96 = true := by decide +kernel
theorem ok_M_turn : am_chk 97 = true := by decide +kernel
theorem ok_M_clear : am_chk 98 = true := by decide +kernel
theorem ok_M_kind : am_chk 99 = true := by decide +kernel
theorem ok_M_is : am_chk 100 = true := by decide +kernel
theorem ok_M_blocksAt : am_chk 101 = true := by decide +kernel
theorem ok_M_as : am_chk 102 = true := by decide +kernel
theorem ok_M_began : am_chk 103 = true := by decide +kernel
theorem ok_M_plainMark : am_chk 104 = true := by decide +kernel
theorem ok_M_sized : am_chk 105 = true := by decide +kernel
theorem ok_M_marked : am_chk 106 = true := by decide +kernel
theorem ok_M_ask : am_chk 107 = true := by decide +kernel
theorem ok_M_trace : am_chk 108 = true := by decide +kernel
theorem ok_M_block : am_chk 109 = true := by decide +kernel
theorem ok_M_isFiner : am_chk 110 = true := by decide +kernel
theorem ok_M_product : am_chk 111 = true := by decide +kernel
theorem ok_M_told : am_chk 112 = true := by decide +kernel
theorem ok_M_isSame : am_chk 113 = true := by decide +kernel
theorem ok_M_finer : am_chk 114 = true := by decide +kernel
theorem ok_M_handlesBy : am_chk 115 = true := by decide +kernel
theorem ok_M_handlesOf : am_chk 116 = true := by decide +kernel
theorem ok_M_handles : am_chk 117 = true := by decide +kernel
theorem ok_M_isSeries : am_chk 118 = true := by decide +kernel
theorem ok_M_m : am_chk 119 = true := by decide +kernel
theorem ok_M_choose : am_chk 120 = true := by decide +kernel
theorem ok_M_lesser : am_chk 121 = true := by decide +kernel
theorem ok_M_findCumulants : am_chk 122 = true := by decide +kernel
theorem ok_M_findMoments : am_chk 123 = true := by decide +kernel
theorem ok_M_modulo : am_chk 124 = true := by decide +kernel
theorem ok_M_series : am_chk 125 = true := by decide +kernel
theorem ok_M_number : am_chk 126 = true := by decide +kernel
end
section
theorem ok_M_join : am_chk 127 = true := by decide +kernel
theorem ok_M_mixed : am_chk 128 = true := by decide +kernel
theorem ok_M_change : am_chk 129 = true := by decide +kernel
theorem ok_M_inverse : am_chk 130 = true := by decide +kernel
theorem ok_M_hankel : am_chk 131 = true := by decide +kernel
theorem ok_M_same : am_chk 132 = true := by decide +kernel
theorem ok_M_findPairings : am_chk 133 = true := by decide +kernel
theorem ok_M_genus : am_chk 134 = true := by decide +kernel
theorem ok_M_mean : am_chk 135 = true := by decide +kernel
theorem ok_M_walks : am_chk 136 = true := by decide +kernel
theorem ok_M_count : am_chk 137 = true := by decide +kernel
theorem ok_M_status : am_chk 138 = true := by decide +kernel
theorem ok_C_init : am_chk 139 = true := by decide +kernel
theorem ok_C_toMoments : am_chk 140 = true := by decide +kernel
theorem ok_C_ofMoments : am_chk 141 = true := by decide +kernel
theorem ok_C_keepPowers : am_chk 142 = true := by decide +kernel
theorem ok_C_sumOfFiner : am_chk 143 = true := by decide +kernel
theorem ok_C_multiply : am_chk 144 = true := by decide +kernel
theorem ok_O_init : am_chk 145 = true := by decide +kernel
theorem ok_O_placeOf : am_chk 146 = true := by decide +kernel
theorem ok_O_tell : am_chk 147 = true := by decide +kernel
theorem ok_P_init : am_chk 148 = true := by decide +kernel
theorem ok_P_begin : am_chk 149 = true := by decide +kernel
theorem ok_P_add : am_chk 150 = true := by decide +kernel
theorem ok_P_at : am_chk 151 = true := by decide +kernel
theorem ok_P_weighted : am_chk 152 = true := by decide +kernel
theorem ok_T_init : am_chk 153 = true := by decide +kernel
theorem ok_T_numberBlocks : am_chk 154 = true := by decide +kernel
theorem ok_T_allInPairs : am_chk 155 = true := by decide +kernel
theorem ok_T_pointsIn : am_chk 156 = true := by decide +kernel
theorem ok_T_kindToTell : am_chk 157 = true := by decide +kernel
theorem ok_T_inRows : am_chk 158 = true := by decide +kernel
theorem ok_T_crossesItself : am_chk 159 = true := by decide +kernel
theorem ok_T_isCrossed : am_chk 160 = true := by decide +kernel
theorem ok_T_isOf : am_chk 161 = true := by decide +kernel
theorem ok_T_isFinerThan : am_chk 162 = true := by decide +kernel
theorem ok_T_productOver : am_chk 163 = true := by decide +kernel
theorem ok_T_labelRings : am_chk 164 = true := by decide +kernel
theorem ok_T_labelRing : am_chk 165 = true := by decide +kernel
theorem ok_T_aheadInBlock : am_chk 166 = true := by decide +kernel
theorem ok_L_cell : am_chk 167 = true := by decide +kernel
theorem ok_JA_fillI : am_chk 169 = true := by decide +kernel
theorem ok_JA_fillJ : am_chk 170 = true := by decide +kernel
end
section
theorem okL_0 : cd_L_law_0.all (am_ok1 RL (decide (x.name = "<init>")) ret code 4) = true := by decide +kernel
theorem okL_1 : cd_L_law_1.all (am_ok1 RL (decide (x.name = "<init>")) ret code 4) = true := by decide +kernel
theorem okL_2 : cd_L_law_2.all (am_ok1 RL (decide (x.name = "<init>")) ret code 4) = true := by decide +kernel
theorem okL_3 : cd_L_law_3.all (am_ok1 RL (decide (x.name = "<init>")) ret code 4) = true := by decide +kernel
theorem okL_4 : cd_L_law_4.all (am_ok1 RL (decide (x.name = "<init>")) ret code 4) = true := by decide +kernel
theorem okL_5 : cd_L_law_5.all (am_ok1 RL (decide (x.name = "<init>")) ret code 4) = true := by decide +kernel
theorem okL_6 : cd_L_law_6.all (am_ok1 RL (decide (x.name = "<init>")) ret code 4) = true := by decide +kernel
theorem okL_7 : cd_L_law_7.all (am_ok1 RL (decide (x.name = "<init>")) ret code 4) = true := by decide +kernel
theorem okL_8 : cd_L_law_8.all (am_ok1 RL (decide (x.name = "<init>")) ret code 4) = true := by decide +kernel
theorem okL_9 : cd_L_law_9.all (am_ok1 RL (decide (x.name = "<init>")) ret code 4) = true := by decide +kernel
theorem okL_10 : cd_L_law_10.all (am_ok1 RL (decide (x.name = "<init>")) ret code 4) = true := by decide +kernel
theorem okL_11 : cd_L_law_11.all (am_ok1 RL (decide (x.name = "<init>")) ret code 4) = true := by decide +kernel
theorem okL_12 : cd_L_law_12.all (am_ok1 RL (decide (x.name = "<init>")) ret code 4) = true := by decide +kernel
theorem okL_13 : cd_L_law_13.all (am_ok1 RL (decide (x.name = "<init>")) ret code 4) = true := by decide +kernel
theorem okL_14 : cd_L_law_14.all (am_ok1 RL (decide (x.name = "<init>")) ret code 4) = true := by decide +kernel
theorem okL_15 : cd_L_law_15.all (am_ok1 RL (decide (x.name = "<init>")) ret code 4) = true := by decide +kernel
theorem okL_16 : cd_L_law_16.all (am_ok1 RL (decide (x.name = "<init>")) ret code 4) = true := by decide +kernel
theorem okL_17 : cd_L_law_17.all (am_ok1 RL (decide (x.name = "<init>")) ret code 4) = true := by decide +kernel
theorem okL_18 : cd_L_law_18.all (am_ok1 RL (decide (x.name = "<init>")) ret code 4) = true := by decide +kernel
theorem okL_19 : cd_L_law_19.all (am_ok1 RL (decide (x.name = "<init>")) ret code 4) = true := by decide +kernel
theorem okL_20 : cd_L_law_20.all (am_ok1 RL (decide (x.name = "<init>")) ret code 4) = true := by decide +kernel
theorem okL_21 : cd_L_law_21.all (am_ok1 RL (decide (x.name = "<init>")) ret code 4) = true := by decide +kernel
theorem okL_22 : cd_L_law_22.all (am_ok1 RL (decide (x.name = "<init>")) ret code 4) = true := by decide +kernel
theorem okL_23 : cd_L_law_23.all (am_ok1 RL (decide (x.name = "<init>")) ret code 4) = true := by decide +kernel
theorem okL_lin : am_lin cd_L_law = true := by decide +kernel
theorem okL_rest : (decide (x.cls = RL) && plainName x.cls) = true := by decide +kernel
theorem okL_all : cd_L_law.all (am_ok1 RL (decide (x.name = "<init>")) ret code 4) = true := by
  unfold cd_L_law
  simp only [List.all_append, Bool.and_eq_true]
  exact ⟨okL_0, ⟨okL_1, ⟨okL_2, ⟨okL_3, ⟨okL_4, ⟨okL_5, ⟨okL_6, ⟨okL_7, ⟨okL_8, ⟨okL_9, ⟨okL_10, ⟨okL_11, ⟨okL_12, ⟨okL_13, ⟨okL_14, ⟨okL_15, ⟨okL_16, ⟨okL_17, ⟨okL_18, ⟨okL_19, ⟨okL_20, ⟨okL_21, ⟨okL_22, okL_23⟩⟩⟩⟩⟩⟩⟩⟩⟩⟩⟩⟩⟩⟩⟩⟩⟩⟩⟩⟩⟩⟩⟩
theorem ok_L_law : am_chk 168 = true := by
  show (cd_L_law.all (am_ok1 RL (decide (x.name = "<init>")) ret code 4) && (am_lin cd_L_law && (decide (x.cls = RL) && plainName x.cls))) = true
  rw [okL_all, okL_lin, okL_rest]
  rfl
end
section
/-! calls: Math's, and our own -/
theorem so_mmax {X : am_X} (cx : am_cx X) {pc : Nat} {ls : am_L} {st : List AV} {V : am_V} {R : am_T} {T cc cs : Nat} {i w1 w2 w3 w4 : Nat} {a b : Int} (hd : decode (am_X.bytes X) pc = .ok (.invokestatic i, 3)) (h1 : lw_tbl[w1]? = some (.methodLink (am_X.own X) i Lib.Math.max.name)) (h2 : lw_tbl[w2]? = some (.static Lib.Math.max.name)) (h3 : lw_tbl[w3]? = some (.code Lib.Math.max.name Lib.Math.max.code 2 (some .int))) (h4 : lw_tbl[w4]? = some (.initialized "java/lang/Math")) (hfr : 1 ≤ (am_X.Rm X).frames) (hlo : 36 ≤ (am_X.Rm X).locals) (hc : am_cats st ≤ 8) (ha : am_in32 a) (hb0 : am_in32 b) (k1 : a < b → am_W X (pc + 3) ls (.inl b :: st) V R T cc cs) (k2 : b ≤ a → am_W X (pc + 3) ls (.inl a :: st) V R T cc cs) : am_W X pc ls (.inl b :: .inl a :: st) V R T cc cs := by
  obtain ⟨p, e, Rm, s, me, args, below, meth, c, QQ, G, own, bytes, nL, Bc, Bs, V0, T0⟩ := X
  obtain ⟨hx, hb, hml, hown, hts, hK, hRc, hRs⟩ := cx
  intro la H locs hf
  have hlo : 36 ≤ Rm.locals := hlo
  have hcs := am_cats_sum (G := G) st
  refine va_mmax hx hb (by rw [hml]; exact hf.oL.2.1.1.symm) hown (hts _ (List.mem_of_getElem? h1) rfl) (hts _ (List.mem_of_getElem? h2) rfl) (hts _ (List.mem_of_getElem? h4) rfl) (hts _ (List.mem_of_getElem? h3) rfl) hfr (by omega) (by rw [hRc]; exact hf.oB.1) (by rw [hRs]; exact hf.oB.2) hd ?_
  by_cases h : a < b
  · rw [if_pos ((i32_lt ha hb0).mpr h)]
    exact k1 h la H locs (hf.pop.pop.push trivial)
  · rw [if_neg (fun q => h ((i32_lt ha hb0).mp q))]
    exact k2 (by omega) la H locs (hf.pop.pop.push trivial)
theorem so_mmin {X : am_X} (cx : am_cx X) {pc : Nat} {ls : am_L} {st : List AV} {V : am_V} {R : am_T} {T cc cs : Nat} {i w1 w2 w3 w4 : Nat} {a b : Int} (hd : decode (am_X.bytes X) pc = .ok (.invokestatic i, 3)) (h1 : lw_tbl[w1]? = some (.methodLink (am_X.own X) i Lib.Math.min.name)) (h2 : lw_tbl[w2]? = some (.static Lib.Math.min.name)) (h3 : lw_tbl[w3]? = some (.code Lib.Math.min.name Lib.Math.min.code 2 (some .int))) (h4 : lw_tbl[w4]? = some (.initialized "java/lang/Math")) (hfr : 1 ≤ (am_X.Rm X).frames) (hlo : 36 ≤ (am_X.Rm X).locals) (hc : am_cats st ≤ 8) (ha : am_in32 a) (hb0 : am_in32 b) (k1 : a ≤ b → am_W X (pc + 3) ls (.inl a :: st) V R T cc cs) (k2 : b < a → am_W X (pc + 3) ls (.inl b :: st) V R T cc cs) : am_W X pc ls (.inl b :: .inl a :: st) V R T cc cs := by
  obtain ⟨p, e, Rm, s, me, args, below, meth, c, QQ, G, own, bytes, nL, Bc, Bs, V0, T0⟩ := X
  obtain ⟨hx, hb, hml, hown, hts, hK, hRc, hRs⟩ := cx
  intro la H locs hf
  have hlo : 36 ≤ Rm.locals := hlo
  have hcs := am_cats_sum (G := G) st
  refine va_mmin hx hb (by rw [hml]; exact hf.oL.2.1.1.symm) hown (hts _ (List.mem_of_getElem? h1) rfl) (hts _ (List.mem_of_getElem? h2) rfl) (hts _ (List.mem_of_getElem? h4) rfl) (hts _ (List.mem_of_getElem? h3) rfl) hfr (by omega) (by rw [hRc]; exact hf.oB.1) (by rw [hRs]; exact hf.oB.2) hd ?_
  by_cases h : b < a
  · rw [if_pos ((i32_lt hb0 ha).mpr h)]
    exact k2 h la H locs (hf.pop.pop.push trivial)
  · rw [if_neg (fun q => h ((i32_lt hb0 ha).mp q))]
    exact k1 (by omega) la H locs (hf.pop.pop.push trivial)
theorem am_tmod_neg {a b : Int} (ha : a < 0) (hb : 0 < b) : (a.tmod b = 0 → a % b = 0) ∧ (a.tmod b ≠ 0 → a % b = a.tmod b + b) ∧ -b < a.tmod b ∧ a.tmod b ≤ 0 := by
  have e := Int.mul_tdiv_add_tmod a b
  have h1 : -b < a.tmod b := (tmod_bounds hb).1
  have h2 : a.tmod b ≤ 0 := by
    have := Int.tmod_nonneg b (show 0 ≤ -a by omega)
    rw [Int.neg_tmod] at this
    omega
  have h3 : a % b = (a.tmod b) % b := by
    conv => lhs; rw [← e]
    rw [Int.mul_add_emod_self_left]
  refine ⟨fun h => by rw [h3, h]; exact Int.zero_emod b, fun h => ?_, h1, h2⟩
  rw [h3, ← Int.add_emod_right, Int.emod_eq_of_lt (by omega) (by omega)]
theorem am_floorMod {a b : Int} (ha : am_in64 a) (hb : 0 < b) (hb2 : b ≤ 9223372036854775807) : Jvm.Free.JP.Math_floorMod_JJ.val (Int64.ofInt a) (Int64.ofInt b) = Int64.ofInt (a % b) := by
  unfold Jvm.Free.JP.Math_floorMod_JJ.val
  have hbi : am_in64 b := ⟨by omega, hb2⟩
  obtain ⟨x, x1, x2, x3⟩ := i64_xor_sign ha hbi
  rw [x3, i64_rem ha hb hb2]
  have h0 : Int64.ofInt x < 0 ↔ x < 0 := i64_lt x1 (show am_in64 0 from ⟨by decide, by decide⟩)
  have hr : am_in64 (a.tmod b) := by
    have := tmod_bounds (a := a) hb
    exact ⟨by omega, by omega⟩
  have h1 : Int64.ofInt (a.tmod b) = 0 ↔ a.tmod b = 0 := i64_eq hr (show am_in64 0 from ⟨by decide, by decide⟩)
  by_cases hneg : a < 0
  · obtain ⟨n1, n2, -, -⟩ := am_tmod_neg hneg hb
    rw [if_pos (h0.mpr (x2.mpr (Or.inl ⟨hneg, by omega⟩)))]
    by_cases hz : a.tmod b = 0
    · rw [if_pos (h1.mpr hz), hz, n1 hz]
    · rw [if_neg (fun q => hz (h1.mp q)), n2 hz, Int64.ofInt_add]
  · rw [if_neg (fun q => by have := x2.mp (h0.mp q); omega), Int.tmod_eq_emod_of_nonneg (by omega)]
theorem so_floorMod {X : am_X} (cx : am_cx X) {pc : Nat} {ls : am_L} {st : List AV} {V : am_V} {R : am_T} {T cc cs : Nat} {i w1 w2 w3 w4 : Nat} {a b : Int} (hd : decode (am_X.bytes X) pc = .ok (.invokestatic i, 3)) (h1 : lw_tbl[w1]? = some (.methodLink (am_X.own X) i Jvm.Free.JP.Math_floorMod_JJ.yN)) (h2 : lw_tbl[w2]? = some (.static Jvm.Free.JP.Math_floorMod_JJ.yN)) (h3 : lw_tbl[w3]? = some (.code Jvm.Free.JP.Math_floorMod_JJ.yN Jvm.Free.JP.Math_floorMod_JJ.yB 6 (some .long))) (h4 : lw_tbl[w4]? = some (.initialized "java/lang/Math")) (hfr : 1 ≤ (am_X.Rm X).frames) (hlo : 36 ≤ (am_X.Rm X).locals) (hc : am_cats st ≤ 8) (ha : am_in64 a) (hb0 : 0 < b) (hb1 : b ≤ 9223372036854775807) (kk : am_W X (pc + 3) ls (.inr (.inl (a % b)) :: st) V R T cc cs) : am_W X pc ls (.inr (.inl b) :: .inr (.inl a) :: st) V R T cc cs := by
  obtain ⟨p, e, Rm, s, me, args, below, meth, c, QQ, G, own, bytes, nL, Bc, Bs, V0, T0⟩ := X
  obtain ⟨hx, hb, hml, hown, hts, hK, hRc, hRs⟩ := cx
  intro la H locs hf
  have hlo : 36 ≤ Rm.locals := hlo
  have hcs := am_cats_sum (G := G) st
  have q1 := hts _ (List.mem_of_getElem? h1) rfl
  have q2 := hts _ (List.mem_of_getElem? h2) rfl
  have q3 := hts _ (List.mem_of_getElem? h3) rfl
  have q4 := hts _ (List.mem_of_getElem? h4) rfl
  have htab : Jvm.Free.JP.Math_floorMod_JJ.tab.before args s = true := Jvm.Free.XT.unparts q3 (fun w hw => by
    have : w = .initialized Jvm.Free.JP.Math_floorMod_JJ.yN.cls := by
      simpa [Jvm.Free.JP.Math_floorMod_JJ.site] using hw
    rw [this]
    exact q4)
  intro T' hT' Xs
  obtain ⟨v, vm₁, ⟨U', l2, c2, s2⟩, hW₁, X', ⟨⟨hE1, hE2⟩, g1, g2, g3⟩, step⟩ := callS Xs hx (bytes := Jvm.Free.JP.Math_floorMod_JJ.yB) (maxL := 6) (ret := some .long) hown q1 q2 q4 q3 ⟨by decide, by decide⟩ (Jvm.Free.JP.Math_floorMod_JJ.pays (W := 8) (Int64.ofInt a) (Int64.ofInt b) htab hfr (by omega)) (g := F0 me pc la (.long (Int64.ofInt b) :: .long (Int64.ofInt a) :: st.map (am_cv G))) rfl (by rw [hml]; exact hf.oL.2.1.1) (argsL := [.long (Int64.ofInt a), .long (Int64.ofInt b)]) (rest := st.map (am_cv G)) (fun sig h => by
      have e9 : (parseMethodDescriptor Jvm.Free.JP.Math_floorMod_JJ.yN.desc).map (fun d => d.parameters.length) = some 2 := by decide +kernel
      rw [h] at e9
      exact (Option.some.inj e9).symm) rfl (lv_room (by omega)) (by rw [hb]; exact hd) (fun vm₁ _ => ⟨by show cc + 0 ≤ _; rw [hRc]; exact hf.oB.1, by show cs + 0 ≤ _; rw [hRs]; exact hf.oB.2, rfl, i64_ne0 hb0 hb1⟩)
  dsimp only [Pt.U, Pt.locs, Pt.cells, Pt.slots] at X' hE2 g1 g2 g3 step
  subst g1; subst g2; subst g3
  subst hE1
  rw [List.append_nil] at X'
  rw [am_floorMod ha hb0 hb1] at step
  obtain ⟨t, a1, b1⟩ := kk la H locs (hf.pop.pop.push trivial) U' (by rw [hE2]; exact hT') X'
  exact ⟨t, step t a1, b1⟩
def am_room0 (d bc bs : Nat) : Room := { frames := d, cells := bc, slots := bs, locals := 36 * d }
def am_words (μ : am_M) : List Jvm.Cond := .code (am_M.y μ) (am_M.bytes μ) (am_M.nL μ) (am_M.ret μ) :: am_gw
def am_Pc (G : am_G) (as : List AV) (V : am_V) (R : am_T) (T : Nat) : Array Value → State → Prop := fun a U => a = (as.map (am_cv G)).toArray ∧ U.heap.size = am_G.b G + (T - 3) ∧ 3 ≤ T ∧ va_P (am_G.D G) am_cls (am_ws G V R T) U.heap ∧ am_okR R T ∧ (∀ v ∈ as, am_okv T v) ∧ am_K G V U
def am_Qc (G : am_G) (V : am_V) (T : Nat) (Q : Option AV → am_V → am_T → Nat → Prop) : Array Value → State → Outcome → State → Prop := fun _ st o t => (∃ (v : Option AV) (V' : am_V) (R' : am_T) (T' : Nat), o = .returned (v.map (am_cv G)) ∧ Q v V' R' T' ∧ t.heap.size = am_G.b G + (T' - 3) ∧ T ≤ T' ∧ va_P (am_G.D G) am_cls (am_ws G V' R' T') t.heap ∧ am_okR R' T' ∧ (∀ e, e < 3 → V' e = V e) ∧ (∀ x, v = some x → am_okv T' x)) ∧ va_F (fun q => am_G.b G ≤ q) st t
/-- a call of method ix, d frames deep at most, from this memory: it comes back with Q -/
def am_Calls (G : am_G) (d ix : Nat) (as : List AV) (V : am_V) (R : am_T) (T : Nat) (Q : Option AV → am_V → am_T → Nat → Prop) : Prop := ∃ μ, am_mt[ix]? = some μ ∧ Met (am_G.l G) (am_M.y μ) (am_words μ) (am_room0 d (am_M.bc μ) (am_M.bs μ)) (am_Pc G as V R T) (am_Qc G V T Q) (am_M.bc μ) (am_M.bs μ) (fun q => am_G.b G ≤ q)
theorem am_K.moved {G : am_G} {V0 : am_V} {u U : State} (hvm : u.vm.Alike U.vm) (hh : ∀ q, q < u.heap.size → ¬ am_G.b G ≤ q → U.heap[q]? = u.heap[q]?) (h : am_K G V0 u) : am_K G V0 U := by
  obtain ⟨h1, h2, h3, h4, h5, h6, h7, h8, h9, h10⟩ := h
  exact ⟨va_K.moved hvm h1, va_AO.moved hvm h2, Jvm.Stand.arrayOver_alikeB hvm h3, Jvm.Stand.arrayOver_alikeB hvm h4, (va_Z.moved hvm h5).kept hh, (va_Z.moved hvm h6).kept hh, h7, (va_T.moved hvm h8).kept hh, (va_T.moved hvm h9).kept hh, (va_T.moved hvm h10).kept hh⟩
theorem am_blind {G : am_G} {as : List AV} {V : am_V} {R : am_T} {T : Nat} : FrameBlind (am_Pc G as V R T) := by
  intro a U g mk q
  obtain ⟨q0, q1, q2, q3, q4, q5, q6⟩ := q
  exact ⟨q0, q1, q2, q3, q4, q5, am_K.moved (u := U) (U := U.calling g mk a) (Vm.Alike.refl U.vm) (fun _ _ _ => rfl) q6⟩
end
section
/-! our own methods' calls -/
theorem am_back {G : am_G} {p : Program} {e : Env} {Rm : Room} {s : State} {m : MethodId} {args : Array Value} {below : List Frame} {meth : Method} {c : Code} {QQ : State → Prop} {own : String} {bytes : ByteArray} {nL Bc Bs : Nat} {V0 : am_V} {T0 : Nat} {ls : am_L} {st0 st : List AV} {V : am_V} {R : am_T} {T cc cs bc bs pc : Nat} {la : Array Slot} {H : Heap} {locs : List Loc} {stv : List Value} {a : Array Value} {Q : Option AV → am_V → am_T → Nat → Prop} (hf : am_fr G s V0 T0 nL Bc Bs ls st0 V R T cc cs la H locs) (hst : ∀ v ∈ st, v ∈ st0) (hB : cc + bc ≤ Bc ∧ cs + bs ≤ Bs)
    (hr : va_Run p (am_G.l G) e Rm s m args below meth c H locs cc cs bc bs (F0 m pc la stv) (st.map (am_cv G)) (am_Qc G V T Q a) (fun q => am_G.b G ≤ q))
    (kk : ∀ v V' R' T', Q v V' R' T' → am_W (p, e, Rm, s, m, args, below, meth, c, QQ, G, own, bytes, nL, Bc, Bs, V0, T0) (pc + 3) ls (am_push v st) V' R' T' (cc + bc) (cs + bs)) : W p (am_G.l G) e Rm s m args below meth c H locs cc cs QQ (F0 m pc la stv) := by
  intro S hS X
  obtain ⟨v, st₀, t, S', L, h0, X', hL, e1, e2, ⟨⟨v', V', R', T', hv, hQ, hz, hTT, hP, hR, hV, hok⟩, hz2, hk2⟩, step⟩ := hr S hS X
  have hv : v = v'.map (am_cv G) := by cases hv; rfl
  subst hv
  rw [h0] at hz2 hk2
  have hfr : am_fr G s V0 T0 nL Bc Bs ls (am_push v' st) V' R' T' (cc + bc) (cs + bs) la S'.heap (locs ++ L) := by
    refine ⟨by rw [e1]; exact hz, hf.2.1, Nat.le_trans hf.2.2.1 hTT, by rw [e1]; exact hP, ⟨Nat.le_trans hf.oS.1 (by rw [e1]; exact hz2), fun q h1 h2 => ?_, fun q hq => ?_⟩, hR, fun x hx => (hV x hx).trans (hf.oV x hx), hf.oL.mono hTT, fun w hw => ?_, hB⟩
    · rw [e1, hk2 q (Nat.lt_of_lt_of_le h1 hf.oS.1) h2]
      exact hf.oS.2.1 q h1 h2
    · rcases List.mem_append.mp hq with h | h
      · exact hf.oS.2.2 q h
      · exact hL q h
    · cases v' with
      | none => exact (hf.ok w (hst w hw)).mono hTT
      | some y =>
        rcases List.mem_cons.mp hw with h | h
        · subst h
          exact hok _ rfl
        · exact (hf.ok w (hst w h)).mono hTT
  obtain ⟨t2, a1, b1⟩ := kk v' V' R' T' hQ la S'.heap _ hfr S' rfl X'
  refine ⟨t2, step t2 ?_, b1⟩
  have hpush : (am_push v' st).map (am_cv G) = (v'.map (am_cv G)).toList ++ st.map (am_cv G) := by cases v' <;> rfl
  rw [hpush] at a1
  exact a1
theorem am_pre {G : am_G} {s : State} {V0 : am_V} {T0 nL Bc Bs : Nat} {ls : am_L} {st0 : List AV} {V : am_V} {R : am_T} {T cc cs : Nat} {la : Array Slot} {H : Heap} {locs : List Loc} {as : List AV} (hf : am_fr G s V0 T0 nL Bc Bs ls st0 V R T cc cs la H locs) (hK : am_K G V0 s) (has : ∀ v ∈ as, v ∈ st0) : ∀ U : State, U.heap = H → s.WarmedH U.vm → am_Pc G as V R T (as.map (am_cv G)).toArray U := by
  intro U hU hW
  refine ⟨rfl, by rw [hU]; exact hf.sz, hf.T3, by rw [hU]; exact hf.oP, hf.oR, fun v hv => hf.ok v (has v hv), ?_⟩
  have h1 := am_K.moved (G := G) hW.alike (fun q h1 h2 => by rw [hU]; exact hf.oS.2.1 q h1 h2) hK
  obtain ⟨k1, k2, k3, k4, k5, k6, k7, k8, k9, k10⟩ := h1
  have e0 := hf.oV 0 (by decide)
  have e1 := hf.oV 1 (by decide)
  have e2 := hf.oV 2 (by decide)
  exact ⟨k1, k2, k3, k4, k5, k6, by rw [e0]; exact k7, by rw [e0]; exact k8, by rw [e1]; exact k9, by rw [e2]; exact k10⟩
theorem am_callB {X : am_X} (cx : am_cx X) {d ix i na : Nat} {aux : List Nat} {kd : Nat} {μ : am_M} (hμ : am_mt[ix]? = some μ) (hix : am_nth aux 0 = ix) (hok : am_okc (am_X.own X) kd i aux = true) (hfr : d + 1 ≤ (am_X.Rm X).frames) (hlo : 36 * (d + 1) ≤ (am_X.Rm X).locals) (hn : (parseMethodDescriptor (am_M.y μ).desc).map (fun q => q.parameters.length) = some na) :
    match X with
    | (p, e, Rm, s, m, args, below, meth, c, QQ, G, own, bytes, nL, Bc, Bs, V0, T0) => CallB Rm s args own i (am_M.y μ) (am_M.bytes μ) (am_M.nL μ) (am_M.ret μ) (am_words μ) (am_room0 d (am_M.bc μ) (am_M.bs μ)) (am_M.bc μ) (am_M.bs μ) na := by
  obtain ⟨p, e, Rm, s, m, args, below, meth, c, QQ, G, own, bytes, nL, Bc, Bs, V0, T0⟩ := X
  obtain ⟨hx, hb, hml, hown, hts, hK, hRc, hRs⟩ := cx
  obtain ⟨ow, y, by', nl, rt, bc, bs, cd⟩ := μ
  unfold am_okc at hok
  rw [hix, hμ] at hok
  simp only [Bool.and_eq_true, am_wd, decide_eq_true_eq] at hok
  obtain ⟨-, -, h3, h4, h5, h6, h7, -⟩ := hok
  have hfr : d + 1 ≤ Rm.frames := hfr
  have hlo : 36 * (d + 1) ≤ Rm.locals := hlo
  have hnl : nl ≤ 17 := Nat.le_of_ble_eq_true h6
  refine callB_of na (Ts := am_gw) (am_hts hts) (fun w hw => ?_) rfl rfl rfl (hts _ (List.mem_of_getElem? h5) rfl) (hts _ (List.mem_of_getElem? h3) rfl) ⟨h7.1, h7.2, hn⟩ ⟨hfr, ?_⟩
  · rcases List.mem_cons.mp hw with h | h
    · subst h
      exact ⟨am_gw_of (List.mem_of_getElem? h4) rfl, Or.inl rfl⟩
    · exact ⟨h, good_of_word (List.mem_filter.mp h).2⟩
  · show 8 + (nl + 11) + 36 * d ≤ Rm.locals
    omega
theorem so_callV {X : am_X} (cx : am_cx X) {pc : Nat} {ls : am_L} {st : List AV} {V : am_V} {R : am_T} {T cc cs d i : Nat} {aux : List Nat} {k : Option AV → am_V → am_T → Nat → Prop} (hd : decode (am_X.bytes X) pc = .ok (.invokevirtual i, 3)) (hok : am_okc (am_X.own X) 0 i aux = true) (hrec : am_isr (am_nth aux 10) (st.drop (am_nth aux 1 - 1)) = true) (hcat : am_cats (st.drop (am_nth aux 1)) ≤ 8) (hB : cc + am_nth aux 3 ≤ (am_X.Rm X).cells ∧ cs + am_nth aux 4 ≤ (am_X.Rm X).slots) (hfr : d + 1 ≤ (am_X.Rm X).frames) (hlo : 36 * (d + 1) ≤ (am_X.Rm X).locals) (h : am_Calls (am_X.g X) d (am_nth aux 0) (st.take (am_nth aux 1)).reverse V R T k) (hk : ∀ v V' R' T', k v V' R' T' → am_W X (pc + 3) ls (am_push v (st.drop (am_nth aux 1))) V' R' T' (cc + am_nth aux 3) (cs + am_nth aux 4)) : am_W X pc ls st V R T cc cs := by
  obtain ⟨μ, hμ, hM⟩ := h
  have hok2 := hok
  unfold am_okc at hok2
  rw [hμ] at hok2
  obtain ⟨ow, y, by', nl, rt, bc, bs, cd⟩ := μ
  simp only [Bool.and_eq_true, am_wd, decide_eq_true_eq] at hok2
  obtain ⟨q1, q2, q3, q4, q5, q6, q7, q8, q9, q10, q11, q12⟩ := hok2
  have q1 := Nat.eq_of_beq_eq_true q1
  have q2 := Nat.eq_of_beq_eq_true q2
  have q11 : am_nth aux 10 < 6 := Nat.le_of_ble_eq_true q11
  obtain ⟨na, hna⟩ : ∃ na, am_nth aux 1 = na + 1 := by
    cases hp : parseMethodDescriptor y.desc with
    | none => rw [hp] at q12; cases q12
    | some sg => rw [hp] at q12; exact ⟨_, (Option.some.inj q12).symm⟩
  have hnp : (parseMethodDescriptor y.desc).map (fun q => q.parameters.length) = some na := by
    cases hp : parseMethodDescriptor y.desc with
    | none => rw [hp] at q12; cases q12
    | some sg =>
      rw [hp, hna] at q12
      have := Option.some.inj q12
      exact congrArg some (Nat.succ.inj this)
  have hcb := am_callB cx hμ rfl hok hfr hlo hnp
  rw [hna] at hrec hcat hM hk
  rw [← q1, ← q2] at hB hk
  rw [Nat.add_sub_cancel] at hrec
  obtain ⟨o, rest, hdrop, hlay⟩ : ∃ o rest, st.drop na = .inr (.inr (some (.inl o))) :: rest ∧ (am_lay o).1 = 10 + am_nth aux 10 := by
    match hq : st.drop na, hrec with
    | .inr (.inr (some (.inl a))) :: l, hr => exact ⟨a, l, rfl, Nat.eq_of_beq_eq_true hr⟩
  have hlt : na < st.length := by
    rcases Nat.lt_or_ge na st.length with q | q
    · exact q
    · rw [List.drop_eq_nil_of_le q] at hdrop
      cases hdrop
  have hrest : st.drop (na + 1) = rest := by
    rw [← List.drop_drop, hdrop]
    rfl
  have htk : st.take (na + 1) = st.take na ++ [.inr (.inr (some (.inl o)))] := by
    have e1 : st = st.take na ++ (.inr (.inr (some (.inl o))) :: rest) := by rw [← hdrop, List.take_append_drop]
    have hl : (st.take na).length = na := by rw [List.length_take]; omega
    conv => lhs; rw [e1]
    rw [List.take_append, hl, show na + 1 - na = 1 by omega]
    congr 1
    · rw [List.take_of_length_le]
      omega
  have hsplit : st = (st.take na) ++ (.inr (.inr (some (.inl o))) :: rest) := by rw [← hdrop, List.take_append_drop]
  rw [hrest] at hk hcat
  rw [htk, List.reverse_append, List.reverse_singleton] at hM
  obtain ⟨p, e, Rm, s, m, args, below, meth, c, QQ, G, own, bytes, nL, Bc, Bs, V0, T0⟩ := X
  obtain ⟨hx, hb, hml, hown, hts, hK, hRc, hRs⟩ := cx
  intro la H locs hf
  have hoT : o < T := hf.ok (.inr (.inr (some (.inl o)))) (by rw [hsplit]; exact List.mem_append_right _ List.mem_cons_self)
  obtain ⟨⟨kd, n, w, z⟩, hl⟩ : ∃ q, am_lay o = q := ⟨_, rfl⟩
  rw [hl] at hlay
  have hlay : kd = 10 + am_nth aux 10 := hlay
  subst hlay
  obtain ⟨-, hn, h3⟩ := am_obj hl
  have hat := am_ws_at (G := G) (V := V) (R := R) (T := T) h3 hoT
  rw [am_eO hl] at hat
  have hrv := va_recv hK.1 hf.oP (am_cls_at _ q11) hat
  refine am_back (st := rest) hf (fun v hv => by rw [hsplit]; exact List.mem_append_right _ (List.mem_cons_of_mem _ hv)) ⟨by rw [← hRc]; exact hB.1, by rw [← hRs]; exact hB.2⟩ (va_runV (As := ((st.take na).reverse).map (am_cv G)) (b := am_ad G o) (n := na) (nL := nL) ⟨hx, hb, hml, hown, am_hts hts⟩ hM ⟨hcb, hts _ (List.mem_of_getElem? q8) rfl, hts _ (List.mem_of_getElem? q9) rfl⟩ ⟨am_blind, by rw [← q10]; exact hrv, am_pre hf hK (fun v hv => ?_)⟩ rfl (by rw [List.length_map, List.length_reverse, List.length_take]; omega) hf.oL.2.1.1 ?_ (lv_room (by rw [am_cats_sum]; exact hcat)) hd hB) hk
  · rcases List.mem_cons.mp hv with h | h
    · subst h
      rw [hsplit]
      exact List.mem_append_right _ List.mem_cons_self
    · exact List.mem_of_mem_take (List.mem_reverse.mp h)
  · show st.map (am_cv G) = _
    conv => lhs; rw [hsplit]
    rw [List.map_append, ← List.map_reverse, List.reverse_reverse]
    rfl
end
section
theorem so_callI {X : am_X} (cx : am_cx X) {pc : Nat} {ls : am_L} {st : List AV} {V : am_V} {R : am_T} {T cc cs d i : Nat} {aux : List Nat} {k : Option AV → am_V → am_T → Nat → Prop} (hd : decode (am_X.bytes X) pc = .ok (.invokespecial i, 3)) (hok : am_okc (am_X.own X) 2 i aux = true) (hrec : am_isr (am_nth aux 10) (st.drop (am_nth aux 1 - 1)) = true) (hcat : am_cats (st.drop (am_nth aux 1)) ≤ 8) (hB : cc + am_nth aux 3 ≤ (am_X.Rm X).cells ∧ cs + am_nth aux 4 ≤ (am_X.Rm X).slots) (hfr : d + 1 ≤ (am_X.Rm X).frames) (hlo : 36 * (d + 1) ≤ (am_X.Rm X).locals) (h : am_Calls (am_X.g X) d (am_nth aux 0) (st.take (am_nth aux 1)).reverse V R T k) (hk : ∀ v V' R' T', k v V' R' T' → am_W X (pc + 3) ls (am_push v (st.drop (am_nth aux 1))) V' R' T' (cc + am_nth aux 3) (cs + am_nth aux 4)) : am_W X pc ls st V R T cc cs := by
  obtain ⟨μ, hμ, hM⟩ := h
  have hok2 := hok
  unfold am_okc at hok2
  rw [hμ] at hok2
  obtain ⟨ow, y, by', nl, rt, bc, bs, cd⟩ := μ
  simp only [Bool.and_eq_true, am_wd, decide_eq_true_eq] at hok2
  obtain ⟨q1, q2, q3, q4, q5, q6, q7, q8, q9, q10, q12⟩ := hok2
  have q1 := Nat.eq_of_beq_eq_true q1
  have q2 := Nat.eq_of_beq_eq_true q2
  subst q10
  obtain ⟨na, hna⟩ : ∃ na, am_nth aux 1 = na + 1 := by
    cases hp : parseMethodDescriptor y.desc with
    | none => rw [hp] at q12; cases q12
    | some sg => rw [hp] at q12; exact ⟨_, (Option.some.inj q12).symm⟩
  have hnp : (parseMethodDescriptor y.desc).map (fun q => q.parameters.length) = some na := by
    cases hp : parseMethodDescriptor y.desc with
    | none => rw [hp] at q12; cases q12
    | some sg =>
      rw [hp, hna] at q12
      have := Option.some.inj q12
      exact congrArg some (Nat.succ.inj this)
  have hcb := am_callB cx hμ rfl hok hfr hlo hnp
  rw [hna] at hrec hcat hM hk
  rw [← q1, ← q2] at hB hk
  rw [Nat.add_sub_cancel] at hrec
  obtain ⟨o, rest, hdrop⟩ : ∃ o rest, st.drop na = .inr (.inr (some (.inl o))) :: rest := by
    match hq : st.drop na, hrec with
    | .inr (.inr (some (.inl a))) :: l, hr => exact ⟨a, l, rfl⟩
  have hlt : na < st.length := by
    rcases Nat.lt_or_ge na st.length with q | q
    · exact q
    · rw [List.drop_eq_nil_of_le q] at hdrop
      cases hdrop
  have hrest : st.drop (na + 1) = rest := by
    rw [← List.drop_drop, hdrop]
    rfl
  have htk : st.take (na + 1) = st.take na ++ [.inr (.inr (some (.inl o)))] := by
    have e1 : st = st.take na ++ (.inr (.inr (some (.inl o))) :: rest) := by rw [← hdrop, List.take_append_drop]
    have hl : (st.take na).length = na := by rw [List.length_take]; omega
    conv => lhs; rw [e1]
    rw [List.take_append, hl, show na + 1 - na = 1 by omega]
    congr 1
    · rw [List.take_of_length_le]
      omega
  have hsplit : st = (st.take na) ++ (.inr (.inr (some (.inl o))) :: rest) := by rw [← hdrop, List.take_append_drop]
  rw [hrest] at hk hcat
  rw [htk, List.reverse_append, List.reverse_singleton] at hM
  obtain ⟨p, e, Rm, s, m, args, below, meth, c, QQ, G, own, bytes, nL, Bc, Bs, V0, T0⟩ := X
  obtain ⟨hx, hb, hml, hown, hts, hK, hRc, hRs⟩ := cx
  intro la H locs hf
  refine am_back (st := rest) hf (fun v hv => by rw [hsplit]; exact List.mem_append_right _ (List.mem_cons_of_mem _ hv)) ⟨by rw [← hRc]; exact hB.1, by rw [← hRs]; exact hB.2⟩ (va_runI (As := ((st.take na).reverse).map (am_cv G)) (b := am_ad G o) (n := na) (nL := nL) ⟨hx, hb, hml, hown, am_hts hts⟩ hM ⟨hcb, q9, hts _ (List.mem_of_getElem? q8) rfl⟩ ⟨am_blind, am_pre hf hK (fun v hv => ?_)⟩ rfl (by rw [List.length_map, List.length_reverse, List.length_take]; omega) hf.oL.2.1.1 ?_ (lv_room (by rw [am_cats_sum]; exact hcat)) hd hB) hk
  · rcases List.mem_cons.mp hv with h | h
    · subst h
      rw [hsplit]
      exact List.mem_append_right _ List.mem_cons_self
    · exact List.mem_of_mem_take (List.mem_reverse.mp h)
  · show st.map (am_cv G) = _
    conv => lhs; rw [hsplit]
    rw [List.map_append, ← List.map_reverse, List.reverse_reverse]
    rfl
theorem so_callS {X : am_X} (cx : am_cx X) {pc : Nat} {ls : am_L} {st : List AV} {V : am_V} {R : am_T} {T cc cs d i : Nat} {aux : List Nat} {k : Option AV → am_V → am_T → Nat → Prop} (hd : decode (am_X.bytes X) pc = .ok (.invokestatic i, 3)) (hok : am_okc (am_X.own X) 1 i aux = true) (hlen : am_nth aux 1 ≤ st.length) (hcat : am_cats (st.drop (am_nth aux 1)) ≤ 8) (hB : cc + am_nth aux 3 ≤ (am_X.Rm X).cells ∧ cs + am_nth aux 4 ≤ (am_X.Rm X).slots) (hfr : d + 1 ≤ (am_X.Rm X).frames) (hlo : 36 * (d + 1) ≤ (am_X.Rm X).locals) (h : am_Calls (am_X.g X) d (am_nth aux 0) (st.take (am_nth aux 1)).reverse V R T k) (hk : ∀ v V' R' T', k v V' R' T' → am_W X (pc + 3) ls (am_push v (st.drop (am_nth aux 1))) V' R' T' (cc + am_nth aux 3) (cs + am_nth aux 4)) : am_W X pc ls st V R T cc cs := by
  obtain ⟨μ, hμ, hM⟩ := h
  have hok2 := hok
  unfold am_okc at hok2
  rw [hμ] at hok2
  obtain ⟨ow, y, by', nl, rt, bc, bs, cd⟩ := μ
  simp only [Bool.and_eq_true, am_wd, decide_eq_true_eq] at hok2
  obtain ⟨q1, q2, q3, q4, q5, q6, q7, q8, q12⟩ := hok2
  have q1 := Nat.eq_of_beq_eq_true q1
  have q2 := Nat.eq_of_beq_eq_true q2
  have hcb := am_callB cx hμ rfl hok hfr hlo q12
  generalize am_nth aux 1 = na at *
  rw [← q1, ← q2] at hB hk
  have hsplit : st = (st.take na) ++ st.drop na := (List.take_append_drop na st).symm
  obtain ⟨p, e, Rm, s, m, args, below, meth, c, QQ, G, own, bytes, nL, Bc, Bs, V0, T0⟩ := X
  obtain ⟨hx, hb, hml, hown, hts, hK, hRc, hRs⟩ := cx
  intro la H locs hf
  refine am_back (st := st.drop na) hf (fun v hv => List.mem_of_mem_drop hv) ⟨by rw [← hRc]; exact hB.1, by rw [← hRs]; exact hB.2⟩ (va_runS (As := ((st.take na).reverse).map (am_cv G)) (n := na) (nL := nL) ⟨hx, hb, hml, hown, am_hts hts⟩ hM ⟨hcb, hts _ (List.mem_of_getElem? q8) rfl⟩ ⟨am_blind, am_pre hf hK (fun v hv => ?_)⟩ rfl (by rw [List.length_map, List.length_reverse, List.length_take]; omega) hf.oL.2.1.1 ?_ (lv_room (by rw [am_cats_sum]; exact hcat)) hd hB) hk
  · exact List.mem_of_mem_take (List.mem_reverse.mp hv)
  · show st.map (am_cv G) = _
    conv => lhs; rw [hsplit]
    rw [List.map_append, ← List.map_reverse, List.reverse_reverse]
theorem am_room_of {b c cc cs Bc Bs : Nat} {P : Prop} (h : am_room b c cc cs Bc Bs P) (hc : cc ≤ Bc ∧ cs ≤ Bs) : (cc + b ≤ Bc ∧ cs + c ≤ Bs) ∧ P := by
  unfold am_room at h
  cases hb : Nat.beq (b + c) 0 with
  | true =>
    rw [hb] at h
    have := Nat.eq_of_beq_eq_true hb
    exact ⟨by omega, h⟩
  | false =>
    rw [hb] at h
    exact h
/-- the code from a place on: each row checked, one behind the other -/
def am_good (own : String) (init : Bool) (ret : Option FieldType) (bytes : ByteArray) (nL : Nat) (cd : List CI) : Prop := (∀ q ∈ cd, am_ok1 own init ret bytes nL q = true) ∧ am_lin cd = true
theorem am_good.tail {own : String} {init : Bool} {ret : Option FieldType} {bytes : ByteArray} {nL : Nat} {q : CI} {cd : List CI} (h : am_good own init ret bytes nL (q :: cd)) : am_good own init ret bytes nL cd := by
  refine ⟨fun x hx => h.1 x (List.mem_cons_of_mem _ hx), ?_⟩
  have := h.2
  unfold am_lin at this
  exact (Bool.and_eq_true _ _ ▸ this).2
theorem am_good.next {own : String} {init : Bool} {ret : Option FieldType} {bytes : ByteArray} {nL : Nat} {q q2 : CI} {cd : List CI} (h : am_good own init ret bytes nL (q :: q2 :: cd)) : q.2.1 + q.2.2.2.1 = q2.2.1 := by
  have := h.2
  unfold am_lin at this
  exact Nat.eq_of_beq_eq_true (Bool.and_eq_true _ _ ▸ this).1
theorem am_good.at {own : String} {init : Bool} {ret : Option FieldType} {bytes : ByteArray} {nL : Nat} : ∀ {C : List CI} (t : Nat), am_good own init ret bytes nL C → am_good own init ret bytes nL (am_at C t) ∧ ∀ q l, am_at C t = q :: l → q.2.1 = t
  | [], t, h => ⟨h, fun q l e => by cases e⟩
  | x :: C, t, h => by
    unfold am_at
    cases hb : Nat.beq x.2.1 t with
    | true => exact ⟨h, fun q l e => by cases e; exact Nat.eq_of_beq_eq_true hb⟩
    | false => exact am_good.at t h.tail
def am_pc (cd : List CI) : Nat := match cd with
  | [] => 0
  | q :: _ => q.2.1
end
section
theorem am_ldi_of {l : am_L} {i : Nat} {k : AV → Prop} (h : am_ldi l i k) : ∃ z, am_get l i = some (.inl z) ∧ k (.inl z) := by
  unfold am_ldi at h
  split at h
  · rename_i z hz
    exact ⟨z, hz, h⟩
  · exact False.elim h
theorem am_ldl_of {l : am_L} {i : Nat} {k : AV → Prop} (h : am_ldl l i k) : ∃ z, am_get l i = some (.inr (.inl z)) ∧ k (.inr (.inl z)) := by
  unfold am_ldl at h
  split at h
  · rename_i z hz
    exact ⟨z, hz, h⟩
  · exact False.elim h
theorem am_ldr_of {l : am_L} {i : Nat} {k : AV → Prop} (h : am_ldr l i k) : ∃ z, am_get l i = some (.inr (.inr z)) ∧ k (.inr (.inr z)) := by
  unfold am_ldr at h
  split at h
  · rename_i z hz
    exact ⟨z, hz, h⟩
  · exact False.elim h
theorem am_pi_of {st : List AV} {k : Int → List AV → Prop} (h : am_pi st k) : ∃ b r, st = .inl b :: r ∧ k b r := by
  match st, h with
  | .inl b :: r, h => exact ⟨b, r, rfl, h⟩
theorem am_pl_of {st : List AV} {k : Int → List AV → Prop} (h : am_pl st k) : ∃ b r, st = .inr (.inl b) :: r ∧ k b r := by
  match st, h with
  | .inr (.inl b) :: r, h => exact ⟨b, r, rfl, h⟩
theorem am_pr_of {st : List AV} {k : am_Ref → List AV → Prop} (h : am_pr st k) : ∃ b r, st = .inr (.inr b) :: r ∧ k b r := by
  match st, h with
  | .inr (.inr b) :: r, h => exact ⟨b, r, rfl, h⟩
theorem am_br_mono {c : ClassFile.Cond} {a b : Int} {A B A' B' : Prop} (h : am_br c a b A B) (ha : A → A') (hb : B → B') : am_br c a b A' B' := by
  cases c <;> exact ⟨fun q => ha (h.1 q), fun q => hb (h.2 q)⟩
theorem am_sw_mono {k k' : Nat → Prop} (hk : ∀ t, k t → k' t) : ∀ (l : List Nat) (z lo : Int) (d : Nat), am_sw l z lo k d → am_sw l z lo k' d
  | [], _, _, d, h => hk d h
  | _ :: l, z, lo, d, h => ⟨fun q => hk _ (h.1 q), fun q => am_sw_mono hk l z (lo + 1) d (h.2 q)⟩
theorem am_fk0 {c k : Nat} (h : am_fk c k = 0) : am_ty c k = .int := by
  unfold am_fk at h
  cases q : am_ty c k <;> rw [q] at h <;> first | rfl | cases h
theorem am_fk1 {c k : Nat} (h : am_fk c k = 1) : am_ty c k = .long := by
  unfold am_fk at h
  cases q : am_ty c k <;> rw [q] at h <;> first | rfl | cases h
theorem am_fk2 {c k : Nat} (h : am_fk c k = 2) : am_ty c k = .boolean := by
  unfold am_fk at h
  cases q : am_ty c k <;> rw [q] at h <;> first | rfl | cases h
theorem am_fk3 {c k : Nat} (h : am_fk c k = 3) (a : Nat) : narrow (am_ty c k) (.ref a) = .ref a ∧ fits (am_ty c k) (.ref a) = true := by
  unfold am_fk at h
  cases q : am_ty c k <;> rw [q] at h <;> first | (cases h; done) | exact ⟨rfl, rfl⟩
theorem am_fkle : (List.range 6).all (fun c => (List.range (am_NN c)).all (fun j => decide (am_fk c j ≤ 3))) = true := by decide +kernel

set_option maxHeartbeats 4000000 in
/-- THE STEP: what am_wp asks is enough for the machine -/
theorem am_sound {X : am_X} (cx : am_cx X) {init : Bool} {ret : Option FieldType} {rb : Bool} {d : Nat} {C : List CI} {Qc : Nat → am_L → List AV → am_V → am_T → Nat → Nat → Nat → Prop} {Qr : Option AV → am_V → am_T → Nat → Prop} (hG : am_good (am_X.own X) init ret (am_X.bytes X) (am_X.nL X) C) (hinit : init = true → (am_X.meth X).name = "<init>") (hfr : d + 1 ≤ (am_X.Rm X).frames) (hlo : 36 * (d + 1) ≤ (am_X.Rm X).locals) (hQc : ∀ pc ls st V R T cc cs, Qc pc ls st V R T cc cs → am_W X pc ls st V R T cc cs)
    (hI : ∀ pc ls V R T cc cs z, decode (am_X.bytes X) pc = .ok (.ireturn, 1) → (ret = some .int ∨ ret = some .boolean) → (rb = true → z = 0 ∨ z = 1) → Qr (some (.inl z)) V R T → am_W X pc ls [.inl z] V R T cc cs)
    (hJ : ∀ pc ls V R T cc cs z, decode (am_X.bytes X) pc = .ok (.lreturn, 1) → ret = some .long → Qr (some (.inr (.inl z))) V R T → am_W X pc ls [.inr (.inl z)] V R T cc cs)
    (hA : ∀ pc ls V R T cc cs o, decode (am_X.bytes X) pc = .ok (.areturn, 1) → ret = some (.object RX3) → Qr (some (.inr (.inr (some (.inl o))))) V R T → am_W X pc ls [.inr (.inr (some (.inl o)))] V R T cc cs)
    (hU : ∀ pc ls V R T cc cs, decode (am_X.bytes X) pc = .ok (.return_, 1) → ret = none → Qr none V R T → am_W X pc ls [] V R T cc cs) :
    ∀ fu cd ls st V R T cc cs, am_good (am_X.own X) init ret (am_X.bytes X) (am_X.nL X) cd → (cc ≤ (am_X.Rm X).cells ∧ cs ≤ (am_X.Rm X).slots) → am_wp C rb (am_X.Rm X).cells (am_X.Rm X).slots (am_Calls (am_X.g X) d) Qc Qr fu cd ls st V R T cc cs → am_W X (am_pc cd) ls st V R T cc cs := by
  intro fu
  induction fu with
  | zero =>
    intro cd ls st V R T cc cs _ _ h
    exact False.elim h
  | succ fu ih =>
    intro cd0 ls st V R T cc cs hg0 hB h0
    match cd0, hg0, h0 with
    | [], _, h => exact False.elim h
    | (true, pc, _) :: _, _, h => exact hQc _ _ _ _ _ _ _ _ h
    | (false, pc, ins, len, z, aux) :: cd, hg, h =>
      clear h0 hg0
      have nx : ∀ {ls st V R T cc cs}, (cc ≤ (am_X.Rm X).cells ∧ cs ≤ (am_X.Rm X).slots) → am_wp C rb (am_X.Rm X).cells (am_X.Rm X).slots (am_Calls (am_X.g X) d) Qc Qr fu cd ls st V R T cc cs → am_W X (pc + len) ls st V R T cc cs := by
        intro ls st V R T cc cs hB h
        cases cd with
        | nil => cases fu <;> exact False.elim h
        | cons q l =>
          have e : pc + len = q.2.1 := hg.next
          rw [e]
          exact ih (q :: l) ls st V R T cc cs hg.tail hB h
      have jm : ∀ t {ls st V R T cc cs}, (cc ≤ (am_X.Rm X).cells ∧ cs ≤ (am_X.Rm X).slots) → am_wp C rb (am_X.Rm X).cells (am_X.Rm X).slots (am_Calls (am_X.g X) d) Qc Qr fu (am_at C t) ls st V R T cc cs → am_W X t ls st V R T cc cs := by
        intro t ls st V R T cc cs hB h
        obtain ⟨g1, g2⟩ := am_good.at t hG
        cases hc : am_at C t with
        | nil => rw [hc] at h; cases fu <;> exact False.elim h
        | cons q l =>
          have e := g2 q l hc
          rw [hc] at g1 h
          have := ih (q :: l) ls st V R T cc cs g1 hB h
          rw [← e]
          exact this
      have hq := hg.1 _ List.mem_cons_self
      unfold am_ok1 at hq
      simp only [Bool.and_eq_true, decide_eq_true_eq] at hq
      obtain ⟨hd, hlen, hok⟩ := hq
      show am_W X pc ls st V R T cc cs
      have hd : decode (am_X.bytes X) pc = .ok (ins, len) := hd
      have hlen : (am_isSw ins || Nat.beq len (am_ilen ins)) = true := hlen
      have hok : am_ok2 (am_X.own X) init ret (am_X.nL X) pc ins z aux = true := hok
      cases ins with
      | aaload =>
        have hl : len = 1 := Nat.eq_of_beq_eq_true hlen
        subst hl
        replace h : am_pi st (fun i r => am_pr r (fun b r => (match (generalizing := false) b with
                | some (.inl a) => (match (generalizing := false) am_lay a with
                  | (3, n, _, _) => (0 ≤ i ∧ i < (n : Int)) ∧ am_wp C rb (am_X.Rm X).cells (am_X.Rm X).slots (am_Calls (am_X.g X) d) Qc Qr fu cd ls (.inr (.inr (some (.inr (a, i)))) :: r) V R T cc cs
                  | (4, n, _, _) => (0 ≤ i ∧ i < (n : Int)) ∧ am_wp C rb (am_X.Rm X).cells (am_X.Rm X).slots (am_Calls (am_X.g X) d) Qc Qr fu cd ls (.inr (.inr (some (.inr (a, i)))) :: r) V R T cc cs
                  | (5, n, _, _) => (0 ≤ i ∧ i < (n : Int)) ∧ (R a i = none → am_wp C rb (am_X.Rm X).cells (am_X.Rm X).slots (am_Calls (am_X.g X) d) Qc Qr fu cd ls (.inr (.inr none) :: r) V R T cc cs) ∧ (∀ x, R a i = some x → am_wp C rb (am_X.Rm X).cells (am_X.Rm X).slots (am_Calls (am_X.g X) d) Qc Qr fu cd ls (.inr (.inr (some (.inl x))) :: r) V R T cc cs)
                  | _ => False)
                | _ => False))) := h
        replace h := am_pi_of h
        obtain ⟨i, r, rfl, h⟩ := h
        replace h := am_pr_of h
        obtain ⟨b, r, rfl, h⟩ := h
        match b, h with
        | some (.inl a), h =>
          simp only at h
          split at h
          · rename_i n9 w9 y9 hl
            exact so_aaload3 cx hd hl h.1.1 h.1.2 (nx hB h.2)
          · rename_i n9 w9 y9 hl
            exact so_aaload4 cx hd hl h.1.1 h.1.2 (nx hB h.2)
          · rename_i n9 w9 y9 hl
            exact so_aaload5 cx hd hl h.1.1 h.1.2 (fun q => nx hB (h.2.1 q)) (fun x q => nx hB (h.2.2 x q))
          · exact False.elim h
      | aastore =>
        have hl : len = 1 := Nat.eq_of_beq_eq_true hlen
        subst hl
        replace h : am_pr st (fun x r => am_pi r (fun i r => am_pr r (fun b r => (match (generalizing := false) b with
                | some (.inl a) => (match (generalizing := false) am_lay a with
                | (kd, n, _, _) => am_if (Nat.beq kd 5) ((0 ≤ i ∧ i < (n : Int)) ∧ (match (generalizing := false) x with
                  | none => am_wp C rb (am_X.Rm X).cells (am_X.Rm X).slots (am_Calls (am_X.g X) d) Qc Qr fu cd ls r V (am_upR R a i none) T cc cs
                  | some (.inl q) => am_if (Nat.beq (am_lay q).1 13) (am_wp C rb (am_X.Rm X).cells (am_X.Rm X).slots (am_Calls (am_X.g X) d) Qc Qr fu cd ls r V (am_upR R a i (some q)) T cc cs)
                  | _ => False)))
                | _ => False)))) := h
        replace h := am_pr_of h
        obtain ⟨x, r, rfl, h⟩ := h
        replace h := am_pi_of h
        obtain ⟨i, r, rfl, h⟩ := h
        replace h := am_pr_of h
        obtain ⟨b, r, rfl, h⟩ := h
        match b, h with
        | some (.inl a), h =>
          obtain ⟨⟨kd, n9, w9, y9⟩, hl⟩ : ∃ z9, am_lay a = z9 := ⟨_, rfl⟩
          simp only [hl] at h
          replace h := am_if_of h
          obtain ⟨hk, h1, h⟩ := h
          have hk := Nat.eq_of_beq_eq_true hk
          subst hk
          match x, h with
          | none, h => exact so_aastoreN cx hd hl h1.1 h1.2 (nx hB h)
          | some (.inl q), h => exact so_aastore cx hd hl (Nat.eq_of_beq_eq_true (am_if_of h).1) h1.1 h1.2 (nx hB (am_if_of h).2)
      | aconst_null =>
        have hl : len = 1 := Nat.eq_of_beq_eq_true hlen
        subst hl
        replace h : am_wp C rb (am_X.Rm X).cells (am_X.Rm X).slots (am_Calls (am_X.g X) d) Qc Qr fu cd ls (.inr (.inr none) :: st) V R T cc cs := h
        exact so_aconst_null cx hd (nx hB h)
      | aload i =>
        have hl : len = 2 := Nat.eq_of_beq_eq_true hlen
        subst hl
        replace h : am_ldr ls i (fun v => am_wp C rb (am_X.Rm X).cells (am_X.Rm X).slots (am_Calls (am_X.g X) d) Qc Qr fu cd ls (v :: st) V R T cc cs) := h
        replace h := am_ldr_of h
        obtain ⟨y, hv, h⟩ := h
        exact so_aload cx hv hd (nx hB h)
      | aload_n i =>
        have hl : len = 1 := Nat.eq_of_beq_eq_true hlen
        subst hl
        replace h : am_ldr ls i.val (fun v => am_wp C rb (am_X.Rm X).cells (am_X.Rm X).slots (am_Calls (am_X.g X) d) Qc Qr fu cd ls (v :: st) V R T cc cs) := h
        replace h := am_ldr_of h
        obtain ⟨y, hv, h⟩ := h
        exact so_aload_n cx hv hd (nx hB h)
      | anewarray x0 =>
        have hl : len = 3 := Nat.eq_of_beq_eq_true hlen
        subst hl
        replace h : am_pi st (fun i r => (match (generalizing := false) am_lay T with
                | (kd, m, _, _) => am_if (Nat.beq kd 5 && decide (i = (m : Int))) ((cc + 1 ≤ (am_X.Rm X).cells ∧ cs + m ≤ (am_X.Rm X).slots) ∧ am_wp C rb (am_X.Rm X).cells (am_X.Rm X).slots (am_Calls (am_X.g X) d) Qc Qr fu cd ls (.inr (.inr (some (.inl T))) :: r) V (am_zeroR R T) (T + 1) (cc + 1) (cs + m)))) := h
        replace h := am_pi_of h
        obtain ⟨i, r, rfl, h⟩ := h
        obtain ⟨⟨kd, n9, w9, y9⟩, hl⟩ : ∃ z9, am_lay T = z9 := ⟨_, rfl⟩
        simp only [hl] at h
        replace h := am_if_of h
        obtain ⟨hk, h1, h⟩ := h
        simp only [Bool.and_eq_true, decide_eq_true_eq] at hk
        obtain ⟨hk, hi⟩ := hk
        have hk := Nat.eq_of_beq_eq_true hk
        subst hi
        subst hk
        exact so_anewarray cx hd hl (of_decide_eq_true hok) h1 (nx h1 h)
      | areturn =>
        have hl : len = 1 := Nat.eq_of_beq_eq_true hlen
        subst hl
        replace h : (match (generalizing := false) st with
                | [.inr (.inr (some (.inl o)))] => am_if (Nat.beq (am_lay o).1 13) (Qr (some (.inr (.inr (some (.inl o))))) V R T)
                | _ => False) := h
        match st, h with
        | [.inr (.inr (some (.inl a)))], h => exact hA _ _ _ _ _ _ _ _ hd (of_decide_eq_true hok) (am_if_of h).2
      | arraylength =>
        have hl : len = 1 := Nat.eq_of_beq_eq_true hlen
        subst hl
        replace h : am_pr st (fun b r => (match (generalizing := false) b with
                | some (.inl a) => (match (generalizing := false) am_lay a with
                  | (kd, n, _, _) => am_if (Nat.ble kd 5) (match (generalizing := false) Nat.beq a 0 with
                    | true => am_wp C rb (am_X.Rm X).cells (am_X.Rm X).slots (am_Calls (am_X.g X) d) Qc Qr fu cd ls (.inl (V 0 (-1)) :: r) V R T cc cs
                    | false => am_wp C rb (am_X.Rm X).cells (am_X.Rm X).slots (am_Calls (am_X.g X) d) Qc Qr fu cd ls (.inl (n : Int) :: r) V R T cc cs))
                | some (.inr (a, _)) => (match (generalizing := false) am_lay a with
                  | (_, _, w, _) => am_wp C rb (am_X.Rm X).cells (am_X.Rm X).slots (am_Calls (am_X.g X) d) Qc Qr fu cd ls (.inl (w : Int) :: r) V R T cc cs)
                | none => False)) := h
        replace h := am_pr_of h
        obtain ⟨b, r, rfl, h⟩ := h
        match b, h with
        | some (.inl a), h =>
          obtain ⟨⟨kd, n9, w9, y9⟩, hl⟩ : ∃ z9, am_lay a = z9 := ⟨_, rfl⟩
          simp only [hl] at h
          replace h := am_if_of h
          obtain ⟨hk, h⟩ := h
          cases ha0 : Nat.beq a 0 with
          | true =>
            simp only [ha0] at h
            have ha0 := Nat.eq_of_beq_eq_true ha0
            exact so_alen cx hd hl (Nat.le_of_ble_eq_true hk) (fun _ => nx hB h) (fun q => absurd ha0 q)
          | false =>
            simp only [ha0] at h
            exact so_alen cx hd hl (Nat.le_of_ble_eq_true hk) (fun q => absurd ha0 (by rw [q]; decide)) (fun _ => nx hB h)
        | some (.inr (a, q)), h =>
          obtain ⟨⟨kd, n9, w9, y9⟩, hl⟩ : ∃ z9, am_lay a = z9 := ⟨_, rfl⟩
          simp only [hl] at h
          exact so_alenR cx hd hl (nx hB h)
      | astore i =>
        have hl : len = 2 := Nat.eq_of_beq_eq_true hlen
        subst hl
        replace h : am_pr st (fun b r => am_wp C rb (am_X.Rm X).cells (am_X.Rm X).slots (am_Calls (am_X.g X) d) Qc Qr fu cd (am_st1 ls i (.inr (.inr b))) r V R T cc cs) := h
        replace h := am_pr_of h
        obtain ⟨b, r, rfl, h⟩ := h
        exact so_astore cx (Nat.le_of_ble_eq_true hok) hd (nx hB h)
      | astore_n i =>
        have hl : len = 1 := Nat.eq_of_beq_eq_true hlen
        subst hl
        replace h : am_pr st (fun b r => am_wp C rb (am_X.Rm X).cells (am_X.Rm X).slots (am_Calls (am_X.g X) d) Qc Qr fu cd (am_st1 ls i.val (.inr (.inr b))) r V R T cc cs) := h
        replace h := am_pr_of h
        obtain ⟨b, r, rfl, h⟩ := h
        exact so_astore_n cx (Nat.le_of_ble_eq_true hok) hd (nx hB h)
      | athrow => exact False.elim h
      | baload =>
        have hl : len = 1 := Nat.eq_of_beq_eq_true hlen
        subst hl
        replace h : am_pi st (fun i r => am_pr r (fun b r => am_ix 2 99 V b i (fun a j => am_wp C rb (am_X.Rm X).cells (am_X.Rm X).slots (am_Calls (am_X.g X) d) Qc Qr fu cd ls (.inl (V a j) :: r) V R T cc cs))) := h
        replace h := am_pi_of h
        obtain ⟨i, r, rfl, h⟩ := h
        replace h := am_pr_of h
        obtain ⟨b, r, rfl, h⟩ := h
        exact so_baload cx hd h (fun a j q => nx hB q)
      | bastore =>
        have hl : len = 1 := Nat.eq_of_beq_eq_true hlen
        subst hl
        replace h : am_pi st (fun x r => am_pi r (fun i r => am_pr r (fun b r => am_ix 2 99 V b i (fun a j => (x = 0 ∨ x = 1) ∧ am_wp C rb (am_X.Rm X).cells (am_X.Rm X).slots (am_Calls (am_X.g X) d) Qc Qr fu cd ls r (am_up V a j x) R T cc cs)))) := h
        replace h := am_pi_of h
        obtain ⟨x, r, rfl, h⟩ := h
        replace h := am_pi_of h
        obtain ⟨i, r, rfl, h⟩ := h
        replace h := am_pr_of h
        obtain ⟨b, r, rfl, h⟩ := h
        exact so_bastore cx hd h (fun a j q => ⟨q.1, nx hB q.2⟩)
      | bipush x =>
        have hl : len = 2 := Nat.eq_of_beq_eq_true hlen
        subst hl
        replace h : am_wp C rb (am_X.Rm X).cells (am_X.Rm X).slots (am_Calls (am_X.g X) d) Qc Qr fu cd ls (.inl x :: st) V R T cc cs := h
        exact so_bipush cx (of_decide_eq_true hok) hd (nx hB h)
      | caload => exact False.elim h
      | castore => exact False.elim h
      | checkcast x0 => exact False.elim h
      | d2f => exact False.elim h
      | d2i => exact False.elim h
      | d2l => exact False.elim h
      | dadd => exact False.elim h
      | daload => exact False.elim h
      | dastore => exact False.elim h
      | dcmp x0 => exact False.elim h
      | dconst x0 => exact False.elim h
      | ddiv => exact False.elim h
      | dload x0 => exact False.elim h
      | dload_n x0 => exact False.elim h
      | dmul => exact False.elim h
      | dneg => exact False.elim h
      | drem => exact False.elim h
      | dreturn => exact False.elim h
      | dstore x0 => exact False.elim h
      | dstore_n x0 => exact False.elim h
      | dsub => exact False.elim h
      | dup =>
        have hl : len = 1 := Nat.eq_of_beq_eq_true hlen
        subst hl
        replace h : (match (generalizing := false) st with
                | .inr (.inl _) :: _ => False
                | v :: r => am_wp C rb (am_X.Rm X).cells (am_X.Rm X).slots (am_Calls (am_X.g X) d) Qc Qr fu cd ls (v :: v :: r) V R T cc cs
                | [] => False) := h
        match st, h with
        | .inl v :: r, h => exact so_dup cx (fun y q => by cases q) hd (nx hB h)
        | .inr (.inr v) :: r, h => exact so_dup cx (fun y q => by cases q) hd (nx hB h)
      | dup_x1 => exact False.elim h
      | dup_x2 => exact False.elim h
      | dup2 =>
        have hl : len = 1 := Nat.eq_of_beq_eq_true hlen
        subst hl
        replace h : (match (generalizing := false) st with
                | .inl b :: .inr (.inr a) :: r => am_wp C rb (am_X.Rm X).cells (am_X.Rm X).slots (am_Calls (am_X.g X) d) Qc Qr fu cd ls (.inl b :: .inr (.inr a) :: .inl b :: .inr (.inr a) :: r) V R T cc cs
                | _ => False) := h
        match st, h with
        | .inl b :: .inr (.inr a) :: r, h => exact so_dup2 cx hd (nx hB h)
      | dup2_x1 => exact False.elim h
      | dup2_x2 => exact False.elim h
      | f2d => exact False.elim h
      | f2i => exact False.elim h
      | f2l => exact False.elim h
      | fadd => exact False.elim h
      | faload => exact False.elim h
      | fastore => exact False.elim h
      | fcmp x0 => exact False.elim h
      | fconst x0 => exact False.elim h
      | fdiv => exact False.elim h
      | fload x0 => exact False.elim h
      | fload_n x0 => exact False.elim h
      | fmul => exact False.elim h
      | fneg => exact False.elim h
      | frem => exact False.elim h
      | freturn => exact False.elim h
      | fstore x0 => exact False.elim h
      | fstore_n x0 => exact False.elim h
      | fsub => exact False.elim h
      | getfield x0 =>
        have hl : len = 3 := Nat.eq_of_beq_eq_true hlen
        subst hl
        replace h : am_pr st (fun b r => (match (generalizing := false) b with
                | some (.inl o) => am_if (Nat.beq (am_lay o).1 (10 + am_nth aux 2)) (match (generalizing := false) am_nth aux 1 with
                  | 0 => am_wp C rb (am_X.Rm X).cells (am_X.Rm X).slots (am_Calls (am_X.g X) d) Qc Qr fu cd ls (.inl (V o z) :: r) V R T cc cs
                  | 1 => am_wp C rb (am_X.Rm X).cells (am_X.Rm X).slots (am_Calls (am_X.g X) d) Qc Qr fu cd ls (.inr (.inl (V o z)) :: r) V R T cc cs
                  | 2 => am_wp C rb (am_X.Rm X).cells (am_X.Rm X).slots (am_Calls (am_X.g X) d) Qc Qr fu cd ls (.inl (V o z) :: r) V R T cc cs
                  | _ => (match (generalizing := false) R o z with
                    | some q => am_wp C rb (am_X.Rm X).cells (am_X.Rm X).slots (am_Calls (am_X.g X) d) Qc Qr fu cd ls (.inr (.inr (some (.inl q))) :: r) V R T cc cs
                    | none => False))
                | _ => False)) := h
        replace h := am_pr_of h
        obtain ⟨b, r, rfl, h⟩ := h
        simp only [am_ok2, Bool.and_eq_true, am_wd, decide_eq_true_eq] at hok
        obtain ⟨kz, k1, k2, k3⟩ := hok
        subst kz
        have k1 : am_nth aux 0 < am_NN (am_nth aux 2) := Nat.le_of_ble_eq_true k1
        have k2 := Nat.eq_of_beq_eq_true k2
        match b, h with
        | some (.inl o), h =>
          replace h := am_if_of h
          obtain ⟨hl, h⟩ := h
          have hl := Nat.eq_of_beq_eq_true hl
          match hty : am_nth aux 1, h with
          | 0, h => exact so_get (v := .inl (V o (am_nth aux 0))) cx hd hl k1 k3 (by unfold am_fv; rw [k2, hty]; rfl) (fun _ _ => trivial) (nx hB h)
          | 1, h => exact so_get (v := .inr (.inl (V o (am_nth aux 0)))) cx hd hl k1 k3 (by unfold am_fv; rw [k2, hty]; rfl) (fun _ _ => trivial) (nx hB h)
          | 2, h => exact so_get (v := .inl (V o (am_nth aux 0))) cx hd hl k1 k3 (by unfold am_fv; rw [k2, hty]; rfl) (fun _ _ => trivial) (nx hB h)
          | y + 3, h =>
            cases hR : R o (am_nth aux 0) with
            | none => simp only [hR] at h
            | some q =>
              simp only [hR] at h
              exact so_get (v := .inr (.inr (some (.inl q)))) cx hd hl k1 k3 (by unfold am_fv; rw [k2, hty, hR]; rfl) (fun h1 h2 => h2.1 _ _ _ h1 hR) (nx hB h)
      | getstatic x0 =>
        have hl : len = 3 := Nat.eq_of_beq_eq_true hlen
        subst hl
        replace h : (match (generalizing := false) aux with
                | a :: _ => am_wp C rb (am_X.Rm X).cells (am_X.Rm X).slots (am_Calls (am_X.g X) d) Qc Qr fu cd ls (.inr (.inr (some (.inl a))) :: st) V R T cc cs
                | [] => False) := h
        simp only [am_ok2, Bool.or_eq_true, Bool.and_eq_true, am_wd, decide_eq_true_eq] at hok
        cases aux with
        | nil => exact False.elim h
        | cons a l =>
          rcases hok with ⟨k1, k2⟩ | ⟨k1, k2⟩
          · have k1 : a = 1 := Nat.eq_of_beq_eq_true k1
            subst k1
            exact so_getstatic1 cx hd k2 (nx hB h)
          · have k1 : a = 2 := Nat.eq_of_beq_eq_true k1
            subst k1
            exact so_getstatic2 cx hd k2 (nx hB h)
      | goto x0 =>
        have hl : len = 3 := Nat.eq_of_beq_eq_true hlen
        subst hl
        replace h : am_wp C rb (am_X.Rm X).cells (am_X.Rm X).slots (am_Calls (am_X.g X) d) Qc Qr fu (am_at C (am_nth aux 0)) ls st V R T cc cs := h
        exact so_goto cx (of_decide_eq_true hok) hd (jm _ hB h)
      | goto_w x0 => exact False.elim h
      | i2b =>
        have hl : len = 1 := Nat.eq_of_beq_eq_true hlen
        subst hl
        replace h : am_pi st (fun a r => am_wp C rb (am_X.Rm X).cells (am_X.Rm X).slots (am_Calls (am_X.g X) d) Qc Qr fu cd ls (.inl (Int.bmod a 256) :: r) V R T cc cs) := h
        replace h := am_pi_of h
        obtain ⟨a, r, rfl, h⟩ := h
        exact so_i2b cx hd (nx hB h)
      | i2c => exact False.elim h
      | i2d => exact False.elim h
      | i2f => exact False.elim h
      | i2l =>
        have hl : len = 1 := Nat.eq_of_beq_eq_true hlen
        subst hl
        replace h : am_pi st (fun a r => am_in32 a ∧ am_wp C rb (am_X.Rm X).cells (am_X.Rm X).slots (am_Calls (am_X.g X) d) Qc Qr fu cd ls (.inr (.inl a) :: r) V R T cc cs) := h
        replace h := am_pi_of h
        obtain ⟨a, r, rfl, h⟩ := h
        exact so_i2l cx h.1 hd (nx hB h.2)
      | i2s => exact False.elim h
      | iadd =>
        have hl : len = 1 := Nat.eq_of_beq_eq_true hlen
        subst hl
        replace h : am_pi st (fun b r => am_pi r (fun a r => am_wp C rb (am_X.Rm X).cells (am_X.Rm X).slots (am_Calls (am_X.g X) d) Qc Qr fu cd ls (.inl (a + b) :: r) V R T cc cs)) := h
        replace h := am_pi_of h
        obtain ⟨b, r, rfl, h⟩ := h
        replace h := am_pi_of h
        obtain ⟨a, r, rfl, h⟩ := h
        exact so_iadd cx hd (nx hB h)
      | iaload =>
        have hl : len = 1 := Nat.eq_of_beq_eq_true hlen
        subst hl
        replace h : am_pi st (fun i r => am_pr r (fun b r => am_ix 0 4 V b i (fun a j => am_wp C rb (am_X.Rm X).cells (am_X.Rm X).slots (am_Calls (am_X.g X) d) Qc Qr fu cd ls (.inl (V a j) :: r) V R T cc cs))) := h
        replace h := am_pi_of h
        obtain ⟨i, r, rfl, h⟩ := h
        replace h := am_pr_of h
        obtain ⟨b, r, rfl, h⟩ := h
        exact so_iaload cx hd h (fun a j q => nx hB q)
      | iand =>
        have hl : len = 1 := Nat.eq_of_beq_eq_true hlen
        subst hl
        replace h : am_pi st (fun b r => am_pi r (fun a r => b = 31 ∧ am_wp C rb (am_X.Rm X).cells (am_X.Rm X).slots (am_Calls (am_X.g X) d) Qc Qr fu cd ls (.inl (a % 32) :: r) V R T cc cs)) := h
        replace h := am_pi_of h
        obtain ⟨b, r, rfl, h⟩ := h
        replace h := am_pi_of h
        obtain ⟨a, r, rfl, h⟩ := h
        obtain ⟨rfl, h⟩ := h
        exact so_iand cx hd (nx hB h)
      | iastore =>
        have hl : len = 1 := Nat.eq_of_beq_eq_true hlen
        subst hl
        replace h : am_pi st (fun x r => am_pi r (fun i r => am_pr r (fun b r => am_ix 0 4 V b i (fun a j => am_if (Nat.ble 3 a) (am_wp C rb (am_X.Rm X).cells (am_X.Rm X).slots (am_Calls (am_X.g X) d) Qc Qr fu cd ls r (am_up V a j x) R T cc cs))))) := h
        replace h := am_pi_of h
        obtain ⟨x, r, rfl, h⟩ := h
        replace h := am_pi_of h
        obtain ⟨i, r, rfl, h⟩ := h
        replace h := am_pr_of h
        obtain ⟨b, r, rfl, h⟩ := h
        exact so_iastore cx hd h (fun a j q => ⟨Nat.le_of_ble_eq_true (am_if_of q).1, nx hB (am_if_of q).2⟩)
      | iconst x =>
        have hl : len = 1 := Nat.eq_of_beq_eq_true hlen
        subst hl
        replace h : am_wp C rb (am_X.Rm X).cells (am_X.Rm X).slots (am_Calls (am_X.g X) d) Qc Qr fu cd ls (.inl x :: st) V R T cc cs := h
        exact so_iconst cx hd (nx hB h)
      | idiv =>
        have hl : len = 1 := Nat.eq_of_beq_eq_true hlen
        subst hl
        replace h : am_pi st (fun b r => am_pi r (fun a r => ((0 ≤ a ∧ a ≤ 2147483647) ∧ (0 < b ∧ b ≤ 2147483647)) ∧ am_wp C rb (am_X.Rm X).cells (am_X.Rm X).slots (am_Calls (am_X.g X) d) Qc Qr fu cd ls (.inl (a / b) :: r) V R T cc cs)) := h
        replace h := am_pi_of h
        obtain ⟨b, r, rfl, h⟩ := h
        replace h := am_pi_of h
        obtain ⟨a, r, rfl, h⟩ := h
        exact so_idiv cx h.1.1 h.1.2 hd (nx hB h.2)
      | if_acmp x0 x1 => exact False.elim h
      | if_icmp c x1 =>
        have hl : len = 3 := Nat.eq_of_beq_eq_true hlen
        subst hl
        replace h : am_pi st (fun b r => am_pi r (fun a r => (am_in32 a ∧ am_in32 b) ∧ am_br c a b (am_wp C rb (am_X.Rm X).cells (am_X.Rm X).slots (am_Calls (am_X.g X) d) Qc Qr fu (am_at C (am_nth aux 0)) ls r V R T cc cs) (am_wp C rb (am_X.Rm X).cells (am_X.Rm X).slots (am_Calls (am_X.g X) d) Qc Qr fu cd ls r V R T cc cs))) := h
        replace h := am_pi_of h
        obtain ⟨b, r, rfl, h⟩ := h
        replace h := am_pi_of h
        obtain ⟨a, r, rfl, h⟩ := h
        exact so_if_icmp cx h.1.1 h.1.2 (of_decide_eq_true hok) hd (am_br_mono h.2 (jm _ hB) (nx hB))
      | ifCond c x1 =>
        have hl : len = 3 := Nat.eq_of_beq_eq_true hlen
        subst hl
        replace h : am_pi st (fun a r => am_in32 a ∧ am_br c a 0 (am_wp C rb (am_X.Rm X).cells (am_X.Rm X).slots (am_Calls (am_X.g X) d) Qc Qr fu (am_at C (am_nth aux 0)) ls r V R T cc cs) (am_wp C rb (am_X.Rm X).cells (am_X.Rm X).slots (am_Calls (am_X.g X) d) Qc Qr fu cd ls r V R T cc cs)) := h
        replace h := am_pi_of h
        obtain ⟨a, r, rfl, h⟩ := h
        exact so_ifCond cx h.1 (of_decide_eq_true hok) hd (am_br_mono h.2 (jm _ hB) (nx hB))
      | ifnonnull x0 =>
        have hl : len = 3 := Nat.eq_of_beq_eq_true hlen
        subst hl
        replace h : am_pr st (fun b r => (∀ x, b = some x → am_wp C rb (am_X.Rm X).cells (am_X.Rm X).slots (am_Calls (am_X.g X) d) Qc Qr fu (am_at C (am_nth aux 0)) ls r V R T cc cs) ∧ (b = none → am_wp C rb (am_X.Rm X).cells (am_X.Rm X).slots (am_Calls (am_X.g X) d) Qc Qr fu cd ls r V R T cc cs)) := h
        replace h := am_pr_of h
        obtain ⟨b, r, rfl, h⟩ := h
        exact so_ifnonnull cx (of_decide_eq_true hok) hd ⟨fun y q => jm _ hB (h.1 y q), fun q => nx hB (h.2 q)⟩
      | ifnull x0 =>
        have hl : len = 3 := Nat.eq_of_beq_eq_true hlen
        subst hl
        replace h : am_pr st (fun b r => (b = none → am_wp C rb (am_X.Rm X).cells (am_X.Rm X).slots (am_Calls (am_X.g X) d) Qc Qr fu (am_at C (am_nth aux 0)) ls r V R T cc cs) ∧ (∀ x, b = some x → am_wp C rb (am_X.Rm X).cells (am_X.Rm X).slots (am_Calls (am_X.g X) d) Qc Qr fu cd ls r V R T cc cs)) := h
        replace h := am_pr_of h
        obtain ⟨b, r, rfl, h⟩ := h
        exact so_ifnull cx (of_decide_eq_true hok) hd ⟨fun q => jm _ hB (h.1 q), fun y q => nx hB (h.2 y q)⟩
      | iinc i x =>
        have hl : len = 3 := Nat.eq_of_beq_eq_true hlen
        subst hl
        replace h : am_ldi ls i (fun v => am_pi [v] (fun b _ => am_wp C rb (am_X.Rm X).cells (am_X.Rm X).slots (am_Calls (am_X.g X) d) Qc Qr fu cd (am_st1 ls i (.inl (b + x))) st V R T cc cs)) := h
        replace h := am_ldi_of h
        obtain ⟨y, hv, h⟩ := h
        exact so_iinc cx hv (Nat.le_of_ble_eq_true hok) hd (nx hB h)
      | iload i =>
        have hl : len = 2 := Nat.eq_of_beq_eq_true hlen
        subst hl
        replace h : am_ldi ls i (fun v => am_wp C rb (am_X.Rm X).cells (am_X.Rm X).slots (am_Calls (am_X.g X) d) Qc Qr fu cd ls (v :: st) V R T cc cs) := h
        replace h := am_ldi_of h
        obtain ⟨y, hv, h⟩ := h
        exact so_iload cx hv hd (nx hB h)
      | iload_n i =>
        have hl : len = 1 := Nat.eq_of_beq_eq_true hlen
        subst hl
        replace h : am_ldi ls i.val (fun v => am_wp C rb (am_X.Rm X).cells (am_X.Rm X).slots (am_Calls (am_X.g X) d) Qc Qr fu cd ls (v :: st) V R T cc cs) := h
        replace h := am_ldi_of h
        obtain ⟨y, hv, h⟩ := h
        exact so_iload_n cx hv hd (nx hB h)
      | imul =>
        have hl : len = 1 := Nat.eq_of_beq_eq_true hlen
        subst hl
        replace h : am_pi st (fun b r => am_pi r (fun a r => am_wp C rb (am_X.Rm X).cells (am_X.Rm X).slots (am_Calls (am_X.g X) d) Qc Qr fu cd ls (.inl (a * b) :: r) V R T cc cs)) := h
        replace h := am_pi_of h
        obtain ⟨b, r, rfl, h⟩ := h
        replace h := am_pi_of h
        obtain ⟨a, r, rfl, h⟩ := h
        exact so_imul cx hd (nx hB h)
      | ineg =>
        have hl : len = 1 := Nat.eq_of_beq_eq_true hlen
        subst hl
        replace h : am_pi st (fun b r => am_wp C rb (am_X.Rm X).cells (am_X.Rm X).slots (am_Calls (am_X.g X) d) Qc Qr fu cd ls (.inl (-b) :: r) V R T cc cs) := h
        replace h := am_pi_of h
        obtain ⟨b, r, rfl, h⟩ := h
        exact so_ineg cx hd (nx hB h)
      | instanceof x0 => exact False.elim h
      | invokedynamic x0 => exact False.elim h
      | invokeinterface x0 x1 => exact False.elim h
      | invokespecial x0 =>
        have hl : len = 3 := Nat.eq_of_beq_eq_true hlen
        subst hl
        replace h : (match (generalizing := false) Nat.beq (am_nth aux 0) 1001 with
                | true => (match (generalizing := false) st with
                  | .inr (.inr (some (.inl _))) :: r => am_if (Nat.ble (am_cats r) 8) (am_wp C rb (am_X.Rm X).cells (am_X.Rm X).slots (am_Calls (am_X.g X) d) Qc Qr fu cd ls r V R T cc cs)
                  | _ => False)
                | false => am_if (am_isr (am_nth aux 10) (st.drop (am_nth aux 1 - 1))) (am_if (Nat.ble (am_cats (st.drop (am_nth aux 1))) 8) (am_room (am_nth aux 3) (am_nth aux 4) cc cs (am_X.Rm X).cells (am_X.Rm X).slots (am_Calls (am_X.g X) d (am_nth aux 0) (st.take (am_nth aux 1)).reverse V R T (fun q V R T => am_wp C rb (am_X.Rm X).cells (am_X.Rm X).slots (am_Calls (am_X.g X) d) Qc Qr fu cd ls (am_push q (st.drop (am_nth aux 1))) V R T (cc + am_nth aux 3) (cs + am_nth aux 4)))))) := h
        cases hi : Nat.beq (am_nth aux 0) 1001 with
        | true =>
          simp only [hi] at h
          simp only [am_ok2, hi, Bool.and_eq_true, am_wd, decide_eq_true_eq] at hok
          match st, h with
          | .inr (.inr (some (.inl a))) :: r, h => exact so_objInit cx hd hok.1 hok.2.1 hok.2.2 (by omega) (by omega) (Nat.le_of_ble_eq_true (am_if_of h).1) (nx hB (am_if_of h).2)
        | false =>
          simp only [hi] at h
          simp only [am_ok2, hi] at hok
          replace h := am_if_of h
          obtain ⟨hr, h⟩ := h
          replace h := am_if_of h
          obtain ⟨hc, h⟩ := h
          replace h := am_room_of h hB
          obtain ⟨h1, h⟩ := h
          exact so_callI cx hd hok hr (Nat.le_of_ble_eq_true hc) h1 hfr hlo h (fun v V' R' T' q => nx h1 q)
      | invokestatic x0 =>
        have hl : len = 3 := Nat.eq_of_beq_eq_true hlen
        subst hl
        replace h : (match (generalizing := false) Nat.beq (am_nth aux 0) 1000 with
                | true => (match (generalizing := false) st with
                  | .inl m :: .inl dp :: .inr (.inr b) :: .inl sp :: .inr (.inr a) :: r => (am_if (Nat.ble (am_cats r) 8) ((0 ≤ sp ∧ 0 ≤ dp ∧ 0 ≤ m) ∧ am_seg a (sp + m) (fun p o => am_seg b (dp + m) (fun q o2 => am_wp C rb (am_X.Rm X).cells (am_X.Rm X).slots (am_Calls (am_X.g X) d) Qc Qr fu cd ls r (am_cpy V p (o + sp) q (o2 + dp) m) R T cc cs))))
                  | _ => False)
                | false => (match (generalizing := false) Nat.ble 1002 (am_nth aux 0) with
                  | true => (match (generalizing := false) Nat.beq (am_nth aux 0) 1002 with
                    | true => (match (generalizing := false) st with
                      | .inl b :: .inl a :: r => am_if (Nat.ble (am_cats r) 8) ((am_in32 a ∧ am_in32 b) ∧ (a < b → am_wp C rb (am_X.Rm X).cells (am_X.Rm X).slots (am_Calls (am_X.g X) d) Qc Qr fu cd ls (.inl b :: r) V R T cc cs) ∧ (b ≤ a → am_wp C rb (am_X.Rm X).cells (am_X.Rm X).slots (am_Calls (am_X.g X) d) Qc Qr fu cd ls (.inl a :: r) V R T cc cs))
                      | _ => False)
                    | false => (match (generalizing := false) Nat.beq (am_nth aux 0) 1003 with
                      | true => (match (generalizing := false) st with
                        | .inl b :: .inl a :: r => am_if (Nat.ble (am_cats r) 8) ((am_in32 a ∧ am_in32 b) ∧ (a ≤ b → am_wp C rb (am_X.Rm X).cells (am_X.Rm X).slots (am_Calls (am_X.g X) d) Qc Qr fu cd ls (.inl a :: r) V R T cc cs) ∧ (b < a → am_wp C rb (am_X.Rm X).cells (am_X.Rm X).slots (am_Calls (am_X.g X) d) Qc Qr fu cd ls (.inl b :: r) V R T cc cs))
                        | _ => False)
                      | false => (match (generalizing := false) st with
                        | .inr (.inl b) :: .inr (.inl a) :: r => am_if (Nat.ble (am_cats r) 8) ((am_in64 a ∧ (0 < b ∧ b ≤ 9223372036854775807)) ∧ am_wp C rb (am_X.Rm X).cells (am_X.Rm X).slots (am_Calls (am_X.g X) d) Qc Qr fu cd ls (.inr (.inl (a % b)) :: r) V R T cc cs)
                        | _ => False)))
                  | false => am_if (Nat.ble (am_nth aux 1) st.length) (am_if (Nat.ble (am_cats (st.drop (am_nth aux 1))) 8) (am_room (am_nth aux 3) (am_nth aux 4) cc cs (am_X.Rm X).cells (am_X.Rm X).slots (am_Calls (am_X.g X) d (am_nth aux 0) (st.take (am_nth aux 1)).reverse V R T (fun q V R T => am_wp C rb (am_X.Rm X).cells (am_X.Rm X).slots (am_Calls (am_X.g X) d) Qc Qr fu cd ls (am_push q (st.drop (am_nth aux 1))) V R T (cc + am_nth aux 3) (cs + am_nth aux 4))))))) := h
        cases hi : Nat.beq (am_nth aux 0) 1000 with
        | true =>
          simp only [hi] at h
          simp only [am_ok2, hi, Bool.and_eq_true, am_wd, decide_eq_true_eq] at hok
          match st, h with
          | .inl m :: .inl dp :: .inr (.inr b) :: .inl sp :: .inr (.inr a) :: r, h =>
            replace h := am_if_of h
            obtain ⟨hc, h1, h⟩ := h
            exact so_copy cx hd hok.1 hok.2.1 hok.2.2.1 hok.2.2.2 (by omega) (by omega) (Nat.le_of_ble_eq_true hc) h1.1 h1.2.1 h1.2.2 h (fun p o q o2 k => nx hB k)
        | false =>
          simp only [hi] at h
          simp only [am_ok2, hi] at hok
          cases hi2 : Nat.ble 1002 (am_nth aux 0) with
          | true =>
            simp only [hi2] at h hok
            cases hi3 : Nat.beq (am_nth aux 0) 1002 with
            | true =>
              simp only [hi3, Bool.and_eq_true, am_wd, decide_eq_true_eq] at h hok
              match st, h with
              | .inl b :: .inl a :: r, h =>
                replace h := am_if_of h
                obtain ⟨hc, h1, h⟩ := h
                exact so_mmax cx hd hok.1 hok.2.1 hok.2.2.1 hok.2.2.2 (by omega) (by omega) (Nat.le_of_ble_eq_true hc) h1.1 h1.2 (fun q => nx hB (h.1 q)) (fun q => nx hB (h.2 q))
            | false =>
              simp only [hi3] at h hok
              cases hi4 : Nat.beq (am_nth aux 0) 1003 with
              | true =>
                simp only [hi4, Bool.and_eq_true, am_wd, decide_eq_true_eq] at h hok
                match st, h with
                | .inl b :: .inl a :: r, h =>
                  replace h := am_if_of h
                  obtain ⟨hc, h1, h⟩ := h
                  exact so_mmin cx hd hok.1 hok.2.1 hok.2.2.1 hok.2.2.2 (by omega) (by omega) (Nat.le_of_ble_eq_true hc) h1.1 h1.2 (fun q => nx hB (h.1 q)) (fun q => nx hB (h.2 q))
              | false =>
                simp only [hi4, Bool.and_eq_true, am_wd, decide_eq_true_eq] at h hok
                match st, h with
                | .inr (.inl b) :: .inr (.inl a) :: r, h =>
                  replace h := am_if_of h
                  obtain ⟨hc, h1, h⟩ := h
                  exact so_floorMod cx hd hok.1 hok.2.1 hok.2.2.1 hok.2.2.2 (by omega) (by omega) (Nat.le_of_ble_eq_true hc) h1.1 h1.2.1 h1.2.2 (nx hB h)
          | false =>
            simp only [hi2] at h hok
            replace h := am_if_of h
            obtain ⟨hln, h⟩ := h
            replace h := am_if_of h
            obtain ⟨hc, h⟩ := h
            replace h := am_room_of h hB
            obtain ⟨h1, h⟩ := h
            exact so_callS cx hd hok (Nat.le_of_ble_eq_true hln) (Nat.le_of_ble_eq_true hc) h1 hfr hlo h (fun v V' R' T' q => nx h1 q)
      | invokevirtual x0 =>
        have hl : len = 3 := Nat.eq_of_beq_eq_true hlen
        subst hl
        replace h : am_if (am_isr (am_nth aux 10) (st.drop (am_nth aux 1 - 1))) (am_if (Nat.ble (am_cats (st.drop (am_nth aux 1))) 8) (am_room (am_nth aux 3) (am_nth aux 4) cc cs (am_X.Rm X).cells (am_X.Rm X).slots (am_Calls (am_X.g X) d (am_nth aux 0) (st.take (am_nth aux 1)).reverse V R T (fun q V R T => am_wp C rb (am_X.Rm X).cells (am_X.Rm X).slots (am_Calls (am_X.g X) d) Qc Qr fu cd ls (am_push q (st.drop (am_nth aux 1))) V R T (cc + am_nth aux 3) (cs + am_nth aux 4))))) := h
        replace h := am_if_of h
        obtain ⟨hr, h⟩ := h
        replace h := am_if_of h
        obtain ⟨hc, h⟩ := h
        replace h := am_room_of h hB
        obtain ⟨h1, h⟩ := h
        exact so_callV cx hd hok hr (Nat.le_of_ble_eq_true hc) h1 hfr hlo h (fun v V' R' T' q => nx h1 q)
      | ior => exact False.elim h
      | irem =>
        have hl : len = 1 := Nat.eq_of_beq_eq_true hlen
        subst hl
        replace h : am_pi st (fun b r => am_pi r (fun a r => ((0 ≤ a ∧ a ≤ 2147483647) ∧ (0 < b ∧ b ≤ 2147483647)) ∧ am_wp C rb (am_X.Rm X).cells (am_X.Rm X).slots (am_Calls (am_X.g X) d) Qc Qr fu cd ls (.inl (a % b) :: r) V R T cc cs)) := h
        replace h := am_pi_of h
        obtain ⟨b, r, rfl, h⟩ := h
        replace h := am_pi_of h
        obtain ⟨a, r, rfl, h⟩ := h
        exact so_irem cx h.1.1 h.1.2 hd (nx hB h.2)
      | ireturn =>
        have hl : len = 1 := Nat.eq_of_beq_eq_true hlen
        subst hl
        replace h : (match (generalizing := false) st with
                | [.inl a] => (match (generalizing := false) rb with
                  | true => (a = 0 ∨ a = 1) ∧ Qr (some (.inl a)) V R T
                  | false => Qr (some (.inl a)) V R T)
                | _ => False) := h
        match st, h with
        | [.inl a], h =>
          have hok := of_decide_eq_true hok
          cases rb with
          | true => exact hI _ _ _ _ _ _ _ _ hd hok (fun _ => h.1) h.2
          | false => exact hI _ _ _ _ _ _ _ _ hd hok (fun q => by cases q) h
      | ishl => exact False.elim h
      | ishr => exact False.elim h
      | istore i =>
        have hl : len = 2 := Nat.eq_of_beq_eq_true hlen
        subst hl
        replace h : am_pi st (fun b r => am_wp C rb (am_X.Rm X).cells (am_X.Rm X).slots (am_Calls (am_X.g X) d) Qc Qr fu cd (am_st1 ls i (.inl b)) r V R T cc cs) := h
        replace h := am_pi_of h
        obtain ⟨b, r, rfl, h⟩ := h
        exact so_istore cx (Nat.le_of_ble_eq_true hok) hd (nx hB h)
      | istore_n i =>
        have hl : len = 1 := Nat.eq_of_beq_eq_true hlen
        subst hl
        replace h : am_pi st (fun b r => am_wp C rb (am_X.Rm X).cells (am_X.Rm X).slots (am_Calls (am_X.g X) d) Qc Qr fu cd (am_st1 ls i.val (.inl b)) r V R T cc cs) := h
        replace h := am_pi_of h
        obtain ⟨b, r, rfl, h⟩ := h
        exact so_istore_n cx (Nat.le_of_ble_eq_true hok) hd (nx hB h)
      | isub =>
        have hl : len = 1 := Nat.eq_of_beq_eq_true hlen
        subst hl
        replace h : am_pi st (fun b r => am_pi r (fun a r => am_wp C rb (am_X.Rm X).cells (am_X.Rm X).slots (am_Calls (am_X.g X) d) Qc Qr fu cd ls (.inl (a - b) :: r) V R T cc cs)) := h
        replace h := am_pi_of h
        obtain ⟨b, r, rfl, h⟩ := h
        replace h := am_pi_of h
        obtain ⟨a, r, rfl, h⟩ := h
        exact so_isub cx hd (nx hB h)
      | iushr => exact False.elim h
      | ixor => exact False.elim h
      | jsr x0 => exact False.elim h
      | jsr_w x0 => exact False.elim h
      | l2d => exact False.elim h
      | l2f => exact False.elim h
      | l2i =>
        have hl : len = 1 := Nat.eq_of_beq_eq_true hlen
        subst hl
        replace h : am_pl st (fun a r => am_wp C rb (am_X.Rm X).cells (am_X.Rm X).slots (am_Calls (am_X.g X) d) Qc Qr fu cd ls (.inl (Int.bmod a 4294967296) :: r) V R T cc cs) := h
        replace h := am_pl_of h
        obtain ⟨a, r, rfl, h⟩ := h
        exact so_l2i cx hd (nx hB h)
      | ladd =>
        have hl : len = 1 := Nat.eq_of_beq_eq_true hlen
        subst hl
        replace h : am_pl st (fun b r => am_pl r (fun a r => am_wp C rb (am_X.Rm X).cells (am_X.Rm X).slots (am_Calls (am_X.g X) d) Qc Qr fu cd ls (.inr (.inl (a + b)) :: r) V R T cc cs)) := h
        replace h := am_pl_of h
        obtain ⟨b, r, rfl, h⟩ := h
        replace h := am_pl_of h
        obtain ⟨a, r, rfl, h⟩ := h
        exact so_ladd cx hd (nx hB h)
      | laload =>
        have hl : len = 1 := Nat.eq_of_beq_eq_true hlen
        subst hl
        replace h : am_pi st (fun i r => am_pr r (fun b r => am_ix 1 3 V b i (fun a j => am_wp C rb (am_X.Rm X).cells (am_X.Rm X).slots (am_Calls (am_X.g X) d) Qc Qr fu cd ls (.inr (.inl (V a j)) :: r) V R T cc cs))) := h
        replace h := am_pi_of h
        obtain ⟨i, r, rfl, h⟩ := h
        replace h := am_pr_of h
        obtain ⟨b, r, rfl, h⟩ := h
        exact so_laload cx hd h (fun a j q => nx hB q)
      | land =>
        have hl : len = 1 := Nat.eq_of_beq_eq_true hlen
        subst hl
        replace h : am_pl st (fun b r => am_pl r (fun a r => b = 4294967295 ∧ am_wp C rb (am_X.Rm X).cells (am_X.Rm X).slots (am_Calls (am_X.g X) d) Qc Qr fu cd ls (.inr (.inl (a % 4294967296)) :: r) V R T cc cs)) := h
        replace h := am_pl_of h
        obtain ⟨b, r, rfl, h⟩ := h
        replace h := am_pl_of h
        obtain ⟨a, r, rfl, h⟩ := h
        obtain ⟨rfl, h⟩ := h
        exact so_land cx hd (nx hB h)
      | lastore =>
        have hl : len = 1 := Nat.eq_of_beq_eq_true hlen
        subst hl
        replace h : am_pl st (fun x r => am_pi r (fun i r => am_pr r (fun b r => am_ix 1 3 V b i (fun a j => am_wp C rb (am_X.Rm X).cells (am_X.Rm X).slots (am_Calls (am_X.g X) d) Qc Qr fu cd ls r (am_up V a j x) R T cc cs)))) := h
        replace h := am_pl_of h
        obtain ⟨x, r, rfl, h⟩ := h
        replace h := am_pi_of h
        obtain ⟨i, r, rfl, h⟩ := h
        replace h := am_pr_of h
        obtain ⟨b, r, rfl, h⟩ := h
        exact so_lastore cx hd h (fun a j q => nx hB q)
      | lcmp =>
        have hl : len = 1 := Nat.eq_of_beq_eq_true hlen
        subst hl
        replace h : (match (generalizing := false) cd with
                | (_, _, .ifCond c _, _, _, aux2) :: cd2 => am_pl st (fun b r => am_pl r (fun a r => (am_in64 a ∧ am_in64 b) ∧ am_br c a b (am_wp C rb (am_X.Rm X).cells (am_X.Rm X).slots (am_Calls (am_X.g X) d) Qc Qr fu (am_at C (am_nth aux2 0)) ls r V R T cc cs) (am_wp C rb (am_X.Rm X).cells (am_X.Rm X).slots (am_Calls (am_X.g X) d) Qc Qr fu cd2 ls r V R T cc cs)))
                | _ => False) := h
        clear nx
        have h9 := h
        clear h
        match cd, hg, h9 with
        | (fl2, pc2, .ifCond c2 v2, len2, z2, aux2) :: cd2, hg, h =>
          clear h9
          have hg2 := hg.tail
          have e1 : pc + 1 = pc2 := hg.next
          have hq2 := hg2.1 _ List.mem_cons_self
          unfold am_ok1 at hq2
          simp only [Bool.and_eq_true, decide_eq_true_eq] at hq2
          obtain ⟨hd2, hlen2, hok2⟩ := hq2
          have hl2 : len2 = 3 := Nat.eq_of_beq_eq_true hlen2
          subst hl2
          replace h := am_pl_of h
          obtain ⟨b, r, rfl, h⟩ := h
          replace h := am_pl_of h
          obtain ⟨a, r, rfl, h⟩ := h
          have hok2 : ((pc2 : Nat) : Int) + v2 = (am_nth aux2 0 : Int) := of_decide_eq_true hok2
          refine so_lcmp cx h.1.1 h.1.2 (by rw [e1]; exact hok2) hd (by rw [e1]; exact hd2) (am_br_mono h.2 (jm _ hB) (fun h => ?_))
          cases cd2 with
          | nil => cases fu <;> exact False.elim h
          | cons q l =>
            have e : pc2 + 3 = q.2.1 := hg2.next
            rw [e1, e]
            exact ih (q :: l) _ _ _ _ _ _ _ hg2.tail hB h
      | lconst x0 =>
        have hl : len = 1 := Nat.eq_of_beq_eq_true hlen
        subst hl
        replace h : am_wp C rb (am_X.Rm X).cells (am_X.Rm X).slots (am_Calls (am_X.g X) d) Qc Qr fu cd ls (.inr (.inl z) :: st) V R T cc cs := h
        have hz := of_decide_eq_true hok
        rw [hz] at h
        exact so_lconst cx hd (nx hB h)
      | ldc x0 =>
        have hl : len = 2 := Nat.eq_of_beq_eq_true hlen
        subst hl
        replace h : am_wp C rb (am_X.Rm X).cells (am_X.Rm X).slots (am_Calls (am_X.g X) d) Qc Qr fu cd ls (.inl z :: st) V R T cc cs := h
        exact so_ldc cx (of_decide_eq_true hok) hd (nx hB h)
      | ldc_w x0 =>
        have hl : len = 3 := Nat.eq_of_beq_eq_true hlen
        subst hl
        replace h : am_wp C rb (am_X.Rm X).cells (am_X.Rm X).slots (am_Calls (am_X.g X) d) Qc Qr fu cd ls (.inl z :: st) V R T cc cs := h
        exact so_ldc_w cx (of_decide_eq_true hok) hd (nx hB h)
      | ldc2_w x0 =>
        have hl : len = 3 := Nat.eq_of_beq_eq_true hlen
        subst hl
        replace h : am_wp C rb (am_X.Rm X).cells (am_X.Rm X).slots (am_Calls (am_X.g X) d) Qc Qr fu cd ls (.inr (.inl z) :: st) V R T cc cs := h
        exact so_ldc2_w cx (of_decide_eq_true hok) hd (nx hB h)
      | ldiv =>
        have hl : len = 1 := Nat.eq_of_beq_eq_true hlen
        subst hl
        replace h : am_pl st (fun b r => am_pl r (fun a r => ((0 ≤ a ∧ a ≤ 9223372036854775807) ∧ (0 < b ∧ b ≤ 9223372036854775807)) ∧ am_wp C rb (am_X.Rm X).cells (am_X.Rm X).slots (am_Calls (am_X.g X) d) Qc Qr fu cd ls (.inr (.inl (a / b)) :: r) V R T cc cs)) := h
        replace h := am_pl_of h
        obtain ⟨b, r, rfl, h⟩ := h
        replace h := am_pl_of h
        obtain ⟨a, r, rfl, h⟩ := h
        exact so_ldiv cx h.1.1 h.1.2 hd (nx hB h.2)
      | lload i =>
        have hl : len = 2 := Nat.eq_of_beq_eq_true hlen
        subst hl
        replace h : am_ldl ls i (fun v => am_wp C rb (am_X.Rm X).cells (am_X.Rm X).slots (am_Calls (am_X.g X) d) Qc Qr fu cd ls (v :: st) V R T cc cs) := h
        replace h := am_ldl_of h
        obtain ⟨y, hv, h⟩ := h
        exact so_lload cx hv hd (nx hB h)
      | lload_n i =>
        have hl : len = 1 := Nat.eq_of_beq_eq_true hlen
        subst hl
        replace h : am_ldl ls i.val (fun v => am_wp C rb (am_X.Rm X).cells (am_X.Rm X).slots (am_Calls (am_X.g X) d) Qc Qr fu cd ls (v :: st) V R T cc cs) := h
        replace h := am_ldl_of h
        obtain ⟨y, hv, h⟩ := h
        exact so_lload_n cx hv hd (nx hB h)
      | lmul =>
        have hl : len = 1 := Nat.eq_of_beq_eq_true hlen
        subst hl
        replace h : am_pl st (fun b r => am_pl r (fun a r => am_wp C rb (am_X.Rm X).cells (am_X.Rm X).slots (am_Calls (am_X.g X) d) Qc Qr fu cd ls (.inr (.inl (a * b)) :: r) V R T cc cs)) := h
        replace h := am_pl_of h
        obtain ⟨b, r, rfl, h⟩ := h
        replace h := am_pl_of h
        obtain ⟨a, r, rfl, h⟩ := h
        exact so_lmul cx hd (nx hB h)
      | lneg => exact False.elim h
      | lookupswitch x0 x1 => exact False.elim h
      | lor =>
        have hl : len = 1 := Nat.eq_of_beq_eq_true hlen
        subst hl
        replace h : am_pl st (fun b r => am_pl r (fun a r => (a % 4294967296 = 0 ∧ (0 ≤ b ∧ b < 4294967296)) ∧ am_wp C rb (am_X.Rm X).cells (am_X.Rm X).slots (am_Calls (am_X.g X) d) Qc Qr fu cd ls (.inr (.inl (a + b)) :: r) V R T cc cs)) := h
        replace h := am_pl_of h
        obtain ⟨b, r, rfl, h⟩ := h
        replace h := am_pl_of h
        obtain ⟨a, r, rfl, h⟩ := h
        exact so_lor cx h.1.1 h.1.2 hd (nx hB h.2)
      | lrem =>
        have hl : len = 1 := Nat.eq_of_beq_eq_true hlen
        subst hl
        replace h : am_pl st (fun b r => am_pl r (fun a r => (am_in64 a ∧ (0 < b ∧ b ≤ 9223372036854775807)) ∧ am_wp C rb (am_X.Rm X).cells (am_X.Rm X).slots (am_Calls (am_X.g X) d) Qc Qr fu cd ls (.inr (.inl (Int.tmod a b)) :: r) V R T cc cs)) := h
        replace h := am_pl_of h
        obtain ⟨b, r, rfl, h⟩ := h
        replace h := am_pl_of h
        obtain ⟨a, r, rfl, h⟩ := h
        exact so_lrem cx h.1.1 h.1.2 hd (nx hB h.2)
      | lreturn =>
        have hl : len = 1 := Nat.eq_of_beq_eq_true hlen
        subst hl
        replace h : (match (generalizing := false) st with
                | [.inr (.inl a)] => Qr (some (.inr (.inl a))) V R T
                | _ => False) := h
        match st, h with
        | [.inr (.inl a)], h => exact hJ _ _ _ _ _ _ _ _ hd (of_decide_eq_true hok) h
      | lshl =>
        have hl : len = 1 := Nat.eq_of_beq_eq_true hlen
        subst hl
        replace h : am_pi st (fun b r => am_pl r (fun a r => b = 32 ∧ am_wp C rb (am_X.Rm X).cells (am_X.Rm X).slots (am_Calls (am_X.g X) d) Qc Qr fu cd ls (.inr (.inl (a * 4294967296)) :: r) V R T cc cs)) := h
        replace h := am_pi_of h
        obtain ⟨b, r, rfl, h⟩ := h
        replace h := am_pl_of h
        obtain ⟨a, r, rfl, h⟩ := h
        obtain ⟨rfl, h⟩ := h
        exact so_lshl cx hd (nx hB h)
      | lshr => exact False.elim h
      | lstore i =>
        have hl : len = 2 := Nat.eq_of_beq_eq_true hlen
        subst hl
        replace h : am_pl st (fun b r => am_wp C rb (am_X.Rm X).cells (am_X.Rm X).slots (am_Calls (am_X.g X) d) Qc Qr fu cd (am_st2 ls i (.inr (.inl b))) r V R T cc cs) := h
        replace h := am_pl_of h
        obtain ⟨b, r, rfl, h⟩ := h
        exact so_lstore cx (Nat.le_of_ble_eq_true hok) hd (nx hB h)
      | lstore_n i =>
        have hl : len = 1 := Nat.eq_of_beq_eq_true hlen
        subst hl
        replace h : am_pl st (fun b r => am_wp C rb (am_X.Rm X).cells (am_X.Rm X).slots (am_Calls (am_X.g X) d) Qc Qr fu cd (am_st2 ls i.val (.inr (.inl b))) r V R T cc cs) := h
        replace h := am_pl_of h
        obtain ⟨b, r, rfl, h⟩ := h
        exact so_lstore_n cx (Nat.le_of_ble_eq_true hok) hd (nx hB h)
      | lsub =>
        have hl : len = 1 := Nat.eq_of_beq_eq_true hlen
        subst hl
        replace h : am_pl st (fun b r => am_pl r (fun a r => am_wp C rb (am_X.Rm X).cells (am_X.Rm X).slots (am_Calls (am_X.g X) d) Qc Qr fu cd ls (.inr (.inl (a - b)) :: r) V R T cc cs)) := h
        replace h := am_pl_of h
        obtain ⟨b, r, rfl, h⟩ := h
        replace h := am_pl_of h
        obtain ⟨a, r, rfl, h⟩ := h
        exact so_lsub cx hd (nx hB h)
      | lushr => exact False.elim h
      | lxor =>
        have hl : len = 1 := Nat.eq_of_beq_eq_true hlen
        subst hl
        replace h : am_pl st (fun b r => am_pl r (fun a r => (am_in64 a ∧ am_in64 b) ∧ (∀ x : Int, am_in64 x → (x < 0 ↔ ((a < 0 ∧ 0 ≤ b) ∨ (0 ≤ a ∧ b < 0))) → am_wp C rb (am_X.Rm X).cells (am_X.Rm X).slots (am_Calls (am_X.g X) d) Qc Qr fu cd ls (.inr (.inl x) :: r) V R T cc cs))) := h
        replace h := am_pl_of h
        obtain ⟨b, r, rfl, h⟩ := h
        replace h := am_pl_of h
        obtain ⟨a, r, rfl, h⟩ := h
        exact so_lxor cx h.1.1 h.1.2 hd (fun x q1 q2 => nx hB (h.2 x q1 q2))
      | monitorenter => exact False.elim h
      | monitorexit => exact False.elim h
      | multianewarray x0 x1 =>
        have hl : len = 4 := Nat.eq_of_beq_eq_true hlen
        subst hl
        replace h : am_pi st (fun w r => am_pi r (fun i r => (match (generalizing := false) am_lay T with
                | (kd, m, y, _) => am_if (Nat.beq kd (4 - am_nth aux 0) && (decide (i = (m : Int)) && decide (w = (y : Int)))) ((cc + (1 + m) ≤ (am_X.Rm X).cells ∧ cs + (m + m * y) ≤ (am_X.Rm X).slots) ∧ am_wp C rb (am_X.Rm X).cells (am_X.Rm X).slots (am_Calls (am_X.g X) d) Qc Qr fu cd ls (.inr (.inr (some (.inl T))) :: r) (am_zero V T) (am_zeroRn R T (1 + m)) (T + (1 + m)) (cc + (1 + m)) (cs + (m + m * y)))))) := h
        replace h := am_pi_of h
        obtain ⟨w, r, rfl, h⟩ := h
        replace h := am_pi_of h
        obtain ⟨i, r, rfl, h⟩ := h
        replace hok : (Nat.beq x1 2 && ((Nat.beq (am_nth aux 0) 1 && (am_wd (am_nth aux 1) (.classLink (am_X.own X) x0 ("[" ++ (FieldType.array .long).toString)) && am_wd (am_nth aux 2) (.arrayClass .long))) || (Nat.beq (am_nth aux 0) 0 && (am_wd (am_nth aux 1) (.classLink (am_X.own X) x0 ("[" ++ (FieldType.array .int).toString)) && am_wd (am_nth aux 2) (.arrayClass .int))))) = true := hok
        rw [Bool.and_eq_true, Bool.or_eq_true, Bool.and_eq_true, Bool.and_eq_true, Bool.and_eq_true, Bool.and_eq_true] at hok
        obtain ⟨hdim, hM⟩ := hok
        have hdim := Nat.eq_of_beq_eq_true hdim
        subst hdim
        obtain ⟨⟨kd, n9, w9, y9⟩, hl⟩ : ∃ z9, am_lay T = z9 := ⟨_, rfl⟩
        simp only [hl] at h
        replace h := am_if_of h
        obtain ⟨hk, h1, h⟩ := h
        simp only [Bool.and_eq_true, decide_eq_true_eq] at hk
        obtain ⟨hk, hi, hw⟩ := hk
        have hk := Nat.eq_of_beq_eq_true hk
        subst hi
        subst hw
        rcases hM with ⟨q1, q2, q3⟩ | ⟨q1, q2, q3⟩
        · have q1 := Nat.eq_of_beq_eq_true q1
          exact so_multi (ty := .long) cx hd hl (Or.inl ⟨by rw [hk, q1], rfl⟩) (of_decide_eq_true q2) (of_decide_eq_true q3) h1 (nx h1 h)
        · have q1 := Nat.eq_of_beq_eq_true q1
          exact so_multi (ty := .int) cx hd hl (Or.inr ⟨by rw [hk, q1], rfl⟩) (of_decide_eq_true q2) (of_decide_eq_true q3) h1 (nx h1 h)
      | new x0 =>
        have hl : len = 3 := Nat.eq_of_beq_eq_true hlen
        subst hl
        replace h : (match (generalizing := false) am_lay T with
                | (kd, m, _, _) => am_if (Nat.beq kd (10 + am_nth aux 0)) ((cc + 1 ≤ (am_X.Rm X).cells ∧ cs + m ≤ (am_X.Rm X).slots) ∧ am_wp C rb (am_X.Rm X).cells (am_X.Rm X).slots (am_Calls (am_X.g X) d) Qc Qr fu cd ls (.inr (.inr (some (.inl T))) :: st) (am_zero V T) (am_zeroR R T) (T + 1) (cc + 1) (cs + m))) := h
        simp only [am_ok2, Bool.and_eq_true, am_wd, decide_eq_true_eq] at hok
        obtain ⟨⟨kd, n9, w9, y9⟩, hl⟩ : ∃ z9, am_lay T = z9 := ⟨_, rfl⟩
        simp only [hl] at h
        replace h := am_if_of h
        obtain ⟨hk, h1, h⟩ := h
        have hk := Nat.eq_of_beq_eq_true hk
        subst hk
        exact so_new cx hd hl hok.1 hok.2.1 hok.2.2 h1 (nx h1 h)
      | newarray x0 =>
        have hl : len = 2 := Nat.eq_of_beq_eq_true hlen
        subst hl
        replace h : am_pi st (fun i r => (match (generalizing := false) am_lay T with
                | (kd, m, _, _) => am_if (Nat.beq kd (am_nth aux 0) && decide (i = (m : Int))) ((cc + 1 ≤ (am_X.Rm X).cells ∧ cs + m ≤ (am_X.Rm X).slots) ∧ am_wp C rb (am_X.Rm X).cells (am_X.Rm X).slots (am_Calls (am_X.g X) d) Qc Qr fu cd ls (.inr (.inr (some (.inl T))) :: r) (am_zero V T) (am_zeroR R T) (T + 1) (cc + 1) (cs + m)))) := h
        replace h := am_pi_of h
        obtain ⟨i, r, rfl, h⟩ := h
        simp only [am_ok2, Bool.and_eq_true, Bool.or_eq_true, am_wd, decide_eq_true_eq] at hok
        obtain ⟨⟨kd, n9, w9, y9⟩, hl⟩ : ∃ z9, am_lay T = z9 := ⟨_, rfl⟩
        simp only [hl] at h
        replace h := am_if_of h
        obtain ⟨hk, h1, h⟩ := h
        simp only [Bool.and_eq_true, decide_eq_true_eq] at hk
        obtain ⟨hk, hi⟩ := hk
        have hk := Nat.eq_of_beq_eq_true hk
        subst hi
        refine so_newarray cx hd hl ?_ hok.2 h1 (nx h1 h)
        rcases hok.1 with (⟨q1, q2⟩ | ⟨q1, q2⟩) | ⟨q1, q2⟩
        · exact Or.inl ⟨hk.trans (Nat.eq_of_beq_eq_true q1), q2⟩
        · exact Or.inr (Or.inl ⟨hk.trans (Nat.eq_of_beq_eq_true q1), q2⟩)
        · exact Or.inr (Or.inr ⟨hk.trans (Nat.eq_of_beq_eq_true q1), q2⟩)
      | nop => exact False.elim h
      | pop =>
        have hl : len = 1 := Nat.eq_of_beq_eq_true hlen
        subst hl
        replace h : (match (generalizing := false) st with
                | .inr (.inl _) :: _ => False
                | _ :: r => am_wp C rb (am_X.Rm X).cells (am_X.Rm X).slots (am_Calls (am_X.g X) d) Qc Qr fu cd ls r V R T cc cs
                | [] => False) := h
        match st, h with
        | .inl v :: r, h => exact so_pop cx (fun y q => by cases q) hd (nx hB h)
        | .inr (.inr v) :: r, h => exact so_pop cx (fun y q => by cases q) hd (nx hB h)
      | pop2 => exact False.elim h
      | putfield x0 =>
        have hl : len = 3 := Nat.eq_of_beq_eq_true hlen
        subst hl
        replace h : (match (generalizing := false) am_nth aux 1 with
                | 0 => am_pi st (fun x r => am_pr r (fun b r => (match (generalizing := false) b with
                  | some (.inl o) => am_if (Nat.beq (am_lay o).1 (10 + am_nth aux 2)) (am_wp C rb (am_X.Rm X).cells (am_X.Rm X).slots (am_Calls (am_X.g X) d) Qc Qr fu cd ls r (am_up V o z x) R T cc cs)
                  | _ => False)))
                | 1 => am_pl st (fun x r => am_pr r (fun b r => (match (generalizing := false) b with
                  | some (.inl o) => am_if (Nat.beq (am_lay o).1 (10 + am_nth aux 2)) (am_wp C rb (am_X.Rm X).cells (am_X.Rm X).slots (am_Calls (am_X.g X) d) Qc Qr fu cd ls r (am_up V o z x) R T cc cs)
                  | _ => False)))
                | 2 => am_pi st (fun x r => am_pr r (fun b r => (match (generalizing := false) b with
                  | some (.inl o) => am_if (Nat.beq (am_lay o).1 (10 + am_nth aux 2)) ((x = 0 ∨ x = 1) ∧ am_wp C rb (am_X.Rm X).cells (am_X.Rm X).slots (am_Calls (am_X.g X) d) Qc Qr fu cd ls r (am_up V o z x) R T cc cs)
                  | _ => False)))
                | _ => am_pr st (fun x r => am_pr r (fun b r => (match (generalizing := false) b, x with
                  | some (.inl o), some (.inl q) => am_if (Nat.beq (am_lay o).1 (10 + am_nth aux 2)) (am_if (am_fits (am_nth aux 2) (am_nth aux 0) (am_lay q).1) (am_wp C rb (am_X.Rm X).cells (am_X.Rm X).slots (am_Calls (am_X.g X) d) Qc Qr fu cd ls r V (am_upR R o z (some q)) T cc cs))
                  | _, _ => False)))) := h
        simp only [am_ok2, Bool.and_eq_true, am_wd, decide_eq_true_eq] at hok
        obtain ⟨kz, k1, k2, k3, k4⟩ := hok
        subst kz
        have k1 : am_nth aux 0 < am_NN (am_nth aux 2) := Nat.le_of_ble_eq_true k1
        have k2 := Nat.eq_of_beq_eq_true k2
        have hfin : (am_TT (am_nth aux 2) (am_nth aux 0)).2.2.2 = false ∨ ((am_TT (am_nth aux 2) (am_nth aux 0)).2.2.2 = true ∧ (am_X.meth X).name = "<init>" ∧ (am_TT (am_nth aux 2) (am_nth aux 0)).1 = am_X.own X) := by
          cases hf : (am_TT (am_nth aux 2) (am_nth aux 0)).2.2.2 with
          | false => exact Or.inl rfl
          | true =>
            rw [hf] at k4
            simp only [Bool.not_true, Bool.false_or, Bool.and_eq_true, decide_eq_true_eq] at k4
            exact Or.inr ⟨rfl, hinit k4.1, k4.2⟩
        revert h
        match hty : am_nth aux 1 with
        | 0 =>
          intro h
          replace h := am_pi_of h
          obtain ⟨x, r, rfl, h⟩ := h
          replace h := am_pr_of h
          obtain ⟨b, r, rfl, h⟩ := h
          match b, h with
          | some (.inl o), h =>
            replace h := am_if_of h
            obtain ⟨hl, h⟩ := h
            have hl := Nat.eq_of_beq_eq_true hl
            exact so_put (v := .inl x) (V' := am_up V o (am_nth aux 0) x) (R' := R) cx hd hl k1 k3 hfin (by rw [am_fk0 (k2.trans hty)]; rfl) (by rw [am_fk0 (k2.trans hty)]; rfl) (fun y hy => am_up_ne hy) (fun _ _ => rfl) (by unfold am_fv; rw [k2, hty, am_up_at, if_pos rfl]; rfl) (fun j hj => by unfold am_fv; rw [am_up_at, if_neg (by omega)]) (fun _ h => h) (nx hB h)
        | 1 =>
          intro h
          replace h := am_pl_of h
          obtain ⟨x, r, rfl, h⟩ := h
          replace h := am_pr_of h
          obtain ⟨b, r, rfl, h⟩ := h
          match b, h with
          | some (.inl o), h =>
            replace h := am_if_of h
            obtain ⟨hl, h⟩ := h
            have hl := Nat.eq_of_beq_eq_true hl
            exact so_put (v := .inr (.inl x)) (V' := am_up V o (am_nth aux 0) x) (R' := R) cx hd hl k1 k3 hfin (by rw [am_fk1 (k2.trans hty)]; rfl) (by rw [am_fk1 (k2.trans hty)]; rfl) (fun y hy => am_up_ne hy) (fun _ _ => rfl) (by unfold am_fv; rw [k2, hty, am_up_at, if_pos rfl]; rfl) (fun j hj => by unfold am_fv; rw [am_up_at, if_neg (by omega)]) (fun _ h => h) (nx hB h)
        | 2 =>
          intro h
          replace h := am_pi_of h
          obtain ⟨x, r, rfl, h⟩ := h
          replace h := am_pr_of h
          obtain ⟨b, r, rfl, h⟩ := h
          match b, h with
          | some (.inl o), h =>
            replace h := am_if_of h
            obtain ⟨hl, h⟩ := h
            have hl := Nat.eq_of_beq_eq_true hl
            obtain ⟨hx01, h⟩ := h
            exact so_put (v := .inl x) (V' := am_up V o (am_nth aux 0) x) (R' := R) cx hd hl k1 k3 hfin (by rw [am_fk2 (k2.trans hty)]; rcases hx01 with rfl | rfl <;> rfl) (by rw [am_fk2 (k2.trans hty)]; rcases hx01 with rfl | rfl <;> rfl) (fun y hy => am_up_ne hy) (fun _ _ => rfl) (by unfold am_fv; rw [k2, hty, am_up_at, if_pos rfl]; rfl) (fun j hj => by unfold am_fv; rw [am_up_at, if_neg (by omega)]) (fun _ h => h) (nx hB h)
        | y + 3 =>
          intro h
          replace h := am_pr_of h
          obtain ⟨x, r, rfl, h⟩ := h
          replace h := am_pr_of h
          obtain ⟨b, r, rfl, h⟩ := h
          match b, x, h with
          | some (.inl o), some (.inl q), h =>
            replace h := am_if_of h
            obtain ⟨hl, h⟩ := h
            replace h := am_if_of h
            obtain ⟨hft, h⟩ := h
            have hl := Nat.eq_of_beq_eq_true hl
            have hc6 : am_nth aux 2 < 6 := by
              obtain ⟨⟨kd, n9, w9, y9⟩, hq9⟩ : ∃ z9, am_lay o = z9 := ⟨_, rfl⟩
              rw [hq9] at hl
              have hl : kd = 10 + am_nth aux 2 := hl
              subst hl
              exact (am_obj hq9).1
            have hle : am_fk (am_nth aux 2) (am_nth aux 0) ≤ 3 := by
              have := List.all_eq_true.mp (List.all_eq_true.mp am_fkle _ (List.mem_range.mpr hc6)) _ (List.mem_range.mpr k1)
              exact of_decide_eq_true this
            have h3 : am_fk (am_nth aux 2) (am_nth aux 0) = 3 := by omega
            exact so_put (v := .inr (.inr (some (.inl q)))) (V' := V) (R' := am_upR R o (am_nth aux 0) (some q)) cx hd hl k1 k3 hfin (am_fk3 h3 _).1 (am_fk3 h3 _).2 (fun _ _ => rfl) (fun y hy => am_upR_ne hy) (by unfold am_fv; rw [h3, am_upR_at, if_pos rfl]; rfl) (fun j hj => by unfold am_fv; rw [am_upR_at, if_neg (by omega)]) (fun h1 h2 => am_okR_up h2 (fun b hb => by cases hb; exact h1)) (nx hB h)
      | putstatic x0 => exact False.elim h
      | ret x0 => exact False.elim h
      | return_ =>
        have hl : len = 1 := Nat.eq_of_beq_eq_true hlen
        subst hl
        replace h : (match (generalizing := false) st with
                | [] => Qr none V R T
                | _ => False) := h
        match st, h with
        | [], h => exact hU _ _ _ _ _ _ _ hd (of_decide_eq_true hok) h
      | saload => exact False.elim h
      | sastore => exact False.elim h
      | sipush x =>
        have hl : len = 3 := Nat.eq_of_beq_eq_true hlen
        subst hl
        replace h : am_wp C rb (am_X.Rm X).cells (am_X.Rm X).slots (am_Calls (am_X.g X) d) Qc Qr fu cd ls (.inl x :: st) V R T cc cs := h
        exact so_sipush cx (of_decide_eq_true hok) hd (nx hB h)
      | swap => exact False.elim h
      | tableswitch x0 x1 x2 x3 =>
        replace h : am_pi st (fun a r => am_in32 a ∧ am_sw (aux.drop 1) a z (fun t => am_wp C rb (am_X.Rm X).cells (am_X.Rm X).slots (am_Calls (am_X.g X) d) Qc Qr fu (am_at C t) ls r V R T cc cs) (am_nth aux 0)) := h
        replace h := am_pi_of h
        obtain ⟨a, r, rfl, h⟩ := h
        simp only [am_ok2, Bool.and_eq_true, decide_eq_true_eq] at hok
        obtain ⟨k1, k2, k3, k4⟩ := hok
        subst k1
        exact so_tableswitch cx h.1 hd k2 k3 k4 h.2 (fun t q => jm t hB q)
end
section
/-! a method's places, its entry -/
def am_rb (μ : am_M) : Bool := match am_M.ret μ with
  | some .boolean => true
  | _ => false
def am_Xm (G : am_G) (d : Nat) (μ : am_M) (V0 : am_V) (T0 : Nat) (Q : Option AV → am_V → am_T → Nat → Prop) (p : Program) (e : Env) (s : State) (m : MethodId) (args : Array Value) (below : List Frame) (meth : Method) (c : Code) : am_X :=
  (p, e, am_room0 (d + 1) (am_M.bc μ) (am_M.bs μ), s, m, args, below, meth, c, MQ below (am_Qc G V0 T0 Q) args s (am_M.bc μ) (am_M.bs μ) (fun q => am_G.b G ≤ q), G, am_M.own μ, am_M.bytes μ, am_M.nL μ, am_M.bc μ, am_M.bs μ, V0, T0)
/-- from this place of method ix on, begun with V0 and T0 cells: it comes back with Q -/
def am_Sem (G : am_G) (d ix : Nat) (V0 : am_V) (T0 : Nat) (Q : Option AV → am_V → am_T → Nat → Prop) (pc : Nat) (ls : am_L) (st : List AV) (V : am_V) (R : am_T) (T cc cs : Nat) : Prop := ∀ μ, am_mt[ix]? = some μ → ∀ p e s m args below meth c, am_cx (am_Xm G d μ V0 T0 Q p e s m args below meth c) → meth.sig.returnType = am_M.ret μ → meth.locks = false → meth.name = (am_M.y μ).name → am_W (am_Xm G d μ V0 T0 Q p e s m args below meth c) pc ls st V R T cc cs
theorem am_chk_good {ix : Nat} {μ : am_M} (hμ : am_mt[ix]? = some μ) (h : am_chk ix = true) : am_good (am_M.own μ) (decide ((am_M.y μ).name = "<init>")) (am_M.ret μ) (am_M.bytes μ) (am_M.nL μ) (am_M.code μ) ∧ (am_M.y μ).cls = am_M.own μ ∧ plainName (am_M.y μ).cls = true := by
  unfold am_chk at h
  rw [hμ] at h
  simp only [Bool.and_eq_true, decide_eq_true_eq] at h
  exact ⟨⟨fun q hq => List.all_eq_true.mp h.1 q hq, h.2.1⟩, h.2.2.1, h.2.2.2⟩
theorem am_go_good {own : String} {init : Bool} {ret : Option FieldType} {bytes : ByteArray} {nL : Nat} {cd : List CI} (h : am_good own init ret bytes nL cd) : am_good own init ret bytes nL (am_go cd) ∧ am_pc (am_go cd) = am_pc cd := by
  cases cd with
  | nil => exact ⟨h, rfl⟩
  | cons q l =>
    refine ⟨⟨fun x hx => ?_, ?_⟩, rfl⟩
    · rcases List.mem_cons.mp hx with e | e
      · subst e
        exact h.1 q List.mem_cons_self
      · exact h.1 x (List.mem_cons_of_mem _ e)
    · have := h.2
      unfold am_lin at this
      unfold am_go am_lin
      exact this
theorem am_run {G : am_G} {d ix : Nat} {μ : am_M} {V0 : am_V} {T0 : Nat} {Q : Option AV → am_V → am_T → Nat → Prop} {pc : Nat} {ls : am_L} {st : List AV} {V : am_V} {R : am_T} {T cc cs : Nat} (n : Nat) (hμ : am_mt[ix]? = some μ) (hk : am_chk ix = true)
    (h : ∀ (K : Nat → List AV → am_V → am_T → Nat → (Option AV → am_V → am_T → Nat → Prop) → Prop) (S : Nat → am_L → List AV → am_V → am_T → Nat → Nat → Nat → Prop), (∀ {ix' : Nat} {as : List AV} {V : am_V} {R : am_T} {T : Nat} {Q : Option AV → am_V → am_T → Nat → Prop}, am_Calls G d ix' as V R T Q → K ix' as V R T Q) → (∀ {pc : Nat} {ls : am_L} {st : List AV} {V : am_V} {R : am_T} {T cc cs : Nat}, am_Sem G d ix V0 T0 Q pc ls st V R T cc cs → S pc ls st V R T cc cs) → am_wp (am_M.code μ) (am_rb μ) (am_M.bc μ) (am_M.bs μ) K S Q n (am_go (am_at (am_M.code μ) pc)) ls st V R T cc cs) : am_Sem G d ix V0 T0 Q pc ls st V R T cc cs := by
  intro μ' hμ' p e s m args below meth c cx hr hlk hnm
  cases hμ.symm.trans hμ'
  have hw := h (am_Calls G d) (am_Sem G d ix V0 T0 Q) (fun q => q) (fun q => q)
  obtain ⟨hg, hcl, hpl⟩ := am_chk_good hμ hk
  obtain ⟨g1, g2⟩ := am_good.at pc hg
  obtain ⟨g3, g4⟩ := am_go_good g1
  have hpc : am_pc (am_go (am_at (am_M.code μ) pc)) = pc := by
    rw [g4]
    cases hc : am_at (am_M.code μ) pc with
    | nil => rw [hc] at hw; cases n <;> exact False.elim hw
    | cons q l => exact g2 q l hc
  intro la H locs hf
  have hB := hf.oB
  have hx := cx.1
  have hb : c.code = am_M.bytes μ := cx.2.1
  have key : ∀ {v : Option AV} {V : am_V} {R : am_T} {T : Nat} {ls : am_L} {st : List AV} {cc cs : Nat} {la : Array Slot} {H : Heap} {locs : List Loc}, Q v V R T → am_fr G s V0 T0 (am_M.nL μ) (am_M.bc μ) (am_M.bs μ) ls st V R T cc cs la H locs → (∀ x, v = some x → am_okv T x) → ∀ t : State, t.heap = H → s.WarmedH t.vm → am_Qc G V0 T0 Q args s (.returned (v.map (am_cv G))) t := by
    intro v V R T ls st cc cs la H locs hq hf hv t ht hW
    exact ⟨⟨v, V, R, T, rfl, hq, by rw [ht]; exact hf.sz, hf.2.2.1, by rw [ht]; exact hf.oP, hf.oR, hf.oV, hv⟩, hf.oS.F ht⟩
  have := am_sound (X := am_Xm G d μ V0 T0 Q p e s m args below meth c) cx (init := decide ((am_M.y μ).name = "<init>")) (ret := am_M.ret μ) (rb := am_rb μ) (d := d) (C := am_M.code μ) (Qc := am_Sem G d ix V0 T0 Q) (Qr := Q) hg (fun q => hnm.trans (of_decide_eq_true q)) (Nat.le_refl _) (Nat.le_refl _) (fun pc ls st V R T cc cs q => q μ hμ p e s m args below meth c cx hr hlk hnm) ?_ ?_ ?_ ?_ n _ ls st V R T cc cs g3 hB hw
  · rw [hpc] at this
    exact this la H locs hf
  · intro pc ls V R T cc cs z hd hret hz hq la H locs hf
    refine W.widen (k := am_M.bc μ) (n := am_M.bs μ) hf.oB.1 hf.oB.2 ?_
    rcases hret with h1 | h1
    · exact W.iret hx hb (by rw [hr, h1]) (key hq hf (fun x hx => by cases hx; trivial)) hf.oS.2.2 hd
    · refine W.zret hx hb (ty := .boolean) (by rw [hr, h1]) ?_ (key hq hf (fun x hx => by cases hx; trivial)) hf.oS.2.2 hd
      have : am_rb μ = true := by unfold am_rb; rw [h1]
      rcases hz this with rfl | rfl <;> rfl
  · intro pc ls V R T cc cs z hd hret hq la H locs hf
    refine W.widen (k := am_M.bc μ) (n := am_M.bs μ) hf.oB.1 hf.oB.2 ?_
    exact W.lret hx hb (by rw [hr, hret]) (key hq hf (fun x hx => by cases hx; trivial)) hf.oS.2.2 hd
  · intro pc ls V R T cc cs o hd hret hq la H locs hf
    refine W.widen (k := am_M.bc μ) (n := am_M.bs μ) hf.oB.1 hf.oB.2 ?_
    have ho := hf.ok _ List.mem_cons_self
    exact W.aret hx hb (by rw [hr, hret]) (Or.inl ⟨_, rfl⟩) (Or.inr ⟨_, rfl⟩) (key hq hf (fun x hx => by cases hx; exact ho)) hf.oS.2.2 hd
  · intro pc ls V R T cc cs hd hret hq la H locs hf
    refine W.widen (k := am_M.bc μ) (n := am_M.bs μ) hf.oB.1 hf.oB.2 ?_
    exact W.vret hx hb (by rw [hr, hret]) (key hq hf (fun x hx => by cases hx)) hf.oS.2.2 hd
def am_ini : List AV → Nat → am_L
  | [], n => List.replicate n none
  | .inr (.inl z) :: l, n => some (.inr (.inl z)) :: none :: am_ini l (n - 2)
  | v :: l, n => some v :: am_ini l (n - 1)
theorem am_asc_rep {G : am_G} : ∀ (n i : Nat), am_asc G i (List.replicate n none) = []
  | 0, _ => rfl
  | n + 1, i => by
    rw [List.replicate_succ, am_asc]
    exact am_asc_rep n (i + 1)
theorem am_ini_asc {G : am_G} : ∀ (l : List AV) (n i : Nat), am_asc G i (am_ini l n) = lv_args i (l.map (am_cv G))
  | [], n, i => by rw [am_ini, am_asc_rep]; rfl
  | .inl z :: l, n, i => by
    show (i, _) :: am_asc G (i + 1) (am_ini l (n - 1)) = _
    rw [am_ini_asc l]
    rfl
  | .inr (.inl z) :: l, n, i => by
    show (i, _) :: am_asc G (i + 1 + 1) (am_ini l (n - 2)) = _
    rw [am_ini_asc l]
    rfl
  | .inr (.inr none) :: l, n, i => by
    show (i, _) :: am_asc G (i + 1) (am_ini l (n - 1)) = _
    rw [am_ini_asc l]
    rfl
  | .inr (.inr (some (.inl a))) :: l, n, i => by
    show (i, _) :: am_asc G (i + 1) (am_ini l (n - 1)) = _
    rw [am_ini_asc l]
    rfl
  | .inr (.inr (some (.inr (a, q)))) :: l, n, i => by
    show (i, _) :: am_asc G (i + 1) (am_ini l (n - 1)) = _
    rw [am_ini_asc l]
    rfl
theorem am_sl_len {G : am_G} : ∀ (l : List AV), (lg_sl (l.map (am_cv G))).length = am_cats l
  | [] => rfl
  | .inl z :: l => by
    have := am_sl_len (G := G) l
    simp only [lg_sl, List.map_cons, List.flatMap_cons, List.length_append] at this ⊢
    rw [this]
    rfl
  | .inr (.inl z) :: l => by
    have := am_sl_len (G := G) l
    simp only [lg_sl, List.map_cons, List.flatMap_cons, List.length_append] at this ⊢
    rw [this]
    rfl
  | .inr (.inr none) :: l => by
    have := am_sl_len (G := G) l
    simp only [lg_sl, List.map_cons, List.flatMap_cons, List.length_append] at this ⊢
    rw [this]
    rfl
  | .inr (.inr (some (.inl a))) :: l => by
    have := am_sl_len (G := G) l
    simp only [lg_sl, List.map_cons, List.flatMap_cons, List.length_append] at this ⊢
    rw [this]
    rfl
  | .inr (.inr (some (.inr (a, q)))) :: l => by
    have := am_sl_len (G := G) l
    simp only [lg_sl, List.map_cons, List.flatMap_cons, List.length_append] at this ⊢
    rw [this]
    rfl
theorem am_ini_len : ∀ (l : List AV) (n : Nat), am_cats l ≤ n → (am_ini l n).length = n
  | [], n, _ => by rw [am_ini, List.length_replicate]
  | .inl z :: l, n, h => by
    have h : 1 + am_cats l ≤ n := h
    show (am_ini l (n - 1)).length + 1 = n
    rw [am_ini_len l _ (by omega)]
    omega
  | .inr (.inl z) :: l, n, h => by
    have h : 2 + am_cats l ≤ n := h
    show (am_ini l (n - 2)).length + 1 + 1 = n
    rw [am_ini_len l _ (by omega)]
    omega
  | .inr (.inr none) :: l, n, h => by
    have h : 1 + am_cats l ≤ n := h
    show (am_ini l (n - 1)).length + 1 = n
    rw [am_ini_len l _ (by omega)]
    omega
  | .inr (.inr (some (.inl a))) :: l, n, h => by
    have h : 1 + am_cats l ≤ n := h
    show (am_ini l (n - 1)).length + 1 = n
    rw [am_ini_len l _ (by omega)]
    omega
  | .inr (.inr (some (.inr (a, q)))) :: l, n, h => by
    have h : 1 + am_cats l ≤ n := h
    show (am_ini l (n - 1)).length + 1 = n
    rw [am_ini_len l _ (by omega)]
    omega
theorem am_get_rep : ∀ (n j : Nat), am_get (List.replicate n none) j = none
  | 0, _ => rfl
  | n + 1, 0 => rfl
  | n + 1, j + 1 => am_get_rep n j
theorem am_ini_get : ∀ (l : List AV) (n j : Nat) (v : AV), am_get (am_ini l n) j = some v → v ∈ l
  | [], n, j, v, h => by rw [am_ini, am_get_rep] at h; cases h
  | .inl z :: l, n, 0, v, h => by cases h; exact List.mem_cons_self
  | .inl z :: l, n, j + 1, v, h => List.mem_cons_of_mem _ (am_ini_get l (n - 1) j v h)
  | .inr (.inl z) :: l, n, 0, v, h => by cases h; exact List.mem_cons_self
  | .inr (.inl z) :: l, n, 1, v, h => by cases h
  | .inr (.inl z) :: l, n, j + 2, v, h => List.mem_cons_of_mem _ (am_ini_get l (n - 2) j v h)
  | .inr (.inr none) :: l, n, 0, v, h => by cases h; exact List.mem_cons_self
  | .inr (.inr none) :: l, n, j + 1, v, h => List.mem_cons_of_mem _ (am_ini_get l (n - 1) j v h)
  | .inr (.inr (some (.inl a))) :: l, n, 0, v, h => by cases h; exact List.mem_cons_self
  | .inr (.inr (some (.inl a))) :: l, n, j + 1, v, h => List.mem_cons_of_mem _ (am_ini_get l (n - 1) j v h)
  | .inr (.inr (some (.inr (a, q)))) :: l, n, 0, v, h => by cases h; exact List.mem_cons_self
  | .inr (.inr (some (.inr (a, q)))) :: l, n, j + 1, v, h => List.mem_cons_of_mem _ (am_ini_get l (n - 1) j v h)
/-- a method is entered -/
theorem am_enter {G : am_G} {d ix : Nat} {μ : am_M} {as : List AV} {V : am_V} {R : am_T} {T : Nat} {Q : Option AV → am_V → am_T → Nat → Prop} (hμ : am_mt[ix]? = some μ) (hk : am_chk ix = true) (hn : Nat.ble (am_cats as) (am_M.nL μ) = true) (h : am_Sem G d ix V T Q 0 (am_ini as (am_M.nL μ)) [] V R T 0 0) : am_Calls G (d + 1) ix as V R T Q := by
  refine ⟨μ, hμ, ?_⟩
  obtain ⟨hg, hcl, hpl⟩ := am_chk_good hμ hk
  refine Met.ofW (cc := am_M.bytes μ) (maxL := am_M.nL μ) (ret := am_M.ret μ) hpl rfl ?_
  intro p e s m args below meth c s₁ B hml hv
  obtain ⟨rfl, hsz, hT3, hP, hR, hok, hK⟩ := hv
  have hts := atoms_spec (ws := am_words μ) B.pre
  have hown : s.vm.findClass (am_M.own μ) = some m.cls := by rw [← hcl]; exact findClass_of_methodNamed B.named
  have hn := Nat.le_of_ble_eq_true hn
  have hl := lv_entry (as.map (am_cv G)) (n := am_M.nL μ) (by rw [am_sl_len]; exact hn)
  rw [lg_entry_eq]
  generalize (lg_sl (as.map (am_cv G)) ++ List.replicate (am_M.nL μ - (lg_sl (as.map (am_cv G))).length) Slot.unset).toArray = la at hl ⊢
  refine h μ hμ p e s m _ below meth c ⟨B.exec, B.bytes, hml, hown, fun w h1 h2 => hts w (List.mem_cons_of_mem _ (am_gw_of h1 h2)), hK, rfl, rfl⟩ B.returns B.notSynchronized (name_of_methodNamed B.named B.method).1 la s.heap [] ⟨hsz, hT3, Nat.le_refl _, hP, va_S.rf, hR, fun _ _ => rfl, ⟨am_ini_len as _ hn, by rw [am_ini_asc]; exact hl, fun j v hv => hok v (am_ini_get as _ j v hv)⟩, fun v hv => (List.not_mem_nil hv).elim, Nat.zero_le _, Nat.zero_le _⟩
end
section
theorem mt_F_init : am_mt[0]? = some (RX4, yX4_init, prog_1_method_1_code, 4, none, 82, 938, cd_F_init) := rfl
theorem mt_F_sheet : am_mt[1]? = some (RX4, yX4_sheet, prog_1_method_2_code, 4, (some .int), 0, 0, cd_F_sheet) := rfl
theorem mt_F_set : am_mt[2]? = some (RX4, yX4_set, prog_1_method_3_code, 5, (some .long), 0, 0, cd_F_set) := rfl
theorem mt_F_copy : am_mt[3]? = some (RX4, yX4_copy, prog_1_method_4_code, 6, (some .int), 0, 0, cd_F_copy) := rfl
theorem mt_F_drop : am_mt[4]? = some (RX4, yX4_drop, prog_1_method_5_code, 3, (some .int), 0, 0, cd_F_drop) := rfl
theorem mt_F_part : am_mt[5]? = some (RX4, yX4_part, prog_1_method_6_code, 5, (some .int), 2, 15, cd_F_part) := rfl
theorem mt_F_nth : am_mt[6]? = some (RX4, yX4_nth, prog_1_method_7_code, 4, (some .int), 2, 15, cd_F_nth) := rfl
theorem mt_F_both : am_mt[7]? = some (RX4, yX4_both, prog_1_method_8_code, 7, (some .int), 10, 75, cd_F_both) := rfl
theorem mt_F_turn : am_mt[8]? = some (RX4, yX4_turn, prog_1_method_9_code, 5, (some .int), 2, 15, cd_F_turn) := rfl
theorem mt_F_clear : am_mt[9]? = some (RX4, yX4_clear, prog_1_method_10_code, 3, (some .int), 0, 0, cd_F_clear) := rfl
theorem mt_F_kind : am_mt[10]? = some (RX4, yX4_kind, prog_1_method_11_code, 3, (some .int), 0, 0, cd_F_kind) := rfl
theorem mt_F_is : am_mt[11]? = some (RX4, yX4_is, prog_1_method_12_code, 4, (some .int), 0, 0, cd_F_is) := rfl
theorem mt_F_as : am_mt[12]? = some (RX4, yX4_as, prog_1_method_13_code, 4, (some .int), 0, 0, cd_F_as) := rfl
theorem mt_F_ask : am_mt[13]? = some (RX4, yX4_ask, prog_1_method_14_code, 4, (some .int), 0, 0, cd_F_ask) := rfl
theorem mt_F_trace : am_mt[14]? = some (RX4, yX4_trace, prog_1_method_15_code, 2, (some .int), 0, 0, cd_F_trace) := rfl
theorem mt_F_block : am_mt[15]? = some (RX4, yX4_block, prog_1_method_16_code, 4, (some .int), 0, 0, cd_F_block) := rfl
theorem mt_F_told : am_mt[16]? = some (RX4, yX4_told, prog_1_method_17_code, 4, (some .int), 2, 15, cd_F_told) := rfl
theorem mt_F_finer : am_mt[17]? = some (RX4, yX4_finer, prog_1_method_18_code, 5, (some .int), 0, 0, cd_F_finer) := rfl
theorem mt_F_handles : am_mt[18]? = some (RX4, yX4_handles, prog_1_method_19_code, 3, (some .int), 0, 0, cd_F_handles) := rfl
theorem mt_F_series : am_mt[19]? = some (RX4, yX4_series, prog_1_method_20_code, 7, (some .int), 0, 0, cd_F_series) := rfl
theorem mt_F_number : am_mt[20]? = some (RX4, yX4_number, prog_1_method_21_code, 4, (some .long), 0, 0, cd_F_number) := rfl
theorem mt_F_join : am_mt[21]? = some (RX4, yX4_join, prog_1_method_22_code, 8, (some .int), 0, 0, cd_F_join) := rfl
theorem mt_F_change : am_mt[22]? = some (RX4, yX4_change, prog_1_method_23_code, 6, (some .int), 0, 0, cd_F_change) := rfl
theorem mt_F_hankel : am_mt[23]? = some (RX4, yX4_hankel, prog_1_method_24_code, 4, (some .long), 0, 0, cd_F_hankel) := rfl
theorem mt_F_same : am_mt[24]? = some (RX4, yX4_same, prog_1_method_25_code, 4, (some .int), 0, 0, cd_F_same) := rfl
theorem mt_F_genus : am_mt[25]? = some (RX4, yX4_genus, prog_1_method_26_code, 3, (some .long), 0, 0, cd_F_genus) := rfl
theorem mt_F_mean : am_mt[26]? = some (RX4, yX4_mean, prog_1_method_27_code, 6, (some .long), 0, 0, cd_F_mean) := rfl
theorem mt_F_walks : am_mt[27]? = some (RX4, yX4_walks, prog_1_method_28_code, 4, (some .long), 0, 0, cd_F_walks) := rfl
theorem mt_F_count : am_mt[28]? = some (RX4, yX4_count, prog_1_method_29_code, 2, (some .int), 0, 0, cd_F_count) := rfl
theorem mt_F_status : am_mt[29]? = some (RX4, yX4_status, prog_1_method_30_code, 1, (some .int), 0, 0, cd_F_status) := rfl
theorem mt_F_noSheet : am_mt[30]? = some (RX4, yX4_noSheet, prog_1_method_31_code, 1, (some .boolean), 0, 0, cd_F_noSheet) := rfl
theorem mt_F_noPlace : am_mt[31]? = some (RX4, yX4_noPlace, prog_1_method_32_code, 1, (some .boolean), 0, 0, cd_F_noPlace) := rfl
theorem mt_F_noSeries : am_mt[32]? = some (RX4, yX4_noSeries, prog_1_method_33_code, 1, (some .boolean), 0, 0, cd_F_noSeries) := rfl
theorem mt_F_noSort : am_mt[33]? = some (RX4, yX4_noSort, prog_1_method_34_code, 1, (some .boolean), 0, 0, cd_F_noSort) := rfl
theorem mt_F_noPairs : am_mt[34]? = some (RX4, yX4_noPairs, prog_1_method_35_code, 1, (some .boolean), 0, 0, cd_F_noPairs) := rfl
theorem mt_F_noRun : am_mt[35]? = some (RX4, yX4_noRun, prog_1_method_36_code, 4, (some .boolean), 0, 0, cd_F_noRun) := rfl
theorem mt_F_finding : am_mt[36]? = some (RX4, yX4_finding, prog_1_method_37_code, 2, (some .int), 0, 0, cd_F_finding) := rfl
theorem mt_F_fine : am_mt[37]? = some (RX4, yX4_fine, prog_1_method_38_code, 2, (some .int), 0, 0, cd_F_fine) := rfl
theorem mt_F_lowestBits : am_mt[38]? = some (RX4, yX4_lowestBits, prog_1_method_39_code, 3, (some .long), 0, 0, cd_F_lowestBits) := rfl
theorem mt_F_labelLikeItems : am_mt[39]? = some (RX4, yX4_labelLikeItems, prog_1_method_40_code, 6, none, 0, 0, cd_F_labelLikeItems) := rfl
theorem mt_F_shelve : am_mt[40]? = some (RX4, yX4_shelve, prog_1_method_41_code, 3, (some .int), 0, 0, cd_F_shelve) := rfl
theorem mt_F_meetOf : am_mt[41]? = some (RX4, yX4_meetOf, prog_1_method_42_code, 4, (some (.object "FreeParts$Thing")), 2, 15, cd_F_meetOf) := rfl
theorem mt_F_joinOf : am_mt[42]? = some (RX4, yX4_joinOf, prog_1_method_43_code, 4, (some (.object "FreeParts$Thing")), 10, 75, cd_F_joinOf) := rfl
theorem mt_F_turnedBy : am_mt[43]? = some (RX4, yX4_turnedBy, prog_1_method_44_code, 5, (some (.object "FreeParts$Thing")), 2, 15, cd_F_turnedBy) := rfl
theorem mt_F_complementOf : am_mt[44]? = some (RX4, yX4_complementOf, prog_1_method_45_code, 2, (some (.object "FreeParts$Thing")), 2, 15, cd_F_complementOf) := rfl
theorem mt_F_handlesOf : am_mt[45]? = some (RX4, yX4_handlesOf, prog_1_method_46_code, 3, (some .int), 0, 0, cd_F_handlesOf) := rfl
theorem mt_F_countSheets : am_mt[46]? = some (RX4, yX4_countSheets, prog_1_method_47_code, 6, (some .int), 0, 0, cd_F_countSheets) := rfl
theorem mt_F_countThings : am_mt[47]? = some (RX4, yX4_countThings, prog_1_method_48_code, 7, (some .int), 0, 0, cd_F_countThings) := rfl
theorem mt_F_sizeOf : am_mt[48]? = some (RX4, yX4_sizeOf, prog_1_method_49_code, 2, (some .int), 0, 0, cd_F_sizeOf) := rfl
theorem mt_F_markOf : am_mt[49]? = some (RX4, yX4_markOf, prog_1_method_50_code, 2, (some .int), 0, 0, cd_F_markOf) := rfl
theorem mt_F_leaveTrace : am_mt[50]? = some (RX4, yX4_leaveTrace, prog_1_method_51_code, 2, none, 0, 0, cd_F_leaveTrace) := rfl
theorem mt_F_body10 : am_mt[51]? = some (RX4, yX4_body10, prog_1_method_52_code, 2, (some .int), 0, 0, cd_F_body10) := rfl
theorem mt_F_body11 : am_mt[52]? = some (RX4, yX4_body11, prog_1_method_53_code, 2, (some .int), 0, 0, cd_F_body11) := rfl
theorem mt_F_body12 : am_mt[53]? = some (RX4, yX4_body12, prog_1_method_54_code, 2, (some .int), 0, 0, cd_F_body12) := rfl
theorem mt_F_body13 : am_mt[54]? = some (RX4, yX4_body13, prog_1_method_55_code, 3, (some .int), 0, 0, cd_F_body13) := rfl
theorem mt_F_body14 : am_mt[55]? = some (RX4, yX4_body14, prog_1_method_56_code, 2, (some .int), 0, 0, cd_F_body14) := rfl
theorem mt_F_body20 : am_mt[56]? = some (RX4, yX4_body20, prog_1_method_57_code, 2, (some .int), 0, 0, cd_F_body20) := rfl
theorem mt_F_body21 : am_mt[57]? = some (RX4, yX4_body21, prog_1_method_58_code, 2, (some .int), 0, 0, cd_F_body21) := rfl
theorem mt_F_body22 : am_mt[58]? = some (RX4, yX4_body22, prog_1_method_59_code, 3, (some .int), 0, 0, cd_F_body22) := rfl
theorem mt_F_isPrime : am_mt[59]? = some (RX4, yX4_isPrime, prog_1_method_60_code, 2, (some .boolean), 0, 0, cd_F_isPrime) := rfl
theorem mt_F_power : am_mt[60]? = some (RX4, yX4_power, prog_1_method_61_code, 11, (some .long), 0, 0, cd_F_power) := rfl
theorem mt_F_multiplyByPowers : am_mt[61]? = some (RX4, yX4_multiplyByPowers, prog_1_method_62_code, 11, none, 0, 0, cd_F_multiplyByPowers) := rfl
theorem mt_F_determinant : am_mt[62]? = some (RX4, yX4_determinant, prog_1_method_63_code, 6, (some .long), 0, 0, cd_F_determinant) := rfl
theorem mt_F_swapRows : am_mt[63]? = some (RX4, yX4_swapRows, prog_1_method_64_code, 7, none, 0, 0, cd_F_swapRows) := rfl
theorem mt_F_clearColumnBelow : am_mt[64]? = some (RX4, yX4_clearColumnBelow, prog_1_method_65_code, 9, none, 0, 0, cd_F_clearColumnBelow) := rfl
theorem mt_F_countPairings : am_mt[65]? = some (RX4, yX4_countPairings, prog_1_method_66_code, 7, none, 0, 0, cd_F_countPairings) := rfl
theorem mt_F_walkOneStep : am_mt[66]? = some (RX4, yX4_walkOneStep, prog_1_method_67_code, 7, none, 0, 0, cd_F_walkOneStep) := rfl
theorem mt_M_in : am_mt[67]? = some (RX5, yX5_in, prog_7_method_2_code, 6, (some .boolean), 0, 0, cd_M_in) := rfl
theorem mt_M_found : am_mt[68]? = some (RX5, yX5_found, prog_7_method_3_code, 2, (some .int), 0, 0, cd_M_found) := rfl
theorem mt_M_isPrime : am_mt[69]? = some (RX5, yX5_isPrime, prog_7_method_4_code, 3, (some .boolean), 0, 0, cd_M_isPrime) := rfl
theorem mt_M_init : am_mt[70]? = some (RX5, yX5_init, prog_7_method_5_code, 3, none, 20, 787, cd_M_init) := rfl
theorem mt_M_isSheet : am_mt[71]? = some (RX5, yX5_isSheet, prog_7_method_6_code, 1, (some .boolean), 0, 0, cd_M_isSheet) := rfl
theorem mt_M_sheet : am_mt[72]? = some (RX5, yX5_sheet, prog_7_method_7_code, 5, (some .int), 0, 0, cd_M_sheet) := rfl
theorem mt_M_set : am_mt[73]? = some (RX5, yX5_set, prog_7_method_8_code, 5, (some .long), 0, 0, cd_M_set) := rfl
theorem mt_M_copy : am_mt[74]? = some (RX5, yX5_copy, prog_7_method_9_code, 9, (some .int), 0, 0, cd_M_copy) := rfl
theorem mt_M_drop : am_mt[75]? = some (RX5, yX5_drop, prog_7_method_10_code, 2, (some .int), 0, 0, cd_M_drop) := rfl
theorem mt_M_isPlace : am_mt[76]? = some (RX5, yX5_isPlace, prog_7_method_11_code, 1, (some .boolean), 0, 0, cd_M_isPlace) := rfl
theorem mt_M_load : am_mt[77]? = some (RX5, yX5_load, prog_7_method_12_code, 4, none, 0, 0, cd_M_load) := rfl
theorem mt_M_relabel : am_mt[78]? = some (RX5, yX5_number, prog_7_method_13_code, 7, none, 0, 0, cd_M_relabel) := rfl
theorem mt_M_crossedAt : am_mt[79]? = some (RX5, yX5_crossedAt, prog_7_method_14_code, 7, (some .int), 0, 0, cd_M_crossedAt) := rfl
theorem mt_M_isFree : am_mt[80]? = some (RX5, yX5_isFree, prog_7_method_15_code, 3, (some .boolean), 0, 0, cd_M_isFree) := rfl
theorem mt_M_blocks : am_mt[81]? = some (RX5, yX5_blocks, prog_7_method_16_code, 5, (some .int), 0, 0, cd_M_blocks) := rfl
theorem mt_M_sizeOf : am_mt[82]? = some (RX5, yX5_sizeOf, prog_7_method_17_code, 6, (some .int), 0, 0, cd_M_sizeOf) := rfl
theorem mt_M_isOfPairs : am_mt[83]? = some (RX5, yX5_isOfPairs, prog_7_method_18_code, 5, (some .boolean), 0, 0, cd_M_isOfPairs) := rfl
theorem mt_M_kindOf : am_mt[84]? = some (RX5, yX5_kindOf, prog_7_method_19_code, 6, (some .int), 0, 0, cd_M_kindOf) := rfl
theorem mt_M_lay : am_mt[85]? = some (RX5, yX5_lay, prog_7_method_20_code, 5, (some .int), 0, 0, cd_M_lay) := rfl
theorem mt_M_part : am_mt[86]? = some (RX5, yX5_part, prog_7_method_21_code, 7, (some .int), 0, 0, cd_M_part) := rfl
theorem mt_M_next : am_mt[87]? = some (RX5, yX5_next, prog_7_method_22_code, 6, (some .boolean), 0, 0, cd_M_next) := rfl
theorem mt_M_nextFree : am_mt[88]? = some (RX5, yX5_nextFree, prog_7_method_23_code, 7, (some .boolean), 0, 0, cd_M_nextFree) := rfl
theorem mt_M_first : am_mt[89]? = some (RX5, yX5_first, prog_7_method_24_code, 4, none, 0, 0, cd_M_first) := rfl
theorem mt_M_nth : am_mt[90]? = some (RX5, yX5_nth, prog_7_method_25_code, 5, (some .int), 0, 0, cd_M_nth) := rfl
theorem mt_M_isOf : am_mt[91]? = some (RX5, yX5_isOf, prog_7_method_26_code, 2, (some .boolean), 0, 0, cd_M_isOf) := rfl
theorem mt_M_asked : am_mt[92]? = some (RX5, yX5_asked, prog_7_method_27_code, 3, (some .int), 0, 0, cd_M_asked) := rfl
theorem mt_M_both : am_mt[93]? = some (RX5, yX5_both, prog_7_method_28_code, 11, (some .int), 0, 0, cd_M_both) := rfl
theorem mt_M_mix : am_mt[94]? = some (RX5, yX5_mix, prog_7_method_29_code, 5, none, 0, 0, cd_M_mix) := rfl
theorem mt_M_crossing : am_mt[95]? = some (RX5, yX5_crossing, prog_7_method_30_code, 10, (some .boolean), 0, 0, cd_M_crossing) := rfl
theorem mt_M_complement : am_mt[96]? = some (RX5, yX5_complement, prog_7_method_31_code, 8, none, 0, 0, cd_M_complement) := rfl
theorem mt_M_turn : am_mt[97]? = some (RX5, yX5_turn, prog_7_method_32_code, 7, (some .int), 0, 0, cd_M_turn) := rfl
theorem mt_M_clear : am_mt[98]? = some (RX5, yX5_clear, prog_7_method_33_code, 3, (some .int), 0, 0, cd_M_clear) := rfl
theorem mt_M_kind : am_mt[99]? = some (RX5, yX5_kind, prog_7_method_34_code, 2, (some .int), 0, 0, cd_M_kind) := rfl
theorem mt_M_is : am_mt[100]? = some (RX5, yX5_is, prog_7_method_35_code, 3, (some .int), 0, 0, cd_M_is) := rfl
theorem mt_M_blocksAt : am_mt[101]? = some (RX5, yX5_blocksAt, prog_7_method_36_code, 2, (some .int), 0, 0, cd_M_blocksAt) := rfl
theorem mt_M_as : am_mt[102]? = some (RX5, yX5_as, prog_7_method_37_code, 4, (some .int), 0, 0, cd_M_as) := rfl
theorem mt_M_began : am_mt[103]? = some (RX5, yX5_began, prog_7_method_38_code, 2, none, 0, 0, cd_M_began) := rfl
theorem mt_M_plainMark : am_mt[104]? = some (RX5, yX5_plainMark, prog_7_method_39_code, 2, (some .int), 0, 0, cd_M_plainMark) := rfl
theorem mt_M_sized : am_mt[105]? = some (RX5, yX5_sized, prog_7_method_40_code, 4, (some .int), 0, 0, cd_M_sized) := rfl
theorem mt_M_marked : am_mt[106]? = some (RX5, yX5_marked, prog_7_method_41_code, 2, (some .int), 0, 0, cd_M_marked) := rfl
theorem mt_M_ask : am_mt[107]? = some (RX5, yX5_ask, prog_7_method_42_code, 3, (some .int), 0, 0, cd_M_ask) := rfl
theorem mt_M_trace : am_mt[108]? = some (RX5, yX5_trace, prog_7_method_43_code, 2, (some .int), 0, 0, cd_M_trace) := rfl
theorem mt_M_block : am_mt[109]? = some (RX5, yX5_block, prog_7_method_44_code, 3, (some .int), 0, 0, cd_M_block) := rfl
theorem mt_M_isFiner : am_mt[110]? = some (RX5, yX5_isFiner, prog_7_method_45_code, 6, (some .boolean), 0, 0, cd_M_isFiner) := rfl
theorem mt_M_product : am_mt[111]? = some (RX5, yX5_product, prog_7_method_46_code, 7, (some .int), 0, 0, cd_M_product) := rfl
theorem mt_M_told : am_mt[112]? = some (RX5, yX5_told, prog_7_method_47_code, 9, (some .int), 0, 0, cd_M_told) := rfl
theorem mt_M_isSame : am_mt[113]? = some (RX5, yX5_isSame, prog_7_method_48_code, 4, (some .boolean), 0, 0, cd_M_isSame) := rfl
theorem mt_M_finer : am_mt[114]? = some (RX5, yX5_finer, prog_7_method_49_code, 3, (some .int), 0, 0, cd_M_finer) := rfl
theorem mt_M_handlesBy : am_mt[115]? = some (RX5, yX5_handlesBy, prog_7_method_50_code, 8, (some .int), 0, 0, cd_M_handlesBy) := rfl
theorem mt_M_handlesOf : am_mt[116]? = some (RX5, yX5_handlesOf, prog_7_method_51_code, 2, (some .int), 0, 0, cd_M_handlesOf) := rfl
theorem mt_M_handles : am_mt[117]? = some (RX5, yX5_handles, prog_7_method_52_code, 2, (some .int), 0, 0, cd_M_handles) := rfl
theorem mt_M_isSeries : am_mt[118]? = some (RX5, yX5_isSeries, prog_7_method_53_code, 1, (some .boolean), 0, 0, cd_M_isSeries) := rfl
theorem mt_M_m : am_mt[119]? = some (RX5, yX5_m, prog_7_method_54_code, 3, (some .long), 0, 0, cd_M_m) := rfl
theorem mt_M_choose : am_mt[120]? = some (RX5, yX5_choose, prog_7_method_55_code, 5, (some .long), 0, 0, cd_M_choose) := rfl
theorem mt_M_lesser : am_mt[121]? = some (RX5, yX5_lesser, prog_7_method_56_code, 14, (some .long), 0, 0, cd_M_lesser) := rfl
theorem mt_M_findCumulants : am_mt[122]? = some (RX5, yX5_findCumulants, prog_7_method_57_code, 5, none, 0, 0, cd_M_findCumulants) := rfl
theorem mt_M_findMoments : am_mt[123]? = some (RX5, yX5_findMoments, prog_7_method_58_code, 6, none, 0, 0, cd_M_findMoments) := rfl
theorem mt_M_modulo : am_mt[124]? = some (RX5, yX5_modulo, prog_7_method_59_code, 5, (some .long), 0, 0, cd_M_modulo) := rfl
theorem mt_M_series : am_mt[125]? = some (RX5, yX5_series, prog_7_method_60_code, 7, (some .int), 0, 0, cd_M_series) := rfl
theorem mt_M_number : am_mt[126]? = some (RX5, yX5_number_, prog_7_method_61_code, 4, (some .long), 0, 0, cd_M_number) := rfl
theorem mt_M_join : am_mt[127]? = some (RX5, yX5_join, prog_7_method_62_code, 8, (some .int), 0, 0, cd_M_join) := rfl
theorem mt_M_mixed : am_mt[128]? = some (RX5, yX5_mixed, prog_7_method_63_code, 8, (some .long), 0, 0, cd_M_mixed) := rfl
theorem mt_M_change : am_mt[129]? = some (RX5, yX5_change, prog_7_method_64_code, 9, (some .int), 0, 0, cd_M_change) := rfl
theorem mt_M_inverse : am_mt[130]? = some (RX5, yX5_inverse, prog_7_method_65_code, 8, (some .long), 0, 0, cd_M_inverse) := rfl
theorem mt_M_hankel : am_mt[131]? = some (RX5, yX5_hankel, prog_7_method_66_code, 14, (some .long), 0, 0, cd_M_hankel) := rfl
theorem mt_M_same : am_mt[132]? = some (RX5, yX5_same, prog_7_method_67_code, 5, (some .int), 0, 0, cd_M_same) := rfl
theorem mt_M_findPairings : am_mt[133]? = some (RX5, yX5_findPairings, prog_7_method_68_code, 5, none, 0, 0, cd_M_findPairings) := rfl
theorem mt_M_genus : am_mt[134]? = some (RX5, yX5_genus, prog_7_method_69_code, 3, (some .long), 0, 0, cd_M_genus) := rfl
theorem mt_M_mean : am_mt[135]? = some (RX5, yX5_mean, prog_7_method_70_code, 9, (some .long), 0, 0, cd_M_mean) := rfl
theorem mt_M_walks : am_mt[136]? = some (RX5, yX5_walks, prog_7_method_71_code, 5, (some .long), 0, 0, cd_M_walks) := rfl
theorem mt_M_count : am_mt[137]? = some (RX5, yX5_count, prog_7_method_72_code, 4, (some .int), 0, 0, cd_M_count) := rfl
theorem mt_M_status : am_mt[138]? = some (RX5, yX5_status, prog_7_method_73_code, 1, (some .int), 0, 0, cd_M_status) := rfl
theorem mt_C_init : am_mt[139]? = some (RX0, yX0_init, prog_2_method_1_code, 3, none, 22, 184, cd_C_init) := rfl
theorem mt_C_toMoments : am_mt[140]? = some (RX0, yX0_toMoments, prog_2_method_2_code, 6, none, 0, 0, cd_C_toMoments) := rfl
theorem mt_C_ofMoments : am_mt[141]? = some (RX0, yX0_ofMoments, prog_2_method_3_code, 6, none, 0, 0, cd_C_ofMoments) := rfl
theorem mt_C_keepPowers : am_mt[142]? = some (RX0, yX0_keepPowers, prog_2_method_4_code, 5, none, 0, 0, cd_C_keepPowers) := rfl
theorem mt_C_sumOfFiner : am_mt[143]? = some (RX0, yX0_sumOfFiner, prog_2_method_5_code, 12, (some .long), 0, 0, cd_C_sumOfFiner) := rfl
theorem mt_C_multiply : am_mt[144]? = some (RX0, yX0_multiply, prog_2_method_6_code, 11, none, 0, 0, cd_C_multiply) := rfl
theorem mt_O_init : am_mt[145]? = some (RX1, yX1_init, prog_3_method_1_code, 5, none, 13, 142, cd_O_init) := rfl
theorem mt_O_placeOf : am_mt[146]? = some (RX1, yX1_placeOf, prog_3_method_2_code, 6, (some .int), 0, 0, cd_O_placeOf) := rfl
theorem mt_O_tell : am_mt[147]? = some (RX1, yX1_tell, prog_3_method_3_code, 9, none, 0, 0, cd_O_tell) := rfl
theorem mt_P_init : am_mt[148]? = some (RX2, yX2_init, prog_4_method_1_code, 3, none, 10, 90, cd_P_init) := rfl
theorem mt_P_begin : am_mt[149]? = some (RX2, yX2_begin, prog_4_method_2_code, 4, none, 0, 0, cd_P_begin) := rfl
theorem mt_P_add : am_mt[150]? = some (RX2, yX2_add, prog_4_method_3_code, 8, none, 0, 0, cd_P_add) := rfl
theorem mt_P_at : am_mt[151]? = some (RX2, yX2_at, prog_4_method_4_code, 3, (some .long), 0, 0, cd_P_at) := rfl
theorem mt_P_weighted : am_mt[152]? = some (RX2, yX2_weighted, prog_4_method_5_code, 7, (some .long), 0, 0, cd_P_weighted) := rfl
theorem mt_T_init : am_mt[153]? = some (RX3, yX3_init, prog_5_method_1_code, 3, none, 1, 10, cd_T_init) := rfl
theorem mt_T_numberBlocks : am_mt[154]? = some (RX3, yX3_numberBlocks, prog_5_method_2_code, 6, (some .int), 0, 0, cd_T_numberBlocks) := rfl
theorem mt_T_allInPairs : am_mt[155]? = some (RX3, yX3_allInPairs, prog_5_method_3_code, 4, (some .boolean), 0, 0, cd_T_allInPairs) := rfl
theorem mt_T_pointsIn : am_mt[156]? = some (RX3, yX3_pointsIn, prog_5_method_4_code, 5, (some .int), 0, 0, cd_T_pointsIn) := rfl
theorem mt_T_kindToTell : am_mt[157]? = some (RX3, yX3_kindToTell, prog_5_method_5_code, 3, (some .int), 0, 0, cd_T_kindToTell) := rfl
theorem mt_T_inRows : am_mt[158]? = some (RX3, yX3_inRows, prog_5_method_6_code, 3, (some .boolean), 0, 0, cd_T_inRows) := rfl
theorem mt_T_crossesItself : am_mt[159]? = some (RX3, yX3_crossesItself, prog_5_method_7_code, 4, (some .boolean), 0, 0, cd_T_crossesItself) := rfl
theorem mt_T_isCrossed : am_mt[160]? = some (RX3, yX3_isCrossed, prog_5_method_8_code, 6, (some .boolean), 0, 0, cd_T_isCrossed) := rfl
theorem mt_T_isOf : am_mt[161]? = some (RX3, yX3_isOf, prog_5_method_9_code, 2, (some .boolean), 0, 0, cd_T_isOf) := rfl
theorem mt_T_isFinerThan : am_mt[162]? = some (RX3, yX3_isFinerThan, prog_5_method_10_code, 5, (some .boolean), 0, 0, cd_T_isFinerThan) := rfl
theorem mt_T_productOver : am_mt[163]? = some (RX3, yX3_productOver, prog_5_method_11_code, 4, (some .int), 0, 0, cd_T_productOver) := rfl
theorem mt_T_labelRings : am_mt[164]? = some (RX3, yX3_labelRings, prog_5_method_12_code, 4, (some .int), 0, 0, cd_T_labelRings) := rfl
theorem mt_T_labelRing : am_mt[165]? = some (RX3, yX3_labelRing, prog_5_method_13_code, 6, none, 0, 0, cd_T_labelRing) := rfl
theorem mt_T_aheadInBlock : am_mt[166]? = some (RX3, yX3_aheadInBlock, prog_5_method_14_code, 4, (some .int), 0, 0, cd_T_aheadInBlock) := rfl
theorem mt_L_cell : am_mt[167]? = some (RL, yL_cell, method_2_code, 2, (some .int), 0, 0, cd_L_cell) := rfl
theorem mt_L_law : am_mt[168]? = some (RL, x, code, 4, ret, 600000, 7302250, cd_L_law) := rfl
theorem mt_JA_fillI : am_mt[169]? = some (RJ7, yJ7_fill_53178, prog_10_method_103_code, 4, none, 0, 0, cd_JA_fillI) := rfl
theorem mt_JA_fillJ : am_mt[170]? = some (RJ7, yJ7_fill_d0a16, prog_10_method_101_code, 5, none, 0, 0, cd_JA_fillJ) := rfl
end
section
/-! the reference's small methods -/
theorem s_M_in {G : am_G} {d : Nat} {V : am_V} {R : am_T} {T : Nat} {Q : Option AV → am_V → am_T → Nat → Prop} {a b c : Int} (h0 : am_in64 a) (h1 : am_in64 b) (h2 : am_in64 c) (hQ : ∀ r, (r = 1 ∧ b ≤ a ∧ a ≤ c) ∨ (r = 0 ∧ ¬ (b ≤ a ∧ a ≤ c)) → Q (some (vI r)) V R T) : am_Calls G (d + 1) 67 [vJ a, vJ b, vJ c] V R T Q := by
  refine am_enter mt_M_in ok_M_in rfl ?_
  refine am_run 400 mt_M_in ok_M_in (fun K S hK hS => ?_)
  iterate 30 (all_goals (first
    | (refine And.intro (by omega) ?_)
    | (refine And.intro (fun hb => absurd hb (by omega)) (fun hb => ?_))
    | (refine And.intro (fun hb => ?_) (fun hb => absurd hb (by omega)))
    | (refine And.intro (fun hb => ?_) (fun hb => ?_))
    | (intro hb)
    | (conv => whnf)))
  all_goals exact hQ _ (by omega)
theorem s_M_isSheet {G : am_G} {d : Nat} {V : am_V} {R : am_T} {T : Nat} {Q : Option AV → am_V → am_T → Nat → Prop} {a : Int} (h0 : am_in32 a) (hQ : ∀ r, (r = 1 ∧ 0 ≤ a ∧ a ≤ 7) ∨ (r = 0 ∧ ¬ (0 ≤ a ∧ a ≤ 7)) → Q (some (vI r)) V R T) : am_Calls G (d + 2) 71 [vI a] V R T Q := by
  refine am_enter mt_M_isSheet ok_M_isSheet rfl ?_
  refine am_run 400 mt_M_isSheet ok_M_isSheet (fun K S hK hS => ?_)
  iterate 30 (all_goals (first
    | (refine And.intro (by omega) ?_)
    | (refine And.intro (fun hb => absurd hb (by omega)) (fun hb => ?_))
    | (refine And.intro (fun hb => ?_) (fun hb => absurd hb (by omega)))
    | (refine And.intro (fun hb => ?_) (fun hb => ?_))
    | (intro hb)
    | (conv => whnf)))
  refine hK (s_M_in (by omega) (by omega) (by omega) (fun r hr => ?_))
  iterate 30 (all_goals (first
    | (refine And.intro (by omega) ?_)
    | (refine And.intro (fun hb => absurd hb (by omega)) (fun hb => ?_))
    | (refine And.intro (fun hb => ?_) (fun hb => absurd hb (by omega)))
    | (refine And.intro (fun hb => ?_) (fun hb => ?_))
    | (intro hb)
    | (conv => whnf)))
  exact hQ _ (by omega)
theorem s_M_isPlace {G : am_G} {d : Nat} {V : am_V} {R : am_T} {T : Nat} {Q : Option AV → am_V → am_T → Nat → Prop} {a : Int} (h0 : am_in32 a) (hQ : ∀ r, (r = 1 ∧ 0 ≤ a ∧ a ≤ 9) ∨ (r = 0 ∧ ¬ (0 ≤ a ∧ a ≤ 9)) → Q (some (vI r)) V R T) : am_Calls G (d + 2) 76 [vI a] V R T Q := by
  refine am_enter mt_M_isPlace ok_M_isPlace rfl ?_
  refine am_run 400 mt_M_isPlace ok_M_isPlace (fun K S hK hS => ?_)
  iterate 30 (all_goals (first
    | (refine And.intro (by omega) ?_)
    | (refine And.intro (fun hb => absurd hb (by omega)) (fun hb => ?_))
    | (refine And.intro (fun hb => ?_) (fun hb => absurd hb (by omega)))
    | (refine And.intro (fun hb => ?_) (fun hb => ?_))
    | (intro hb)
    | (conv => whnf)))
  refine hK (s_M_in (by omega) (by omega) (by omega) (fun r hr => ?_))
  iterate 30 (all_goals (first
    | (refine And.intro (by omega) ?_)
    | (refine And.intro (fun hb => absurd hb (by omega)) (fun hb => ?_))
    | (refine And.intro (fun hb => ?_) (fun hb => absurd hb (by omega)))
    | (refine And.intro (fun hb => ?_) (fun hb => ?_))
    | (intro hb)
    | (conv => whnf)))
  exact hQ _ (by omega)
theorem s_M_isSeries {G : am_G} {d : Nat} {V : am_V} {R : am_T} {T : Nat} {Q : Option AV → am_V → am_T → Nat → Prop} {a : Int} (h0 : am_in32 a) (hQ : ∀ r, (r = 1 ∧ 0 ≤ a ∧ a ≤ 7) ∨ (r = 0 ∧ ¬ (0 ≤ a ∧ a ≤ 7)) → Q (some (vI r)) V R T) : am_Calls G (d + 2) 118 [vI a] V R T Q := by
  refine am_enter mt_M_isSeries ok_M_isSeries rfl ?_
  refine am_run 400 mt_M_isSeries ok_M_isSeries (fun K S hK hS => ?_)
  iterate 30 (all_goals (first
    | (refine And.intro (by omega) ?_)
    | (refine And.intro (fun hb => absurd hb (by omega)) (fun hb => ?_))
    | (refine And.intro (fun hb => ?_) (fun hb => absurd hb (by omega)))
    | (refine And.intro (fun hb => ?_) (fun hb => ?_))
    | (intro hb)
    | (conv => whnf)))
  refine hK (s_M_in (by omega) (by omega) (by omega) (fun r hr => ?_))
  iterate 30 (all_goals (first
    | (refine And.intro (by omega) ?_)
    | (refine And.intro (fun hb => absurd hb (by omega)) (fun hb => ?_))
    | (refine And.intro (fun hb => ?_) (fun hb => absurd hb (by omega)))
    | (refine And.intro (fun hb => ?_) (fun hb => ?_))
    | (intro hb)
    | (conv => whnf)))
  exact hQ _ (by omega)
theorem s_M_found {G : am_G} {d : Nat} {V : am_V} {R : am_T} {T : Nat} {Q : Option AV → am_V → am_T → Nat → Prop} {a : Int} (hQ : Q (some (vI (-1000010 - a))) (am_up V 86 1 a) R T) : am_Calls G (d + 1) 68 [vR 86, vI a] V R T Q := by
  refine am_enter mt_M_found ok_M_found rfl ?_
  refine am_run 400 mt_M_found ok_M_found (fun K S hK hS => ?_)
  iterate 30 (all_goals (first
    | (refine And.intro (by omega) ?_)
    | (refine And.intro (fun hb => absurd hb (by omega)) (fun hb => ?_))
    | (refine And.intro (fun hb => ?_) (fun hb => absurd hb (by omega)))
    | (refine And.intro (fun hb => ?_) (fun hb => ?_))
    | (intro hb)
    | (conv => whnf)))
  exact hQ
theorem s_M_isOf {G : am_G} {d : Nat} {V : am_V} {R : am_T} {T : Nat} {Q : Option AV → am_V → am_T → Nat → Prop} {a b : Int} (h0 : am_in32 a) (h1 : am_in32 b) (hQ : ∀ r, (r = 1 ∧ 0 ≤ a ∧ (b = 0 ∨ a = b ∨ (b = 1 ∧ (a = 2 ∨ a = 3)))) ∨ (r = 0 ∧ ¬ (0 ≤ a ∧ (b = 0 ∨ a = b ∨ (b = 1 ∧ (a = 2 ∨ a = 3))))) → Q (some (vI r)) V R T) : am_Calls G (d + 1) 91 [vI a, vI b] V R T Q := by
  refine am_enter mt_M_isOf ok_M_isOf rfl ?_
  refine am_run 400 mt_M_isOf ok_M_isOf (fun K S hK hS => ?_)
  iterate 30 (all_goals (first
    | (refine And.intro (by omega) ?_)
    | (refine And.intro (fun hb => absurd hb (by omega)) (fun hb => ?_))
    | (refine And.intro (fun hb => ?_) (fun hb => absurd hb (by omega)))
    | (refine And.intro (fun hb => ?_) (fun hb => ?_))
    | (intro hb)
    | (conv => whnf)))
  all_goals exact hQ _ (by omega)
theorem s_M_asked {G : am_G} {d : Nat} {sh : Int → Option Nat} {V : am_V} {T : Nat} {Q : Option AV → am_V → am_T → Nat → Prop} {a b : Int} (h0 : 0 ≤ a ∧ a < 10) (hk : am_in32 (V 90 a)) (h1 : am_in32 b) (hQ : ∀ r, (r = 1 ∧ V 90 a < 0) ∨ (r = 0 ∧ 0 ≤ V 90 a ∧ (b = 0 ∨ V 90 a = b ∨ (b = 1 ∧ (V 90 a = 2 ∨ V 90 a = 3)))) ∨ (r = 3 ∧ 0 ≤ V 90 a ∧ ¬ (b = 0 ∨ V 90 a = b ∨ (b = 1 ∧ (V 90 a = 2 ∨ V 90 a = 3)))) → Q (some (vI r)) V (am_RF sh) T) : am_Calls G (d + 2) 92 [vR 86, vI a, vI b] V (am_RF sh) T Q := by
  refine am_enter mt_M_asked ok_M_asked rfl ?_
  refine am_run 400 mt_M_asked ok_M_asked (fun K S hK hS => ?_)
  iterate 30 (all_goals (first
    | (refine And.intro (by omega) ?_)
    | (refine And.intro (fun hb => absurd hb (by omega)) (fun hb => ?_))
    | (refine And.intro (fun hb => ?_) (fun hb => absurd hb (by omega)))
    | (refine And.intro (fun hb => ?_) (fun hb => ?_))
    | (intro hb)
    | (conv => whnf)))
  all_goals (try exact hQ _ (by omega))
  refine hK (s_M_isOf hk h1 (fun r hr => ?_))
  iterate 30 (all_goals (first
    | (refine And.intro (by omega) ?_)
    | (refine And.intro (fun hb => absurd hb (by omega)) (fun hb => ?_))
    | (refine And.intro (fun hb => ?_) (fun hb => absurd hb (by omega)))
    | (refine And.intro (fun hb => ?_) (fun hb => ?_))
    | (intro hb)
    | (conv => whnf)))
  all_goals exact hQ _ (by omega)
theorem s_M_load {G : am_G} {d : Nat} {sh : Int → Option Nat} {V : am_V} {T : Nat} {Q : Option AV → am_V → am_T → Nat → Prop} {q p n : Int} (h0 : 0 ≤ q ∧ q < 10) (h1 : 0 ≤ p ∧ p ≤ 20) (hn : V 91 q = n) (h2 : 0 ≤ n ∧ n ≤ 10) (hQ : ∀ V', (∀ a, a ≠ 93 → V' a = V a) → (∀ j, 0 ≤ j → j < n → V' 93 (p + j) = V 92 (10 * q + j)) → (∀ j, ¬ (p ≤ j ∧ j < p + n) → V' 93 j = V 93 j) → Q none V' (am_RF sh) T) : am_Calls G (d + 1) 77 [vR 86, vI q, vI p] V (am_RF sh) T Q := by
  refine am_enter mt_M_load ok_M_load rfl ?_
  have loop : ∀ (j : Nat) (k : Int) (W : am_V), 0 ≤ k → k + j = n → (∀ a, a ≠ 93 → W a = V a) → (∀ i, 0 ≤ i → i < k → W 93 (p + i) = V 92 (10 * q + i)) → (∀ i, ¬ (p ≤ i ∧ i < p + k) → W 93 i = V 93 i) → am_Sem G d 77 V T Q 2 [some (vR 86), some (vI q), some (vI p), some (vI k)] [] W (am_RF sh) T 0 0 := by
    intro j
    induction j with
    | zero =>
      intro k W hk hkn w1 w2 w3
      have e91 : W 91 q = n := by rw [w1 91 (by decide)]; exact hn
      refine am_run 400 mt_M_load ok_M_load (fun K S hK hS => ?_)
      iterate 30 (all_goals (first
        | (refine And.intro (by omega) ?_)
        | (refine And.intro (fun hb => absurd hb (by omega)) (fun hb => ?_))
        | (refine And.intro (fun hb => ?_) (fun hb => absurd hb (by omega)))
        | (refine And.intro (fun hb => ?_) (fun hb => ?_))
        | (intro hb)
        | (conv => whnf)))
      exact hQ W w1 (fun i a b => w2 i a (by omega)) (fun i a => w3 i (by omega))
    | succ j ih =>
      intro k W hk hkn w1 w2 w3
      have e91 : W 91 q = n := by rw [w1 91 (by decide)]; exact hn
      refine am_run 400 mt_M_load ok_M_load (fun K S hK hS => ?_)
      iterate 30 (all_goals (first
        | (refine And.intro (by omega) ?_)
        | (refine And.intro (fun hb => absurd hb (by omega)) (fun hb => ?_))
        | (refine And.intro (fun hb => ?_) (fun hb => absurd hb (by omega)))
        | (refine And.intro (fun hb => ?_) (fun hb => ?_))
        | (intro hb)
        | (conv => whnf)))
      refine hS (ih (k + 1) _ (by omega) (by omega) (fun a ha => ?_) (fun i a b => ?_) (fun i a => ?_))
      · rw [am_up_ne ha, w1 a ha]
      · rw [am_up_at]
        by_cases e : i = k
        · subst e
          rw [if_pos rfl, w1 92 (by decide)]
        · rw [if_neg (by omega), w2 i a (by omega)]
      · rw [am_up_at, if_neg (by omega), w3 i (by omega)]
  refine am_run 400 mt_M_load ok_M_load (fun K S hK hS => ?_)
  iterate 30 (all_goals (first
    | (refine And.intro (by omega) ?_)
    | (refine And.intro (fun hb => absurd hb (by omega)) (fun hb => ?_))
    | (refine And.intro (fun hb => ?_) (fun hb => absurd hb (by omega)))
    | (refine And.intro (fun hb => ?_) (fun hb => ?_))
    | (intro hb)
    | (conv => whnf)))
  exact hS (loop n.toNat 0 V (by omega) (by omega) (fun _ _ => rfl) (fun i a b => absurd b (by omega)) (fun _ _ => rfl))
end
section
/-! the reference: crossings, blocks, kinds -/
def m_cnt (V : am_V) (p b : Int) : Nat → Int
  | 0 => 0
  | n + 1 => m_cnt V p b n + (if V 93 (p + n) = b then 1 else 0)
theorem m_cnt_le (V : am_V) (p b : Int) : ∀ n : Nat, 0 ≤ m_cnt V p b n ∧ m_cnt V p b n ≤ n
  | 0 => ⟨Int.le_refl _, Int.le_refl _⟩
  | n + 1 => by
    have := m_cnt_le V p b n
    unfold m_cnt
    split <;> omega
theorem s_M_sizeOf {G : am_G} {d : Nat} {sh : Int → Option Nat} {V : am_V} {T : Nat} {Q : Option AV → am_V → am_T → Nat → Prop} {p n b : Int} (h0 : 0 ≤ p) (h1 : 0 ≤ n) (h2 : p + n ≤ 30) (hr : ∀ i, p ≤ i → i < p + n → am_in32 (V 93 i)) (hb : am_in32 b) (hQ : Q (some (vI (m_cnt V p b n.toNat))) V (am_RF sh) T) : am_Calls G (d + 1) 82 [vR 86, vI p, vI n, vI b] V (am_RF sh) T Q := by
  refine am_enter mt_M_sizeOf ok_M_sizeOf rfl ?_
  have loop : ∀ (j : Nat) (k : Int), 0 ≤ k → k + j = n → am_Sem G d 82 V T Q 6 [some (vR 86), some (vI p), some (vI n), some (vI b), some (vI (m_cnt V p b k.toNat)), some (vI k)] [] V (am_RF sh) T 0 0 := by
    intro j
    induction j with
    | zero =>
      intro k hk hkn
      refine am_run 400 mt_M_sizeOf ok_M_sizeOf (fun K S hK hS => ?_)
      iterate 30 (all_goals (first
        | (refine And.intro (by omega) ?_)
        | (refine And.intro (fun hb => absurd hb (by omega)) (fun hb => ?_))
        | (refine And.intro (fun hb => ?_) (fun hb => absurd hb (by omega)))
        | (refine And.intro (fun hb => ?_) (fun hb => ?_))
        | (intro hb)
        | (conv => whnf)))
      rw [show n = k by omega] at hQ
      exact hQ
    | succ j ih =>
      intro k hk hkn
      have rk := hr (p + k) (by omega) (by omega)
      have e : m_cnt V p b (k + 1).toNat = m_cnt V p b k.toNat + (if V 93 (p + k) = b then 1 else 0) := by
        rw [show (k + 1).toNat = k.toNat + 1 by omega, m_cnt, show ((k.toNat : Nat) : Int) = k by omega]
      have ih := ih (k + 1) (by omega) (by omega)
      rw [e] at ih
      refine am_run 400 mt_M_sizeOf ok_M_sizeOf (fun K S hK hS => ?_)
      iterate 30 (all_goals (first
        | (refine And.intro (by omega) ?_)
        | (refine And.intro (fun hb => absurd hb (by omega)) (fun hb => ?_))
        | (refine And.intro (fun hb => ?_) (fun hb => absurd hb (by omega)))
        | (refine And.intro (fun hb => ?_) (fun hb => ?_))
        | (intro hb)
        | (conv => whnf)))
      · rw [if_neg hb] at ih
        exact hS ih
      · rw [if_pos hb] at ih
        exact hS ih
  refine am_run 400 mt_M_sizeOf ok_M_sizeOf (fun K S hK hS => ?_)
  iterate 30 (all_goals (first
    | (refine And.intro (by omega) ?_)
    | (refine And.intro (fun hb => absurd hb (by omega)) (fun hb => ?_))
    | (refine And.intro (fun hb => ?_) (fun hb => absurd hb (by omega)))
    | (refine And.intro (fun hb => ?_) (fun hb => ?_))
    | (intro hb)
    | (conv => whnf)))
  exact hS (loop n.toNat 0 (by omega) (by omega))
/-- points a < b < c < d of a row: a, c together, b, d together, apart -/
def m_E (g : Int → Int) (a b c d : Int) : Prop := g b = g d ∧ g c ≠ g d ∧ g a = g c
def m_no (g : Int → Int) (d b c a : Int) : Prop := ∀ a' b' c' d', 0 ≤ a' → a' < b' → b' < c' → c' < d' → (d' < d ∨ (d' = d ∧ (b' < b ∨ (b' = b ∧ (c' < c ∨ (c' = c ∧ a' < a)))))) → ¬ m_E g a' b' c' d'
def m_Cr (g : Int → Int) (n : Int) : Prop := ∃ a b c d, 0 ≤ a ∧ a < b ∧ b < c ∧ c < d ∧ d < n ∧ m_E g a b c d
theorem m_no_Cr {g : Int → Int} {d : Int} (h : ∀ a' b' c' d', 0 ≤ a' → a' < b' → b' < c' → c' < d' → d' < d → ¬ m_E g a' b' c' d') : ¬ m_Cr g d := by
  rintro ⟨a, b, c, e, h0, h1, h2, h3, h4, h5⟩
  exact h a b c e h0 h1 h2 h3 h4 h5
theorem s_M_crossedAt {G : am_G} {d : Nat} {sh : Int → Option Nat} {V : am_V} {T : Nat} {Q : Option AV → am_V → am_T → Nat → Prop} {p n : Int} (h0 : 0 ≤ p) (h1 : 0 ≤ n) (h2 : p + n ≤ 30) (hr : ∀ i, p ≤ i → i < p + n → am_in32 (V 93 i)) (hQ : ∀ r, (r = -1000000 ∧ ¬ m_Cr (fun i => V 93 (p + i)) n) ∨ (3 ≤ r ∧ r < n ∧ m_Cr (fun i => V 93 (p + i)) (r + 1) ∧ ¬ m_Cr (fun i => V 93 (p + i)) r) → Q (some (vI r)) V (am_RF sh) T) : am_Calls G (d + 1) 79 [vR 86, vI p, vI n] V (am_RF sh) T Q := by
  refine am_enter mt_M_crossedAt ok_M_crossedAt rfl ?_
  obtain ⟨g, hg⟩ : ∃ g : Int → Int, g = fun i => V 93 (p + i) := ⟨_, rfl⟩
  rw [← hg] at hQ
  have ge : ∀ i, V 93 (p + i) = g i := fun i => by rw [hg]
  have gr : ∀ i, 0 ≤ i → i < n → am_in32 (V 93 (p + i)) := fun i a b => hr _ (by omega) (by omega)
  have loopD : ∀ (jd : Nat) (D : Int) (x4 x5 x6 : Option AV), 3 ≤ D → (n ≤ D ∧ D = 3 ∨ D + jd = n) → (∀ a' b' c' d', 0 ≤ a' → a' < b' → b' < c' → c' < d' → d' < D → ¬ m_E g a' b' c' d') → am_Sem G d 79 V T Q 2 [some (vR 86), some (vI p), some (vI n), some (vI D), x4, x5, x6] [] V (am_RF sh) T 0 0 := by
    intro jd
    induction jd with
    | zero =>
      intro D x4 x5 x6 hD hDn hno
      refine am_run 400 mt_M_crossedAt ok_M_crossedAt (fun K S hK hS => ?_)
      iterate 30 (all_goals (first
        | (refine And.intro (by omega) ?_)
        | (refine And.intro (fun hb => absurd hb (by omega)) (fun hb => ?_))
        | (refine And.intro (fun hb => ?_) (fun hb => absurd hb (by omega)))
        | (refine And.intro (fun hb => ?_) (fun hb => ?_))
        | (intro hb)
        | (conv => whnf)))
      exact hQ _ (Or.inl ⟨rfl, m_no_Cr (fun a' b' c' d' q1 q2 q3 q4 q5 => hno a' b' c' d' q1 q2 q3 q4 (by omega))⟩)
    | succ jd ihD =>
      intro D x4 x5 x6 hD hDn hno
      by_cases hlt : n ≤ D
      · refine am_run 400 mt_M_crossedAt ok_M_crossedAt (fun K S hK hS => ?_)
        iterate 30 (all_goals (first
          | (refine And.intro (by omega) ?_)
          | (refine And.intro (fun hb => absurd hb (by omega)) (fun hb => ?_))
          | (refine And.intro (fun hb => ?_) (fun hb => absurd hb (by omega)))
          | (refine And.intro (fun hb => ?_) (fun hb => ?_))
          | (intro hb)
          | (conv => whnf)))
        exact hQ _ (Or.inl ⟨rfl, m_no_Cr (fun a' b' c' d' q1 q2 q3 q4 q5 => hno a' b' c' d' q1 q2 q3 q4 (by omega))⟩)
      have loopB : ∀ (jb : Nat) (b : Int) (x5 x6 : Option AV), 1 ≤ b → b + jb = D - 1 → m_no g D b 0 0 → am_Sem G d 79 V T Q 10 [some (vR 86), some (vI p), some (vI n), some (vI D), some (vI b), x5, x6] [] V (am_RF sh) T 0 0 := by
        intro jb
        induction jb with
        | zero =>
          intro b x5 x6 hb1 hb2 hno
          refine am_run 400 mt_M_crossedAt ok_M_crossedAt (fun K S hK hS => ?_)
          iterate 30 (all_goals (first
            | (refine And.intro (by omega) ?_)
            | (refine And.intro (fun hb => absurd hb (by omega)) (fun hb => ?_))
            | (refine And.intro (fun hb => ?_) (fun hb => absurd hb (by omega)))
            | (refine And.intro (fun hb => ?_) (fun hb => ?_))
            | (intro hb)
            | (conv => whnf)))
          exact hS (ihD (D + 1) _ _ _ (by omega) (by omega) (fun a' b' c' d' q1 q2 q3 q4 q5 => hno a' b' c' d' q1 q2 q3 q4 (by omega)))
        | succ jb ihB =>
          intro b x5 x6 hb1 hb2 hno
          have loopC : ∀ (jc : Nat) (c : Int) (x6 : Option AV), b + 1 ≤ c → c + jc = D → m_no g D b c 0 → am_Sem G d 79 V T Q 24 [some (vR 86), some (vI p), some (vI n), some (vI D), some (vI b), some (vI c), x6] [] V (am_RF sh) T 0 0 := by
            intro jc
            induction jc with
            | zero =>
              intro c x6 hc1 hc2 hno
              refine am_run 400 mt_M_crossedAt ok_M_crossedAt (fun K S hK hS => ?_)
              iterate 30 (all_goals (first
                | (refine And.intro (by omega) ?_)
                | (refine And.intro (fun hb => absurd hb (by omega)) (fun hb => ?_))
                | (refine And.intro (fun hb => ?_) (fun hb => absurd hb (by omega)))
                | (refine And.intro (fun hb => ?_) (fun hb => ?_))
                | (intro hb)
                | (conv => whnf)))
              exact hS (ihB (b + 1) _ _ (by omega) (by omega) (fun a' b' c' d' q1 q2 q3 q4 q5 => hno a' b' c' d' q1 q2 q3 q4 (by omega)))
            | succ jc ihC =>
              intro c x6 hc1 hc2 hno
              have loopA : g b = g D → ∀ (ja : Nat) (a : Int), 0 ≤ a → a + ja = b → m_no g D b c a → am_Sem G d 79 V T Q 53 [some (vR 86), some (vI p), some (vI n), some (vI D), some (vI b), some (vI c), some (vI a)] [] V (am_RF sh) T 0 0 := by
                intro hbd ja
                induction ja with
                | zero =>
                  intro a ha1 ha2 hno
                  refine am_run 400 mt_M_crossedAt ok_M_crossedAt (fun K S hK hS => ?_)
                  iterate 30 (all_goals (first
                    | (refine And.intro (by omega) ?_)
                    | (refine And.intro (fun hb => absurd hb (by omega)) (fun hb => ?_))
                    | (refine And.intro (fun hb => ?_) (fun hb => absurd hb (by omega)))
                    | (refine And.intro (fun hb => ?_) (fun hb => ?_))
                    | (intro hb)
                    | (conv => whnf)))
                  exact hS (ihC (c + 1) _ (by omega) (by omega) (fun a' b' c' d' q1 q2 q3 q4 q5 => hno a' b' c' d' q1 q2 q3 q4 (by omega)))
                | succ ja ihA =>
                  intro a ha1 ha2 hno
                  have r1 := gr c (by omega) (by omega)
                  have r2 := gr D (by omega) (by omega)
                  have r3 := gr a (by omega) (by omega)
                  refine am_run 400 mt_M_crossedAt ok_M_crossedAt (fun K S hK hS => ?_)
                  iterate 30 (all_goals (first
                    | (refine And.intro (by omega) ?_)
                    | (refine And.intro (⟨r1, r2⟩) ?_)
                    | (refine And.intro (⟨r3, r1⟩) ?_)
                    | (refine And.intro (fun hb => absurd hb (by omega)) (fun hb => ?_))
                    | (refine And.intro (fun hb => ?_) (fun hb => absurd hb (by omega)))
                    | (refine And.intro (fun hb => ?_) (fun hb => ?_))
                    | (intro hb)
                    | (conv => whnf)))
                  all_goals (simp only [ge] at *)
                  · refine hS (ihC (c + 1) _ (by omega) (by omega) (fun a' b' c' d' q1 q2 q3 q4 q5 hE => ?_))
                    by_cases hold : (d' < D ∨ (d' = D ∧ (b' < b ∨ (b' = b ∧ (c' < c ∨ (c' = c ∧ a' < a))))))
                    · exact hno a' b' c' d' q1 q2 q3 q4 hold hE
                    · have e1 : d' = D := by omega
                      have e2 : c' = c := by omega
                      subst e1; subst e2
                      obtain ⟨-, hne, -⟩ := hE
                      omega
                  · refine hS (ihA (a + 1) (by omega) (by omega) (fun a' b' c' d' q1 q2 q3 q4 q5 hE => ?_))
                    by_cases hold : (d' < D ∨ (d' = D ∧ (b' < b ∨ (b' = b ∧ (c' < c ∨ (c' = c ∧ a' < a))))))
                    · exact hno a' b' c' d' q1 q2 q3 q4 hold hE
                    · have e1 : d' = D := by omega
                      have e2 : c' = c := by omega
                      have e3 : a' = a := by omega
                      subst e1; subst e2; subst e3
                      obtain ⟨-, -, he⟩ := hE
                      omega
                  · refine hQ _ (Or.inr ⟨hD, by omega, ⟨a, b, c, D, by omega, by omega, by omega, by omega, by omega, hbd, ?_, ?_⟩, m_no_Cr (fun a' b' c' d' q1 q2 q3 q4 q5 => hno a' b' c' d' q1 q2 q3 q4 (by omega))⟩)
                    · omega
                    · omega
              have r1 := gr b (by omega) (by omega)
              have r2 := gr D (by omega) (by omega)
              refine am_run 400 mt_M_crossedAt ok_M_crossedAt (fun K S hK hS => ?_)
              iterate 30 (all_goals (first
                | (refine And.intro (by omega) ?_)
                | (refine And.intro (⟨r1, r2⟩) ?_)
                | (refine And.intro (fun hb => absurd hb (by omega)) (fun hb => ?_))
                | (refine And.intro (fun hb => ?_) (fun hb => absurd hb (by omega)))
                | (refine And.intro (fun hb => ?_) (fun hb => ?_))
                | (intro hb)
                | (conv => whnf)))
              all_goals (simp only [ge] at *)
              · refine hS (ihB (b + 1) _ _ (by omega) (by omega) (fun a' b' c' d' q1 q2 q3 q4 q5 hE => ?_))
                by_cases hold : (d' < D ∨ (d' = D ∧ (b' < b ∨ (b' = b ∧ (c' < c ∨ (c' = c ∧ a' < 0))))))
                · exact hno a' b' c' d' q1 q2 q3 q4 hold hE
                · have e1 : d' = D := by omega
                  have e2 : b' = b := by omega
                  subst e1; subst e2
                  obtain ⟨he, -, -⟩ := hE
                  omega
              · exact hS (loopA (by omega) b.toNat 0 (by omega) (by omega) hno)
          refine am_run 400 mt_M_crossedAt ok_M_crossedAt (fun K S hK hS => ?_)
          iterate 30 (all_goals (first
            | (refine And.intro (by omega) ?_)
            | (refine And.intro (fun hb => absurd hb (by omega)) (fun hb => ?_))
            | (refine And.intro (fun hb => ?_) (fun hb => absurd hb (by omega)))
            | (refine And.intro (fun hb => ?_) (fun hb => ?_))
            | (intro hb)
            | (conv => whnf)))
          exact hS (loopC (D - (b + 1)).toNat (b + 1) _ (by omega) (by omega) (fun a' b' c' d' q1 q2 q3 q4 q5 => hno a' b' c' d' q1 q2 q3 q4 (by omega)))
      refine am_run 400 mt_M_crossedAt ok_M_crossedAt (fun K S hK hS => ?_)
      iterate 30 (all_goals (first
        | (refine And.intro (by omega) ?_)
        | (refine And.intro (fun hb => absurd hb (by omega)) (fun hb => ?_))
        | (refine And.intro (fun hb => ?_) (fun hb => absurd hb (by omega)))
        | (refine And.intro (fun hb => ?_) (fun hb => ?_))
        | (intro hb)
        | (conv => whnf)))
      exact hS (loopB (D - 2).toNat 1 _ _ (by omega) (by omega) (fun a' b' c' d' q1 q2 q3 q4 q5 => hno a' b' c' d' q1 q2 q3 q4 (by omega)))
  refine am_run 400 mt_M_crossedAt ok_M_crossedAt (fun K S hK hS => ?_)
  iterate 30 (all_goals (first
    | (refine And.intro (by omega) ?_)
    | (refine And.intro (fun hb => absurd hb (by omega)) (fun hb => ?_))
    | (refine And.intro (fun hb => ?_) (fun hb => absurd hb (by omega)))
    | (refine And.intro (fun hb => ?_) (fun hb => ?_))
    | (intro hb)
    | (conv => whnf)))
  exact hS (loopD (n - 3).toNat 3 _ _ _ (by omega) (by omega) (fun a' b' c' d' q1 q2 q3 q4 q5 => absurd q5 (by omega)))
theorem s_M_isFree {G : am_G} {d : Nat} {sh : Int → Option Nat} {V : am_V} {T : Nat} {Q : Option AV → am_V → am_T → Nat → Prop} {p n : Int} (h0 : 0 ≤ p) (h1 : 0 ≤ n) (h2 : p + n ≤ 30) (hr : ∀ i, p ≤ i → i < p + n → am_in32 (V 93 i)) (hQ : ∀ r, (r = 1 ∧ ¬ m_Cr (fun i => V 93 (p + i)) n) ∨ (r = 0 ∧ m_Cr (fun i => V 93 (p + i)) n) → Q (some (vI r)) V (am_RF sh) T) : am_Calls G (d + 2) 80 [vR 86, vI p, vI n] V (am_RF sh) T Q := by
  refine am_enter mt_M_isFree ok_M_isFree rfl ?_
  refine am_run 400 mt_M_isFree ok_M_isFree (fun K S hK hS => ?_)
  iterate 30 (all_goals (first
    | (refine And.intro (by omega) ?_)
    | (refine And.intro (fun hb => absurd hb (by omega)) (fun hb => ?_))
    | (refine And.intro (fun hb => ?_) (fun hb => absurd hb (by omega)))
    | (refine And.intro (fun hb => ?_) (fun hb => ?_))
    | (intro hb)
    | (conv => whnf)))
  refine hK (s_M_crossedAt h0 h1 h2 hr (fun r hr' => ?_))
  iterate 30 (all_goals (first
    | (refine And.intro (by omega) ?_)
    | (refine And.intro (fun hb => absurd hb (by omega)) (fun hb => ?_))
    | (refine And.intro (fun hb => ?_) (fun hb => absurd hb (by omega)))
    | (refine And.intro (fun hb => ?_) (fun hb => ?_))
    | (intro hb)
    | (conv => whnf)))
  · rcases hr' with ⟨rfl, -⟩ | ⟨a1, a2, a3, -⟩
    · exact absurd rfl hb
    · obtain ⟨a, b, c, e, q0, q1, q2, q3, q4, q5⟩ := a3
      exact hQ _ (Or.inr ⟨rfl, a, b, c, e, q0, q1, q2, q3, by omega, q5⟩)
  · rcases hr' with ⟨rfl, a1⟩ | ⟨a1, a2, a3, -⟩
    · exact hQ _ (Or.inl ⟨rfl, a1⟩)
    · omega
/-- how many blocks: one more than the greatest number -/
theorem s_M_blocks {G : am_G} {d : Nat} {sh : Int → Option Nat} {V : am_V} {T : Nat} {Q : Option AV → am_V → am_T → Nat → Prop} {p n : Int} (h0 : 0 ≤ p) (h1 : 0 ≤ n) (h2 : p + n ≤ 30) (hr : ∀ i, 0 ≤ i → i < n → 0 ≤ V 93 (p + i) ∧ V 93 (p + i) < 1000) (hQ : ∀ r, 0 ≤ r → (∀ i, 0 ≤ i → i < n → V 93 (p + i) < r) → (r = 0 ∨ ∃ i, 0 ≤ i ∧ i < n ∧ V 93 (p + i) + 1 = r) → Q (some (vI r)) V (am_RF sh) T) : am_Calls G (d + 1) 81 [vR 86, vI p, vI n] V (am_RF sh) T Q := by
  refine am_enter mt_M_blocks ok_M_blocks rfl ?_
  have loop : ∀ (j : Nat) (k m : Int), 0 ≤ k → k + j = n → 0 ≤ m → m ≤ 1000 → (∀ i, 0 ≤ i → i < k → V 93 (p + i) < m) → (m = 0 ∨ ∃ i, 0 ≤ i ∧ i < k ∧ V 93 (p + i) + 1 = m) → am_Sem G d 81 V T Q 5 [some (vR 86), some (vI p), some (vI n), some (vI m), some (vI k)] [] V (am_RF sh) T 0 0 := by
    intro j
    induction j with
    | zero =>
      intro k m hk hkn hm hm2 w1 w2
      refine am_run 400 mt_M_blocks ok_M_blocks (fun K S hK hS => ?_)
      iterate 30 (all_goals (first
        | (refine And.intro (by omega) ?_)
        | (refine And.intro (fun hb => absurd hb (by omega)) (fun hb => ?_))
        | (refine And.intro (fun hb => ?_) (fun hb => absurd hb (by omega)))
        | (refine And.intro (fun hb => ?_) (fun hb => ?_))
        | (intro hb)
        | (conv => whnf)))
      rw [show k = n by omega] at w1 w2
      exact hQ _ hm w1 w2
    | succ j ih =>
      intro k m hk hkn hm hm2 w1 w2
      have rk := hr k hk (by omega)
      refine am_run 400 mt_M_blocks ok_M_blocks (fun K S hK hS => ?_)
      iterate 30 (all_goals (first
        | (refine And.intro (by omega) ?_)
        | (refine And.intro (fun hb => absurd hb (by omega)) (fun hb => ?_))
        | (refine And.intro (fun hb => ?_) (fun hb => absurd hb (by omega)))
        | (refine And.intro (fun hb => ?_) (fun hb => ?_))
        | (intro hb)
        | (conv => whnf)))
      · refine hS (ih (k + 1) _ (by omega) (by omega) (by omega) (by omega) (fun i a b => ?_) ?_)
        · by_cases e : i = k
          · subst e; omega
          · exact w1 i a (by omega)
        · rcases w2 with w | ⟨i, a, b, c⟩
          · exact Or.inl w
          · exact Or.inr ⟨i, a, by omega, c⟩
      · refine hS (ih (k + 1) _ (by omega) (by omega) (by omega) (by omega) (fun i a b => ?_) ?_)
        · by_cases e : i = k
          · subst e; omega
          · have := w1 i a (by omega)
            omega
        · exact Or.inr ⟨k, hk, by omega, rfl⟩
  refine am_run 400 mt_M_blocks ok_M_blocks (fun K S hK hS => ?_)
  iterate 30 (all_goals (first
    | (refine And.intro (by omega) ?_)
    | (refine And.intro (fun hb => absurd hb (by omega)) (fun hb => ?_))
    | (refine And.intro (fun hb => ?_) (fun hb => absurd hb (by omega)))
    | (refine And.intro (fun hb => ?_) (fun hb => ?_))
    | (intro hb)
    | (conv => whnf)))
  exact hS (loop n.toNat 0 0 (by omega) (by omega) (by omega) (by omega) (fun i a b => absurd b (by omega)) (Or.inl rfl))
theorem s_M_isOfPairs {G : am_G} {d : Nat} {sh : Int → Option Nat} {V : am_V} {T : Nat} {Q : Option AV → am_V → am_T → Nat → Prop} {p n : Int} (h0 : 0 ≤ p) (h1 : 0 ≤ n) (h2 : p + n ≤ 30) (hr : ∀ i, p ≤ i → i < p + n → am_in32 (V 93 i)) (hQ : ∀ r, (r = 1 ∧ ∀ i, 0 ≤ i → i < n → m_cnt V p (V 93 (p + i)) n.toNat = 2) ∨ (r = 0 ∧ ∃ i, 0 ≤ i ∧ i < n ∧ m_cnt V p (V 93 (p + i)) n.toNat ≠ 2) → Q (some (vI r)) V (am_RF sh) T) : am_Calls G (d + 2) 83 [vR 86, vI p, vI n] V (am_RF sh) T Q := by
  refine am_enter mt_M_isOfPairs ok_M_isOfPairs rfl ?_
  have loop : ∀ (j : Nat) (k m : Int), 0 ≤ k → k + j = n → ((m = 1 ∧ ∀ i, 0 ≤ i → i < k → m_cnt V p (V 93 (p + i)) n.toNat = 2) ∨ (m = 0 ∧ ∃ i, 0 ≤ i ∧ i < k ∧ m_cnt V p (V 93 (p + i)) n.toNat ≠ 2)) → am_Sem G (d + 1) 83 V T Q 5 [some (vR 86), some (vI p), some (vI n), some (vI m), some (vI k)] [] V (am_RF sh) T 0 0 := by
    intro j
    induction j with
    | zero =>
      intro k m hk hkn w
      have hm : m = 0 ∨ m = 1 := by rcases w with ⟨a, -⟩ | ⟨a, -⟩ <;> omega
      refine am_run 400 mt_M_isOfPairs ok_M_isOfPairs (fun K S hK hS => ?_)
      iterate 30 (all_goals (first
        | (refine And.intro (by omega) ?_)
        | (refine And.intro (fun hb => absurd hb (by omega)) (fun hb => ?_))
        | (refine And.intro (fun hb => ?_) (fun hb => absurd hb (by omega)))
        | (refine And.intro (fun hb => ?_) (fun hb => ?_))
        | (intro hb)
        | (conv => whnf)))
      rw [show k = n by omega] at w
      exact hQ _ w
    | succ j ih =>
      intro k m hk hkn w
      have hm : m = 0 ∨ m = 1 := by rcases w with ⟨a, -⟩ | ⟨a, -⟩ <;> omega
      have rk := hr (p + k) (by omega) (by omega)
      have rc := m_cnt_le V p (V 93 (p + k)) n.toNat
      refine am_run 400 mt_M_isOfPairs ok_M_isOfPairs (fun K S hK hS => ?_)
      iterate 30 (all_goals (first
        | (refine And.intro (by omega) ?_)
        | (refine And.intro (fun hb => absurd hb (by omega)) (fun hb => ?_))
        | (refine And.intro (fun hb => ?_) (fun hb => absurd hb (by omega)))
        | (refine And.intro (fun hb => ?_) (fun hb => ?_))
        | (intro hb)
        | (conv => whnf)))
      · rcases w with ⟨a, -⟩ | ⟨a, i, w1, w2, w3⟩
        · omega
        · exact hS (ih (k + 1) _ (by omega) (by omega) (Or.inr ⟨rfl, i, w1, by omega, w3⟩))
      · refine hK (s_M_sizeOf h0 h1 h2 hr rk ?_)
        iterate 30 (all_goals (first
          | (refine And.intro (by omega) ?_)
          | (refine And.intro (fun hb => absurd hb (by omega)) (fun hb => ?_))
          | (refine And.intro (fun hb => ?_) (fun hb => absurd hb (by omega)))
          | (refine And.intro (fun hb => ?_) (fun hb => ?_))
          | (intro hb)
          | (conv => whnf)))
        · refine hS (ih (k + 1) _ (by omega) (by omega) (Or.inr ⟨rfl, k, hk, by omega, ?_⟩))
          omega
        · rcases w with ⟨a, w⟩ | ⟨a, -⟩
          · refine hS (ih (k + 1) _ (by omega) (by omega) (Or.inl ⟨rfl, fun i a1 a2 => ?_⟩))
            by_cases e : i = k
            · subst e
              omega
            · exact w i a1 (by omega)
          · omega
  refine am_run 400 mt_M_isOfPairs ok_M_isOfPairs (fun K S hK hS => ?_)
  iterate 30 (all_goals (first
    | (refine And.intro (by omega) ?_)
    | (refine And.intro (fun hb => absurd hb (by omega)) (fun hb => ?_))
    | (refine And.intro (fun hb => ?_) (fun hb => absurd hb (by omega)))
    | (refine And.intro (fun hb => ?_) (fun hb => ?_))
    | (intro hb)
    | (conv => whnf)))
  exact hS (loop n.toNat 0 1 (by omega) (by omega) (Or.inl ⟨rfl, fun i a b => absurd b (by omega)⟩))
end
section
/-! the reference: numbering by least points, kinds, laying down -/
/-- numbers rise as they come -/
def m_rgs (g : Int → Int) (n : Int) : Prop := ∀ k, 0 ≤ k → k < n → 0 ≤ g k ∧ (g k = 0 ∨ ∃ j, 0 ≤ j ∧ j < k ∧ g j = g k - 1)
theorem m_rgs_le {g : Int → Int} {n : Int} (h : m_rgs g n) : ∀ (m : Nat) (k : Int), k ≤ m → 0 ≤ k → k < n → g k ≤ k := by
  intro m
  induction m with
  | zero =>
    intro k h1 h2 h3
    obtain ⟨a, b | ⟨j, c1, c2, c3⟩⟩ := h k h2 h3
    · omega
    · omega
  | succ m ih =>
    intro k h1 h2 h3
    obtain ⟨a, b | ⟨j, c1, c2, c3⟩⟩ := h k h2 h3
    · omega
    · have := ih j (by omega) c1 (by omega)
      omega
theorem m_rgs_lt {g : Int → Int} {n k : Int} (h : m_rgs g n) (h0 : 0 ≤ k) (h1 : k < n) : 0 ≤ g k ∧ g k ≤ k := ⟨(h k h0 h1).1, m_rgs_le h k.toNat k (by omega) h0 h1⟩
theorem s_M_first {G : am_G} {d : Nat} {sh : Int → Option Nat} {V : am_V} {T : Nat} {Q : Option AV → am_V → am_T → Nat → Prop} {p n : Int} (h0 : 0 ≤ p) (h1 : 0 ≤ n) (h2 : p + n ≤ 30) (hQ : ∀ V', (∀ a, a ≠ 93 → V' a = V a) → (∀ j, ¬ (p ≤ j ∧ j < p + n) → V' 93 j = V 93 j) → (∀ j, 0 ≤ j → j < n → V' 93 (p + j) = 0) → Q none V' (am_RF sh) T) : am_Calls G (d + 1) 89 [vR 86, vI p, vI n] V (am_RF sh) T Q := by
  refine am_enter mt_M_first ok_M_first rfl ?_
  have loop : ∀ (j : Nat) (k : Int) (W : am_V), 0 ≤ k → k + j = n → (∀ a, a ≠ 93 → W a = V a) → (∀ j, ¬ (p ≤ j ∧ j < p + k) → W 93 j = V 93 j) → (∀ j, 0 ≤ j → j < k → W 93 (p + j) = 0) → am_Sem G d 89 V T Q 2 [some (vR 86), some (vI p), some (vI n), some (vI k)] [] W (am_RF sh) T 0 0 := by
    intro j
    induction j with
    | zero =>
      intro k W hk hkn w1 w2 w3
      refine am_run 400 mt_M_first ok_M_first (fun K S hK hS => ?_)
      iterate 30 (all_goals (first
        | (refine And.intro (by omega) ?_)
        | (refine And.intro (fun hb => absurd hb (by omega)) (fun hb => ?_))
        | (refine And.intro (fun hb => ?_) (fun hb => absurd hb (by omega)))
        | (refine And.intro (fun hb => ?_) (fun hb => ?_))
        | (intro hb)
        | (conv => whnf)))
      rw [show k = n by omega] at w2 w3
      exact hQ W w1 w2 w3
    | succ j ih =>
      intro k W hk hkn w1 w2 w3
      refine am_run 400 mt_M_first ok_M_first (fun K S hK hS => ?_)
      iterate 30 (all_goals (first
        | (refine And.intro (by omega) ?_)
        | (refine And.intro (fun hb => absurd hb (by omega)) (fun hb => ?_))
        | (refine And.intro (fun hb => ?_) (fun hb => absurd hb (by omega)))
        | (refine And.intro (fun hb => ?_) (fun hb => ?_))
        | (intro hb)
        | (conv => whnf)))
      refine hS (ih (k + 1) _ (by omega) (by omega) (fun a ha => by rw [am_up_ne ha, w1 a ha]) (fun i a => by rw [am_up_at, if_neg (by omega), w2 i (by omega)]) (fun i a b => ?_))
      rw [am_up_at]
      by_cases e : i = k
      · rw [if_pos (by omega)]
      · rw [if_neg (by omega), w3 i a (by omega)]
  refine am_run 400 mt_M_first ok_M_first (fun K S hK hS => ?_)
  iterate 30 (all_goals (first
    | (refine And.intro (by omega) ?_)
    | (refine And.intro (fun hb => absurd hb (by omega)) (fun hb => ?_))
    | (refine And.intro (fun hb => ?_) (fun hb => absurd hb (by omega)))
    | (refine And.intro (fun hb => ?_) (fun hb => ?_))
    | (intro hb)
    | (conv => whnf)))
  exact hS (loop n.toNat 0 V (by omega) (by omega) (fun _ _ => rfl) (fun _ _ => rfl) (fun i a b => absurd b (by omega)))
theorem s_M_relabel {G : am_G} {d : Nat} {sh : Int → Option Nat} {V : am_V} {T : Nat} {Q : Option AV → am_V → am_T → Nat → Prop} {p n : Int} (h0 : 0 ≤ p) (h1 : 0 ≤ n ∧ n ≤ 10) (h2 : p + n ≤ 30) (hr : ∀ i, p ≤ i → i < p + n → am_in32 (V 93 i)) (hQ : ∀ V', (∀ a, a ≠ 93 → a ≠ 94 → V' a = V a) → (∀ j, ¬ (p ≤ j ∧ j < p + n) → V' 93 j = V 93 j) → (∀ i j, 0 ≤ i → i < n → 0 ≤ j → j < n → (V' 93 (p + i) = V' 93 (p + j) ↔ V 93 (p + i) = V 93 (p + j))) → m_rgs (fun i => V' 93 (p + i)) n → Q none V' (am_RF sh) T) : am_Calls G (d + 1) 78 [vR 86, vI p, vI n] V (am_RF sh) T Q := by
  refine am_enter mt_M_relabel ok_M_relabel rfl ?_
  have loop2 : ∀ (U : am_V), (∀ a, a ≠ 94 → U a = V a) → m_rgs (U 94) n → (∀ i j, 0 ≤ i → i < n → 0 ≤ j → j < n → (U 94 i = U 94 j ↔ V 93 (p + i) = V 93 (p + j))) → ∀ (j : Nat) (k : Int) (W : am_V) (x3 : Int) (x5 x6 : Option AV), 0 ≤ k → k + j = n → (∀ a, a ≠ 93 → W a = U a) → (∀ j, ¬ (p ≤ j ∧ j < p + k) → W 93 j = V 93 j) → (∀ j, 0 ≤ j → j < k → W 93 (p + j) = U 94 j) → am_Sem G d 78 V T Q 110 [some (vR 86), some (vI p), some (vI n), some (vI x3), some (vI k), x5, x6] [] W (am_RF sh) T 0 0 := by
    intro U u1 u2 u3 j
    induction j with
    | zero =>
      intro k W x3 x5 x6 hk hkn w1 w2 w3
      refine am_run 400 mt_M_relabel ok_M_relabel (fun K S hK hS => ?_)
      iterate 30 (all_goals (first
        | (refine And.intro (by omega) ?_)
        | (refine And.intro (fun hb => absurd hb (by omega)) (fun hb => ?_))
        | (refine And.intro (fun hb => ?_) (fun hb => absurd hb (by omega)))
        | (refine And.intro (fun hb => ?_) (fun hb => ?_))
        | (intro hb)
        | (conv => whnf)))
      rw [show k = n by omega] at w2 w3
      refine hQ W (fun a a1 a2 => by rw [w1 a a1, u1 a a2]) w2 (fun i j a1 a2 a3 a4 => by rw [w3 i a1 a2, w3 j a3 a4]; exact u3 i j a1 a2 a3 a4) (fun i a1 a2 => ?_)
      obtain ⟨q1, q2⟩ := u2 i a1 a2
      show 0 ≤ W 93 (p + i) ∧ (W 93 (p + i) = 0 ∨ ∃ j, 0 ≤ j ∧ j < i ∧ W 93 (p + j) = W 93 (p + i) - 1)
      rw [w3 i a1 a2]
      refine ⟨q1, q2.elim Or.inl (fun ⟨j, c1, c2, c3⟩ => Or.inr ⟨j, c1, c2, ?_⟩)⟩
      rw [w3 j c1 (by omega)]
      exact c3
    | succ j ih =>
      intro k W x3 x5 x6 hk hkn w1 w2 w3
      refine am_run 400 mt_M_relabel ok_M_relabel (fun K S hK hS => ?_)
      iterate 30 (all_goals (first
        | (refine And.intro (by omega) ?_)
        | (refine And.intro (fun hb => absurd hb (by omega)) (fun hb => ?_))
        | (refine And.intro (fun hb => ?_) (fun hb => absurd hb (by omega)))
        | (refine And.intro (fun hb => ?_) (fun hb => ?_))
        | (intro hb)
        | (conv => whnf)))
      refine hS (ih (k + 1) _ _ _ _ (by omega) (by omega) (fun a ha => by rw [am_up_ne ha, w1 a ha]) (fun i a => by rw [am_up_at, if_neg (by omega), w2 i (by omega)]) (fun i a b => ?_))
      rw [am_up_at]
      by_cases e : i = k
      · rw [if_pos (by omega), w1 94 (by decide), e]
      · rw [if_neg (by omega), w3 i a (by omega)]
  have loop1 : ∀ (j : Nat) (k next : Int) (W : am_V) (x5 x6 : Option AV), 0 ≤ k → k + j = n → (∀ a, a ≠ 94 → W a = V a) → m_rgs (W 94) k → (∀ i j, 0 ≤ i → i < k → 0 ≤ j → j < k → (W 94 i = W 94 j ↔ V 93 (p + i) = V 93 (p + j))) → 0 ≤ next → next ≤ k → (∀ i, 0 ≤ i → i < k → W 94 i < next) → (next = 0 ∨ ∃ i, 0 ≤ i ∧ i < k ∧ W 94 i = next - 1) → am_Sem G d 78 V T Q 5 [some (vR 86), some (vI p), some (vI n), some (vI next), some (vI k), x5, x6] [] W (am_RF sh) T 0 0 := by
    intro j
    induction j with
    | zero =>
      intro k next W x5 x6 hk hkn w1 w2 w3 w4 w5 w6 w7
      rw [show k = n by omega] at w2 w3
      refine am_run 400 mt_M_relabel ok_M_relabel (fun K S hK hS => ?_)
      iterate 30 (all_goals (first
        | (refine And.intro (by omega) ?_)
        | (refine And.intro (fun hb => absurd hb (by omega)) (fun hb => ?_))
        | (refine And.intro (fun hb => ?_) (fun hb => absurd hb (by omega)))
        | (refine And.intro (fun hb => ?_) (fun hb => ?_))
        | (intro hb)
        | (conv => whnf)))
      exact hS (loop2 W w1 w2 w3 n.toNat 0 W _ _ _ (by omega) (by omega) (fun _ _ => rfl) (fun i _ => by rw [w1 93 (by decide)]) (fun i a b => absurd b (by omega)))
    | succ j ih =>
      intro k next W x5 x6 hk hkn w1 w2 w3 w4 w5 w6 w7
      have e93 : ∀ i, W 93 i = V 93 i := fun i => by rw [w1 93 (by decide)]
      have rk := hr (p + k) (by omega) (by omega)
      rw [← e93] at rk
      have fin : ∀ (v next' : Int), 0 ≤ v → v ≤ next → ((next' = next + 1 ∧ v = next ∧ ∀ i, 0 ≤ i → i < k → V 93 (p + i) ≠ V 93 (p + k)) ∨ (next' = next ∧ ∃ o, 0 ≤ o ∧ o < k ∧ v = W 94 o ∧ V 93 (p + o) = V 93 (p + k))) → ∀ x5 x6, am_Sem G d 78 V T Q 5 [some (vR 86), some (vI p), some (vI n), some (vI next'), some (vI (k + 1)), x5, x6] [] (am_up W 94 k v) (am_RF sh) T 0 0 := by
        intro v next' v0 v1 hv x5 x6
        have at_lt : ∀ i, i < k → am_up W 94 k v 94 i = W 94 i := fun i hi => by rw [am_up_at, if_neg (by omega)]
        have at_k : am_up W 94 k v 94 k = v := by rw [am_up_at, if_pos rfl]
        refine ih (k + 1) next' _ _ _ (by omega) (by omega) (fun a ha => by rw [am_up_ne ha, w1 a ha]) (fun i a b => ?_) (fun i i' a1 a2 a3 a4 => ?_) (by omega) (by rcases hv with ⟨q, -⟩ | ⟨q, -⟩ <;> omega) (fun i a b => ?_) ?_
        · by_cases e : i = k
          · subst e
            rw [at_k]
            refine ⟨v0, ?_⟩
            rcases hv with ⟨q1, q2, q3⟩ | ⟨q1, o, q2, q3, q4, q5⟩
            · rcases w7 with w | ⟨z, z1, z2, z3⟩
              · exact Or.inl (by omega)
              · exact Or.inr ⟨z, z1, z2, by rw [at_lt z z2]; omega⟩
            · obtain ⟨-, z⟩ := w2 o q2 q3
              rcases z with z | ⟨y, y1, y2, y3⟩
              · exact Or.inl (by omega)
              · exact Or.inr ⟨y, y1, by omega, by rw [at_lt y (by omega)]; omega⟩
          · obtain ⟨z1, z2⟩ := w2 i a (by omega)
            rw [at_lt i (by omega)]
            exact ⟨z1, z2.elim Or.inl (fun ⟨y, y1, y2, y3⟩ => Or.inr ⟨y, y1, y2, by rw [at_lt y (by omega)]; exact y3⟩)⟩
        · have key : ∀ i, 0 ≤ i → i < k → (W 94 i = v ↔ V 93 (p + i) = V 93 (p + k)) := by
            intro i a b
            rcases hv with ⟨q1, q2, q3⟩ | ⟨q1, o, q2, q3, q4, q5⟩
            · have := w6 i a b
              have := q3 i a b
              constructor
              · intro; omega
              · intro; contradiction
            · rw [q4, w3 i o a b q2 q3, q5]
          by_cases e : i = k <;> by_cases e' : i' = k
          · subst e; subst e'; simp
          · subst e
            rw [at_k, at_lt i' (by omega)]
            have := key i' a3 (by omega)
            constructor
            · intro h; exact (this.mp h.symm).symm
            · intro h; exact (this.mpr h.symm).symm
          · subst e'
            rw [at_k, at_lt i (by omega)]
            exact key i a1 (by omega)
          · rw [at_lt i (by omega), at_lt i' (by omega)]
            exact w3 i i' a1 (by omega) a3 (by omega)
        · by_cases e : i = k
          · subst e
            rw [at_k]
            rcases hv with ⟨q1, q2, q3⟩ | ⟨q1, o, q2, q3, q4, q5⟩
            · omega
            · have := w6 o q2 q3
              omega
          · rw [at_lt i (by omega)]
            have := w6 i a (by omega)
            rcases hv with ⟨q1, q2, q3⟩ | ⟨q1, -⟩ <;> omega
        · rcases hv with ⟨q1, q2, q3⟩ | ⟨q1, o, q2, q3, q4, q5⟩
          · exact Or.inr ⟨k, hk, by omega, by rw [at_k]; omega⟩
          · rcases w7 with w | ⟨z, z1, z2, z3⟩
            · exact Or.inl (by omega)
            · exact Or.inr ⟨z, z1, by omega, by rw [at_lt z z2]; omega⟩
      have inner : ∀ (i : Nat) (y old : Int), 0 ≤ y → y + i = k → ((old = -1000000 ∧ ∀ z, 0 ≤ z → z < y → V 93 (p + z) ≠ V 93 (p + k)) ∨ (0 ≤ old ∧ old < y ∧ V 93 (p + old) = V 93 (p + k))) → am_Sem G d 78 V T Q 18 [some (vR 86), some (vI p), some (vI n), some (vI next), some (vI k), some (vI old), some (vI y)] [] W (am_RF sh) T 0 0 := by
        intro i
        induction i with
        | zero =>
          intro y old hy hyk ho
          have hor : am_in32 old := by rcases ho with ⟨a, -⟩ | ⟨a, b, -⟩ <;> constructor <;> omega
          refine am_run 400 mt_M_relabel ok_M_relabel (fun K S hK hS => ?_)
          iterate 30 (all_goals (first
            | (refine And.intro (by omega) ?_)
            | (refine And.intro (fun hb => absurd hb (by omega)) (fun hb => ?_))
            | (refine And.intro (fun hb => ?_) (fun hb => absurd hb (by omega)))
            | (refine And.intro (fun hb => ?_) (fun hb => ?_))
            | (intro hb)
            | (conv => whnf)))
          · rcases ho with ⟨a, -⟩ | ⟨a, b, c⟩
            · exact absurd a (by omega)
            · have q1 := (w2 old a (by omega)).1
              have q2 := w6 old a (by omega)
              have := fin (W 94 old) next q1 (by omega) (Or.inr ⟨rfl, old, a, by omega, rfl, c⟩)
              rw [← Int.add_zero next] at this
              exact hS (this _ _)
          · rcases ho with ⟨a, b⟩ | ⟨a, b, c⟩
            · exact hS (fin next (next + 1) w4 (by omega) (Or.inl ⟨rfl, rfl, fun z z1 z2 => b z z1 (by omega)⟩) _ _)
            · omega
        | succ i ih2 =>
          intro y old hy hyk ho
          have hor : am_in32 old := by rcases ho with ⟨a, -⟩ | ⟨a, b, -⟩ <;> constructor <;> omega
          have ry := hr (p + y) (by omega) (by omega)
          rw [← e93] at ry
          refine am_run 400 mt_M_relabel ok_M_relabel (fun K S hK hS => ?_)
          iterate 30 (all_goals (first
            | (refine And.intro (by omega) ?_)
            | (refine And.intro (⟨ry, rk⟩) ?_)
            | (refine And.intro (fun hb => absurd hb (by omega)) (fun hb => ?_))
            | (refine And.intro (fun hb => ?_) (fun hb => absurd hb (by omega)))
            | (refine And.intro (fun hb => ?_) (fun hb => ?_))
            | (intro hb)
            | (conv => whnf)))
          · refine hS (ih2 (y + 1) old (by omega) (by omega) ?_)
            rw [e93, e93] at hb
            rcases ho with ⟨a, b⟩ | ⟨a, b, c⟩
            · refine Or.inl ⟨a, fun z z1 z2 => ?_⟩
              by_cases e : z = y
              · subst e; exact hb
              · exact b z z1 (by omega)
            · exact Or.inr ⟨a, by omega, c⟩
          · rw [e93, e93] at hb
            exact hS (ih2 (y + 1) y (by omega) (by omega) (Or.inr ⟨hy, by omega, hb⟩))
      refine am_run 400 mt_M_relabel ok_M_relabel (fun K S hK hS => ?_)
      iterate 30 (all_goals (first
        | (refine And.intro (by omega) ?_)
        | (refine And.intro (fun hb => absurd hb (by omega)) (fun hb => ?_))
        | (refine And.intro (fun hb => ?_) (fun hb => absurd hb (by omega)))
        | (refine And.intro (fun hb => ?_) (fun hb => ?_))
        | (intro hb)
        | (conv => whnf)))
      exact hS (inner k.toNat 0 (-1000000) (by omega) (by omega) (Or.inl ⟨rfl, fun z z1 z2 => absurd z2 (by omega)⟩))
  refine am_run 400 mt_M_relabel ok_M_relabel (fun K S hK hS => ?_)
  iterate 30 (all_goals (first
    | (refine And.intro (by omega) ?_)
    | (refine And.intro (fun hb => absurd hb (by omega)) (fun hb => ?_))
    | (refine And.intro (fun hb => ?_) (fun hb => absurd hb (by omega)))
    | (refine And.intro (fun hb => ?_) (fun hb => ?_))
    | (intro hb)
    | (conv => whnf)))
  exact hS (loop1 n.toNat 0 0 V _ _ (by omega) (by omega) (fun _ _ => rfl) (fun k a b => absurd b (by omega)) (fun i j a b => absurd b (by omega)) (by omega) (by omega) (fun i a b => absurd b (by omega)) (Or.inl rfl))
end
section
/-! the reference: kinds, laying down -/
def m_cg (g : Int → Int) (b : Int) : Nat → Int
  | 0 => 0
  | n + 1 => m_cg g b n + (if g n = b then 1 else 0)
theorem m_cnt_cg (V : am_V) (p b : Int) : ∀ n : Nat, m_cnt V p b n = m_cg (fun i => V 93 (p + i)) b n
  | 0 => rfl
  | n + 1 => by rw [m_cnt, m_cg, m_cnt_cg V p b n]
def m_rows (g : Int → Int) (n : Int) : Prop := ∀ k, 1 ≤ k → k < n → g k = g (k - 1) ∨ g k = g (k - 1) + 1
def m_prs (g : Int → Int) (n : Int) : Prop := ∀ i, 0 ≤ i → i < n → m_cg g (g i) n.toNat = 2
/-- the kind as it is told -/
def m_kd (g : Int → Int) (n r : Int) : Prop := (r = 2 ∧ ¬ m_Cr g n ∧ m_rows g n) ∨ (r = 3 ∧ ¬ m_Cr g n ∧ ¬ m_rows g n ∧ m_prs g n) ∨ (r = 1 ∧ ¬ m_Cr g n ∧ ¬ m_rows g n ∧ ¬ m_prs g n) ∨ (r = 4 ∧ m_Cr g n ∧ m_prs g n) ∨ (r = 0 ∧ m_Cr g n ∧ ¬ m_prs g n)
theorem m_kd_rng {g : Int → Int} {n r : Int} (h : m_kd g n r) : 0 ≤ r ∧ r ≤ 4 := by
  rcases h with ⟨a, -⟩ | ⟨a, -⟩ | ⟨a, -⟩ | ⟨a, -⟩ | ⟨a, -⟩ <;> omega
def m_rwI (V : am_V) (p k m : Int) : Prop := (m = 1 ∧ ∀ i, 1 ≤ i → i < k → V 93 (p + i) = V 93 (p + (i - 1)) ∨ V 93 (p + i) = V 93 (p + (i - 1)) + 1) ∨ (m = 0 ∧ ∃ i, 1 ≤ i ∧ i < k ∧ ¬ (V 93 (p + i) = V 93 (p + (i - 1)) ∨ V 93 (p + i) = V 93 (p + (i - 1)) + 1))
theorem m_rwI_01 {V : am_V} {p k m : Int} (w : m_rwI V p k m) : m = 0 ∨ m = 1 := by
  rcases w with ⟨a, -⟩ | ⟨a, -⟩
  · exact Or.inr a
  · exact Or.inl a
theorem s_M_kindOf {G : am_G} {d : Nat} {sh : Int → Option Nat} {V : am_V} {T : Nat} {Q : Option AV → am_V → am_T → Nat → Prop} {p n : Int} (h0 : 0 ≤ p) (h1 : 0 ≤ n) (h2 : p + n ≤ 30) (hr : ∀ i, 0 ≤ i → i < n → 0 ≤ V 93 (p + i) ∧ V 93 (p + i) < 1000) (hQ : ∀ r, m_kd (fun i => V 93 (p + i)) n r → Q (some (vI r)) V (am_RF sh) T) : am_Calls G (d + 3) 84 [vR 86, vI p, vI n] V (am_RF sh) T Q := by
  refine am_enter mt_M_kindOf ok_M_kindOf rfl ?_
  have hr32 : ∀ i, p ≤ i → i < p + n → am_in32 (V 93 i) := fun i a b => by
    have := hr (i - p) (by omega) (by omega)
    rw [show p + (i - p) = i by omega] at this
    exact ⟨by omega, by omega⟩
  refine am_run 400 mt_M_kindOf ok_M_kindOf (fun K S hK hS => ?_)
  iterate 30 (all_goals (first
    | (refine And.intro (by omega) ?_)
    | (refine And.intro (fun hb => absurd hb (by omega)) (fun hb => ?_))
    | (refine And.intro (fun hb => ?_) (fun hb => absurd hb (by omega)))
    | (refine And.intro (fun hb => ?_) (fun hb => ?_))
    | (intro hb)
    | (conv => whnf)))
  refine hK (s_M_isFree h0 h1 h2 hr32 (fun f hf => ?_))
  have hf01 : f = 0 ∨ f = 1 := by rcases hf with ⟨a, -⟩ | ⟨a, -⟩ <;> omega
  have loop : ∀ (j : Nat) (k m : Int), 1 ≤ k → (k = 1 ∧ n ≤ 1 ∨ k + j = n) → m_rwI V p k m → am_Sem G (d + 2) 84 V T Q 13 [some (vR 86), some (vI p), some (vI n), some (vI f), some (vI m), some (vI k)] [] V (am_RF sh) T 0 0 := by
    intro j
    induction j with
    | zero =>
      intro k m hk hkn w
      have hm := m_rwI_01 w
      refine am_run 400 mt_M_kindOf ok_M_kindOf (fun K S hK hS => ?_)
      iterate 30 (all_goals (first
        | (refine And.intro (by omega) ?_)
        | (refine And.intro (fun hb => absurd hb (by omega)) (fun hb => ?_))
        | (refine And.intro (fun hb => ?_) (fun hb => absurd hb (by omega)))
        | (refine And.intro (fun hb => ?_) (fun hb => ?_))
        | (intro hb)
        | (conv => whnf)))
      refine hK (s_M_isOfPairs h0 h1 h2 hr32 (fun q hq => ?_))
      have hq01 : q = 0 ∨ q = 1 := by rcases hq with ⟨a, -⟩ | ⟨a, -⟩ <;> omega
      have pr : (q = 1 ∧ m_prs (fun i => V 93 (p + i)) n) ∨ (q = 0 ∧ ¬ m_prs (fun i => V 93 (p + i)) n) := by
        rcases hq with ⟨a, b⟩ | ⟨a, i, b1, b2, b3⟩
        · exact Or.inl ⟨a, fun i c1 c2 => by rw [← m_cnt_cg]; exact b i c1 c2⟩
        · exact Or.inr ⟨a, fun c => b3 (by rw [m_cnt_cg]; exact c i b1 b2)⟩
      have hkn2 : n ≤ k := by omega
      have hlt2 : ∀ i, i < k → 1 ≤ i → i < n := fun i a b => by omega
      clear hkn
      have rw_ : (m = 1 ∧ m_rows (fun i => V 93 (p + i)) n) ∨ (m = 0 ∧ ¬ m_rows (fun i => V 93 (p + i)) n) := by
        rcases w with ⟨a, b⟩ | ⟨a, i, b1, b2, b3⟩
        · exact Or.inl ⟨a, fun i c1 c2 => b i c1 (Int.lt_of_lt_of_le c2 hkn2)⟩
        · exact Or.inr ⟨a, fun c => b3 (c i b1 (hlt2 i b2 b1))⟩
      clear hq w
      iterate 30 (all_goals (first
        | (refine And.intro (by omega) ?_)
        | (refine And.intro (fun hb => absurd hb (by omega)) (fun hb => ?_))
        | (refine And.intro (fun hb => ?_) (fun hb => absurd hb (by omega)))
        | (refine And.intro (fun hb => ?_) (fun hb => ?_))
        | (intro hb)
        | (conv => whnf)))
      all_goals (refine hQ _ ?_; unfold m_kd)
      all_goals (rcases hf with ⟨f1, f2⟩ | ⟨f1, f2⟩ <;> rcases pr with ⟨p1, p2⟩ | ⟨p1, p2⟩ <;> rcases rw_ with ⟨r1, r2⟩ | ⟨r1, r2⟩ <;> first | (exfalso; omega) | exact Or.inl ⟨rfl, f2, r2⟩ | exact Or.inr (Or.inl ⟨rfl, f2, r2, p2⟩) | exact Or.inr (Or.inr (Or.inl ⟨rfl, f2, r2, p2⟩)) | exact Or.inr (Or.inr (Or.inr (Or.inl ⟨rfl, f2, p2⟩))) | exact Or.inr (Or.inr (Or.inr (Or.inr ⟨rfl, f2, p2⟩))))
    | succ j ih =>
      intro k m hk hkn w
      by_cases hlt : n ≤ k
      · have : k = 1 ∧ n ≤ 1 := by omega
        have := ih k m hk (Or.inl this) w
        exact this
      have hm := m_rwI_01 w
      have r1 := hr k (by omega) (by omega)
      have r2 := hr (k - 1) (by omega) (by omega)
      have e1 : V 93 (p + k - 1) = V 93 (p + (k - 1)) := by rw [show p + k - 1 = p + (k - 1) by omega]
      refine am_run 400 mt_M_kindOf ok_M_kindOf (fun K S hK hS => ?_)
      iterate 30 (all_goals (first
        | (refine And.intro (by omega) ?_)
        | (refine And.intro (fun hb => absurd hb (by omega)) (fun hb => ?_))
        | (refine And.intro (fun hb => ?_) (fun hb => absurd hb (by omega)))
        | (refine And.intro (fun hb => ?_) (fun hb => ?_))
        | (intro hb)
        | (conv => whnf)))
      all_goals refine hS (ih (k + 1) _ (by omega) (by omega) ?_)
      all_goals first
        | (rcases w with ⟨a, b⟩ | ⟨a, i, b1, b2, b3⟩
           · exfalso; omega
           · exact Or.inr ⟨rfl, i, b1, Int.lt_trans b2 (Int.lt_succ k), b3⟩)
        | (rcases w with ⟨a, b⟩ | ⟨a, i, b1, b2, b3⟩
           · refine Or.inl ⟨rfl, fun i c1 c2 => ?_⟩
             by_cases e : i = k
             · subst e
               omega
             · exact b i c1 (by omega)
           · exfalso; clear b3; omega)
        | (exact Or.inr ⟨rfl, k, by omega, by omega, by omega⟩)
  iterate 30 (all_goals (first
    | (refine And.intro (by omega) ?_)
    | (refine And.intro (fun hb => absurd hb (by omega)) (fun hb => ?_))
    | (refine And.intro (fun hb => ?_) (fun hb => absurd hb (by omega)))
    | (refine And.intro (fun hb => ?_) (fun hb => ?_))
    | (intro hb)
    | (conv => whnf)))
  exact hS (loop (n - 1).toNat 1 1 (by omega) (by omega) (Or.inl ⟨rfl, fun i a b => absurd b (by omega)⟩))
theorem s_M_lay {G : am_G} {d : Nat} {sh : Int → Option Nat} {V : am_V} {T : Nat} {Q : Option AV → am_V → am_T → Nat → Prop} {q p n : Int} (hq : 0 ≤ q ∧ q < 10) (h0 : 0 ≤ p) (h1 : 1 ≤ n ∧ n ≤ 10) (h2 : p + n ≤ 30) (hr : ∀ i, p ≤ i → i < p + n → am_in32 (V 93 i)) (hQ : ∀ (V' : am_V) (r : Int) (g : Int → Int), m_rgs g n → (∀ i j, 0 ≤ i → i < n → 0 ≤ j → j < n → (g i = g j ↔ V 93 (p + i) = V 93 (p + j))) → m_kd g n r → V' 90 q = r → (∀ j, j ≠ q → V' 90 j = V 90 j) → V' 91 q = n → (∀ j, j ≠ q → V' 91 j = V 91 j) → (∀ k, 0 ≤ k → k < n → V' 92 (10 * q + k) = g k) → (∀ j, ¬ (10 * q ≤ j ∧ j < 10 * q + n) → V' 92 j = V 92 j) → V' 86 1 = 0 → (∀ j, j ≠ 1 → V' 86 j = V 86 j) → (∀ a, a ≠ 86 → a ≠ 90 → a ≠ 91 → a ≠ 92 → a ≠ 93 → a ≠ 94 → V' a = V a) → Q (some (vI r)) V' (am_RF sh) T) : am_Calls G (d + 4) 85 [vR 86, vI q, vI p, vI n] V (am_RF sh) T Q := by
  refine am_enter mt_M_lay ok_M_lay rfl ?_
  refine am_run 400 mt_M_lay ok_M_lay (fun K S hK hS => ?_)
  iterate 30 (all_goals (first
    | (refine And.intro (by omega) ?_)
    | (refine And.intro (fun hb => absurd hb (by omega)) (fun hb => ?_))
    | (refine And.intro (fun hb => ?_) (fun hb => absurd hb (by omega)))
    | (refine And.intro (fun hb => ?_) (fun hb => ?_))
    | (intro hb)
    | (conv => whnf)))
  refine hK (s_M_relabel h0 (by omega) h2 (fun i a b => by rw [am_up_ne (by decide)]; exact hr i a b) (fun W w1 w2 w3 w4 => ?_))
  have hg : ∀ k, 0 ≤ k → k < n → 0 ≤ W 93 (p + k) ∧ W 93 (p + k) ≤ k := fun k a b => m_rgs_lt w4 a b
  iterate 30 (all_goals (first
    | (refine And.intro (by omega) ?_)
    | (refine And.intro (fun hb => absurd hb (by omega)) (fun hb => ?_))
    | (refine And.intro (fun hb => ?_) (fun hb => absurd hb (by omega)))
    | (refine And.intro (fun hb => ?_) (fun hb => ?_))
    | (intro hb)
    | (conv => whnf)))
  refine hK (s_M_kindOf h0 (by omega) h2 (fun k a b => by have := hg k a b; omega) (fun r hkd => ?_))
  have hrr := m_kd_rng hkd
  have loop : ∀ (j : Nat) (k : Int) (U : am_V), 0 ≤ k → k + j = n → (∀ a, a ≠ 90 → a ≠ 91 → a ≠ 92 → U a = W a) → U 90 q = r → (∀ j, j ≠ q → U 90 j = W 90 j) → U 91 q = n → (∀ j, j ≠ q → U 91 j = W 91 j) → (∀ i, 0 ≤ i → i < k → U 92 (10 * q + i) = W 93 (p + i)) → (∀ j, ¬ (10 * q ≤ j ∧ j < 10 * q + k) → U 92 j = W 92 j) → am_Sem G (d + 3) 85 V T Q 33 [some (vR 86), some (vI q), some (vI p), some (vI n), some (vI k)] [] U (am_RF sh) T 0 0 := by
    intro j
    induction j with
    | zero =>
      intro k U hk hkn u1 u2 u3 u4 u5 u6 u7
      rw [show k = n by omega] at u6 u7
      refine am_run 400 mt_M_lay ok_M_lay (fun K S hK hS => ?_)
      iterate 30 (all_goals (first
        | (refine And.intro (by omega) ?_)
        | (refine And.intro (fun hb => absurd hb (by omega)) (fun hb => ?_))
        | (refine And.intro (fun hb => ?_) (fun hb => absurd hb (by omega)))
        | (refine And.intro (fun hb => ?_) (fun hb => ?_))
        | (intro hb)
        | (conv => whnf)))
      have e86 : ∀ j, U 86 j = am_up V 86 1 0 86 j := fun j => by rw [u1 86 (by decide) (by decide) (by decide), w1 86 (by decide) (by decide)]
      have eo : ∀ a, a ≠ 86 → a ≠ 93 → a ≠ 94 → W a = V a := fun a a1 a2 a3 => by rw [w1 a a2 a3, am_up_ne a1]
      rw [u2]
      refine hQ U r (fun i => W 93 (p + i)) w4 (fun i j a1 a2 a3 a4 => ?_) hkd u2 (fun j a => by rw [u3 j a, eo 90 (by decide) (by decide) (by decide)]) u4 (fun j a => by rw [u5 j a, eo 91 (by decide) (by decide) (by decide)]) u6 (fun j a => by rw [u7 j a, eo 92 (by decide) (by decide) (by decide)]) (by rw [e86, am_up_at, if_pos rfl]) (fun j a => by rw [e86, am_up_at, if_neg a]) (fun a a1 a2 a3 a4 a5 a6 => by rw [u1 a a2 a3 a4, eo a a1 a5 a6])
      have := w3 i j a1 a2 a3 a4
      rw [am_up_ne (by decide)] at this
      exact this
    | succ j ih =>
      intro k U hk hkn u1 u2 u3 u4 u5 u6 u7
      refine am_run 400 mt_M_lay ok_M_lay (fun K S hK hS => ?_)
      iterate 30 (all_goals (first
        | (refine And.intro (by omega) ?_)
        | (refine And.intro (fun hb => absurd hb (by omega)) (fun hb => ?_))
        | (refine And.intro (fun hb => ?_) (fun hb => absurd hb (by omega)))
        | (refine And.intro (fun hb => ?_) (fun hb => ?_))
        | (intro hb)
        | (conv => whnf)))
      refine hS (ih (k + 1) _ (by omega) (by omega) (fun a a1 a2 a3 => by rw [am_up_ne a3, u1 a a1 a2 a3]) (by rw [am_up_ne (by decide)]; exact u2) (fun j a => by rw [am_up_ne (by decide)]; exact u3 j a) (by rw [am_up_ne (by decide)]; exact u4) (fun j a => by rw [am_up_ne (by decide)]; exact u5 j a) (fun i a b => ?_) (fun i a => by rw [am_up_at, if_neg (by omega), u7 i (by omega)]))
      rw [am_up_at]
      by_cases e : i = k
      · subst e
        rw [if_pos rfl, u1 93 (by decide) (by decide) (by decide)]
      · rw [if_neg (by omega), u6 i a (by omega)]
  iterate 30 (all_goals (first
    | (refine And.intro (by omega) ?_)
    | (refine And.intro (fun hb => absurd hb (by omega)) (fun hb => ?_))
    | (refine And.intro (fun hb => ?_) (fun hb => absurd hb (by omega)))
    | (refine And.intro (fun hb => ?_) (fun hb => ?_))
    | (intro hb)
    | (conv => whnf)))
  refine hS (loop n.toNat 0 _ (by omega) (by omega) (fun a a1 a2 a3 => by rw [am_up_ne a2, am_up_ne a1]) ?_ (fun j a => ?_) ?_ (fun j a => ?_) (fun i a b => absurd b (by omega)) (fun j a => by rw [am_up_ne (by decide), am_up_ne (by decide)]))
  · rw [am_up_ne (by decide), am_up_at, if_pos rfl]
  · rw [am_up_ne (by decide), am_up_at, if_neg a]
  · rw [am_up_at, if_pos rfl]
  · rw [am_up_at, if_neg a, am_up_ne (by decide)]
end
section
/-! the reference: finer, same, mixing, the trace -/
/-- the row at a is finer than the row at b -/
def m_fin (g h : Int → Int) (n : Int) : Prop := ∀ x y, 0 ≤ x → x < y → y < n → g x = g y → h x = h y
def m_nfin (g h : Int → Int) (n : Int) : Prop := ∃ x y, 0 ≤ x ∧ x < y ∧ y < n ∧ g x = g y ∧ h x ≠ h y
theorem s_M_isFiner {G : am_G} {d : Nat} {sh : Int → Option Nat} {V : am_V} {T : Nat} {Q : Option AV → am_V → am_T → Nat → Prop} {p q n : Int} (h0 : 0 ≤ p ∧ p + n ≤ 30) (h1 : 0 ≤ q ∧ q + n ≤ 30) (h2 : 0 ≤ n) (hr : ∀ i, 0 ≤ i → i < n → am_in32 (V 93 (p + i)) ∧ am_in32 (V 93 (q + i))) (hQ : ∀ r, (r = 1 ∧ m_fin (fun i => V 93 (p + i)) (fun i => V 93 (q + i)) n) ∨ (r = 0 ∧ m_nfin (fun i => V 93 (p + i)) (fun i => V 93 (q + i)) n) → Q (some (vI r)) V (am_RF sh) T) : am_Calls G (d + 1) 110 [vR 86, vI p, vI q, vI n] V (am_RF sh) T Q := by
  refine am_enter mt_M_isFiner ok_M_isFiner rfl ?_
  have loopX : ∀ (jx : Nat) (x : Int) (x5 : Option AV), 0 ≤ x → x + jx = n → (∀ x' y', 0 ≤ x' → x' < y' → y' < n → x' < x → V 93 (p + x') = V 93 (p + y') → V 93 (q + x') = V 93 (q + y')) → am_Sem G d 110 V T Q 3 [some (vR 86), some (vI p), some (vI q), some (vI n), some (vI x), x5] [] V (am_RF sh) T 0 0 := by
    intro jx
    induction jx with
    | zero =>
      intro x x5 hx hxn w
      refine am_run 400 mt_M_isFiner ok_M_isFiner (fun K S hK hS => ?_)
      iterate 30 (all_goals (first
        | (refine And.intro (by omega) ?_)
        | (refine And.intro (fun hb => absurd hb (by omega)) (fun hb => ?_))
        | (refine And.intro (fun hb => ?_) (fun hb => absurd hb (by omega)))
        | (refine And.intro (fun hb => ?_) (fun hb => ?_))
        | (intro hb)
        | (conv => whnf)))
      exact hQ _ (Or.inl ⟨rfl, fun x' y' a1 a2 a3 a4 => w x' y' a1 a2 a3 (by omega) a4⟩)
    | succ jx ihX =>
      intro x x5 hx hxn w
      have loopY : ∀ (jy : Nat) (y : Int), x + 1 ≤ y → y + jy = n → (∀ y', x < y' → y' < y → V 93 (p + x) = V 93 (p + y') → V 93 (q + x) = V 93 (q + y')) → am_Sem G d 110 V T Q 15 [some (vR 86), some (vI p), some (vI q), some (vI n), some (vI x), some (vI y)] [] V (am_RF sh) T 0 0 := by
        intro jy
        induction jy with
        | zero =>
          intro y hy hyn w2
          refine am_run 400 mt_M_isFiner ok_M_isFiner (fun K S hK hS => ?_)
          iterate 30 (all_goals (first
            | (refine And.intro (by omega) ?_)
            | (refine And.intro (fun hb => absurd hb (by omega)) (fun hb => ?_))
            | (refine And.intro (fun hb => ?_) (fun hb => absurd hb (by omega)))
            | (refine And.intro (fun hb => ?_) (fun hb => ?_))
            | (intro hb)
            | (conv => whnf)))
          refine hS (ihX (x + 1) _ (by omega) (by omega) (fun x' y' a1 a2 a3 a4 a5 => ?_))
          by_cases e : x' = x
          · subst e
            exact w2 y' a2 (by omega) a5
          · exact w x' y' a1 a2 a3 (by omega) a5
        | succ jy ihY =>
          intro y hy hyn w2
          have r1 := (hr x (by omega) (by omega)).1
          have r2 := (hr y (by omega) (by omega)).1
          have r3 := (hr x (by omega) (by omega)).2
          have r4 := (hr y (by omega) (by omega)).2
          refine am_run 400 mt_M_isFiner ok_M_isFiner (fun K S hK hS => ?_)
          iterate 30 (all_goals (first
            | (refine And.intro (by omega) ?_)
            | (refine And.intro (⟨r1, r2⟩) ?_)
            | (refine And.intro (⟨r3, r4⟩) ?_)
            | (refine And.intro (fun hb => absurd hb (by omega)) (fun hb => ?_))
            | (refine And.intro (fun hb => ?_) (fun hb => absurd hb (by omega)))
            | (refine And.intro (fun hb => ?_) (fun hb => ?_))
            | (intro hb)
            | (conv => whnf)))
          all_goals first
            | (refine hS (ihY (y + 1) (by omega) (by omega) (fun y' a1 a2 a3 => ?_))
               by_cases e : y' = y
               · subst e
                 omega
               · exact w2 y' a1 (by omega) a3)
            | (refine hQ _ (Or.inr ⟨rfl, x, y, hx, by omega, by omega, ?_, ?_⟩)
               · assumption
               · assumption)
      refine am_run 400 mt_M_isFiner ok_M_isFiner (fun K S hK hS => ?_)
      iterate 30 (all_goals (first
        | (refine And.intro (by omega) ?_)
        | (refine And.intro (fun hb => absurd hb (by omega)) (fun hb => ?_))
        | (refine And.intro (fun hb => ?_) (fun hb => absurd hb (by omega)))
        | (refine And.intro (fun hb => ?_) (fun hb => ?_))
        | (intro hb)
        | (conv => whnf)))
      exact hS (loopY (n - (x + 1)).toNat (x + 1) (by omega) (by omega) (fun y' a1 a2 => absurd a2 (by omega)))
  refine am_run 400 mt_M_isFiner ok_M_isFiner (fun K S hK hS => ?_)
  iterate 30 (all_goals (first
    | (refine And.intro (by omega) ?_)
    | (refine And.intro (fun hb => absurd hb (by omega)) (fun hb => ?_))
    | (refine And.intro (fun hb => ?_) (fun hb => absurd hb (by omega)))
    | (refine And.intro (fun hb => ?_) (fun hb => ?_))
    | (intro hb)
    | (conv => whnf)))
  exact hS (loopX n.toNat 0 _ (by omega) (by omega) (fun x' y' a1 a2 a3 a4 => absurd a4 (by omega)))
def m_smI (V : am_V) (k m : Int) : Prop := (m = 1 ∧ ∀ i, 0 ≤ i → i < k → V 93 i = V 93 (10 + i)) ∨ (m = 0 ∧ ∃ i, 0 ≤ i ∧ i < k ∧ V 93 i ≠ V 93 (10 + i))
theorem m_smI_01 {V : am_V} {k m : Int} (w : m_smI V k m) : m = 0 ∨ m = 1 := by
  rcases w with ⟨a, -⟩ | ⟨a, -⟩
  · exact Or.inr a
  · exact Or.inl a
theorem s_M_isSame {G : am_G} {d : Nat} {sh : Int → Option Nat} {V : am_V} {T : Nat} {Q : Option AV → am_V → am_T → Nat → Prop} {n : Int} (h2 : 0 ≤ n ∧ n ≤ 10) (hr : ∀ i, 0 ≤ i → i < n → am_in32 (V 93 i) ∧ am_in32 (V 93 (10 + i))) (hQ : ∀ r, m_smI V n r → Q (some (vI r)) V (am_RF sh) T) : am_Calls G (d + 1) 113 [vR 86, vI n] V (am_RF sh) T Q := by
  refine am_enter mt_M_isSame ok_M_isSame rfl ?_
  have loop : ∀ (j : Nat) (k m : Int), 0 ≤ k → k + j = n → m_smI V k m → am_Sem G d 113 V T Q 4 [some (vR 86), some (vI n), some (vI m), some (vI k)] [] V (am_RF sh) T 0 0 := by
    intro j
    induction j with
    | zero =>
      intro k m hk hkn w
      have hm := m_smI_01 w
      refine am_run 400 mt_M_isSame ok_M_isSame (fun K S hK hS => ?_)
      iterate 30 (all_goals (first
        | (refine And.intro (by omega) ?_)
        | (refine And.intro (fun hb => absurd hb (by omega)) (fun hb => ?_))
        | (refine And.intro (fun hb => ?_) (fun hb => absurd hb (by omega)))
        | (refine And.intro (fun hb => ?_) (fun hb => ?_))
        | (intro hb)
        | (conv => whnf)))
      rw [show k = n by omega] at w
      exact hQ _ w
    | succ j ih =>
      intro k m hk hkn w
      have hm := m_smI_01 w
      have e0 : V 93 (0 + k) = V 93 k := by rw [Int.zero_add]
      have r1 := (hr k hk (by omega)).1
      have r2 := (hr k hk (by omega)).2
      rw [← e0] at r1
      refine am_run 400 mt_M_isSame ok_M_isSame (fun K S hK hS => ?_)
      iterate 30 (all_goals (first
        | (refine And.intro (by omega) ?_)
        | (refine And.intro (⟨r1, r2⟩) ?_)
        | (refine And.intro (fun hb => absurd hb (by omega)) (fun hb => ?_))
        | (refine And.intro (fun hb => ?_) (fun hb => absurd hb (by omega)))
        | (refine And.intro (fun hb => ?_) (fun hb => ?_))
        | (intro hb)
        | (conv => whnf)))
      all_goals refine hS (ih (k + 1) _ (by omega) (by omega) ?_)
      all_goals first
        | (rcases w with ⟨a, b⟩ | ⟨a, i, b1, b2, b3⟩
           · exfalso; omega
           · exact Or.inr ⟨rfl, i, b1, Int.lt_trans b2 (Int.lt_succ k), b3⟩)
        | (rcases w with ⟨a, b⟩ | ⟨a, i, b1, b2, b3⟩
           · refine Or.inl ⟨rfl, fun i c1 c2 => ?_⟩
             by_cases e : i = k
             · subst e
               omega
             · exact b i c1 (by omega)
           · exfalso; clear b3; omega)
        | (exact Or.inr ⟨rfl, k, by omega, by omega, by omega⟩)
  refine am_run 400 mt_M_isSame ok_M_isSame (fun K S hK hS => ?_)
  iterate 30 (all_goals (first
    | (refine And.intro (by omega) ?_)
    | (refine And.intro (fun hb => absurd hb (by omega)) (fun hb => ?_))
    | (refine And.intro (fun hb => ?_) (fun hb => absurd hb (by omega)))
    | (refine And.intro (fun hb => ?_) (fun hb => ?_))
    | (intro hb)
    | (conv => whnf)))
  exact hS (loop n.toNat 0 1 (by omega) (by omega) (Or.inl ⟨rfl, fun i a b => absurd b (by omega)⟩))
theorem s_M_began {G : am_G} {d : Nat} {sh : Int → Option Nat} {V : am_V} {T : Nat} {Q : Option AV → am_V → am_T → Nat → Prop} {b : Int} (h : 0 ≤ V 86 12 ∧ V 86 12 ≤ 16) (hQ : ∀ V', (V 86 12 < 16 → V' = am_up (am_up V 95 (V 86 12) b) 86 12 (V 86 12 + 1)) → (16 ≤ V 86 12 → V' = V) → Q none V' (am_RF sh) T) : am_Calls G (d + 1) 103 [vR 86, vI b] V (am_RF sh) T Q := by
  refine am_enter mt_M_began ok_M_began rfl ?_
  refine am_run 400 mt_M_began ok_M_began (fun K S hK hS => ?_)
  iterate 30 (all_goals (first
    | (refine And.intro (by omega) ?_)
    | (refine And.intro (fun hb => absurd hb (by omega)) (fun hb => ?_))
    | (refine And.intro (fun hb => ?_) (fun hb => absurd hb (by omega)))
    | (refine And.intro (fun hb => ?_) (fun hb => ?_))
    | (intro hb)
    | (conv => whnf)))
  all_goals first
    | exact hQ _ (fun a => absurd a (by omega)) (fun _ => rfl)
    | exact hQ _ (fun _ => rfl) (fun a => absurd a (by omega))
theorem s_M_mix {G : am_G} {d : Nat} {sh : Int → Option Nat} {V : am_V} {T : Nat} {Q : Option AV → am_V → am_T → Nat → Prop} {a b n : Int} (h2 : 0 ≤ n ∧ n ≤ 10) (hb : am_in32 b) (hr : ∀ i, 0 ≤ i → i < n → am_in32 (V 93 (20 + i))) (hQ : ∀ V', (∀ x, x ≠ 93 → V' x = V x) → (∀ j, ¬ (20 ≤ j ∧ j < 20 + n) → V' 93 j = V 93 j) → (∀ j, 0 ≤ j → j < n → V' 93 (20 + j) = if V 93 (20 + j) = b then a else V 93 (20 + j)) → Q none V' (am_RF sh) T) : am_Calls G (d + 1) 94 [vR 86, vI a, vI b, vI n] V (am_RF sh) T Q := by
  refine am_enter mt_M_mix ok_M_mix rfl ?_
  have loop : ∀ (j : Nat) (k : Int) (W : am_V), 0 ≤ k → k + j = n → (∀ x, x ≠ 93 → W x = V x) → (∀ j, ¬ (20 ≤ j ∧ j < 20 + k) → W 93 j = V 93 j) → (∀ j, 0 ≤ j → j < k → W 93 (20 + j) = if V 93 (20 + j) = b then a else V 93 (20 + j)) → am_Sem G d 94 V T Q 3 [some (vR 86), some (vI a), some (vI b), some (vI n), some (vI k)] [] W (am_RF sh) T 0 0 := by
    intro j
    induction j with
    | zero =>
      intro k W hk hkn w1 w2 w3
      refine am_run 400 mt_M_mix ok_M_mix (fun K S hK hS => ?_)
      iterate 30 (all_goals (first
        | (refine And.intro (by omega) ?_)
        | (refine And.intro (fun hb => absurd hb (by omega)) (fun hb => ?_))
        | (refine And.intro (fun hb => ?_) (fun hb => absurd hb (by omega)))
        | (refine And.intro (fun hb => ?_) (fun hb => ?_))
        | (intro hb)
        | (conv => whnf)))
      rw [show k = n by omega] at w2 w3
      exact hQ W w1 w2 w3
    | succ j ih =>
      intro k W hk hkn w1 w2 w3
      have ek : W 93 (20 + k) = V 93 (20 + k) := w2 _ (by omega)
      have rk := hr k hk (by omega)
      rw [← ek] at rk
      refine am_run 400 mt_M_mix ok_M_mix (fun K S hK hS => ?_)
      iterate 30 (all_goals (first
        | (refine And.intro (by omega) ?_)
        | (refine And.intro (fun hb => absurd hb (by omega)) (fun hb => ?_))
        | (refine And.intro (fun hb => ?_) (fun hb => absurd hb (by omega)))
        | (refine And.intro (fun hb => ?_) (fun hb => ?_))
        | (intro hb)
        | (conv => whnf)))
      all_goals refine hS (ih (k + 1) _ (by omega) (by omega) (fun x hx => by rw [am_up_ne hx, w1 x hx]) (fun i a => by rw [am_up_at, if_neg (by omega), w2 i (by omega)]) (fun i a b => ?_))
      all_goals (rw [am_up_at]; by_cases e : i = k)
      · subst e
        rw [if_pos rfl, ek, if_neg (by rw [← ek]; exact hb)]
      · rw [if_neg (by omega), w3 i a (by omega)]
      · subst e
        rw [if_pos rfl, if_pos (by rw [← ek]; exact hb)]
      · rw [if_neg (by omega), w3 i a (by omega)]
  refine am_run 400 mt_M_mix ok_M_mix (fun K S hK hS => ?_)
  iterate 30 (all_goals (first
    | (refine And.intro (by omega) ?_)
    | (refine And.intro (fun hb => absurd hb (by omega)) (fun hb => ?_))
    | (refine And.intro (fun hb => ?_) (fun hb => absurd hb (by omega)))
    | (refine And.intro (fun hb => ?_) (fun hb => ?_))
    | (intro hb)
    | (conv => whnf)))
  exact hS (loop n.toNat 0 V (by omega) (by omega) (fun _ _ => rfl) (fun _ _ => rfl) (fun i a b => absurd b (by omega)))
end
section
/-! the reference: counting up -/
/-- the number at k may grow -/
def m_may (g : Int → Int) (k : Int) : Prop := ∃ j, 0 ≤ j ∧ j < k ∧ g k ≤ g j
def m_mx (g : Int → Int) (k m : Int) : Prop := 0 ≤ m ∧ (∀ j, 0 ≤ j → j < k → g j ≤ m) ∧ (m = 0 ∨ ∃ j, 0 ≤ j ∧ j < k ∧ g j = m)
theorem m_mx_keep {g : Int → Int} {k m : Int} (h : m_mx g k m) (h0 : 0 ≤ k) (h1 : g k ≤ m) : m_mx g (k + 1) m := by
  obtain ⟨w0, w1, w2⟩ := h
  refine ⟨w0, fun j a b => ?_, ?_⟩
  · by_cases e : j = k
    · rw [e]; exact h1
    · exact w1 j a (by omega)
  · rcases w2 with e | ⟨j, j1, j2, j3⟩
    · exact Or.inl e
    · exact Or.inr ⟨j, j1, by omega, j3⟩
theorem m_mx_up {g : Int → Int} {k m : Int} (h : m_mx g k m) (h0 : 0 ≤ k) (h1 : m < g k) : m_mx g (k + 1) (g k) := by
  obtain ⟨w0, w1, w2⟩ := h
  refine ⟨by omega, fun j a b => ?_, Or.inr ⟨k, h0, by omega, rfl⟩⟩
  by_cases e : j = k
  · rw [e]; exact Int.le_refl _
  · exact Int.le_of_lt (Int.lt_of_le_of_lt (w1 j a (by omega)) h1)
theorem s_M_next {G : am_G} {d : Nat} {sh : Int → Option Nat} {V : am_V} {T : Nat} {Q : Option AV → am_V → am_T → Nat → Prop} {p n : Int} (h0 : 0 ≤ p) (h1 : 1 ≤ n) (h2 : p + n ≤ 30) (hr : ∀ i, 0 ≤ i → i < n → 0 ≤ V 93 (p + i) ∧ V 93 (p + i) < 1000)
    (hQ1 : ∀ (V' : am_V) (k : Int), 0 < k → k < n → m_may (fun i => V 93 (p + i)) k → (∀ k', k < k' → k' < n → ¬ m_may (fun i => V 93 (p + i)) k') → (∀ a, a ≠ 93 → V' a = V a) → (∀ j, ¬ (p + k ≤ j ∧ j < p + n) → V' 93 j = V 93 j) → V' 93 (p + k) = V 93 (p + k) + 1 → (∀ j, k < j → j < n → V' 93 (p + j) = 0) → Q (some (vI 1)) V' (am_RF sh) T)
    (hQ0 : (∀ k', 0 < k' → k' < n → ¬ m_may (fun i => V 93 (p + i)) k') → Q (some (vI 0)) V (am_RF sh) T) : am_Calls G (d + 1) 87 [vR 86, vI p, vI n] V (am_RF sh) T Q := by
  refine am_enter mt_M_next ok_M_next rfl ?_
  have loopZ : ∀ (k m : Int), 0 < k → k < n → m_may (fun i => V 93 (p + i)) k → (∀ k', k < k' → k' < n → ¬ m_may (fun i => V 93 (p + i)) k') → ∀ (j : Nat) (y : Int) (W : am_V), k < y → y + j = n → (∀ a, a ≠ 93 → W a = V a) → (∀ j, ¬ (p + k ≤ j ∧ j < p + y) → W 93 j = V 93 j) → W 93 (p + k) = V 93 (p + k) + 1 → (∀ j, k < j → j < y → W 93 (p + j) = 0) → am_Sem G d 87 V T Q 86 [some (vR 86), some (vI p), some (vI n), some (vI k), some (vI m), some (vI y)] [] W (am_RF sh) T 0 0 := by
    intro k m hk0 hkn hmay hno j
    induction j with
    | zero =>
      intro y W hy hyn w1 w2 w3 w4
      refine am_run 400 mt_M_next ok_M_next (fun K S hK hS => ?_)
      iterate 30 (all_goals (first
        | (refine And.intro (by omega) ?_)
        | (refine And.intro (fun hb => absurd hb (by omega)) (fun hb => ?_))
        | (refine And.intro (fun hb => ?_) (fun hb => absurd hb (by omega)))
        | (refine And.intro (fun hb => ?_) (fun hb => ?_))
        | (intro hb)
        | (conv => whnf)))
      rw [show y = n by omega] at w2 w4
      exact hQ1 W k hk0 hkn hmay hno w1 w2 w3 w4
    | succ j ih =>
      intro y W hy hyn w1 w2 w3 w4
      refine am_run 400 mt_M_next ok_M_next (fun K S hK hS => ?_)
      iterate 30 (all_goals (first
        | (refine And.intro (by omega) ?_)
        | (refine And.intro (fun hb => absurd hb (by omega)) (fun hb => ?_))
        | (refine And.intro (fun hb => ?_) (fun hb => absurd hb (by omega)))
        | (refine And.intro (fun hb => ?_) (fun hb => ?_))
        | (intro hb)
        | (conv => whnf)))
      refine hS (ih (y + 1) _ (by omega) (by omega) (fun a ha => by rw [am_up_ne ha, w1 a ha]) (fun i a => by rw [am_up_at, if_neg (by omega), w2 i (by omega)]) (by rw [am_up_at, if_neg (by omega)]; exact w3) (fun i a b => ?_))
      rw [am_up_at]
      by_cases e : i = y
      · rw [if_pos (by omega)]
      · rw [if_neg (by omega), w4 i a (by omega)]
  have loopK : ∀ (jk : Nat) (k : Int) (x4 x5 : Option AV), k = jk → k < n → (∀ k', k < k' → k' < n → ¬ m_may (fun i => V 93 (p + i)) k') → am_Sem G d 87 V T Q 4 [some (vR 86), some (vI p), some (vI n), some (vI k), x4, x5] [] V (am_RF sh) T 0 0 := by
    intro jk
    induction jk with
    | zero =>
      intro k x4 x5 hk hkn hno
      refine am_run 400 mt_M_next ok_M_next (fun K S hK hS => ?_)
      iterate 30 (all_goals (first
        | (refine And.intro (by omega) ?_)
        | (refine And.intro (fun hb => absurd hb (by omega)) (fun hb => ?_))
        | (refine And.intro (fun hb => ?_) (fun hb => absurd hb (by omega)))
        | (refine And.intro (fun hb => ?_) (fun hb => ?_))
        | (intro hb)
        | (conv => whnf)))
      exact hQ0 (fun k' a b => hno k' (by omega) b)
    | succ jk ihK =>
      intro k x4 x5 hk hkn hno
      have loopM : ∀ (j : Nat) (y m : Int), 0 ≤ y → y + j = k → m < 1000 → m_mx (fun i => V 93 (p + i)) y m → am_Sem G d 87 V T Q 14 [some (vR 86), some (vI p), some (vI n), some (vI k), some (vI m), some (vI y)] [] V (am_RF sh) T 0 0 := by
        intro j
        induction j with
        | zero =>
          intro y m hy hyk hm w
          obtain ⟨w0, w1, w2⟩ := w
          have rk := hr k (by omega) hkn
          refine am_run 400 mt_M_next ok_M_next (fun K S hK hS => ?_)
          iterate 30 (all_goals (first
            | (refine And.intro (by omega) ?_)
            | (refine And.intro (fun hb => absurd hb (by omega)) (fun hb => ?_))
            | (refine And.intro (fun hb => ?_) (fun hb => absurd hb (by omega)))
            | (refine And.intro (fun hb => ?_) (fun hb => ?_))
            | (intro hb)
            | (conv => whnf)))
          · refine hS (ihK (k - 1) _ _ (by omega) (by omega) (fun k' a b => ?_))
            by_cases e : k' = k
            · subst e
              rintro ⟨j, j1, j2, j3⟩
              have := w1 j j1 (by omega)
              have j3 : V 93 (p + k') ≤ V 93 (p + j) := j3
              have this : V 93 (p + j) ≤ m := this
              omega
            · exact hno k' (by omega) b
          · have hmay : m_may (fun i => V 93 (p + i)) k := by
              rcases w2 with e | ⟨j, j1, j2, j3⟩
              · have r0 := hr 0 (by omega) (by omega)
                exact ⟨0, by omega, by omega, by show V 93 (p + k) ≤ V 93 (p + 0); omega⟩
              · exact ⟨j, j1, by omega, by show V 93 (p + k) ≤ V 93 (p + j); have j3 : V 93 (p + j) = m := j3; omega⟩
            refine hS (loopZ k m (by omega) hkn hmay hno (n - (k + 1)).toNat (k + 1) _ (by omega) (by omega) (fun a ha => am_up_ne ha) (fun i a => by rw [am_up_at, if_neg (by omega)]) (by rw [am_up_at, if_pos rfl]) (fun i a b => absurd b (by omega)))
        | succ j ih =>
          intro y m hy hyk hm w
          have ry := hr y (by omega) (by omega)
          have w0 : 0 ≤ m := w.1
          refine am_run 400 mt_M_next ok_M_next (fun K S hK hS => ?_)
          iterate 30 (all_goals (first
            | (refine And.intro (by omega) ?_)
            | (refine And.intro (fun hb => absurd hb (by omega)) (fun hb => ?_))
            | (refine And.intro (fun hb => ?_) (fun hb => absurd hb (by omega)))
            | (refine And.intro (fun hb => ?_) (fun hb => ?_))
            | (intro hb)
            | (conv => whnf)))
          · exact hS (ih (y + 1) m (by omega) (by omega) hm (m_mx_keep w hy (by show V 93 (p + y) ≤ m; omega)))
          · exact hS (ih (y + 1) (V 93 (p + y)) (by omega) (by omega) (by omega) (m_mx_up w hy (by show m < V 93 (p + y); omega)))
      refine am_run 400 mt_M_next ok_M_next (fun K S hK hS => ?_)
      iterate 30 (all_goals (first
        | (refine And.intro (by omega) ?_)
        | (refine And.intro (fun hb => absurd hb (by omega)) (fun hb => ?_))
        | (refine And.intro (fun hb => ?_) (fun hb => absurd hb (by omega)))
        | (refine And.intro (fun hb => ?_) (fun hb => ?_))
        | (intro hb)
        | (conv => whnf)))
      exact hS (loopM k.toNat 0 0 (by omega) (by omega) (by omega) ⟨by omega, fun j a b => absurd b (by omega), Or.inl rfl⟩)
  refine am_run 400 mt_M_next ok_M_next (fun K S hK hS => ?_)
  iterate 30 (all_goals (first
    | (refine And.intro (by omega) ?_)
    | (refine And.intro (fun hb => absurd hb (by omega)) (fun hb => ?_))
    | (refine And.intro (fun hb => ?_) (fun hb => absurd hb (by omega)))
    | (refine And.intro (fun hb => ?_) (fun hb => ?_))
    | (intro hb)
    | (conv => whnf)))
  exact hS (loopK (n - 1).toNat (n - 1) _ _ (by omega) (by omega) (fun k' a b => absurd b (by omega)))
end
section
/-! the reference: the complement -/
/-- the points behind j up to k are whole blocks -/
def m_cl (g : Int → Int) (n j k : Int) : Prop := ∀ x y, j < x → x ≤ k → 0 ≤ y → y < n → (y ≤ j ∨ k < y) → g x ≠ g y
def m_gd (g : Int → Int) (n j k x y m : Int) : Prop := (m = 1 ∧ (∀ x' y', j < x' → x' < x → 0 ≤ y' → y' < n → (y' ≤ j ∨ k < y') → g x' ≠ g y') ∧ (∀ y', 0 ≤ y' → y' < y → (y' ≤ j ∨ k < y') → g x ≠ g y')) ∨ (m = 0 ∧ ¬ m_cl g n j k)
theorem m_gd_01 {g : Int → Int} {n j k x y m : Int} (w : m_gd g n j k x y m) : m = 0 ∨ m = 1 := by
  rcases w with ⟨a, -⟩ | ⟨a, -⟩
  · exact Or.inr a
  · exact Or.inl a
theorem m_gd_zero {g : Int → Int} {n j k x y x' y' m : Int} (w : m_gd g n j k x y m) (h : m = 0) : m_gd g n j k x' y' 0 := by
  rcases w with ⟨a, -⟩ | ⟨-, a⟩
  · omega
  · exact Or.inr ⟨rfl, a⟩
theorem m_gd_ok {g : Int → Int} {n j k x y m : Int} (w : m_gd g n j k x y m) (h : m ≠ 0) (hs : (y ≤ j ∨ k < y) → g x ≠ g y) : m_gd g n j k x (y + 1) 1 := by
  rcases w with ⟨-, a, b⟩ | ⟨a, -⟩
  · refine Or.inl ⟨rfl, a, fun y' c1 c2 c3 => ?_⟩
    by_cases e : y' = y
    · subst e; exact hs c3
    · exact b y' c1 (by omega) c3
  · omega
theorem m_gd_bad {g : Int → Int} {n j k x y x' y' : Int} (h1 : j < x) (h2 : x ≤ k) (h3 : 0 ≤ y) (h4 : y < n) (h5 : y ≤ j ∨ k < y) (h6 : g x = g y) : m_gd g n j k x' y' 0 :=
  Or.inr ⟨rfl, fun w => w x y h1 h2 h3 h4 h5 h6⟩
theorem m_gd_row {g : Int → Int} {n j k x m : Int} (w : m_gd g n j k x n m) : m_gd g n j k (x + 1) 0 m := by
  rcases w with ⟨a, b, c⟩ | a
  · refine Or.inl ⟨a, fun x' y' c1 c2 c3 c4 c5 => ?_, fun y' c1 c2 => absurd c2 (by omega)⟩
    by_cases e : x' = x
    · subst e; exact c y' c3 c4 c5
    · exact b x' y' c1 (by omega) c3 c4 c5
  · exact Or.inr a
theorem m_gd_end {g : Int → Int} {n j k m : Int} (w : m_gd g n j k (k + 1) 0 m) : (m = 1 ∧ m_cl g n j k) ∨ (m = 0 ∧ ¬ m_cl g n j k) := by
  rcases w with ⟨a, b, -⟩ | a
  · exact Or.inl ⟨a, fun x y c1 c2 c3 c4 c5 => b x y c1 (by omega) c3 c4 c5⟩
  · exact Or.inr a
/-- the complement's row: each point by the least point that it is together with -/
def m_cp (g : Int → Int) (n k v : Int) : Prop := 0 ≤ v ∧ v ≤ k ∧ (v = k ∨ m_cl g n v k) ∧ ∀ i, 0 ≤ i → i < v → ¬ m_cl g n i k
theorem m_cl_trans {g : Int → Int} {n i j k : Int} (h0 : i ≤ j) (h1 : j ≤ k) (a : m_cl g n i j) (b : m_cl g n j k) : m_cl g n i k := by
  intro x y c1 c2 c3 c4 c5
  by_cases e : x ≤ j
  · exact a x y c1 e c3 c4 (by omega)
  · exact b x y (by omega) c2 c3 c4 (by omega)
/-- under way: of the points between j and k the least that k is together with is i -/
def m_cw (g : Int → Int) (n k j : Int) (W : am_V) (v : Int) : Prop := ∃ i, j < i ∧ i ≤ k ∧ (i = k ∨ m_cl g n i k) ∧ (∀ i', j < i' → i' < i → ¬ m_cl g n i' k) ∧ (i = k → v = k) ∧ (i < k → v = W 93 (20 + i))
theorem m_cw_end {g : Int → Int} {n k : Int} {W : am_V} {v : Int} (w : m_cw g n k (-1) W v) (h : ∀ i, 0 ≤ i → i < k → m_cp g n i (W 93 (20 + i))) : m_cp g n k v := by
  obtain ⟨i, a1, a2, a3, a4, a5, a6⟩ := w
  by_cases e : i = k
  · rw [a5 e]
    exact ⟨by omega, by omega, Or.inl rfl, fun i' b1 b2 => a4 i' (by omega) (by omega)⟩
  · have e2 : i < k := by omega
    have c := a6 e2
    obtain ⟨b1, b2, b3, b4⟩ := h i (by omega) e2
    rw [← c] at b1 b2 b3 b4
    have hik : m_cl g n i k := by
      rcases a3 with a3 | a3
      · exact absurd a3 e
      · exact a3
    have hv : v = i := by
      rcases b3 with b3 | b3
      · exact b3
      · by_cases e3 : v = i
        · exact e3
        · exact absurd (m_cl_trans b2 (by omega) b3 hik) (a4 v (by omega) (by omega))
    rw [hv]
    exact ⟨by omega, by omega, Or.inr hik, fun i' c1 c2 => a4 i' (by omega) c2⟩
theorem m_cw_no {g : Int → Int} {n k j : Int} {W W' : am_V} {v : Int} (w : m_cw g n k j W v) (h : ¬ m_cl g n j k) (e : ∀ i, i < k → W' 93 (20 + i) = W 93 (20 + i)) : m_cw g n k (j - 1) W' v := by
  obtain ⟨i, a1, a2, a3, a4, a5, a6⟩ := w
  refine ⟨i, by omega, a2, a3, fun i' b1 b2 => ?_, a5, fun c => by rw [e i c]; exact a6 c⟩
  by_cases c : i' = j
  · rw [c]; exact h
  · exact a4 i' (by omega) b2
theorem m_cw_yes {g : Int → Int} {n k j : Int} {W' : am_V} {v : Int} (h : m_cl g n j k) (h1 : j < k) (e : v = W' 93 (20 + j)) : m_cw g n k (j - 1) W' v :=
  ⟨j, by omega, by omega, Or.inr h, fun i' b1 b2 => absurd b2 (by omega), fun c => absurd c (by omega), fun _ => e⟩
theorem s_M_complement {G : am_G} {d : Nat} {sh : Int → Option Nat} {V : am_V} {T : Nat} {Q : Option AV → am_V → am_T → Nat → Prop} {p n : Int} (h0 : 0 ≤ p) (h1 : p + n ≤ 20) (h2 : 0 ≤ n ∧ n ≤ 10) (hr : ∀ i, 0 ≤ i → i < n → am_in32 (V 93 (p + i)))
    (hQ : ∀ V', (∀ a, a ≠ 93 → V' a = V a) → (∀ j, ¬ (20 ≤ j ∧ j < 20 + n) → V' 93 j = V 93 j) → (∀ k, 0 ≤ k → k < n → m_cp (fun i => V 93 (p + i)) n k (V' 93 (20 + k))) → Q none V' (am_RF sh) T) : am_Calls G (d + 1) 96 [vR 86, vI p, vI n] V (am_RF sh) T Q := by
  refine am_enter mt_M_complement ok_M_complement rfl ?_
  have loopK : ∀ (jk : Nat) (k : Int) (x4 x5 x6 x7 : Option AV) (W : am_V), 0 ≤ k → k + jk = n → (∀ a, a ≠ 93 → W a = V a) → (∀ j, ¬ (20 ≤ j ∧ j < 20 + k) → W 93 j = V 93 j) → (∀ i, 0 ≤ i → i < k → m_cp (fun i => V 93 (p + i)) n i (W 93 (20 + i))) → am_Sem G d 96 V T Q 2 [some (vR 86), some (vI p), some (vI n), some (vI k), x4, x5, x6, x7] [] W (am_RF sh) T 0 0 := by
    intro jk
    induction jk with
    | zero =>
      intro k x4 x5 x6 x7 W hk hkn w1 w2 w3
      refine am_run 400 mt_M_complement ok_M_complement (fun K S hK hS => ?_)
      iterate 30 (all_goals (first
        | (refine And.intro (by omega) ?_)
        | (refine And.intro (fun hb => absurd hb (by omega)) (fun hb => ?_))
        | (refine And.intro (fun hb => ?_) (fun hb => absurd hb (by omega)))
        | (refine And.intro (fun hb => ?_) (fun hb => ?_))
        | (intro hb)
        | (conv => whnf)))
      rw [show k = n by omega] at w2 w3
      exact hQ W w1 w2 w3
    | succ jk ihK =>
      intro k x4 x5 x6 x7 W hk hkn w1 w2 w3
      have loopJ : ∀ (jj : Nat) (j : Int) (x5 x6 x7 : Option AV) (W : am_V), j + 1 = jj → j < k → (∀ a, a ≠ 93 → W a = V a) → (∀ j, ¬ (20 ≤ j ∧ j < 20 + k + 1) → W 93 j = V 93 j) → (∀ i, 0 ≤ i → i < k → m_cp (fun i => V 93 (p + i)) n i (W 93 (20 + i))) → m_cw (fun i => V 93 (p + i)) n k j W (W 93 (20 + k)) → am_Sem G d 96 V T Q 22 [some (vR 86), some (vI p), some (vI n), some (vI k), some (vI j), x5, x6, x7] [] W (am_RF sh) T 0 0 := by
        intro jj
        induction jj with
        | zero =>
          intro j x5 x6 x7 W hj hjk w1 w2 w3 w4
          have hj : j = -1 := by omega
          subst hj
          refine am_run 400 mt_M_complement ok_M_complement (fun K S hK hS => ?_)
          iterate 30 (all_goals (first
            | (refine And.intro (by omega) ?_)
            | (refine And.intro (fun hb => absurd hb (by omega)) (fun hb => ?_))
            | (refine And.intro (fun hb => ?_) (fun hb => absurd hb (by omega)))
            | (refine And.intro (fun hb => ?_) (fun hb => ?_))
            | (intro hb)
            | (conv => whnf)))
          refine hS (ihK (k + 1) _ _ _ _ W (by omega) (by omega) w1 (fun i a => w2 i (by omega)) (fun i a b => ?_))
          by_cases e : i = k
          · subst e
            exact m_cw_end w4 w3
          · exact w3 i a (by omega)
        | succ jj ihJ =>
          intro j x5 x6 x7 W hj hjk w1 w2 w3 w4
          have loopX : ∀ (jx : Nat) (x m : Int) (x7 : Option AV), j < x → x + jx = k + 1 → m_gd (fun i => V 93 (p + i)) n j k x 0 m → am_Sem G d 96 V T Q 36 [some (vR 86), some (vI p), some (vI n), some (vI k), some (vI j), some (vI m), some (vI x), x7] [] W (am_RF sh) T 0 0 := by
            intro jx
            induction jx with
            | zero =>
              intro x m x7 hx hxk w
              rw [show x = k + 1 by omega] at w
              have hm := m_gd_01 w
              have w := m_gd_end w
              have wy : m ≠ 0 → m_cl (fun i => V 93 (p + i)) n j k := fun c => w.elim (fun a => a.2) (fun a => absurd a.1 c)
              have wn : m = 0 → ¬ m_cl (fun i => V 93 (p + i)) n j k := fun c => w.elim (fun a => absurd (a.1.symm.trans c) (by decide)) (fun a => a.2)
              clear w
              refine am_run 400 mt_M_complement ok_M_complement (fun K S hK hS => ?_)
              iterate 30 (all_goals (first
                | (refine And.intro (by omega) ?_)
                | (refine And.intro (fun hb => absurd hb (by omega)) (fun hb => ?_))
                | (refine And.intro (fun hb => ?_) (fun hb => absurd hb (by omega)))
                | (refine And.intro (fun hb => ?_) (fun hb => ?_))
                | (intro hb)
                | (conv => whnf)))
              all_goals refine hS (ihJ (j - 1) _ _ _ _ (by omega) (by omega) (fun a ha => by rw [am_up_ne ha, w1 a ha]) (fun i a => by rw [am_up_at, if_neg (by omega), w2 i (by omega)]) (fun i a b => by rw [am_up_at, if_neg (by omega)]; exact w3 i a b) ?_)
              all_goals rw [am_up_at, if_pos rfl]
              all_goals first
                | exact m_cw_no w4 (wn (by assumption)) (fun i a => by rw [am_up_at, if_neg (by omega)])
                | exact m_cw_yes (wy (by assumption)) (by omega) (by rw [am_up_at, if_neg (by omega)])
            | succ jx ihX =>
              intro x m x7 hx hxk w
              have loopY : ∀ (jy : Nat) (y m : Int), 0 ≤ y → y + jy = n → m_gd (fun i => V 93 (p + i)) n j k x y m → am_Sem G d 96 V T Q 45 [some (vR 86), some (vI p), some (vI n), some (vI k), some (vI j), some (vI m), some (vI x), some (vI y)] [] W (am_RF sh) T 0 0 := by
                intro jy
                induction jy with
                | zero =>
                  intro y m hy hyn w
                  have hm := m_gd_01 w
                  refine am_run 400 mt_M_complement ok_M_complement (fun K S hK hS => ?_)
                  iterate 30 (all_goals (first
                    | (refine And.intro (by omega) ?_)
                    | (refine And.intro (fun hb => absurd hb (by omega)) (fun hb => ?_))
                    | (refine And.intro (fun hb => ?_) (fun hb => absurd hb (by omega)))
                    | (refine And.intro (fun hb => ?_) (fun hb => ?_))
                    | (intro hb)
                    | (conv => whnf)))
                  rw [show y = n by omega] at w
                  exact hS (ihX (x + 1) m _ (by omega) (by omega) (m_gd_row w))
                | succ jy ihY =>
                  intro y m hy hyn w
                  have hm := m_gd_01 w
                  have r1 := hr x (by omega) (by omega)
                  have r2 := hr y (by omega) (by omega)
                  have e1 : W 93 (p + x) = V 93 (p + x) := w2 _ (by omega)
                  have e2 : W 93 (p + y) = V 93 (p + y) := w2 _ (by omega)
                  rw [← e1] at r1
                  rw [← e2] at r2
                  refine am_run 400 mt_M_complement ok_M_complement (fun K S hK hS => ?_)
                  iterate 30 (all_goals (first
                    | (refine And.intro (by omega) ?_)
                    | (refine And.intro (⟨r1, r2⟩) ?_)
                    | (refine And.intro (fun hb => absurd hb (by omega)) (fun hb => ?_))
                    | (refine And.intro (fun hb => ?_) (fun hb => absurd hb (by omega)))
                    | (refine And.intro (fun hb => ?_) (fun hb => ?_))
                    | (intro hb)
                    | (conv => whnf)))
                  all_goals refine hS (ihY (y + 1) _ (by omega) (by omega) ?_)
                  all_goals first
                    | exact m_gd_zero w (by omega)
                    | exact m_gd_ok w (by omega) (fun c => by omega)
                    | exact m_gd_ok w (by omega) (fun c => by show V 93 (p + x) ≠ V 93 (p + y); omega)
                    | exact m_gd_bad (x := x) (y := y) (by omega) (by omega) (by omega) (by omega) (by omega) (by show V 93 (p + x) = V 93 (p + y); omega)
              have hm := m_gd_01 w
              refine am_run 400 mt_M_complement ok_M_complement (fun K S hK hS => ?_)
              iterate 30 (all_goals (first
                | (refine And.intro (by omega) ?_)
                | (refine And.intro (fun hb => absurd hb (by omega)) (fun hb => ?_))
                | (refine And.intro (fun hb => ?_) (fun hb => absurd hb (by omega)))
                | (refine And.intro (fun hb => ?_) (fun hb => ?_))
                | (intro hb)
                | (conv => whnf)))
              exact hS (loopY n.toNat 0 m (by omega) (by omega) w)
          refine am_run 400 mt_M_complement ok_M_complement (fun K S hK hS => ?_)
          iterate 30 (all_goals (first
            | (refine And.intro (by omega) ?_)
            | (refine And.intro (fun hb => absurd hb (by omega)) (fun hb => ?_))
            | (refine And.intro (fun hb => ?_) (fun hb => absurd hb (by omega)))
            | (refine And.intro (fun hb => ?_) (fun hb => ?_))
            | (intro hb)
            | (conv => whnf)))
          exact hS (loopX (k - j).toNat (j + 1) 1 _ (by omega) (by omega) (Or.inl ⟨rfl, fun x' y' a b => absurd b (by omega), fun y' a b => absurd b (by omega)⟩))
      refine am_run 400 mt_M_complement ok_M_complement (fun K S hK hS => ?_)
      iterate 30 (all_goals (first
        | (refine And.intro (by omega) ?_)
        | (refine And.intro (fun hb => absurd hb (by omega)) (fun hb => ?_))
        | (refine And.intro (fun hb => ?_) (fun hb => absurd hb (by omega)))
        | (refine And.intro (fun hb => ?_) (fun hb => ?_))
        | (intro hb)
        | (conv => whnf)))
      refine hS (loopJ k.toNat (k - 1) _ _ _ _ (by omega) (by omega) (fun a ha => by rw [am_up_ne ha, w1 a ha]) (fun i a => by rw [am_up_at, if_neg (by omega), w2 i (by omega)]) (fun i a b => by rw [am_up_at, if_neg (by omega)]; exact w3 i a b) ?_)
      rw [am_up_at, if_pos rfl]
      exact ⟨k, by omega, by omega, Or.inl rfl, fun i' a b => absurd b (by omega), fun _ => rfl, fun a => absurd a (by omega)⟩
  refine am_run 400 mt_M_complement ok_M_complement (fun K S hK hS => ?_)
  iterate 30 (all_goals (first
    | (refine And.intro (by omega) ?_)
    | (refine And.intro (fun hb => absurd hb (by omega)) (fun hb => ?_))
    | (refine And.intro (fun hb => ?_) (fun hb => absurd hb (by omega)))
    | (refine And.intro (fun hb => ?_) (fun hb => ?_))
    | (intro hb)
    | (conv => whnf)))
  exact hS (loopK n.toNat 0 _ _ _ _ V (by omega) (by omega) (fun _ _ => rfl) (fun _ _ => rfl) (fun i a b => absurd b (by omega)))
end
section
/-! the reference: whether two blocks cross -/
def m_c2 (g : Int → Int) (k u v : Int) : Prop := ∃ i j, 0 ≤ i ∧ i < j ∧ j < k ∧ g i = u ∧ g j = v
def m_c3 (g : Int → Int) (k u v : Int) : Prop := ∃ i j l, 0 ≤ i ∧ i < j ∧ j < l ∧ l < k ∧ g i = u ∧ g j = v ∧ g l = u
def m_c4 (g : Int → Int) (k u v : Int) : Prop := ∃ i j l r, 0 ≤ i ∧ i < j ∧ j < l ∧ l < r ∧ r < k ∧ g i = u ∧ g j = v ∧ g l = u ∧ g r = v
/-- so far: the last of the two numbers met was l (o is the other one), the two took turns t times -/
def m_tnS (g : Int → Int) (k l o t : Int) : Prop := 0 ≤ t ∧ (∃ i, 0 ≤ i ∧ i < k ∧ g i = l) ∧ (1 ≤ t → m_c2 g k o l) ∧ (2 ≤ t → m_c3 g k l o) ∧ (3 ≤ t → m_c4 g k o l) ∧ (t ≤ 0 → ∀ i, 0 ≤ i → i < k → g i ≠ o) ∧ (t ≤ 1 → ¬ m_c2 g k l o) ∧ (t ≤ 2 → ¬ m_c3 g k o l)
theorem m_tnS_not {g : Int → Int} {k l o t : Int} (w : m_tnS g k l o t) (h1 : g k ≠ o) : m_tnS g (k + 1) l o t := by
  obtain ⟨t0, u0, u1, u2, u3, d0, d1, d2⟩ := w
  refine ⟨t0, ?_, fun c => ?_, fun c => ?_, fun c => ?_, fun c i a b => ?_, fun c => ?_, fun c => ?_⟩
  · obtain ⟨i, a, b, e⟩ := u0
    exact ⟨i, a, by omega, e⟩
  · obtain ⟨i, j, a, b, e, e2⟩ := u1 c
    exact ⟨i, j, a, b, by omega, e2⟩
  · obtain ⟨i, j, r, a, b, e, f, e2⟩ := u2 c
    exact ⟨i, j, r, a, b, e, by omega, e2⟩
  · obtain ⟨i, j, r, s, a, b, e, f, f2, e2⟩ := u3 c
    exact ⟨i, j, r, s, a, b, e, f, by omega, e2⟩
  · by_cases e : i = k
    · rw [e]; exact h1
    · exact d0 c i a (by omega)
  · rintro ⟨i, j, a, b, e, e2, e3⟩
    by_cases f : j = k
    · rw [f] at e3; exact h1 e3
    · exact d1 c ⟨i, j, a, b, by omega, e2, e3⟩
  · rintro ⟨i, j, r, a, b, e, e2, e3, e4, e5⟩
    by_cases f : r = k
    · rw [f] at e5; exact h1 e5
    · exact d2 c ⟨i, j, r, a, b, e, by omega, e3, e4, e5⟩
theorem m_tnS_turn {g : Int → Int} {k l o t : Int} (w : m_tnS g k l o t) (h0 : 0 ≤ k) (hlo : l ≠ o) (h1 : g k = o) : m_tnS g (k + 1) o l (t + 1) := by
  obtain ⟨t0, u0, u1, u2, u3, d0, d1, d2⟩ := w
  refine ⟨by omega, ⟨k, h0, by omega, h1⟩, fun c => ?_, fun c => ?_, fun c => ?_, fun c => absurd c (by omega), fun c => ?_, fun c => ?_⟩
  · obtain ⟨i, a, b, e⟩ := u0
    exact ⟨i, k, a, b, by omega, e, h1⟩
  · obtain ⟨i, j, a, b, e, e2, e3⟩ := u1 (by omega)
    exact ⟨i, j, k, a, b, e, by omega, e2, e3, h1⟩
  · obtain ⟨i, j, r, a, b, e, f, e2, e3, e4⟩ := u2 (by omega)
    exact ⟨i, j, r, k, a, b, e, f, by omega, e2, e3, e4, h1⟩
  · rintro ⟨i, j, a, b, e, e2, e3⟩
    exact d0 (by omega) i a (by omega) e2
  · rintro ⟨i, j, r, a, b, e, e2, e3, e4, e5⟩
    by_cases f : r = k
    · rw [f, h1] at e5; exact hlo e5.symm
    · exact d1 (by omega) ⟨i, j, a, b, by omega, e3, e4⟩
/-- the two numbers and what came so far -/
def m_tn (g : Int → Int) (k a b l t : Int) : Prop := (l = -1000000 ∧ t = 0 ∧ ∀ i, 0 ≤ i → i < k → g i ≠ a ∧ g i ≠ b) ∨ (l = a ∧ m_tnS g k a b t) ∨ (l = b ∧ m_tnS g k b a t)
/-- blocks a and b of a row cross -/
def m_xg (g : Int → Int) (n a b : Int) : Prop := m_c4 g n a b ∨ m_c4 g n b a
theorem m_tn_not {g : Int → Int} {k a b l t : Int} (w : m_tn g k a b l t) (h1 : g k ≠ a) (h2 : g k ≠ b) : m_tn g (k + 1) a b l t := by
  rcases w with ⟨e, e2, e3⟩ | ⟨e, e2⟩ | ⟨e, e2⟩
  · refine Or.inl ⟨e, e2, fun i c1 c2 => ?_⟩
    by_cases f : i = k
    · rw [f]; exact ⟨h1, h2⟩
    · exact e3 i c1 (by omega)
  · exact Or.inr (Or.inl ⟨e, m_tnS_not e2 h2⟩)
  · exact Or.inr (Or.inr ⟨e, m_tnS_not e2 h1⟩)
theorem m_tnS_one {g : Int → Int} {k l o : Int} (h0 : 0 ≤ k) (hlo : l ≠ o) (h1 : g k = l) (h2 : ∀ i, 0 ≤ i → i < k → g i ≠ l ∧ g i ≠ o) : m_tnS g (k + 1) l o 0 := by
  have h3 : ∀ i, 0 ≤ i → i < k + 1 → g i ≠ o := fun i a b => by
    by_cases e : i = k
    · rw [e, h1]; exact hlo
    · exact (h2 i a (by omega)).2
  refine ⟨by omega, ⟨k, h0, by omega, h1⟩, fun c => absurd c (by omega), fun c => absurd c (by omega), fun c => absurd c (by omega), fun _ => h3, fun _ => ?_, fun _ => ?_⟩
  · rintro ⟨i, j, a, b, e, e2, e3⟩
    exact h3 j (by omega) e e3
  · rintro ⟨i, j, r, a, b, e, e2, e3, e4, e5⟩
    exact h3 i a (by omega) e3
theorem m_tn_new {g : Int → Int} {k a b l t : Int} (w : m_tn g k a b l t) (h0 : 0 ≤ k) (hab : a ≠ b) (ha : a ≠ -1000000) (hb : b ≠ -1000000) (h1 : g k = a ∨ g k = b) (h2 : l = -1000000) : m_tn g (k + 1) a b (g k) t := by
  rcases w with ⟨e, e2, e3⟩ | ⟨e, e2⟩ | ⟨e, e2⟩
  · subst e2
    rcases h1 with h1 | h1
    · exact Or.inr (Or.inl ⟨h1, m_tnS_one h0 hab h1 e3⟩)
    · exact Or.inr (Or.inr ⟨h1, m_tnS_one h0 (Ne.symm hab) h1 (fun i c1 c2 => ⟨(e3 i c1 c2).2, (e3 i c1 c2).1⟩)⟩)
  · exact absurd (e.symm.trans h2) ha
  · exact absurd (e.symm.trans h2) hb
theorem m_tn_same {g : Int → Int} {k a b l t : Int} (w : m_tn g k a b l t) (hab : a ≠ b) (h2 : l ≠ -1000000) (h3 : g k = l) : m_tn g (k + 1) a b (g k) t := by
  rcases w with ⟨e, -, -⟩ | ⟨e, e2⟩ | ⟨e, e2⟩
  · exact absurd e h2
  · exact Or.inr (Or.inl ⟨h3.trans e, m_tnS_not e2 (by rw [h3, e]; exact hab)⟩)
  · exact Or.inr (Or.inr ⟨h3.trans e, m_tnS_not e2 (by rw [h3, e]; exact Ne.symm hab)⟩)
theorem m_tn_turn {g : Int → Int} {k a b l t : Int} (w : m_tn g k a b l t) (h0 : 0 ≤ k) (hab : a ≠ b) (h1 : g k = a ∨ g k = b) (h2 : l ≠ -1000000) (h3 : g k ≠ l) : m_tn g (k + 1) a b (g k) (t + 1) := by
  rcases w with ⟨e, -, -⟩ | ⟨e, e2⟩ | ⟨e, e2⟩
  · exact absurd e h2
  · rcases h1 with h1 | h1
    · exact absurd (h1.trans e.symm) h3
    · exact Or.inr (Or.inr ⟨h1, m_tnS_turn e2 h0 hab h1⟩)
  · rcases h1 with h1 | h1
    · exact Or.inr (Or.inl ⟨h1, m_tnS_turn e2 h0 (Ne.symm hab) h1⟩)
    · exact absurd (h1.trans e.symm) h3
theorem m_tn_yes {g : Int → Int} {k a b l t : Int} (w : m_tn g k a b l t) (h : 2 < t) : m_xg g k a b := by
  rcases w with ⟨-, e, -⟩ | ⟨e, e2⟩ | ⟨e, e2⟩
  · omega
  · exact Or.inr (e2.2.2.2.2.1 (by omega))
  · exact Or.inl (e2.2.2.2.2.1 (by omega))
theorem m_tnS_no {g : Int → Int} {k l o t : Int} (w : m_tnS g k l o t) (h : t ≤ 2) : ¬ m_c4 g k l o ∧ ¬ m_c4 g k o l := by
  refine ⟨?_, ?_⟩
  · rintro ⟨i, j, r, s, a, b, e, f, f2, e2, e3, e4, e5⟩
    exact w.2.2.2.2.2.2.2 h ⟨j, r, s, by omega, e, f, f2, e3, e4, e5⟩
  · rintro ⟨i, j, r, s, a, b, e, f, f2, e2, e3, e4, e5⟩
    exact w.2.2.2.2.2.2.2 h ⟨i, j, r, a, b, e, by omega, e2, e3, e4⟩
theorem m_tn_no {g : Int → Int} {k a b l t : Int} (w : m_tn g k a b l t) (h : t ≤ 2) : ¬ m_xg g k a b := by
  rcases w with ⟨-, -, e⟩ | ⟨e, e2⟩ | ⟨e, e2⟩
  · rintro (⟨i, j, r, s, a1, b1, e1, f1, f2, e2, e3, e4, e5⟩ | ⟨i, j, r, s, a1, b1, e1, f1, f2, e2, e3, e4, e5⟩)
    · exact (e i a1 (by omega)).1 e2
    · exact (e i a1 (by omega)).2 e2
  · rintro (c | c)
    · exact (m_tnS_no e2 h).1 c
    · exact (m_tnS_no e2 h).2 c
  · rintro (c | c)
    · exact (m_tnS_no e2 h).2 c
    · exact (m_tnS_no e2 h).1 c
theorem s_M_crossing {G : am_G} {d : Nat} {sh : Int → Option Nat} {V : am_V} {T : Nat} {Q : Option AV → am_V → am_T → Nat → Prop} {x y n : Int} (hx : 0 ≤ x ∧ x < n) (hy : 0 ≤ y ∧ y < n) (h2 : n ≤ 10) (hr : ∀ i, 0 ≤ i → i < n → 0 ≤ V 93 (20 + i) ∧ V 93 (20 + i) < 1000)
    (hQ0 : V 93 (20 + x) = V 93 (20 + y) → Q (some (vI 0)) V (am_RF sh) T)
    (hQ1 : V 93 (20 + x) ≠ V 93 (20 + y) → m_xg (fun i => V 93 (20 + i)) n (V 93 (20 + x)) (V 93 (20 + y)) → Q (some (vI 1)) V (am_RF sh) T)
    (hQ2 : V 93 (20 + x) ≠ V 93 (20 + y) → ¬ m_xg (fun i => V 93 (20 + i)) n (V 93 (20 + x)) (V 93 (20 + y)) → Q (some (vI 0)) V (am_RF sh) T) : am_Calls G (d + 1) 95 [vR 86, vI x, vI y, vI n] V (am_RF sh) T Q := by
  refine am_enter mt_M_crossing ok_M_crossing rfl ?_
  have rx := hr x hx.1 hx.2
  have ry := hr y hy.1 hy.2
  have loop : ∀ (j : Nat) (k l t : Int) (x9 : Option AV), 0 ≤ k → k + j = n → 0 ≤ t → t ≤ k → am_in32 l → V 93 (20 + x) ≠ V 93 (20 + y) → m_tn (fun i => V 93 (20 + i)) k (V 93 (20 + x)) (V 93 (20 + y)) l t → am_Sem G d 95 V T Q 41 [some (vR 86), some (vI x), some (vI y), some (vI n), some (vI (V 93 (20 + x))), some (vI (V 93 (20 + y))), some (vI l), some (vI t), some (vI k), x9] [] V (am_RF sh) T 0 0 := by
    intro j
    induction j with
    | zero =>
      intro k l t x9 hk hkn ht htk hl hne w
      rw [show k = n by omega] at w
      refine am_run 400 mt_M_crossing ok_M_crossing (fun K S hK hS => ?_)
      iterate 30 (all_goals (first
        | (refine And.intro (by omega) ?_)
        | (refine And.intro (fun hb => absurd hb (by omega)) (fun hb => ?_))
        | (refine And.intro (fun hb => ?_) (fun hb => absurd hb (by omega)))
        | (refine And.intro (fun hb => ?_) (fun hb => ?_))
        | (intro hb)
        | (conv => whnf)))
      all_goals first
        | exact hQ2 hne (m_tn_no w (by omega))
        | exact hQ1 hne (m_tn_yes w (by omega))
    | succ j ih =>
      intro k l t x9 hk hkn ht htk hl hne w
      have rk := hr k hk (by omega)
      have hl2 : -2147483648 ≤ l ∧ l ≤ 2147483647 := hl
      refine am_run 400 mt_M_crossing ok_M_crossing (fun K S hK hS => ?_)
      iterate 30 (all_goals (first
        | (refine And.intro (by omega) ?_)
        | (refine And.intro (hl) ?_)
        | (refine And.intro (fun hb => absurd hb (by omega)) (fun hb => ?_))
        | (refine And.intro (fun hb => ?_) (fun hb => absurd hb (by omega)))
        | (refine And.intro (fun hb => ?_) (fun hb => ?_))
        | (intro hb)
        | (conv => whnf)))
      all_goals (try rw [Int.add_zero t])
      all_goals first
        | exact hS (ih (k + 1) _ _ _ (by omega) (by omega) (by omega) (by omega) hl hne (m_tn_not w (by assumption) (by assumption)))
        | exact hS (ih (k + 1) _ _ _ (by omega) (by omega) (by omega) (by omega) (by constructor <;> omega) hne (m_tn_new w hk hne (by omega) (by omega) (by omega) (by assumption)))
        | exact hS (ih (k + 1) _ _ _ (by omega) (by omega) (by omega) (by omega) (by constructor <;> omega) hne (m_tn_same w hne (by assumption) (by assumption)))
        | exact hS (ih (k + 1) _ _ _ (by omega) (by omega) (by omega) (by omega) (by constructor <;> omega) hne (m_tn_turn w hk hne (by omega) (by assumption) (by assumption)))
  refine am_run 400 mt_M_crossing ok_M_crossing (fun K S hK hS => ?_)
  iterate 30 (all_goals (first
    | (refine And.intro (by omega) ?_)
    | (refine And.intro (fun hb => absurd hb (by omega)) (fun hb => ?_))
    | (refine And.intro (fun hb => ?_) (fun hb => absurd hb (by omega)))
    | (refine And.intro (fun hb => ?_) (fun hb => ?_))
    | (intro hb)
    | (conv => whnf)))
  all_goals first
    | exact hQ0 (by assumption)
    | exact hS (loop n.toNat 0 _ 0 _ (by omega) (by omega) (by omega) (by omega) (by constructor <;> omega) (by assumption) (Or.inl ⟨rfl, rfl, fun i a b => absurd b (by omega)⟩))
end
section
/-! the class: small methods -/
theorem s_F_noSheet {G : am_G} {d : Nat} {V : am_V} {R : am_T} {T : Nat} {Q : Option AV → am_V → am_T → Nat → Prop} {a : Int} (h0 : am_in32 a) (hQ : ∀ r, (r = 0 ∧ 0 ≤ a ∧ a < 8) ∨ (r = 1 ∧ ¬ (0 ≤ a ∧ a < 8)) → Q (some (vI r)) V R T) : am_Calls G (d + 1) 30 [vI a] V R T Q := by
  refine am_enter mt_F_noSheet ok_F_noSheet rfl ?_
  refine am_run 400 mt_F_noSheet ok_F_noSheet (fun K S hK hS => ?_)
  iterate 30 (all_goals (first
    | (refine And.intro (by omega) ?_)
    | (refine And.intro (fun hb => absurd hb (by omega)) (fun hb => ?_))
    | (refine And.intro (fun hb => ?_) (fun hb => absurd hb (by omega)))
    | (refine And.intro (fun hb => ?_) (fun hb => ?_))
    | (intro hb)
    | (conv => whnf)))
  all_goals exact hQ _ (by omega)
theorem s_F_noPlace {G : am_G} {d : Nat} {V : am_V} {R : am_T} {T : Nat} {Q : Option AV → am_V → am_T → Nat → Prop} {a : Int} (h0 : am_in32 a) (hQ : ∀ r, (r = 0 ∧ 0 ≤ a ∧ a < 10) ∨ (r = 1 ∧ ¬ (0 ≤ a ∧ a < 10)) → Q (some (vI r)) V R T) : am_Calls G (d + 1) 31 [vI a] V R T Q := by
  refine am_enter mt_F_noPlace ok_F_noPlace rfl ?_
  refine am_run 400 mt_F_noPlace ok_F_noPlace (fun K S hK hS => ?_)
  iterate 30 (all_goals (first
    | (refine And.intro (by omega) ?_)
    | (refine And.intro (fun hb => absurd hb (by omega)) (fun hb => ?_))
    | (refine And.intro (fun hb => ?_) (fun hb => absurd hb (by omega)))
    | (refine And.intro (fun hb => ?_) (fun hb => ?_))
    | (intro hb)
    | (conv => whnf)))
  all_goals exact hQ _ (by omega)
theorem s_F_noSeries {G : am_G} {d : Nat} {V : am_V} {R : am_T} {T : Nat} {Q : Option AV → am_V → am_T → Nat → Prop} {a : Int} (h0 : am_in32 a) (hQ : ∀ r, (r = 0 ∧ 0 ≤ a ∧ a < 8) ∨ (r = 1 ∧ ¬ (0 ≤ a ∧ a < 8)) → Q (some (vI r)) V R T) : am_Calls G (d + 1) 32 [vI a] V R T Q := by
  refine am_enter mt_F_noSeries ok_F_noSeries rfl ?_
  refine am_run 400 mt_F_noSeries ok_F_noSeries (fun K S hK hS => ?_)
  iterate 30 (all_goals (first
    | (refine And.intro (by omega) ?_)
    | (refine And.intro (fun hb => absurd hb (by omega)) (fun hb => ?_))
    | (refine And.intro (fun hb => ?_) (fun hb => absurd hb (by omega)))
    | (refine And.intro (fun hb => ?_) (fun hb => ?_))
    | (intro hb)
    | (conv => whnf)))
  all_goals exact hQ _ (by omega)
theorem s_F_noSort {G : am_G} {d : Nat} {V : am_V} {R : am_T} {T : Nat} {Q : Option AV → am_V → am_T → Nat → Prop} {a : Int} (h0 : am_in32 a) (hQ : ∀ r, (r = 0 ∧ (a = -1000000 ∨ (0 ≤ a ∧ a ≤ 2))) ∨ (r = 1 ∧ ¬ (a = -1000000 ∨ (0 ≤ a ∧ a ≤ 2))) → Q (some (vI r)) V R T) : am_Calls G (d + 1) 33 [vI a] V R T Q := by
  refine am_enter mt_F_noSort ok_F_noSort rfl ?_
  refine am_run 400 mt_F_noSort ok_F_noSort (fun K S hK hS => ?_)
  iterate 30 (all_goals (first
    | (refine And.intro (by omega) ?_)
    | (refine And.intro (fun hb => absurd hb (by omega)) (fun hb => ?_))
    | (refine And.intro (fun hb => ?_) (fun hb => absurd hb (by omega)))
    | (refine And.intro (fun hb => ?_) (fun hb => ?_))
    | (intro hb)
    | (conv => whnf)))
  all_goals exact hQ _ (by omega)
theorem s_F_noPairs {G : am_G} {d : Nat} {V : am_V} {R : am_T} {T : Nat} {Q : Option AV → am_V → am_T → Nat → Prop} {a : Int} (h0 : am_in32 a) (hQ : ∀ r, (r = 0 ∧ 1 ≤ a ∧ a ≤ 10) ∨ (r = 1 ∧ ¬ (1 ≤ a ∧ a ≤ 10)) → Q (some (vI r)) V R T) : am_Calls G (d + 1) 34 [vI a] V R T Q := by
  refine am_enter mt_F_noPairs ok_F_noPairs rfl ?_
  refine am_run 400 mt_F_noPairs ok_F_noPairs (fun K S hK hS => ?_)
  iterate 30 (all_goals (first
    | (refine And.intro (by omega) ?_)
    | (refine And.intro (fun hb => absurd hb (by omega)) (fun hb => ?_))
    | (refine And.intro (fun hb => ?_) (fun hb => absurd hb (by omega)))
    | (refine And.intro (fun hb => ?_) (fun hb => ?_))
    | (intro hb)
    | (conv => whnf)))
  all_goals exact hQ _ (by omega)
theorem s_F_noRun {G : am_G} {d : Nat} {sh : Int → Option Nat} {V : am_V} {T : Nat} {Q : Option AV → am_V → am_T → Nat → Prop} {s i n : Int} (hs : 0 ≤ s ∧ s < 8) (h1 : am_in32 i) (h2 : am_in32 n) (h3 : 0 ≤ V 14 s ∧ V 14 s ≤ 40) (hQ : ∀ r, (r = 0 ∧ 0 ≤ i ∧ 0 ≤ n ∧ i + n ≤ V 14 s) ∨ (r = 1 ∧ ¬ (0 ≤ i ∧ 0 ≤ n ∧ i + n ≤ V 14 s)) → Q (some (vI r)) V (am_RF sh) T) : am_Calls G (d + 1) 35 [vR 3, vI s, vI i, vI n] V (am_RF sh) T Q := by
  refine am_enter mt_F_noRun ok_F_noRun rfl ?_
  refine am_run 400 mt_F_noRun ok_F_noRun (fun K S hK hS => ?_)
  iterate 30 (all_goals (first
    | (refine And.intro (by omega) ?_)
    | (refine And.intro (fun hb => absurd hb (by omega)) (fun hb => ?_))
    | (refine And.intro (fun hb => ?_) (fun hb => absurd hb (by omega)))
    | (refine And.intro (fun hb => ?_) (fun hb => ?_))
    | (intro hb)
    | (conv => whnf)))
  all_goals exact hQ _ (by omega)
theorem s_F_finding {G : am_G} {d : Nat} {V : am_V} {R : am_T} {T : Nat} {Q : Option AV → am_V → am_T → Nat → Prop} {a : Int} (hQ : Q (some (vI (-1000010 - a))) (am_up V 3 17 a) R T) : am_Calls G (d + 1) 36 [vR 3, vI a] V R T Q := by
  refine am_enter mt_F_finding ok_F_finding rfl ?_
  refine am_run 400 mt_F_finding ok_F_finding (fun K S hK hS => ?_)
  iterate 30 (all_goals (first
    | (refine And.intro (by omega) ?_)
    | (refine And.intro (fun hb => absurd hb (by omega)) (fun hb => ?_))
    | (refine And.intro (fun hb => ?_) (fun hb => absurd hb (by omega)))
    | (refine And.intro (fun hb => ?_) (fun hb => ?_))
    | (intro hb)
    | (conv => whnf)))
  exact hQ
theorem s_F_fine {G : am_G} {d : Nat} {V : am_V} {R : am_T} {T : Nat} {Q : Option AV → am_V → am_T → Nat → Prop} {a : Int} (hQ : Q (some (vI a)) (am_up V 3 17 0) R T) : am_Calls G (d + 1) 37 [vR 3, vI a] V R T Q := by
  refine am_enter mt_F_fine ok_F_fine rfl ?_
  refine am_run 400 mt_F_fine ok_F_fine (fun K S hK hS => ?_)
  iterate 30 (all_goals (first
    | (refine And.intro (by omega) ?_)
    | (refine And.intro (fun hb => absurd hb (by omega)) (fun hb => ?_))
    | (refine And.intro (fun hb => ?_) (fun hb => absurd hb (by omega)))
    | (refine And.intro (fun hb => ?_) (fun hb => ?_))
    | (intro hb)
    | (conv => whnf)))
  exact hQ
/-- the lowest bits of a number, by the lane -/
def m_low (l v : Int) : Int := if l = 0 then Int.bmod (Int.bmod v 4294967296) 256 else if l = 1 then Int.bmod v 4294967296 else v
theorem m_bm32 (v : Int) : am_in32 (Int.bmod v 4294967296) := by
  have h1 := Int.le_bmod (x := v) (m := 4294967296) (by decide)
  have h2 := Int.bmod_lt (x := v) (m := 4294967296) (by decide)
  constructor <;> omega
theorem m_bm8 (v : Int) : am_in32 (Int.bmod v 256) := by
  have h1 := Int.le_bmod (x := v) (m := 256) (by decide)
  have h2 := Int.bmod_lt (x := v) (m := 256) (by decide)
  constructor <;> omega
theorem m_low_in {l v : Int} (h : am_in64 v) : am_in64 (m_low l v) := by
  unfold m_low
  have h1 := m_bm32 v
  have h2 := m_bm8 (Int.bmod v 4294967296)
  split
  · constructor <;> omega
  · split
    · constructor <;> omega
    · exact h
theorem s_F_lowestBits {G : am_G} {d : Nat} {V : am_V} {R : am_T} {T : Nat} {Q : Option AV → am_V → am_T → Nat → Prop} {l v : Int} (h0 : am_in32 l) (hQ : Q (some (vJ (m_low l v))) V R T) : am_Calls G (d + 1) 38 [vI l, vJ v] V R T Q := by
  refine am_enter mt_F_lowestBits ok_F_lowestBits rfl ?_
  have b32 := m_bm32 v
  have b8 := m_bm8 (Int.bmod v 4294967296)
  refine am_run 400 mt_F_lowestBits ok_F_lowestBits (fun K S hK hS => ?_)
  iterate 30 (all_goals (first
    | (refine And.intro (by omega) ?_)
    | (refine And.intro (b32) ?_)
    | (refine And.intro (b8) ?_)
    | (refine And.intro (fun hb => absurd hb (by omega)) (fun hb => ?_))
    | (refine And.intro (fun hb => ?_) (fun hb => absurd hb (by omega)))
    | (refine And.intro (fun hb => ?_) (fun hb => ?_))
    | (intro hb)
    | (conv => whnf)))
  · rw [m_low, if_neg (by assumption), if_neg (by assumption)] at hQ
    exact hQ
  · rw [m_low, if_neg (by omega), if_pos (by assumption)] at hQ
    exact hQ
  · rw [m_low, if_pos (by assumption)] at hQ
    exact hQ
theorem s_JA_fillI14 {G : am_G} {d : Nat} {V : am_V} {R : am_T} {T : Nat} {Q : Option AV → am_V → am_T → Nat → Prop} {v : Int} (hQ : ∀ V', (∀ a, a ≠ 14 → V' a = V a) → (∀ j : Int, 0 ≤ j → j < 8 → V' 14 j = v) → (∀ j : Int, ¬ (0 ≤ j ∧ j < 8) → V' 14 j = V 14 j) → Q none V' R T) : am_Calls G (d + 1) 169 [vR 14, vI v] V R T Q := by
  refine am_enter mt_JA_fillI ok_JA_fillI rfl ?_
  have loop : ∀ (j : Nat) (k : Int) (W : am_V), 0 ≤ k → k ≤ 8 → 8 - k < j → (∀ a, a ≠ 14 → W a = V a) → (∀ j, 0 ≤ j → j < k → W 14 j = v) → (∀ j, ¬ (0 ≤ j ∧ j < k) → W 14 j = V 14 j) → am_Sem G d 169 V T Q 5 [some (vR 14), some (vI v), some (vI k), some (vI 8)] [] W R T 0 0 := by
    intro j
    induction j with
    | zero => intro k W h0 h1 h2; omega
    | succ j ih =>
      intro k W h0 h1 h2 w1 w2 w3
      by_cases hk : k = 8
      · subst hk
        refine am_run 400 mt_JA_fillI ok_JA_fillI (fun K S hK hS => ?_)
        iterate 30 (all_goals (first
          | (refine And.intro (by omega) ?_)
          | (refine And.intro (fun hb => absurd hb (by omega)) (fun hb => ?_))
          | (refine And.intro (fun hb => ?_) (fun hb => absurd hb (by omega)))
          | (refine And.intro (fun hb => ?_) (fun hb => ?_))
          | (intro hb)
          | (conv => whnf)))
        exact hQ W w1 w2 w3
      · refine am_run 400 mt_JA_fillI ok_JA_fillI (fun K S hK hS => ?_)
        iterate 30 (all_goals (first
          | (refine And.intro (by omega) ?_)
          | (refine And.intro (fun hb => absurd hb (by omega)) (fun hb => ?_))
          | (refine And.intro (fun hb => ?_) (fun hb => absurd hb (by omega)))
          | (refine And.intro (fun hb => ?_) (fun hb => ?_))
          | (intro hb)
          | (conv => whnf)))
        refine hS (ih (k + 1) _ (by omega) (by omega) (by omega) (fun a ha => by rw [am_up_ne ha, w1 a ha]) (fun i a b => ?_) (fun i a => by rw [am_up_at, if_neg (by omega), w3 i (by omega)]))
        rw [am_up_at]
        by_cases e : i = k
        · rw [if_pos e]
        · rw [if_neg e, w2 i a (by omega)]
  refine am_run 400 mt_JA_fillI ok_JA_fillI (fun K S hK hS => ?_)
  iterate 30 (all_goals (first
    | (refine And.intro (by omega) ?_)
    | (refine And.intro (fun hb => absurd hb (by omega)) (fun hb => ?_))
    | (refine And.intro (fun hb => ?_) (fun hb => absurd hb (by omega)))
    | (refine And.intro (fun hb => ?_) (fun hb => ?_))
    | (intro hb)
    | (conv => whnf)))
  exact hS (loop (8 + 1) 0 V (by omega) (by omega) (by omega) (fun _ _ => rfl) (fun j a b => absurd b (by omega)) (fun _ _ => rfl))
theorem s_JA_fillI41 {G : am_G} {d : Nat} {V : am_V} {R : am_T} {T : Nat} {Q : Option AV → am_V → am_T → Nat → Prop} {v : Int} (hQ : ∀ V', (∀ a, a ≠ 41 → V' a = V a) → (∀ j : Int, 0 ≤ j → j < 8 → V' 41 j = v) → (∀ j : Int, ¬ (0 ≤ j ∧ j < 8) → V' 41 j = V 41 j) → Q none V' R T) : am_Calls G (d + 1) 169 [vR 41, vI v] V R T Q := by
  refine am_enter mt_JA_fillI ok_JA_fillI rfl ?_
  have loop : ∀ (j : Nat) (k : Int) (W : am_V), 0 ≤ k → k ≤ 8 → 8 - k < j → (∀ a, a ≠ 41 → W a = V a) → (∀ j, 0 ≤ j → j < k → W 41 j = v) → (∀ j, ¬ (0 ≤ j ∧ j < k) → W 41 j = V 41 j) → am_Sem G d 169 V T Q 5 [some (vR 41), some (vI v), some (vI k), some (vI 8)] [] W R T 0 0 := by
    intro j
    induction j with
    | zero => intro k W h0 h1 h2; omega
    | succ j ih =>
      intro k W h0 h1 h2 w1 w2 w3
      by_cases hk : k = 8
      · subst hk
        refine am_run 400 mt_JA_fillI ok_JA_fillI (fun K S hK hS => ?_)
        iterate 30 (all_goals (first
          | (refine And.intro (by omega) ?_)
          | (refine And.intro (fun hb => absurd hb (by omega)) (fun hb => ?_))
          | (refine And.intro (fun hb => ?_) (fun hb => absurd hb (by omega)))
          | (refine And.intro (fun hb => ?_) (fun hb => ?_))
          | (intro hb)
          | (conv => whnf)))
        exact hQ W w1 w2 w3
      · refine am_run 400 mt_JA_fillI ok_JA_fillI (fun K S hK hS => ?_)
        iterate 30 (all_goals (first
          | (refine And.intro (by omega) ?_)
          | (refine And.intro (fun hb => absurd hb (by omega)) (fun hb => ?_))
          | (refine And.intro (fun hb => ?_) (fun hb => absurd hb (by omega)))
          | (refine And.intro (fun hb => ?_) (fun hb => ?_))
          | (intro hb)
          | (conv => whnf)))
        refine hS (ih (k + 1) _ (by omega) (by omega) (by omega) (fun a ha => by rw [am_up_ne ha, w1 a ha]) (fun i a b => ?_) (fun i a => by rw [am_up_at, if_neg (by omega), w3 i (by omega)]))
        rw [am_up_at]
        by_cases e : i = k
        · rw [if_pos e]
        · rw [if_neg e, w2 i a (by omega)]
  refine am_run 400 mt_JA_fillI ok_JA_fillI (fun K S hK hS => ?_)
  iterate 30 (all_goals (first
    | (refine And.intro (by omega) ?_)
    | (refine And.intro (fun hb => absurd hb (by omega)) (fun hb => ?_))
    | (refine And.intro (fun hb => ?_) (fun hb => absurd hb (by omega)))
    | (refine And.intro (fun hb => ?_) (fun hb => ?_))
    | (intro hb)
    | (conv => whnf)))
  exact hS (loop (8 + 1) 0 V (by omega) (by omega) (by omega) (fun _ _ => rfl) (fun j a b => absurd b (by omega)) (fun _ _ => rfl))
theorem s_JA_fillI30 {G : am_G} {d : Nat} {V : am_V} {R : am_T} {T : Nat} {Q : Option AV → am_V → am_T → Nat → Prop} {v : Int} (hQ : ∀ V', (∀ a, a ≠ 30 → V' a = V a) → (∀ j : Int, 0 ≤ j → j < 10 → V' 30 j = v) → (∀ j : Int, ¬ (0 ≤ j ∧ j < 10) → V' 30 j = V 30 j) → Q none V' R T) : am_Calls G (d + 1) 169 [vR 30, vI v] V R T Q := by
  refine am_enter mt_JA_fillI ok_JA_fillI rfl ?_
  have loop : ∀ (j : Nat) (k : Int) (W : am_V), 0 ≤ k → k ≤ 10 → 10 - k < j → (∀ a, a ≠ 30 → W a = V a) → (∀ j, 0 ≤ j → j < k → W 30 j = v) → (∀ j, ¬ (0 ≤ j ∧ j < k) → W 30 j = V 30 j) → am_Sem G d 169 V T Q 5 [some (vR 30), some (vI v), some (vI k), some (vI 10)] [] W R T 0 0 := by
    intro j
    induction j with
    | zero => intro k W h0 h1 h2; omega
    | succ j ih =>
      intro k W h0 h1 h2 w1 w2 w3
      by_cases hk : k = 10
      · subst hk
        refine am_run 400 mt_JA_fillI ok_JA_fillI (fun K S hK hS => ?_)
        iterate 30 (all_goals (first
          | (refine And.intro (by omega) ?_)
          | (refine And.intro (fun hb => absurd hb (by omega)) (fun hb => ?_))
          | (refine And.intro (fun hb => ?_) (fun hb => absurd hb (by omega)))
          | (refine And.intro (fun hb => ?_) (fun hb => ?_))
          | (intro hb)
          | (conv => whnf)))
        exact hQ W w1 w2 w3
      · refine am_run 400 mt_JA_fillI ok_JA_fillI (fun K S hK hS => ?_)
        iterate 30 (all_goals (first
          | (refine And.intro (by omega) ?_)
          | (refine And.intro (fun hb => absurd hb (by omega)) (fun hb => ?_))
          | (refine And.intro (fun hb => ?_) (fun hb => absurd hb (by omega)))
          | (refine And.intro (fun hb => ?_) (fun hb => ?_))
          | (intro hb)
          | (conv => whnf)))
        refine hS (ih (k + 1) _ (by omega) (by omega) (by omega) (fun a ha => by rw [am_up_ne ha, w1 a ha]) (fun i a b => ?_) (fun i a => by rw [am_up_at, if_neg (by omega), w3 i (by omega)]))
        rw [am_up_at]
        by_cases e : i = k
        · rw [if_pos e]
        · rw [if_neg e, w2 i a (by omega)]
  refine am_run 400 mt_JA_fillI ok_JA_fillI (fun K S hK hS => ?_)
  iterate 30 (all_goals (first
    | (refine And.intro (by omega) ?_)
    | (refine And.intro (fun hb => absurd hb (by omega)) (fun hb => ?_))
    | (refine And.intro (fun hb => ?_) (fun hb => absurd hb (by omega)))
    | (refine And.intro (fun hb => ?_) (fun hb => ?_))
    | (intro hb)
    | (conv => whnf)))
  exact hS (loop (10 + 1) 0 V (by omega) (by omega) (by omega) (fun _ _ => rfl) (fun j a b => absurd b (by omega)) (fun _ _ => rfl))
theorem s_JA_fillJrow {G : am_G} {d : Nat} {V : am_V} {R : am_T} {T : Nat} {Q : Option AV → am_V → am_T → Nat → Prop} {s v : Int} (hs : 0 ≤ s ∧ s < 8) (hQ : ∀ V', (∀ a, a ≠ 4 → V' a = V a) → (∀ j, 0 ≤ j → j < 40 → V' 4 (64 * s + j) = v) → (∀ j, ¬ (64 * s ≤ j ∧ j < 64 * s + 40) → V' 4 j = V 4 j) → Q none V' R T) : am_Calls G (d + 1) 170 [vW 4 s, vJ v] V R T Q := by
  refine am_enter mt_JA_fillJ ok_JA_fillJ rfl ?_
  have loop : ∀ (j : Nat) (k : Int) (W : am_V), 0 ≤ k → k ≤ 40 → 40 - k < j → (∀ a, a ≠ 4 → W a = V a) → (∀ j, 0 ≤ j → j < k → W 4 (64 * s + j) = v) → (∀ j, ¬ (64 * s ≤ j ∧ j < 64 * s + k) → W 4 j = V 4 j) → am_Sem G d 170 V T Q 6 [some (vW 4 s), some (vJ v), none, some (vI k), some (vI 40)] [] W R T 0 0 := by
    intro j
    induction j with
    | zero => intro k W h0 h1 h2; omega
    | succ j ih =>
      intro k W h0 h1 h2 w1 w2 w3
      refine am_run 400 mt_JA_fillJ ok_JA_fillJ (fun K S hK hS => ?_)
      iterate 30 (all_goals (first
        | (refine And.intro (by omega) ?_)
        | (refine And.intro (fun hb => absurd hb (by omega)) (fun hb => ?_))
        | (refine And.intro (fun hb => ?_) (fun hb => absurd hb (by omega)))
        | (refine And.intro (fun hb => ?_) (fun hb => ?_))
        | (intro hb)
        | (conv => whnf)))
      · rw [show k = 40 by omega] at w2 w3
        exact hQ W w1 w2 w3
      · refine hS (ih (k + 1) _ (by omega) (by omega) (by omega) (fun a ha => by rw [am_up_ne ha, w1 a ha]) (fun i a b => ?_) (fun i a => by rw [am_up_at, if_neg (by omega), w3 i (by omega)]))
        rw [am_up_at]
        by_cases e : i = k
        · rw [if_pos (by omega)]
        · rw [if_neg (by omega), w2 i a (by omega)]
  refine am_run 400 mt_JA_fillJ ok_JA_fillJ (fun K S hK hS => ?_)
  iterate 30 (all_goals (first
    | (refine And.intro (by omega) ?_)
    | (refine And.intro (fun hb => absurd hb (by omega)) (fun hb => ?_))
    | (refine And.intro (fun hb => ?_) (fun hb => absurd hb (by omega)))
    | (refine And.intro (fun hb => ?_) (fun hb => ?_))
    | (intro hb)
    | (conv => whnf)))
  exact hS (loop 41 0 V (by omega) (by omega) (by omega) (fun _ _ => rfl) (fun j a b => absurd b (by omega)) (fun _ _ => rfl))
theorem s_JA_fillJ62 {G : am_G} {d : Nat} {V : am_V} {R : am_T} {T : Nat} {Q : Option AV → am_V → am_T → Nat → Prop} {v : Int} (hQ : ∀ V', (∀ a, a ≠ 62 → V' a = V a) → (∀ j, 0 ≤ j → j < 14 → V' 62 j = v) → Q none V' R T) : am_Calls G (d + 1) 170 [vR 62, vJ v] V R T Q := by
  refine am_enter mt_JA_fillJ ok_JA_fillJ rfl ?_
  have loop : ∀ (j : Nat) (k : Int) (W : am_V), 0 ≤ k → k ≤ 14 → 14 - k < j → (∀ a, a ≠ 62 → W a = V a) → (∀ j, 0 ≤ j → j < k → W 62 j = v) → am_Sem G d 170 V T Q 6 [some (vR 62), some (vJ v), none, some (vI k), some (vI 14)] [] W R T 0 0 := by
    intro j
    induction j with
    | zero => intro k W h0 h1 h2; omega
    | succ j ih =>
      intro k W h0 h1 h2 w1 w2
      refine am_run 400 mt_JA_fillJ ok_JA_fillJ (fun K S hK hS => ?_)
      iterate 30 (all_goals (first
        | (refine And.intro (by omega) ?_)
        | (refine And.intro (fun hb => absurd hb (by omega)) (fun hb => ?_))
        | (refine And.intro (fun hb => ?_) (fun hb => absurd hb (by omega)))
        | (refine And.intro (fun hb => ?_) (fun hb => ?_))
        | (intro hb)
        | (conv => whnf)))
      · rw [show k = 14 by omega] at w2
        exact hQ W w1 w2
      · refine hS (ih (k + 1) _ (by omega) (by omega) (by omega) (fun a ha => by rw [am_up_ne ha, w1 a ha]) (fun i a b => ?_))
        rw [am_up_at]
        by_cases e : i = k
        · rw [if_pos (by omega)]
        · rw [if_neg (by omega), w2 i a (by omega)]
  refine am_run 400 mt_JA_fillJ ok_JA_fillJ (fun K S hK hS => ?_)
  iterate 30 (all_goals (first
    | (refine And.intro (by omega) ?_)
    | (refine And.intro (fun hb => absurd hb (by omega)) (fun hb => ?_))
    | (refine And.intro (fun hb => ?_) (fun hb => absurd hb (by omega)))
    | (refine And.intro (fun hb => ?_) (fun hb => ?_))
    | (intro hb)
    | (conv => whnf)))
  exact hS (loop 15 0 V (by omega) (by omega) (by omega) (fun _ _ => rfl) (fun j a b => absurd b (by omega)))
end
section
/-! the class: Things -/
def th_pl (a : Nat) : Prop := 107 ≤ a ∧ (a - 107) % 2 = 0
theorem th_lay {a : Nat} (h : th_pl a) : am_lay a = (13, 5, 0, 0) := by
  unfold am_lay
  rw [show Nat.ble 107 a = true from Nat.ble_eq_true_of_le h.1, h.2]
theorem th_lay1 {a : Nat} (h : th_pl a) : am_lay (a + 1) = (0, 10, 0, 0) := by
  have h0 := h.1
  have h1 := h.2
  unfold am_lay
  rw [show Nat.ble 107 (a + 1) = true from Nat.ble_eq_true_of_le (by omega), show (a + 1 - 107) % 2 = 1 by omega]
theorem th_b15 {a : Nat} (h : 107 ≤ a) : Nat.beq a 15 = false := by
  cases e : Nat.beq a 15 with
  | false => rfl
  | true => have := Nat.eq_of_beq_eq_true e; omega
theorem th_RFk {sh : Int → Option Nat} {a : Nat} (h : th_pl a) (k : Int) : am_RF sh a k = if k = 2 then some (a + 1) else none := by
  unfold am_RF
  rw [th_b15 h.1, show Nat.ble 107 a = true from Nat.ble_eq_true_of_le h.1, h.2]
  show (match k with | 2 => some (a + 1) | _ => none) = _
  split
  · rfl
  · rename_i q
    rw [if_neg q]
theorem th_RF {sh : Int → Option Nat} {a : Nat} (h : th_pl a) : am_RF sh a 2 = some (a + 1) := by rw [th_RFk h, if_pos rfl]
theorem th_RF1 {sh : Int → Option Nat} {a : Nat} (h : th_pl a) (k : Int) : am_RF sh (a + 1) k = none := by
  have h0 := h.1
  have h1 := h.2
  unfold am_RF
  rw [th_b15 (by omega), show Nat.ble 107 (a + 1) = true from Nat.ble_eq_true_of_le (by omega), show (a + 1 - 107) % 2 = 1 by omega]
theorem th_RFnew {sh : Int → Option Nat} {a : Nat} (h : th_pl a) : am_upR (am_zeroR (am_zeroR (am_RF sh) a) (a + 1)) a 2 (some (a + 1)) = am_RF sh := by
  funext b k
  by_cases e : b = a
  · subst e
    rw [am_upR_at, th_RFk h]
    by_cases e2 : k = 2
    · rw [if_pos e2, if_pos e2]
    · rw [if_neg e2, if_neg e2, am_zeroR_ne (by omega)]
      unfold am_zeroR
      rw [if_pos rfl]
  · rw [am_upR_ne e]
    by_cases e2 : b = a + 1
    · subst e2
      rw [th_RF1 h]
      unfold am_zeroR
      rw [if_pos rfl]
    · rw [am_zeroR_ne e2, am_zeroR_ne e]
theorem am_up_same {V : am_V} {a : Nat} {k x : Int} : am_up V a k x a k = x := by rw [am_up_at, if_pos rfl]
theorem th_ble {a : Nat} (h : th_pl a) : Nat.ble 107 a = true := Nat.ble_eq_true_of_le h.1
theorem th_beq {a : Nat} (h : th_pl a) : Nat.beq ((a - 107) % 2) 0 = true := by rw [h.2]; rfl
theorem th_ble1 {a : Nat} (h : th_pl a) : Nat.ble 107 (a + 1) = true := Nat.ble_eq_true_of_le (by have := h.1; omega)
theorem th_beq1 {a : Nat} (h : th_pl a) : Nat.beq ((a + 1 - 107) % 2) 0 = false := by
  have h0 := h.1
  have h1 := h.2
  rw [show (a + 1 - 107) % 2 = 1 by omega]; rfl
theorem th_ble3 {a : Nat} (h : th_pl a) : Nat.ble 3 (a + 1) = true := Nat.ble_eq_true_of_le (by have := h.1; omega)
theorem am_if_mk {b : Bool} {P : Prop} (h : b = true) (q : P) : am_if b P := by rw [h]; exact q
theorem th_isr {a : Nat} (h : th_pl a) (r : List AV) : am_isr 3 (vR a :: r) = true := by
  show Nat.beq (am_lay a).1 13 = true
  rw [th_lay h]
  rfl
/-- the row of a Thing -/
def th_pc (c : Nat) : Prop := 108 ≤ c ∧ th_pl (c - 1)
theorem th_pc_of {a : Nat} (h : th_pl a) : th_pc (a + 1) := ⟨by have := h.1; omega, h⟩
theorem th_pc0 {c : Nat} (h : th_pc c) : 108 ≤ c := h.1
theorem th_pclay {c : Nat} (h : th_pc c) : am_lay c = (0, 10, 0, 0) := by have := th_lay1 h.2; rwa [Nat.sub_add_cancel (by have := h.1; omega)] at this
theorem th_pcble {c : Nat} (h : th_pc c) : Nat.ble 107 c = true := Nat.ble_eq_true_of_le (by have := h.1; omega)
theorem th_pcbeq {c : Nat} (h : th_pc c) : Nat.beq ((c - 107) % 2) 0 = false := by have := th_beq1 h.2; rwa [Nat.sub_add_cancel (by have := h.1; omega)] at this
theorem th_pcz {c : Nat} (h : th_pc c) : Nat.beq c 0 = false := by
  have := h.1
  cases e : Nat.beq c 0 with
  | false => rfl
  | true => have := Nat.eq_of_beq_eq_true e; omega
theorem th_pc3 {c : Nat} (h : th_pc c) : Nat.ble 3 c = true := Nat.ble_eq_true_of_le (by have := h.1; omega)
theorem m_cg_le (g : Int → Int) (b : Int) : ∀ n : Nat, 0 ≤ m_cg g b n ∧ m_cg g b n ≤ n
  | 0 => ⟨Int.le_refl _, Int.le_refl _⟩
  | n + 1 => by
    have := m_cg_le g b n
    unfold m_cg
    split <;> omega
theorem m_cg_eq {g h : Int → Int} {b : Int} : ∀ n : Nat, (∀ i : Int, 0 ≤ i → i < n → g i = h i) → m_cg g b n = m_cg h b n
  | 0, _ => rfl
  | n + 1, e => by
    unfold m_cg
    rw [m_cg_eq n (fun i a b => e i a (by omega)), e n (by omega) (by omega)]
theorem m_cg_S (g : Int → Int) (b k : Int) (h : 0 ≤ k) : m_cg g b (k + 1).toNat = m_cg g b k.toNat + (if g k = b then 1 else 0) := by
  rw [show (k + 1).toNat = k.toNat + 1 by omega, m_cg, show ((k.toNat : Nat) : Int) = k by omega]
/-- how many blocks -/
def m_nb (g : Int → Int) (n r : Int) : Prop := 0 ≤ r ∧ (∀ i, 0 ≤ i → i < n → g i < r) ∧ (r = 0 ∨ ∃ i, 0 ≤ i ∧ i < n ∧ g i + 1 = r)
theorem m_nb_uniq {g : Int → Int} {n r r' : Int} (h : m_nb g n r) (h' : m_nb g n r') : r = r' := by
  obtain ⟨a1, a2, a3⟩ := h
  obtain ⟨b1, b2, b3⟩ := h'
  rcases a3 with a3 | ⟨i, i1, i2, i3⟩ <;> rcases b3 with b3 | ⟨j, j1, j2, j3⟩
  · omega
  · have := a2 j j1 j2; omega
  · have := b2 i i1 i2; omega
  · have := a2 j j1 j2
    have := b2 i i1 i2
    omega
/-- numbered so far: row g by the likes of row h, k points, next number -/
def m_num (g h : Int → Int) (k next : Int) : Prop := m_rgs g k ∧ (∀ i j, 0 ≤ i → i < k → 0 ≤ j → j < k → (g i = g j ↔ h i = h j)) ∧ (0 ≤ next ∧ next ≤ k) ∧ (∀ i, 0 ≤ i → i < k → g i < next) ∧ (next = 0 ∨ ∃ i, 0 ≤ i ∧ i < k ∧ g i + 1 = next)
theorem m_num_zero (g h : Int → Int) : m_num g h 0 0 := ⟨fun k a b => absurd b (by omega), fun i j a b => absurd b (by omega), ⟨by omega, by omega⟩, fun i a b => absurd b (by omega), Or.inl rfl⟩
theorem m_num_nb {g h : Int → Int} {k next : Int} (w : m_num g h k next) : m_nb g k next := ⟨w.2.2.1.1, w.2.2.2.1, w.2.2.2.2⟩
theorem m_num_rel {g g' h : Int → Int} {k v : Int} (w : ∀ i j, 0 ≤ i → i < k → 0 ≤ j → j < k → (g i = g j ↔ h i = h j)) (at_lt : ∀ i, i < k → g' i = g i) (at_k : g' k = v) (key : ∀ i, 0 ≤ i → i < k → (g i = v ↔ h i = h k)) : ∀ i j, 0 ≤ i → i < k + 1 → 0 ≤ j → j < k + 1 → (g' i = g' j ↔ h i = h j) := by
  intro i i' a1 a2 a3 a4
  by_cases e : i = k <;> by_cases e' : i' = k
  · subst e; subst e'; simp
  · subst e
    rw [at_k, at_lt i' (by omega)]
    have := key i' a3 (by omega)
    constructor
    · intro h; exact (this.mp h.symm).symm
    · intro h; exact (this.mpr h.symm).symm
  · subst e'
    rw [at_k, at_lt i (by omega)]
    exact key i a1 (by omega)
  · rw [at_lt i (by omega), at_lt i' (by omega)]
    exact w i i' a1 (by omega) a3 (by omega)
theorem m_num_new {g g' h : Int → Int} {k next : Int} (w : m_num g h k next) (hk : 0 ≤ k) (hne : ∀ i, 0 ≤ i → i < k → h i ≠ h k) (at_lt : ∀ i, i < k → g' i = g i) (at_k : g' k = next) : m_num g' h (k + 1) (next + 1) := by
  obtain ⟨w2, w3, w45, w6, w7⟩ := w
  refine ⟨fun i a b => ?_, m_num_rel w3 at_lt at_k (fun i a b => ⟨fun e => absurd (w6 i a b) (by omega), fun e => absurd e (hne i a b)⟩), by omega, fun i a b => ?_, Or.inr ⟨k, hk, by omega, by rw [at_k]⟩⟩
  · by_cases e : i = k
    · subst e
      rw [at_k]
      refine ⟨by omega, ?_⟩
      rcases w7 with w | ⟨z, z1, z2, z3⟩
      · exact Or.inl (by omega)
      · exact Or.inr ⟨z, z1, z2, by rw [at_lt z z2]; omega⟩
    · obtain ⟨z1, z2⟩ := w2 i a (by omega)
      rw [at_lt i (by omega)]
      exact ⟨z1, z2.elim Or.inl (fun ⟨y, y1, y2, y3⟩ => Or.inr ⟨y, y1, y2, by rw [at_lt y (by omega)]; exact y3⟩)⟩
  · by_cases e : i = k
    · subst e
      rw [at_k]; omega
    · rw [at_lt i (by omega)]
      have := w6 i a (by omega)
      omega
theorem m_num_old {g g' h : Int → Int} {k next o : Int} (w : m_num g h k next) (hk : 0 ≤ k) (o0 : 0 ≤ o) (o1 : o < k) (ho : h o = h k) (at_lt : ∀ i, i < k → g' i = g i) (at_k : g' k = g o) : m_num g' h (k + 1) next := by
  obtain ⟨w2, w3, w45, w6, w7⟩ := w
  refine ⟨fun i a b => ?_, m_num_rel w3 at_lt at_k (fun i a b => by rw [w3 i o a b o0 o1, ho]), by omega, fun i a b => ?_, ?_⟩
  · by_cases e : i = k
    · subst e
      rw [at_k]
      obtain ⟨z0, z⟩ := w2 o o0 o1
      refine ⟨z0, ?_⟩
      rcases z with z | ⟨y, y1, y2, y3⟩
      · exact Or.inl (by omega)
      · exact Or.inr ⟨y, y1, by omega, by rw [at_lt y (by omega)]; omega⟩
    · obtain ⟨z1, z2⟩ := w2 i a (by omega)
      rw [at_lt i (by omega)]
      exact ⟨z1, z2.elim Or.inl (fun ⟨y, y1, y2, y3⟩ => Or.inr ⟨y, y1, y2, by rw [at_lt y (by omega)]; exact y3⟩)⟩
  · by_cases e : i = k
    · subst e
      rw [at_k]
      exact w6 o o0 o1
    · rw [at_lt i (by omega)]
      exact w6 i a (by omega)
  · rcases w7 with w | ⟨z, z1, z2, z3⟩
    · exact Or.inl (by omega)
    · exact Or.inr ⟨z, z1, by omega, by rw [at_lt z z2]; omega⟩
theorem s_T_numberBlocks {G : am_G} {d : Nat} {V : am_V} {R : am_T} {T : Nat} {Q : Option AV → am_V → am_T → Nat → Prop} {c : Nat} {n : Int} (hc : th_pc c) (h1 : 0 ≤ n ∧ n ≤ 10) (hr : ∀ i, 0 ≤ i → i < n → am_in32 (V 30 i)) (hQ : ∀ V' r, (∀ a, a ≠ c → V' a = V a) → m_num (V' c) (V 30) n r → Q (some (vI r)) V' R T) : am_Calls G (d + 1) 154 [vR 30, vI n, vR c] V R T Q := by
  have c_0 : 108 ≤ c := th_pc0 hc
  have c_m := th_pclay hc
  have c_c := th_pcble hc
  have c_r := th_pcbeq hc
  have c_z := th_pcz hc
  have c_3 := th_pc3 hc
  refine am_enter mt_T_numberBlocks ok_T_numberBlocks rfl ?_
  have loop : ∀ (j : Nat) (k next : Int) (x5 : Option AV) (W : am_V), 0 ≤ k → k ≤ n → n - k < j → (∀ a, a ≠ c → W a = V a) → m_num (W c) (V 30) k next → am_Sem G d 154 V T Q 5 [some (vR 30), some (vI n), some (vR c), some (vI next), some (vI k), x5] [] W R T 0 0 := by
    intro j
    induction j with
    | zero => intro k next x5 W h0 h1 h2; omega
    | succ j ih =>
      intro k next x5 W h0 h1 h2 w1 w2
      by_cases hkn : k = n
      · refine am_run 400 mt_T_numberBlocks ok_T_numberBlocks (fun K S hK hS => ?_)
        iterate 30 (all_goals (first
          | (refine And.intro (by omega) ?_)
          | (refine And.intro (by decide) ?_)
          | (refine And.intro (fun hb => absurd hb (by omega)) (fun hb => ?_))
          | (refine And.intro (fun hb => ?_) (fun hb => absurd hb (by omega)))
          | (refine And.intro (fun hb => ?_) (fun hb => ?_))
          | (intro hb)
          | (simp only [c_m, c_c, c_r, c_z, c_3])
          | (conv => whnf)))
        rw [hkn] at w2
        exact hQ W next w1 w2
      have e30 : ∀ i, W 30 i = V 30 i := fun i => by rw [w1 30 (by omega)]
      have rk := hr k h0 (by omega)
      rw [← e30] at rk
      have inner : ∀ (j2 : Nat) (y : Int), 0 ≤ y → y ≤ k → k - y < j2 → (∀ i, 0 ≤ i → i < y → V 30 i ≠ V 30 k) → am_Sem G d 154 V T Q 14 [some (vR 30), some (vI n), some (vR c), some (vI next), some (vI k), some (vI y)] [] W R T 0 0 := by
        intro j2
        induction j2 with
        | zero => intro y a b e; omega
        | succ j2 ih2 =>
          intro y a b e hno
          have ry : y < k → am_in32 (W 30 y) := fun q => by rw [e30]; exact hr y a (by omega)
          refine am_run 400 mt_T_numberBlocks ok_T_numberBlocks (fun K S hK hS => ?_)
          iterate 30 (all_goals (first
            | (refine And.intro (by omega) ?_)
            | (refine And.intro (by decide) ?_)
            | (refine And.intro (⟨ry (by assumption), rk⟩) ?_)
            | (refine And.intro (fun hb => absurd hb (by omega)) (fun hb => ?_))
            | (refine And.intro (fun hb => ?_) (fun hb => absurd hb (by omega)))
            | (refine And.intro (fun hb => ?_) (fun hb => ?_))
            | (intro hb)
            | (simp only [c_m, c_c, c_r, c_z, c_3])
            | (conv => whnf)))
          · have hy : y = k := by omega
            refine hS (ih (k + 1) (next + 1) _ _ (by omega) (by omega) (by omega) (fun a ha => by rw [am_up_ne ha, w1 a ha]) (m_num_new w2 h0 (fun i a1 a2 => hno i a1 (by omega)) (fun i hi => by rw [am_up_at, if_neg (by omega)]) (by rw [am_up_at, if_pos rfl])))
          · have q : W 30 y = W 30 k := by assumption
            rw [e30, e30] at q
            refine hS (ih (k + 1) next _ _ (by omega) (by omega) (by omega) (fun a ha => by rw [am_up_ne ha, w1 a ha]) (m_num_old (o := y) w2 h0 a (by omega) q (fun i hi => by rw [am_up_at, if_neg (by omega)]) (by rw [am_up_at, if_pos rfl])))
          · have q := hb
            rw [e30, e30] at q
            refine hS (ih2 (y + 1) (by omega) (by omega) (by omega) (fun i a1 a2 => ?_))
            by_cases e2 : i = y
            · rw [e2]; exact q
            · exact hno i a1 (by omega)
      refine am_run 400 mt_T_numberBlocks ok_T_numberBlocks (fun K S hK hS => ?_)
      iterate 30 (all_goals (first
        | (refine And.intro (by omega) ?_)
        | (refine And.intro (by decide) ?_)
        | (refine And.intro (fun hb => absurd hb (by omega)) (fun hb => ?_))
        | (refine And.intro (fun hb => ?_) (fun hb => absurd hb (by omega)))
        | (refine And.intro (fun hb => ?_) (fun hb => ?_))
        | (intro hb)
        | (simp only [c_m, c_c, c_r, c_z, c_3])
        | (conv => whnf)))
      exact hS (inner (k + 1).toNat 0 (by omega) (by omega) (by omega) (fun i a b => absurd b (by omega)))
  refine am_run 400 mt_T_numberBlocks ok_T_numberBlocks (fun K S hK hS => ?_)
  iterate 30 (all_goals (first
    | (refine And.intro (by omega) ?_)
    | (refine And.intro (by decide) ?_)
    | (refine And.intro (fun hb => absurd hb (by omega)) (fun hb => ?_))
    | (refine And.intro (fun hb => ?_) (fun hb => absurd hb (by omega)))
    | (refine And.intro (fun hb => ?_) (fun hb => ?_))
    | (intro hb)
    | (simp only [c_m, c_c, c_r, c_z, c_3])
    | (conv => whnf)))
  exact hS (loop (n + 1).toNat 0 0 _ V (by omega) (by omega) (by omega) (fun _ _ => rfl) (m_num_zero _ _))
theorem s_T_pointsIn {G : am_G} {d : Nat} {V : am_V} {R : am_T} {T : Nat} {Q : Option AV → am_V → am_T → Nat → Prop} {c : Nat} {n b : Int} (hc : th_pc c) (h1 : 0 ≤ n ∧ n ≤ 10) (hr : ∀ i, 0 ≤ i → i < n → am_in32 (V c i)) (hb : am_in32 b) (hQ : Q (some (vI (m_cg (V c) b n.toNat))) V R T) : am_Calls G (d + 1) 156 [vR c, vI n, vI b] V R T Q := by
  have c_0 : 108 ≤ c := th_pc0 hc
  have c_m := th_pclay hc
  have c_c := th_pcble hc
  have c_r := th_pcbeq hc
  have c_z := th_pcz hc
  have c_3 := th_pc3 hc
  refine am_enter mt_T_pointsIn ok_T_pointsIn rfl ?_
  have loop : ∀ (j : Nat) (k : Int), 0 ≤ k → k ≤ n → n - k < j → am_Sem G d 156 V T Q 5 [some (vR c), some (vI n), some (vI b), some (vI (m_cg (V c) b k.toNat)), some (vI k)] [] V R T 0 0 := by
    intro j
    induction j with
    | zero => intro k a b e; omega
    | succ j ih =>
      intro k h0 h2 h3
      by_cases hkn : k = n
      · subst hkn
        refine am_run 400 mt_T_pointsIn ok_T_pointsIn (fun K S hK hS => ?_)
        iterate 30 (all_goals (first
          | (refine And.intro (by omega) ?_)
          | (refine And.intro (by decide) ?_)
          | (refine And.intro (fun hb => absurd hb (by omega)) (fun hb => ?_))
          | (refine And.intro (fun hb => ?_) (fun hb => absurd hb (by omega)))
          | (refine And.intro (fun hb => ?_) (fun hb => ?_))
          | (intro hb)
          | (simp only [c_m, c_c, c_r, c_z, c_3])
          | (conv => whnf)))
        exact hQ
      have rk := hr k h0 (by omega)
      have ih := ih (k + 1) (by omega) (by omega) (by omega)
      rw [m_cg_S _ _ _ h0] at ih
      refine am_run 400 mt_T_pointsIn ok_T_pointsIn (fun K S hK hS => ?_)
      iterate 30 (all_goals (first
        | (refine And.intro (by omega) ?_)
        | (refine And.intro (by decide) ?_)
        | (refine And.intro (fun hb => absurd hb (by omega)) (fun hb => ?_))
        | (refine And.intro (fun hb => ?_) (fun hb => absurd hb (by omega)))
        | (refine And.intro (fun hb => ?_) (fun hb => ?_))
        | (intro hb)
        | (simp only [c_m, c_c, c_r, c_z, c_3])
        | (conv => whnf)))
      · have q := hb
        rw [if_neg q, Int.add_zero] at ih
        exact hS ih
      · have q := hb
        rw [if_pos q] at ih
        exact hS ih
  refine am_run 400 mt_T_pointsIn ok_T_pointsIn (fun K S hK hS => ?_)
  iterate 30 (all_goals (first
    | (refine And.intro (by omega) ?_)
    | (refine And.intro (by decide) ?_)
    | (refine And.intro (fun hb => absurd hb (by omega)) (fun hb => ?_))
    | (refine And.intro (fun hb => ?_) (fun hb => absurd hb (by omega)))
    | (refine And.intro (fun hb => ?_) (fun hb => ?_))
    | (intro hb)
    | (simp only [c_m, c_c, c_r, c_z, c_3])
    | (conv => whnf)))
  exact hS (loop (n + 1).toNat 0 (by omega) (by omega) (by omega))
theorem s_T_allInPairs {G : am_G} {d : Nat} {V : am_V} {R : am_T} {T : Nat} {Q : Option AV → am_V → am_T → Nat → Prop} {c : Nat} {n m : Int} (hc : th_pc c) (h1 : 0 ≤ n ∧ n ≤ 10) (h2 : 0 ≤ m ∧ m ≤ 10) (hr : ∀ i, 0 ≤ i → i < n → am_in32 (V c i)) (hQ1 : (∀ b, 0 ≤ b → b < m → m_cg (V c) b n.toNat = 2) → Q (some (vI 1)) V R T) (hQ0 : ∀ b, 0 ≤ b → b < m → m_cg (V c) b n.toNat ≠ 2 → Q (some (vI 0)) V R T) : am_Calls G (d + 2) 155 [vR c, vI n, vI m] V R T Q := by
  have c_0 : 108 ≤ c := th_pc0 hc
  have c_m := th_pclay hc
  have c_c := th_pcble hc
  have c_r := th_pcbeq hc
  have c_z := th_pcz hc
  have c_3 := th_pc3 hc
  refine am_enter mt_T_allInPairs ok_T_allInPairs rfl ?_
  have loop : ∀ (j : Nat) (k : Int), 0 ≤ k → k ≤ m → m - k < j → (∀ b, 0 ≤ b → b < k → m_cg (V c) b n.toNat = 2) → am_Sem G (d + 1) 155 V T Q 2 [some (vR c), some (vI n), some (vI m), some (vI k)] [] V R T 0 0 := by
    intro j
    induction j with
    | zero => intro k a b e; omega
    | succ j ih =>
      intro k h0 h2 h3 w
      by_cases hkn : k = m
      · subst hkn
        refine am_run 400 mt_T_allInPairs ok_T_allInPairs (fun K S hK hS => ?_)
        iterate 30 (all_goals (first
          | (refine And.intro (by omega) ?_)
          | (refine And.intro (fun hb => absurd hb (by omega)) (fun hb => ?_))
          | (refine And.intro (fun hb => ?_) (fun hb => absurd hb (by omega)))
          | (refine And.intro (fun hb => ?_) (fun hb => ?_))
          | (intro hb)
          | (conv => whnf)))
        exact hQ1 w
      have rc := m_cg_le (V c) k n.toNat
      refine am_run 400 mt_T_allInPairs ok_T_allInPairs (fun K S hK hS => ?_)
      iterate 30 (all_goals (first
        | (refine And.intro (by omega) ?_)
        | (refine And.intro (fun hb => absurd hb (by omega)) (fun hb => ?_))
        | (refine And.intro (fun hb => ?_) (fun hb => absurd hb (by omega)))
        | (refine And.intro (fun hb => ?_) (fun hb => ?_))
        | (intro hb)
        | (conv => whnf)))
      refine hK (s_T_pointsIn hc h1 hr (by omega) ?_)
      iterate 30 (all_goals (first
        | (refine And.intro (by omega) ?_)
        | (refine And.intro (fun hb => absurd hb (by omega)) (fun hb => ?_))
        | (refine And.intro (fun hb => ?_) (fun hb => absurd hb (by omega)))
        | (refine And.intro (fun hb => ?_) (fun hb => ?_))
        | (intro hb)
        | (conv => whnf)))
      · refine hS (ih (k + 1) (by omega) (by omega) (by omega) (fun b a1 a2 => ?_))
        by_cases e : b = k
        · rw [e]; assumption
        · exact w b a1 (by omega)
      · exact hQ0 k h0 (by omega) (by assumption)
  refine am_run 400 mt_T_allInPairs ok_T_allInPairs (fun K S hK hS => ?_)
  iterate 30 (all_goals (first
    | (refine And.intro (by omega) ?_)
    | (refine And.intro (fun hb => absurd hb (by omega)) (fun hb => ?_))
    | (refine And.intro (fun hb => ?_) (fun hb => absurd hb (by omega)))
    | (refine And.intro (fun hb => ?_) (fun hb => ?_))
    | (intro hb)
    | (conv => whnf)))
  exact hS (loop (m + 1).toNat 0 (by omega) (by omega) (by omega) (fun b a1 a2 => absurd a2 (by omega)))
theorem s_T_inRows {G : am_G} {d : Nat} {V : am_V} {R : am_T} {T : Nat} {Q : Option AV → am_V → am_T → Nat → Prop} {c : Nat} {n : Int} (hc : th_pc c) (h1 : 1 ≤ n ∧ n ≤ 10) (hr : ∀ i, 0 ≤ i → i < n → am_in32 (V c i)) (hQ1 : (∀ k, 1 ≤ k → k < n → V c (k - 1) ≤ V c k) → Q (some (vI 1)) V R T) (hQ0 : ∀ k, 1 ≤ k → k < n → V c k < V c (k - 1) → Q (some (vI 0)) V R T) : am_Calls G (d + 1) 158 [vR c, vI n] V R T Q := by
  have c_0 : 108 ≤ c := th_pc0 hc
  have c_m := th_pclay hc
  have c_c := th_pcble hc
  have c_r := th_pcbeq hc
  have c_z := th_pcz hc
  have c_3 := th_pc3 hc
  refine am_enter mt_T_inRows ok_T_inRows rfl ?_
  have loop : ∀ (j : Nat) (k : Int), 1 ≤ k → k ≤ n → n - k < j → (∀ i, 1 ≤ i → i < k → V c (i - 1) ≤ V c i) → am_Sem G d 158 V T Q 2 [some (vR c), some (vI n), some (vI k)] [] V R T 0 0 := by
    intro j
    induction j with
    | zero => intro k a b e; omega
    | succ j ih =>
      intro k h0 h2 h3 w
      by_cases hkn : k = n
      · subst hkn
        refine am_run 400 mt_T_inRows ok_T_inRows (fun K S hK hS => ?_)
        iterate 30 (all_goals (first
          | (refine And.intro (by omega) ?_)
          | (refine And.intro (by decide) ?_)
          | (refine And.intro (fun hb => absurd hb (by omega)) (fun hb => ?_))
          | (refine And.intro (fun hb => ?_) (fun hb => absurd hb (by omega)))
          | (refine And.intro (fun hb => ?_) (fun hb => ?_))
          | (intro hb)
          | (simp only [c_m, c_c, c_r, c_z, c_3])
          | (conv => whnf)))
        exact hQ1 w
      have r1 := hr k (by omega) (by omega)
      have r2 := hr (k - 1) (by omega) (by omega)
      refine am_run 400 mt_T_inRows ok_T_inRows (fun K S hK hS => ?_)
      iterate 30 (all_goals (first
        | (refine And.intro (by omega) ?_)
        | (refine And.intro (by decide) ?_)
        | (refine And.intro (⟨r1, r2⟩) ?_)
        | (refine And.intro (fun hb => absurd hb (by omega)) (fun hb => ?_))
        | (refine And.intro (fun hb => ?_) (fun hb => absurd hb (by omega)))
        | (refine And.intro (fun hb => ?_) (fun hb => ?_))
        | (intro hb)
        | (simp only [c_m, c_c, c_r, c_z, c_3])
        | (conv => whnf)))
      · refine hS (ih (k + 1) (by omega) (by omega) (by omega) (fun i a1 a2 => ?_))
        by_cases e : i = k
        · rw [e]; assumption
        · exact w i a1 (by omega)
      · exact hQ0 k h0 (by omega) (by assumption)
  refine am_run 400 mt_T_inRows ok_T_inRows (fun K S hK hS => ?_)
  iterate 30 (all_goals (first
    | (refine And.intro (by omega) ?_)
    | (refine And.intro (by decide) ?_)
    | (refine And.intro (fun hb => absurd hb (by omega)) (fun hb => ?_))
    | (refine And.intro (fun hb => ?_) (fun hb => absurd hb (by omega)))
    | (refine And.intro (fun hb => ?_) (fun hb => ?_))
    | (intro hb)
    | (simp only [c_m, c_c, c_r, c_z, c_3])
    | (conv => whnf)))
  exact hS (loop n.toNat 1 (by omega) (by omega) (by omega) (fun b a1 a2 => absurd a2 (by omega)))
end
section
/-! the class: Things made -/
theorem s_T_isCrossed {G : am_G} {d : Nat} {V : am_V} {R : am_T} {T : Nat} {Q : Option AV → am_V → am_T → Nat → Prop} {c : Nat} {n a e : Int} (hc : th_pc c) (h1 : 0 ≤ n ∧ n ≤ 10) (ha : 0 ≤ a ∧ a < e ∧ e < n) (hr : ∀ i, 0 ≤ i → i < n → am_in32 (V c i)) (hQ1 : ∀ b f, a < b → b < e → e < f → f < n → V c b = V c f → V c b ≠ V c a → Q (some (vI 1)) V R T) (hQ0 : (∀ b f, a < b → b < e → e < f → f < n → V c b = V c f → V c b = V c a) → Q (some (vI 0)) V R T) : am_Calls G (d + 1) 160 [vR c, vI n, vI a, vI e] V R T Q := by
  have c_0 : 108 ≤ c := th_pc0 hc
  have c_m := th_pclay hc
  have c_c := th_pcble hc
  have c_r := th_pcbeq hc
  have c_z := th_pcz hc
  have c_3 := th_pc3 hc
  refine am_enter mt_T_isCrossed ok_T_isCrossed rfl ?_
  have loop : ∀ (j : Nat) (b : Int) (x5 : Option AV), a < b → b ≤ e → e - b < j → (∀ b' f, a < b' → b' < b → e < f → f < n → V c b' = V c f → V c b' = V c a) → am_Sem G d 160 V T Q 5 [some (vR c), some (vI n), some (vI a), some (vI e), some (vI b), x5] [] V R T 0 0 := by
    intro j
    induction j with
    | zero => intro b x5 a1 a2 a3; omega
    | succ j ih =>
      intro b x5 a1 a2 a3 w
      by_cases hbe : b = e
      · subst hbe
        refine am_run 400 mt_T_isCrossed ok_T_isCrossed (fun K S hK hS => ?_)
        iterate 30 (all_goals (first
          | (refine And.intro (by omega) ?_)
          | (refine And.intro (by decide) ?_)
          | (refine And.intro (fun hb => absurd hb (by omega)) (fun hb => ?_))
          | (refine And.intro (fun hb => ?_) (fun hb => absurd hb (by omega)))
          | (refine And.intro (fun hb => ?_) (fun hb => ?_))
          | (intro hb)
          | (simp only [c_m, c_c, c_r, c_z, c_3])
          | (conv => whnf)))
        exact hQ0 w
      have inner : ∀ (j2 : Nat) (f : Int), e < f → f ≤ n → n - f < j2 → (∀ f', e < f' → f' < f → V c b = V c f' → V c b = V c a) → am_Sem G d 160 V T Q 16 [some (vR c), some (vI n), some (vI a), some (vI e), some (vI b), some (vI f)] [] V R T 0 0 := by
        intro j2
        induction j2 with
        | zero => intro f b1 b2 b3; omega
        | succ j2 ih2 =>
          intro f b1 b2 b3 w2
          by_cases hfn : f = n
          · subst hfn
            refine am_run 400 mt_T_isCrossed ok_T_isCrossed (fun K S hK hS => ?_)
            iterate 30 (all_goals (first
              | (refine And.intro (by omega) ?_)
              | (refine And.intro (by decide) ?_)
              | (refine And.intro (fun hb => absurd hb (by omega)) (fun hb => ?_))
              | (refine And.intro (fun hb => ?_) (fun hb => absurd hb (by omega)))
              | (refine And.intro (fun hb => ?_) (fun hb => ?_))
              | (intro hb)
              | (simp only [c_m, c_c, c_r, c_z, c_3])
              | (conv => whnf)))
            refine hS (ih (b + 1) _ (by omega) (by omega) (by omega) (fun b' f' q1 q2 q3 q4 q5 => ?_))
            by_cases e2 : b' = b
            · rw [e2] at q5 ⊢
              exact w2 f' q3 q4 q5
            · exact w b' f' q1 (by omega) q3 q4 q5
          have r1 := hr b (by omega) (by omega)
          have r2 := hr f (by omega) (by omega)
          have r3 := hr a (by omega) (by omega)
          refine am_run 400 mt_T_isCrossed ok_T_isCrossed (fun K S hK hS => ?_)
          iterate 30 (all_goals (first
            | (refine And.intro (by omega) ?_)
            | (refine And.intro (by decide) ?_)
            | (refine And.intro (⟨r1, r2⟩) ?_)
            | (refine And.intro (⟨r1, r3⟩) ?_)
            | (refine And.intro (fun hb => absurd hb (by omega)) (fun hb => ?_))
            | (refine And.intro (fun hb => ?_) (fun hb => absurd hb (by omega)))
            | (refine And.intro (fun hb => ?_) (fun hb => ?_))
            | (intro hb)
            | (simp only [c_m, c_c, c_r, c_z, c_3])
            | (conv => whnf)))
          · refine hS (ih2 (f + 1) (by omega) (by omega) (by omega) (fun f' q1 q2 q3 => ?_))
            by_cases e2 : f' = f
            · rw [e2] at q3; contradiction
            · exact w2 f' q1 (by omega) q3
          · refine hS (ih2 (f + 1) (by omega) (by omega) (by omega) (fun f' q1 q2 q3 => ?_))
            by_cases e2 : f' = f
            · assumption
            · exact w2 f' q1 (by omega) q3
          · exact hQ1 b f a1 (by omega) b1 (by omega) (by assumption) (by assumption)
      refine am_run 400 mt_T_isCrossed ok_T_isCrossed (fun K S hK hS => ?_)
      iterate 30 (all_goals (first
        | (refine And.intro (by omega) ?_)
        | (refine And.intro (by decide) ?_)
        | (refine And.intro (fun hb => absurd hb (by omega)) (fun hb => ?_))
        | (refine And.intro (fun hb => ?_) (fun hb => absurd hb (by omega)))
        | (refine And.intro (fun hb => ?_) (fun hb => ?_))
        | (intro hb)
        | (simp only [c_m, c_c, c_r, c_z, c_3])
        | (conv => whnf)))
      exact hS (inner (n - e).toNat (e + 1) (by omega) (by omega) (by omega) (fun f' q1 q2 => absurd q2 (by omega)))
  refine am_run 400 mt_T_isCrossed ok_T_isCrossed (fun K S hK hS => ?_)
  iterate 30 (all_goals (first
    | (refine And.intro (by omega) ?_)
    | (refine And.intro (by decide) ?_)
    | (refine And.intro (fun hb => absurd hb (by omega)) (fun hb => ?_))
    | (refine And.intro (fun hb => ?_) (fun hb => absurd hb (by omega)))
    | (refine And.intro (fun hb => ?_) (fun hb => ?_))
    | (intro hb)
    | (simp only [c_m, c_c, c_r, c_z, c_3])
    | (conv => whnf)))
  exact hS (loop (e - a).toNat (a + 1) _ (by omega) (by omega) (by omega) (fun b' f' q1 q2 => absurd q2 (by omega)))
theorem s_T_crossesItself {G : am_G} {d : Nat} {V : am_V} {R : am_T} {T : Nat} {Q : Option AV → am_V → am_T → Nat → Prop} {c : Nat} {n : Int} (hc : th_pc c) (h1 : 0 ≤ n ∧ n ≤ 10) (hr : ∀ i, 0 ≤ i → i < n → am_in32 (V c i)) (hQ1 : m_Cr (V c) n → Q (some (vI 1)) V R T) (hQ0 : ¬ m_Cr (V c) n → Q (some (vI 0)) V R T) : am_Calls G (d + 2) 159 [vR c, vI n] V R T Q := by
  have c_0 : 108 ≤ c := th_pc0 hc
  have c_m := th_pclay hc
  have c_c := th_pcble hc
  have c_r := th_pcbeq hc
  have c_z := th_pcz hc
  have c_3 := th_pc3 hc
  refine am_enter mt_T_crossesItself ok_T_crossesItself rfl ?_
  have loop : ∀ (j : Nat) (a : Int) (x3 : Option AV), 0 ≤ a → a ≤ n → n - a < j → (∀ a' b' c' d', 0 ≤ a' → a' < a → a' < b' → b' < c' → c' < d' → d' < n → ¬ m_E (V c) a' b' c' d') → am_Sem G (d + 1) 159 V T Q 2 [some (vR c), some (vI n), some (vI a), x3] [] V R T 0 0 := by
    intro j
    induction j with
    | zero => intro a x3 a1 a2 a3; omega
    | succ j ih =>
      intro a x3 a1 a2 a3 w
      by_cases han : a = n
      · subst han
        refine am_run 400 mt_T_crossesItself ok_T_crossesItself (fun K S hK hS => ?_)
        iterate 30 (all_goals (first
          | (refine And.intro (by omega) ?_)
          | (refine And.intro (by decide) ?_)
          | (refine And.intro (fun hb => absurd hb (by omega)) (fun hb => ?_))
          | (refine And.intro (fun hb => ?_) (fun hb => absurd hb (by omega)))
          | (refine And.intro (fun hb => ?_) (fun hb => ?_))
          | (intro hb)
          | (simp only [c_m, c_c, c_r, c_z, c_3])
          | (conv => whnf)))
        exact hQ0 (fun ⟨a', b', c', d', q0, q1, q2, q3, q4, q5⟩ => w a' b' c' d' q0 (by omega) q1 q2 q3 q4 q5)
      have inner : ∀ (j2 : Nat) (e : Int), a + 2 ≤ e → e ≤ n + 1 → n - e < j2 → (∀ b' c' d', c' < e → a < b' → b' < c' → c' < d' → d' < n → ¬ m_E (V c) a b' c' d') → am_Sem G (d + 1) 159 V T Q 11 [some (vR c), some (vI n), some (vI a), some (vI e)] [] V R T 0 0 := by
        intro j2
        induction j2 with
        | zero =>
          intro e b1 b0 b2 w2
          refine am_run 400 mt_T_crossesItself ok_T_crossesItself (fun K S hK hS => ?_)
          iterate 30 (all_goals (first
            | (refine And.intro (by omega) ?_)
            | (refine And.intro (by decide) ?_)
            | (refine And.intro (fun hb => absurd hb (by omega)) (fun hb => ?_))
            | (refine And.intro (fun hb => ?_) (fun hb => absurd hb (by omega)))
            | (refine And.intro (fun hb => ?_) (fun hb => ?_))
            | (intro hb)
            | (simp only [c_m, c_c, c_r, c_z, c_3])
            | (conv => whnf)))
          refine hS (ih (a + 1) _ (by omega) (by omega) (by omega) (fun a' b' c' d' q0 q1 q2 q3 q4 q5 => ?_))
          by_cases e2 : a' = a
          · rw [e2]; exact w2 b' c' d' (by omega) (by omega) q3 q4 q5
          · exact w a' b' c' d' q0 (by omega) q2 q3 q4 q5
        | succ j2 ih2 =>
          intro e b1 b0 b2 w2
          by_cases hen : n ≤ e
          · refine am_run 400 mt_T_crossesItself ok_T_crossesItself (fun K S hK hS => ?_)
            iterate 30 (all_goals (first
              | (refine And.intro (by omega) ?_)
              | (refine And.intro (by decide) ?_)
              | (refine And.intro (fun hb => absurd hb (by omega)) (fun hb => ?_))
              | (refine And.intro (fun hb => ?_) (fun hb => absurd hb (by omega)))
              | (refine And.intro (fun hb => ?_) (fun hb => ?_))
              | (intro hb)
              | (simp only [c_m, c_c, c_r, c_z, c_3])
              | (conv => whnf)))
            refine hS (ih (a + 1) _ (by omega) (by omega) (by omega) (fun a' b' c' d' q0 q1 q2 q3 q4 q5 => ?_))
            by_cases e2 : a' = a
            · rw [e2]; exact w2 b' c' d' (by omega) (by omega) q3 q4 q5
            · exact w a' b' c' d' q0 (by omega) q2 q3 q4 q5
          have r1 := hr a (by omega) (by omega)
          have r2 := hr e (by omega) (by omega)
          have nx : (∀ b' d', a < b' → b' < e → e < d' → d' < n → ¬ m_E (V c) a b' e d') → am_Sem G (d + 1) 159 V T Q 11 [some (vR c), some (vI n), some (vI a), some (vI (e + 1))] [] V R T 0 0 := fun w3 => ih2 (e + 1) (by omega) (by omega) (by omega) (fun b' c' d' q1 q2 q3 q4 q5 => by
            by_cases e2 : c' = e
            · rw [e2] at q3 q4 ⊢; exact w3 b' d' q2 q3 q4 q5
            · exact w2 b' c' d' (by omega) q2 q3 q4 q5)
          refine am_run 400 mt_T_crossesItself ok_T_crossesItself (fun K S hK hS => ?_)
          iterate 30 (all_goals (first
            | (refine And.intro (by omega) ?_)
            | (refine And.intro (by decide) ?_)
            | (refine And.intro (⟨r1, r2⟩) ?_)
            | (refine And.intro (fun hb => absurd hb (by omega)) (fun hb => ?_))
            | (refine And.intro (fun hb => ?_) (fun hb => absurd hb (by omega)))
            | (refine And.intro (fun hb => ?_) (fun hb => ?_))
            | (intro hb)
            | (simp only [c_m, c_c, c_r, c_z, c_3])
            | (conv => whnf)))
          · have q := hb
            exact hS (nx (fun b' d' q1 q2 q3 q4 q5 => q q5.2.2))
          · have q := hb
            refine hK (s_T_isCrossed hc h1 ⟨by omega, by omega, by omega⟩ hr (fun b f q1 q2 q3 q4 q5 q6 => ?_) (fun w4 => ?_))
            · iterate 30 (all_goals (first
                | (refine And.intro (by omega) ?_)
                | (refine And.intro (fun hb => absurd hb (by omega)) (fun hb => ?_))
                | (refine And.intro (fun hb => ?_) (fun hb => absurd hb (by omega)))
                | (refine And.intro (fun hb => ?_) (fun hb => ?_))
                | (intro hb)
                | (conv => whnf)))
              exact hQ1 ⟨a, b, e, f, a1, q1, q2, q3, q4, q5, fun q7 => q6 (by rw [q5, ← q7, q]), q⟩
            · iterate 30 (all_goals (first
                | (refine And.intro (by omega) ?_)
                | (refine And.intro (fun hb => absurd hb (by omega)) (fun hb => ?_))
                | (refine And.intro (fun hb => ?_) (fun hb => absurd hb (by omega)))
                | (refine And.intro (fun hb => ?_) (fun hb => ?_))
                | (intro hb)
                | (conv => whnf)))
              exact hS (nx (fun b' d' q1 q2 q3 q4 q5 => q5.2.1 (by rw [← q, ← w4 b' d' q1 q2 q3 q4 q5.1, q5.1])))
      refine am_run 400 mt_T_crossesItself ok_T_crossesItself (fun K S hK hS => ?_)
      iterate 30 (all_goals (first
        | (refine And.intro (by omega) ?_)
        | (refine And.intro (by decide) ?_)
        | (refine And.intro (fun hb => absurd hb (by omega)) (fun hb => ?_))
        | (refine And.intro (fun hb => ?_) (fun hb => absurd hb (by omega)))
        | (refine And.intro (fun hb => ?_) (fun hb => ?_))
        | (intro hb)
        | (simp only [c_m, c_c, c_r, c_z, c_3])
        | (conv => whnf)))
      exact hS (inner (n - a).toNat (a + 2) (by omega) (by omega) (by omega) (fun b' c' d' q1 q2 q3 => absurd q3 (by omega)))
  refine am_run 400 mt_T_crossesItself ok_T_crossesItself (fun K S hK hS => ?_)
  iterate 30 (all_goals (first
    | (refine And.intro (by omega) ?_)
    | (refine And.intro (by decide) ?_)
    | (refine And.intro (fun hb => absurd hb (by omega)) (fun hb => ?_))
    | (refine And.intro (fun hb => ?_) (fun hb => absurd hb (by omega)))
    | (refine And.intro (fun hb => ?_) (fun hb => ?_))
    | (intro hb)
    | (simp only [c_m, c_c, c_r, c_z, c_3])
    | (conv => whnf)))
  exact hS (loop (n + 1).toNat 0 _ (by omega) (by omega) (by omega) (fun a' b' c' d' q0 q1 => absurd q1 (by omega)))
/-- numbers that never fall are rows, and cross nothing -/
theorem m_mono {g : Int → Int} {n : Int} (h : ∀ k, 1 ≤ k → k < n → g (k - 1) ≤ g k) : ∀ (m : Nat) (i j : Int), 0 ≤ i → i ≤ j → j < n → j - i ≤ m → g i ≤ g j := by
  intro m
  induction m with
  | zero => intro i j a b c e; rw [show i = j by omega]; exact Int.le_refl _
  | succ m ih =>
    intro i j a b c e
    by_cases hij : i = j
    · rw [hij]; exact Int.le_refl _
    · exact Int.le_trans (ih i (j - 1) a (by omega) (by omega) (by omega)) (h j (by omega) c)
theorem m_mono_free {g : Int → Int} {n : Int} (h : ∀ k, 1 ≤ k → k < n → g (k - 1) ≤ g k) : ¬ m_Cr g n := by
  rintro ⟨a, b, c, e, q0, q1, q2, q3, q4, q5, q6, q7⟩
  have h1 := m_mono h (b - a).toNat a b q0 (by omega) (by omega) (by omega)
  have h2 := m_mono h (c - b).toNat b c (by omega) (by omega) (by omega) (by omega)
  have h3 : g c = g b := by omega
  exact q6 (by rw [h3, q5])
theorem m_rows_mono {g : Int → Int} {n : Int} (h : m_rows g n) : ∀ k, 1 ≤ k → k < n → g (k - 1) ≤ g k := fun k a b => by
  rcases h k a b with q | q <;> omega
theorem m_mono_rows {g : Int → Int} {n : Int} (hg : m_rgs g n) (h : ∀ k, 1 ≤ k → k < n → g (k - 1) ≤ g k) : m_rows g n := by
  intro k a b
  have h0 := h k a b
  obtain ⟨h1, h2 | ⟨j, j1, j2, j3⟩⟩ := hg k (by omega) b
  · have := (hg (k - 1) (by omega) (by omega)).1
    omega
  · have := m_mono h (k - 1 - j).toNat j (k - 1) j1 (by omega) (by omega) (by omega)
    omega
/-- every number below the greatest is met -/
theorem m_rgs_all {g : Int → Int} {n : Int} (hg : m_rgs g n) : ∀ (m : Nat) (i b : Int), 0 ≤ i → i < n → 0 ≤ b → b ≤ g i → g i - b ≤ m → ∃ j, 0 ≤ j ∧ j < n ∧ g j = b := by
  intro m
  induction m with
  | zero => intro i b a1 a2 a3 a4 a5; exact ⟨i, a1, a2, by omega⟩
  | succ m ih =>
    intro i b a1 a2 a3 a4 a5
    by_cases e : g i = b
    · exact ⟨i, a1, a2, e⟩
    · obtain ⟨h1, h2 | ⟨j, j1, j2, j3⟩⟩ := hg i a1 a2
      · omega
      · exact ih j b j1 (by omega) a3 (by omega) (by omega)
theorem m_nb_met {g : Int → Int} {n r b : Int} (hg : m_rgs g n) (h : m_nb g n r) (h0 : 0 ≤ b) (h1 : b < r) : ∃ j, 0 ≤ j ∧ j < n ∧ g j = b := by
  obtain ⟨a1, a2, a3 | ⟨i, i1, i2, i3⟩⟩ := h
  · omega
  · exact m_rgs_all hg (g i - b).toNat i b i1 i2 h0 (by omega) (by omega)
theorem s_T_kindToTell {G : am_G} {d : Nat} {V : am_V} {R : am_T} {T : Nat} {Q : Option AV → am_V → am_T → Nat → Prop} {c : Nat} {n f : Int} (hc : th_pc c) (h1 : 1 ≤ n ∧ n ≤ 10) (hg : m_rgs (V c) n) (hf : (f = 1 ∧ m_prs (V c) n) ∨ (f = 0 ∧ ¬ m_prs (V c) n)) (hQ : ∀ r, m_kd (V c) n r → Q (some (vI r)) V R T) : am_Calls G (d + 3) 157 [vR c, vI n, vI f] V R T Q := by
  have hr : ∀ i, 0 ≤ i → i < n → am_in32 (V c i) := fun i a b => by
    have := m_rgs_lt hg a b
    constructor <;> omega
  have hf01 : f = 0 ∨ f = 1 := by
    rcases hf with ⟨a, -⟩ | ⟨a, -⟩
    · exact Or.inr a
    · exact Or.inl a
  have hp1 : f ≠ 0 → m_prs (V c) n := fun q => hf.elim (fun a => a.2) (fun a => absurd a.1 q)
  have hp0 : f = 0 → ¬ m_prs (V c) n := fun q => hf.elim (fun a => absurd (q.symm.trans a.1) (by decide)) (fun a => a.2)
  clear hf
  have c_0 : 108 ≤ c := th_pc0 hc
  have c_m := th_pclay hc
  have c_c := th_pcble hc
  have c_r := th_pcbeq hc
  have c_z := th_pcz hc
  have c_3 := th_pc3 hc
  refine am_enter mt_T_kindToTell ok_T_kindToTell rfl ?_
  refine am_run 400 mt_T_kindToTell ok_T_kindToTell (fun K S hK hS => ?_)
  iterate 30 (all_goals (first
    | (refine And.intro (by omega) ?_)
    | (refine And.intro (fun hb => absurd hb (by omega)) (fun hb => ?_))
    | (refine And.intro (fun hb => ?_) (fun hb => absurd hb (by omega)))
    | (refine And.intro (fun hb => ?_) (fun hb => ?_))
    | (intro hb)
    | (conv => whnf)))
  refine hK (s_T_inRows hc h1 hr (fun w => ?_) (fun k q1 q2 q3 => ?_))
  · iterate 30 (all_goals (first
      | (refine And.intro (by omega) ?_)
      | (refine And.intro (fun hb => absurd hb (by omega)) (fun hb => ?_))
      | (refine And.intro (fun hb => ?_) (fun hb => absurd hb (by omega)))
      | (refine And.intro (fun hb => ?_) (fun hb => ?_))
      | (intro hb)
      | (conv => whnf)))
    exact hQ 2 (Or.inl ⟨rfl, m_mono_free w, m_mono_rows hg w⟩)
  · have nr : ¬ m_rows (V c) n := fun w => absurd (m_rows_mono w k q1 q2) (by omega)
    iterate 30 (all_goals (first
      | (refine And.intro (by omega) ?_)
      | (refine And.intro (fun hb => absurd hb (by omega)) (fun hb => ?_))
      | (refine And.intro (fun hb => ?_) (fun hb => absurd hb (by omega)))
      | (refine And.intro (fun hb => ?_) (fun hb => ?_))
      | (intro hb)
      | (conv => whnf)))
    refine hK (s_T_crossesItself hc (by omega) hr (fun w => ?_) (fun w => ?_))
    · iterate 30 (all_goals (first
        | (refine And.intro (by omega) ?_)
        | (refine And.intro (fun hb => absurd hb (by omega)) (fun hb => ?_))
        | (refine And.intro (fun hb => ?_) (fun hb => absurd hb (by omega)))
        | (refine And.intro (fun hb => ?_) (fun hb => ?_))
        | (intro hb)
        | (conv => whnf)))
      · exact hQ 0 (Or.inr (Or.inr (Or.inr (Or.inr ⟨rfl, w, hp0 (by assumption)⟩))))
      · exact hQ 4 (Or.inr (Or.inr (Or.inr (Or.inl ⟨rfl, w, hp1 (by assumption)⟩))))
    · iterate 30 (all_goals (first
        | (refine And.intro (by omega) ?_)
        | (refine And.intro (fun hb => absurd hb (by omega)) (fun hb => ?_))
        | (refine And.intro (fun hb => ?_) (fun hb => absurd hb (by omega)))
        | (refine And.intro (fun hb => ?_) (fun hb => ?_))
        | (intro hb)
        | (conv => whnf)))
      · exact hQ 1 (Or.inr (Or.inr (Or.inl ⟨rfl, w, nr, hp0 (by assumption)⟩)))
      · exact hQ 3 (Or.inr (Or.inl ⟨rfl, w, nr, hp1 (by assumption)⟩))
end
section
/-! the class: a Thing is made -/
/-- a Thing of n points lies at a -/
def th_ok (V : am_V) (a : Nat) (n : Int) : Prop := V a 0 = n ∧ (1 ≤ n ∧ n ≤ 10) ∧ m_rgs (V (a + 1)) n ∧ m_nb (V (a + 1)) n (V a 1) ∧ ((V a 3 = 1 ∧ m_prs (V (a + 1)) n) ∨ (V a 3 = 0 ∧ ¬ m_prs (V (a + 1)) n)) ∧ m_kd (V (a + 1)) n (V a 4)
theorem th_ok_eq {V V' : am_V} {a : Nat} {n : Int} (h : th_ok V a n) (h1 : V' a = V a) (h2 : V' (a + 1) = V (a + 1)) : th_ok V' a n := by
  unfold th_ok
  rw [h1, h2]
  exact h
theorem m_prs_nb {g : Int → Int} {n r : Int} (hg : m_rgs g n) (h : m_nb g n r) : (∀ b, 0 ≤ b → b < r → m_cg g b n.toNat = 2) → m_prs g n := fun w i a b => w (g i) (hg i a b).1 (h.2.1 i a b)
theorem m_prs_nb' {g : Int → Int} {n r b : Int} (hg : m_rgs g n) (h : m_nb g n r) (h0 : 0 ≤ b) (h1 : b < r) (h2 : m_cg g b n.toNat ≠ 2) : ¬ m_prs g n := fun w => by
  obtain ⟨j, j1, j2, j3⟩ := m_nb_met hg h h0 h1
  have := w j j1 j2
  rw [j3] at this
  exact h2 this
theorem s_T_initN {G : am_G} {d : Nat} {sh : Int → Option Nat} {V : am_V} {Q : Option AV → am_V → am_T → Nat → Prop} {a : Nat} {n : Int} (ht : th_pl a) (h1 : 1 < n ∧ n ≤ 10) (hr : ∀ i, 0 ≤ i → i < n → am_in32 (V 30 i)) (hQ : ∀ V', (∀ x, x ≠ a → x ≠ a + 1 → V' x = V x) → th_ok V' a n → (∀ i j, 0 ≤ i → i < n → 0 ≤ j → j < n → (V' (a + 1) i = V' (a + 1) j ↔ V 30 i = V 30 j)) → Q none V' (am_RF sh) (a + 2)) : am_Calls G (d + 4) 153 [vR a, vR 30, vI n] V (am_zeroR (am_RF sh) a) (a + 1) Q := by
  have a_0 : 107 ≤ a := ht.1
  have a_l := th_lay ht
  have a_b := th_ble ht
  have a_q := th_beq ht
  have a_m := th_lay1 ht
  have a_c := th_ble1 ht
  have a_r := th_beq1 ht
  have a_R : am_RF sh a 2 = some (a + 1) := th_RF ht
  have a_z : Nat.beq (a + 1) 0 = false := rfl
  have a_3 : Nat.ble 3 (a + 1) = true := th_ble3 ht
  have a_i : ∀ r, am_isr 3 (vR a :: r) = true := th_isr ht
  have hRn : am_upR (am_zeroR (am_zeroR (am_RF sh) a) (a + 1)) a 2 (some (a + 1)) = am_RF sh := th_RFnew ht
  have hc := th_pc_of ht
  have ne1 : a ≠ a + 1 := by omega
  refine am_enter mt_T_init ok_T_init rfl ?_
  refine am_run 400 mt_T_init ok_T_init (fun K S hK hS => ?_)
  iterate 40 (all_goals (first
    | (refine And.intro (by omega) ?_)
    | (refine And.intro (by decide) ?_)
    | (refine And.intro (fun hb => absurd hb (by omega)) (fun hb => ?_))
    | (refine And.intro (fun hb => ?_) (fun hb => absurd hb (by omega)))
    | (refine And.intro (fun hb => ?_) (fun hb => ?_))
    | (intro hb)
    | (refine am_if_mk (a_i _) ?_)
    | (simp only [a_l, a_b, a_q, a_m, a_c, a_r, a_R, a_z, a_3, hRn, am_up_same])
    | (conv => whnf)))
  refine hK (s_T_numberBlocks hc (by omega) (fun i q1 q2 => by rw [am_up_ne (by omega), am_zero_ne (by omega)]; exact hr i q1 q2) (fun W r w1 w2 => ?_))
  have eW : ∀ x, x ≠ a → x ≠ a + 1 → W x = V x := fun x q1 q2 => by rw [w1 x q2, am_up_ne q1, am_zero_ne q2]
  have e0 : W a 0 = n := by rw [w1 a ne1, am_up_same]
  rw [am_up_ne (by omega), am_zero_ne (by omega)] at w2
  have hg : m_rgs (W (a + 1)) n := w2.1
  have hnb := m_num_nb w2
  have hrel := w2.2.1
  have hrr := w2.2.2.1
  have hrg : ∀ i, 0 ≤ i → i < n → am_in32 (W (a + 1) i) := fun i q1 q2 => by
    have := m_rgs_lt hg q1 q2
    constructor <;> omega
  have ue : am_up W a 1 r (a + 1) = W (a + 1) := am_up_ne (Ne.symm ne1)
  have u0 : am_up W a 1 r a 0 = n := by rw [am_up_at, if_neg (by decide), e0]
  have u1 : am_up W a 1 r a 1 = r := am_up_same
  have fin : ∀ f, ((f = 1 ∧ m_prs (W (a + 1)) n) ∨ (f = 0 ∧ ¬ m_prs (W (a + 1)) n)) → ∀ kd, m_kd (W (a + 1)) n kd → Q none (am_up (am_up (am_up W a 1 r) a 3 f) a 4 kd) (am_RF sh) (a + 2) := by
    intro f hf kd hkd
    have er : am_up (am_up (am_up W a 1 r) a 3 f) a 4 kd (a + 1) = W (a + 1) := by rw [am_up_ne (Ne.symm ne1), am_up_ne (Ne.symm ne1), ue]
    refine hQ _ (fun x q1 q2 => by rw [am_up_ne q1, am_up_ne q1, am_up_ne q1, eW x q1 q2]) ⟨?_, ⟨by omega, h1.2⟩, ?_, ?_, ?_, ?_⟩ ?_
    · rw [am_up_at, if_neg (by decide), am_up_at, if_neg (by decide), u0]
    · rw [er]; exact hg
    · rw [er, am_up_at, if_neg (by decide), am_up_at, if_neg (by decide), u1]; exact hnb
    · rw [er, am_up_at, if_neg (by decide), am_up_at, if_pos rfl]; exact hf
    · rw [er, am_up_at, if_pos rfl]; exact hkd
    · rw [er]; exact hrel
  iterate 30 (all_goals (first
    | (refine And.intro (by omega) ?_)
    | (refine And.intro (by decide) ?_)
    | (refine And.intro (fun hb => absurd hb (by omega)) (fun hb => ?_))
    | (refine And.intro (fun hb => ?_) (fun hb => absurd hb (by omega)))
    | (refine And.intro (fun hb => ?_) (fun hb => ?_))
    | (intro hb)
    | (refine am_if_mk (a_i _) ?_)
    | (simp only [a_l, a_b, a_q, a_m, a_c, a_r, a_R, a_z, a_3, u0, u1])
    | (conv => whnf)))
  refine hK (s_T_allInPairs hc (by omega) (by omega) (by rw [ue]; exact hrg) (fun w => ?_) (fun b q1 q2 q3 => ?_))
  · rw [ue] at w
    have hp := m_prs_nb hg hnb w
    have ve : am_up (am_up W a 1 r) a 3 1 (a + 1) = W (a + 1) := by rw [am_up_ne (Ne.symm ne1), ue]
    have v0 : am_up (am_up W a 1 r) a 3 1 a 0 = n := by rw [am_up_at, if_neg (by decide), u0]
    have v3 : am_up (am_up W a 1 r) a 3 1 a 3 = 1 := am_up_same
    iterate 30 (all_goals (first
      | (refine And.intro (by omega) ?_)
      | (refine And.intro (by decide) ?_)
      | (refine And.intro (fun hb => absurd hb (by omega)) (fun hb => ?_))
      | (refine And.intro (fun hb => ?_) (fun hb => absurd hb (by omega)))
      | (refine And.intro (fun hb => ?_) (fun hb => ?_))
      | (intro hb)
      | (refine am_if_mk (a_i _) ?_)
      | (simp only [a_l, a_b, a_q, a_m, a_c, a_r, a_R, a_z, a_3, v0, v3])
      | (conv => whnf)))
    refine hK (s_T_kindToTell hc (by omega) (by rw [ve]; exact hg) (Or.inl ⟨rfl, by rw [ve]; exact hp⟩) (fun kd hkd => ?_))
    rw [ve] at hkd
    iterate 30 (all_goals (first
      | (refine And.intro (by omega) ?_)
      | (refine And.intro (by decide) ?_)
      | (refine And.intro (fun hb => absurd hb (by omega)) (fun hb => ?_))
      | (refine And.intro (fun hb => ?_) (fun hb => absurd hb (by omega)))
      | (refine And.intro (fun hb => ?_) (fun hb => ?_))
      | (intro hb)
      | (refine am_if_mk (a_i _) ?_)
      | (simp only [a_l, a_b, a_q, a_m, a_c, a_r, a_R, a_z, a_3])
      | (conv => whnf)))
    exact fin 1 (Or.inl ⟨rfl, hp⟩) kd hkd
  · rw [ue] at q3
    have hp := m_prs_nb' hg hnb q1 q2 q3
    have ve : am_up (am_up W a 1 r) a 3 0 (a + 1) = W (a + 1) := by rw [am_up_ne (Ne.symm ne1), ue]
    have v0 : am_up (am_up W a 1 r) a 3 0 a 0 = n := by rw [am_up_at, if_neg (by decide), u0]
    have v3 : am_up (am_up W a 1 r) a 3 0 a 3 = 0 := am_up_same
    iterate 30 (all_goals (first
      | (refine And.intro (by omega) ?_)
      | (refine And.intro (by decide) ?_)
      | (refine And.intro (fun hb => absurd hb (by omega)) (fun hb => ?_))
      | (refine And.intro (fun hb => ?_) (fun hb => absurd hb (by omega)))
      | (refine And.intro (fun hb => ?_) (fun hb => ?_))
      | (intro hb)
      | (refine am_if_mk (a_i _) ?_)
      | (simp only [a_l, a_b, a_q, a_m, a_c, a_r, a_R, a_z, a_3, v0, v3])
      | (conv => whnf)))
    refine hK (s_T_kindToTell hc (by omega) (by rw [ve]; exact hg) (Or.inr ⟨rfl, by rw [ve]; exact hp⟩) (fun kd hkd => ?_))
    rw [ve] at hkd
    iterate 30 (all_goals (first
      | (refine And.intro (by omega) ?_)
      | (refine And.intro (by decide) ?_)
      | (refine And.intro (fun hb => absurd hb (by omega)) (fun hb => ?_))
      | (refine And.intro (fun hb => ?_) (fun hb => absurd hb (by omega)))
      | (refine And.intro (fun hb => ?_) (fun hb => ?_))
      | (intro hb)
      | (refine am_if_mk (a_i _) ?_)
      | (simp only [a_l, a_b, a_q, a_m, a_c, a_r, a_R, a_z, a_3])
      | (conv => whnf)))
    exact fin 0 (Or.inr ⟨rfl, hp⟩) kd hkd
theorem s_T_init1 {G : am_G} {d : Nat} {sh : Int → Option Nat} {V : am_V} {Q : Option AV → am_V → am_T → Nat → Prop} {a : Nat} (ht : th_pl a) (hr : ∀ i, 0 ≤ i → i < 1 → am_in32 (V 30 i)) (hQ : ∀ V', (∀ x, x ≠ a → x ≠ a + 1 → V' x = V x) → th_ok V' a 1 → (∀ i j, 0 ≤ i → i < 1 → 0 ≤ j → j < 1 → (V' (a + 1) i = V' (a + 1) j ↔ V 30 i = V 30 j)) → Q none V' (am_RF sh) (a + 2)) : am_Calls G (d + 4) 153 [vR a, vR 30, vI 1] V (am_zeroR (am_RF sh) a) (a + 1) Q := by
  have a_0 : 107 ≤ a := ht.1
  have a_l := th_lay ht
  have a_b := th_ble ht
  have a_q := th_beq ht
  have a_m := th_lay1 ht
  have a_c := th_ble1 ht
  have a_r := th_beq1 ht
  have a_R : am_RF sh a 2 = some (a + 1) := th_RF ht
  have a_z : Nat.beq (a + 1) 0 = false := rfl
  have a_3 : Nat.ble 3 (a + 1) = true := th_ble3 ht
  have a_i : ∀ r, am_isr 3 (vR a :: r) = true := th_isr ht
  have hRn : am_upR (am_zeroR (am_zeroR (am_RF sh) a) (a + 1)) a 2 (some (a + 1)) = am_RF sh := th_RFnew ht
  have hc := th_pc_of ht
  have ne1 : a ≠ a + 1 := by omega
  refine am_enter mt_T_init ok_T_init rfl ?_
  refine am_run 400 mt_T_init ok_T_init (fun K S hK hS => ?_)
  iterate 40 (all_goals (first
    | (refine And.intro (by omega) ?_)
    | (refine And.intro (by decide) ?_)
    | (refine And.intro (fun hb => absurd hb (by omega)) (fun hb => ?_))
    | (refine And.intro (fun hb => ?_) (fun hb => absurd hb (by omega)))
    | (refine And.intro (fun hb => ?_) (fun hb => ?_))
    | (intro hb)
    | (refine am_if_mk (a_i _) ?_)
    | (simp only [a_l, a_b, a_q, a_m, a_c, a_r, a_R, a_z, a_3, hRn, am_up_same])
    | (conv => whnf)))
  refine hK (s_T_numberBlocks hc (by omega) (fun i q1 q2 => by rw [am_up_ne (by omega), am_zero_ne (by omega)]; exact hr i q1 q2) (fun W r w1 w2 => ?_))
  have eW : ∀ x, x ≠ a → x ≠ a + 1 → W x = V x := fun x q1 q2 => by rw [w1 x q2, am_up_ne q1, am_zero_ne q2]
  have e0 : W a 0 = 1 := by rw [w1 a ne1, am_up_same]
  rw [am_up_ne (by omega), am_zero_ne (by omega)] at w2
  have hg : m_rgs (W (a + 1)) 1 := w2.1
  have hnb := m_num_nb w2
  have hrel := w2.2.1
  have hrr := w2.2.2.1
  have hrg : ∀ i, 0 ≤ i → i < 1 → am_in32 (W (a + 1) i) := fun i q1 q2 => by
    have := m_rgs_lt hg q1 q2
    constructor <;> omega
  have ue : am_up W a 1 r (a + 1) = W (a + 1) := am_up_ne (Ne.symm ne1)
  have u0 : am_up W a 1 r a 0 = 1 := by rw [am_up_at, if_neg (by decide), e0]
  have u1 : am_up W a 1 r a 1 = r := am_up_same
  have fin : ∀ f, ((f = 1 ∧ m_prs (W (a + 1)) 1) ∨ (f = 0 ∧ ¬ m_prs (W (a + 1)) 1)) → ∀ kd, m_kd (W (a + 1)) 1 kd → Q none (am_up (am_up (am_up W a 1 r) a 3 f) a 4 kd) (am_RF sh) (a + 2) := by
    intro f hf kd hkd
    have er : am_up (am_up (am_up W a 1 r) a 3 f) a 4 kd (a + 1) = W (a + 1) := by rw [am_up_ne (Ne.symm ne1), am_up_ne (Ne.symm ne1), ue]
    refine hQ _ (fun x q1 q2 => by rw [am_up_ne q1, am_up_ne q1, am_up_ne q1, eW x q1 q2]) ⟨?_, ⟨by omega, by omega⟩, ?_, ?_, ?_, ?_⟩ ?_
    · rw [am_up_at, if_neg (by decide), am_up_at, if_neg (by decide), u0]
    · rw [er]; exact hg
    · rw [er, am_up_at, if_neg (by decide), am_up_at, if_neg (by decide), u1]; exact hnb
    · rw [er, am_up_at, if_neg (by decide), am_up_at, if_pos rfl]; exact hf
    · rw [er, am_up_at, if_pos rfl]; exact hkd
    · rw [er]; exact hrel
  iterate 30 (all_goals (first
    | (refine And.intro (by omega) ?_)
    | (refine And.intro (by decide) ?_)
    | (refine And.intro (fun hb => absurd hb (by omega)) (fun hb => ?_))
    | (refine And.intro (fun hb => ?_) (fun hb => absurd hb (by omega)))
    | (refine And.intro (fun hb => ?_) (fun hb => ?_))
    | (intro hb)
    | (refine am_if_mk (a_i _) ?_)
    | (simp only [a_l, a_b, a_q, a_m, a_c, a_r, a_R, a_z, a_3, u0, u1])
    | (conv => whnf)))
  refine hK (s_T_allInPairs hc (by omega) (by omega) (by rw [ue]; exact hrg) (fun w => ?_) (fun b q1 q2 q3 => ?_))
  · rw [ue] at w
    have hp := m_prs_nb hg hnb w
    have ve : am_up (am_up W a 1 r) a 3 1 (a + 1) = W (a + 1) := by rw [am_up_ne (Ne.symm ne1), ue]
    have v0 : am_up (am_up W a 1 r) a 3 1 a 0 = 1 := by rw [am_up_at, if_neg (by decide), u0]
    have v3 : am_up (am_up W a 1 r) a 3 1 a 3 = 1 := am_up_same
    iterate 30 (all_goals (first
      | (refine And.intro (by omega) ?_)
      | (refine And.intro (by decide) ?_)
      | (refine And.intro (fun hb => absurd hb (by omega)) (fun hb => ?_))
      | (refine And.intro (fun hb => ?_) (fun hb => absurd hb (by omega)))
      | (refine And.intro (fun hb => ?_) (fun hb => ?_))
      | (intro hb)
      | (refine am_if_mk (a_i _) ?_)
      | (simp only [a_l, a_b, a_q, a_m, a_c, a_r, a_R, a_z, a_3, v0, v3])
      | (conv => whnf)))
    refine hK (s_T_kindToTell hc (by omega) (by rw [ve]; exact hg) (Or.inl ⟨rfl, by rw [ve]; exact hp⟩) (fun kd hkd => ?_))
    rw [ve] at hkd
    iterate 30 (all_goals (first
      | (refine And.intro (by omega) ?_)
      | (refine And.intro (by decide) ?_)
      | (refine And.intro (fun hb => absurd hb (by omega)) (fun hb => ?_))
      | (refine And.intro (fun hb => ?_) (fun hb => absurd hb (by omega)))
      | (refine And.intro (fun hb => ?_) (fun hb => ?_))
      | (intro hb)
      | (refine am_if_mk (a_i _) ?_)
      | (simp only [a_l, a_b, a_q, a_m, a_c, a_r, a_R, a_z, a_3])
      | (conv => whnf)))
    exact fin 1 (Or.inl ⟨rfl, hp⟩) kd hkd
  · rw [ue] at q3
    have hp := m_prs_nb' hg hnb q1 q2 q3
    have ve : am_up (am_up W a 1 r) a 3 0 (a + 1) = W (a + 1) := by rw [am_up_ne (Ne.symm ne1), ue]
    have v0 : am_up (am_up W a 1 r) a 3 0 a 0 = 1 := by rw [am_up_at, if_neg (by decide), u0]
    have v3 : am_up (am_up W a 1 r) a 3 0 a 3 = 0 := am_up_same
    iterate 30 (all_goals (first
      | (refine And.intro (by omega) ?_)
      | (refine And.intro (by decide) ?_)
      | (refine And.intro (fun hb => absurd hb (by omega)) (fun hb => ?_))
      | (refine And.intro (fun hb => ?_) (fun hb => absurd hb (by omega)))
      | (refine And.intro (fun hb => ?_) (fun hb => ?_))
      | (intro hb)
      | (refine am_if_mk (a_i _) ?_)
      | (simp only [a_l, a_b, a_q, a_m, a_c, a_r, a_R, a_z, a_3, v0, v3])
      | (conv => whnf)))
    refine hK (s_T_kindToTell hc (by omega) (by rw [ve]; exact hg) (Or.inr ⟨rfl, by rw [ve]; exact hp⟩) (fun kd hkd => ?_))
    rw [ve] at hkd
    iterate 30 (all_goals (first
      | (refine And.intro (by omega) ?_)
      | (refine And.intro (by decide) ?_)
      | (refine And.intro (fun hb => absurd hb (by omega)) (fun hb => ?_))
      | (refine And.intro (fun hb => ?_) (fun hb => absurd hb (by omega)))
      | (refine And.intro (fun hb => ?_) (fun hb => ?_))
      | (intro hb)
      | (refine am_if_mk (a_i _) ?_)
      | (simp only [a_l, a_b, a_q, a_m, a_c, a_r, a_R, a_z, a_3])
      | (conv => whnf)))
    exact fin 0 (Or.inr ⟨rfl, hp⟩) kd hkd
theorem s_T_init {G : am_G} {d : Nat} {sh : Int → Option Nat} {V : am_V} {Q : Option AV → am_V → am_T → Nat → Prop} {a : Nat} {n : Int} (ht : th_pl a) (h1 : 1 ≤ n ∧ n ≤ 10) (hr : ∀ i, 0 ≤ i → i < n → am_in32 (V 30 i)) (hQ : ∀ V', (∀ x, x ≠ a → x ≠ a + 1 → V' x = V x) → th_ok V' a n → (∀ i j, 0 ≤ i → i < n → 0 ≤ j → j < n → (V' (a + 1) i = V' (a + 1) j ↔ V 30 i = V 30 j)) → Q none V' (am_RF sh) (a + 2)) : am_Calls G (d + 4) 153 [vR a, vR 30, vI n] V (am_zeroR (am_RF sh) a) (a + 1) Q := by
  by_cases hn : n = 1
  · subst hn
    exact s_T_init1 ht hr hQ
  · exact s_T_initN ht (by omega) hr hQ
theorem s_T_isOf {G : am_G} {d : Nat} {V : am_V} {R : am_T} {T : Nat} {Q : Option AV → am_V → am_T → Nat → Prop} {a : Nat} {b : Int} (ha : th_pl a) (h1 : am_in32 b) (h2 : 0 ≤ V a 4 ∧ V a 4 ≤ 4) (hQ : ∀ r, (r = 1 ∧ (b = 0 ∨ V a 4 = b ∨ (b = 1 ∧ (V a 4 = 2 ∨ V a 4 = 3)))) ∨ (r = 0 ∧ ¬ (b = 0 ∨ V a 4 = b ∨ (b = 1 ∧ (V a 4 = 2 ∨ V a 4 = 3)))) → Q (some (vI r)) V R T) : am_Calls G (d + 1) 161 [vR a, vI b] V R T Q := by
  refine am_enter mt_T_isOf ok_T_isOf rfl ?_
  have a_l := th_lay ha
  have a_b := th_ble ha
  have a_q := th_beq ha
  refine am_run 400 mt_T_isOf ok_T_isOf (fun K S hK hS => ?_)
  iterate 30 (all_goals (first
    | (refine And.intro (by omega) ?_)
    | (refine And.intro (by decide) ?_)
    | (refine And.intro (fun hb => absurd hb (by omega)) (fun hb => ?_))
    | (refine And.intro (fun hb => ?_) (fun hb => absurd hb (by omega)))
    | (refine And.intro (fun hb => ?_) (fun hb => ?_))
    | (intro hb)
    | (simp only [a_l, a_b, a_q])
    | (conv => whnf)))
  all_goals exact hQ _ (by omega)
end
section
/-! the class: labels, what is made of Things -/
/-- the least point that is like k -/
def m_lik (h : Int → Int) (k v : Int) : Prop := 0 ≤ v ∧ v ≤ k ∧ h v = h k ∧ ∀ y, 0 ≤ y → y < v → h y ≠ h k
theorem m_lik_rel {g h : Int → Int} {n : Int} (w : ∀ k, 0 ≤ k → k < n → m_lik h k (g k)) : ∀ i j, 0 ≤ i → i < n → 0 ≤ j → j < n → (g i = g j ↔ h i = h j) := by
  intro i j a1 a2 a3 a4
  obtain ⟨b1, b2, b3, b4⟩ := w i a1 a2
  obtain ⟨c1, c2, c3, c4⟩ := w j a3 a4
  constructor
  · intro e
    rw [← b3, e, c3]
  · intro e
    rcases Int.lt_trichotomy (g i) (g j) with q | q | q
    · exact absurd (b3.trans e) (c4 (g i) b1 q)
    · exact q
    · exact absurd (c3.trans e.symm) (b4 (g j) c1 q)
theorem s_F_labelLikeItems {G : am_G} {d : Nat} {sh : Int → Option Nat} {V : am_V} {T : Nat} {Q : Option AV → am_V → am_T → Nat → Prop} {s i n : Int} (hs : 0 ≤ s ∧ s < 8) (h1 : 1 ≤ n ∧ n ≤ 10) (h2 : 0 ≤ i ∧ i + n ≤ 40) (hr : ∀ j, 0 ≤ j → j < 40 → am_in64 (V 4 (64 * s + j))) (hQ : ∀ V', (∀ a, a ≠ 30 → V' a = V a) → (∀ k, 0 ≤ k → k < n → m_lik (fun x => V 4 (64 * s + (i + x))) k (V' 30 k)) → Q none V' (am_RF sh) T) : am_Calls G (d + 1) 39 [vR 3, vW 4 s, vI i, vI n] V (am_RF sh) T Q := by
  refine am_enter mt_F_labelLikeItems ok_F_labelLikeItems rfl ?_
  have loop : ∀ (j : Nat) (k : Int) (x5 : Option AV) (W : am_V), 0 ≤ k → k ≤ n → n - k < j → (∀ a, a ≠ 30 → W a = V a) → (∀ y, 0 ≤ y → y < k → m_lik (fun x => V 4 (64 * s + (i + x))) y (W 30 y)) → am_Sem G d 39 V T Q 3 [some (vR 3), some (vW 4 s), some (vI i), some (vI n), some (vI k), x5] [] W (am_RF sh) T 0 0 := by
    intro j
    induction j with
    | zero => intro k x5 W a b c; omega
    | succ j ih =>
      intro k x5 W a b c w1 w2
      by_cases hkn : k = n
      · subst hkn
        refine am_run 400 mt_F_labelLikeItems ok_F_labelLikeItems (fun K S hK hS => ?_)
        iterate 30 (all_goals (first
          | (refine And.intro (by omega) ?_)
          | (refine And.intro (fun hb => absurd hb (by omega)) (fun hb => ?_))
          | (refine And.intro (fun hb => ?_) (fun hb => absurd hb (by omega)))
          | (refine And.intro (fun hb => ?_) (fun hb => ?_))
          | (intro hb)
          | (conv => whnf)))
        exact hQ W w1 w2
      have e4 : ∀ i, W 4 i = V 4 i := fun i => by rw [w1 4 (by decide)]
      have rk := hr (i + k) (by omega) (by omega)
      rw [← e4] at rk
      have inner : ∀ (j2 : Nat) (y : Int), 0 ≤ y → y ≤ k → k - y < j2 → (∀ z, 0 ≤ z → z < y → V 4 (64 * s + (i + z)) ≠ V 4 (64 * s + (i + k))) → am_Sem G d 39 V T Q 12 [some (vR 3), some (vW 4 s), some (vI i), some (vI n), some (vI k), some (vI y)] [] W (am_RF sh) T 0 0 := by
        intro j2
        induction j2 with
        | zero => intro y q1 q2 q3; omega
        | succ j2 ih2 =>
          intro y q1 q2 q3 hno
          have ry : am_in64 (W 4 (64 * s + (i + y))) := by rw [e4]; exact hr (i + y) (by omega) (by omega)
          have fin : V 4 (64 * s + (i + y)) = V 4 (64 * s + (i + k)) → am_Sem G d 39 V T Q 3 [some (vR 3), some (vW 4 s), some (vI i), some (vI n), some (vI (k + 1)), some (vI y)] [] (am_up W 30 k y) (am_RF sh) T 0 0 := fun e => by
            refine ih (k + 1) _ _ (by omega) (by omega) (by omega) (fun a ha => by rw [am_up_ne ha, w1 a ha]) (fun z z1 z2 => ?_)
            rw [am_up_at]
            by_cases e2 : z = k
            · rw [if_pos e2, e2]
              exact ⟨q1, q2, e, hno⟩
            · rw [if_neg e2]
              exact w2 z z1 (by omega)
          refine am_run 400 mt_F_labelLikeItems ok_F_labelLikeItems (fun K S hK hS => ?_)
          iterate 30 (all_goals (first
            | (refine And.intro (by omega) ?_)
            | (refine And.intro (⟨ry, rk⟩) ?_)
            | (refine And.intro (fun hb => absurd hb (by omega)) (fun hb => ?_))
            | (refine And.intro (fun hb => ?_) (fun hb => absurd hb (by omega)))
            | (refine And.intro (fun hb => ?_) (fun hb => ?_))
            | (intro hb)
            | (conv => whnf)))
          · have hy : y = k := by omega
            exact hS (fin (by rw [hy]))
          · have q : W 4 (64 * s + (i + y)) = W 4 (64 * s + (i + k)) := by assumption
            rw [e4, e4] at q
            exact hS (fin q)
          · have q := hb
            rw [e4, e4] at q
            refine hS (ih2 (y + 1) (by omega) (by omega) (by omega) (fun z z1 z2 => ?_))
            by_cases e2 : z = y
            · rw [e2]; exact q
            · exact hno z z1 (by omega)
      refine am_run 400 mt_F_labelLikeItems ok_F_labelLikeItems (fun K S hK hS => ?_)
      iterate 30 (all_goals (first
        | (refine And.intro (by omega) ?_)
        | (refine And.intro (fun hb => absurd hb (by omega)) (fun hb => ?_))
        | (refine And.intro (fun hb => ?_) (fun hb => absurd hb (by omega)))
        | (refine And.intro (fun hb => ?_) (fun hb => ?_))
        | (intro hb)
        | (conv => whnf)))
      exact hS (inner (k + 1).toNat 0 (by omega) (by omega) (by omega) (fun z a b => absurd b (by omega)))
  refine am_run 400 mt_F_labelLikeItems ok_F_labelLikeItems (fun K S hK hS => ?_)
  iterate 30 (all_goals (first
    | (refine And.intro (by omega) ?_)
    | (refine And.intro (fun hb => absurd hb (by omega)) (fun hb => ?_))
    | (refine And.intro (fun hb => ?_) (fun hb => absurd hb (by omega)))
    | (refine And.intro (fun hb => ?_) (fun hb => ?_))
    | (intro hb)
    | (conv => whnf)))
  exact hS (loop (n + 1).toNat 0 _ V (by omega) (by omega) (by omega) (fun _ _ => rfl) (fun y a b => absurd b (by omega)))
def th_set (sh : Int → Option Nat) (k : Int) (x : Option Nat) : Int → Option Nat := fun j => if j = k then x else sh j
theorem th_RFset {sh : Int → Option Nat} {k : Int} {x : Option Nat} : am_upR (am_RF sh) 15 k x = am_RF (th_set sh k x) := by
  funext b j
  by_cases e : b = 15
  · subst e
    rw [am_upR_at]
    rfl
  · rw [am_upR_ne e]
    unfold am_RF
    have : Nat.beq b 15 = false := by
      cases h : Nat.beq b 15 with
      | false => rfl
      | true => exact absurd (Nat.eq_of_beq_eq_true h) e
    rw [this]
theorem s_F_shelve {G : am_G} {d : Nat} {sh : Int → Option Nat} {V : am_V} {T : Nat} {Q : Option AV → am_V → am_T → Nat → Prop} {k : Int} {a : Nat} (hk : 0 ≤ k ∧ k < 10) (ha : th_pl a) (hQ : Q (some (vI (V a 4))) (am_up V 3 17 0) (am_RF (th_set sh k (some a))) T) : am_Calls G (d + 2) 40 [vR 3, vI k, vR a] V (am_RF sh) T Q := by
  have a_0 : 107 ≤ a := ha.1
  have a_l := th_lay ha
  have a_b := th_ble ha
  have a_q := th_beq ha
  have a_m := th_lay1 ha
  have a_c := th_ble1 ha
  have a_r := th_beq1 ha
  have a_R : am_RF sh a 2 = some (a + 1) := th_RF ha
  have a_z : Nat.beq (a + 1) 0 = false := rfl
  have a_3 : Nat.ble 3 (a + 1) = true := th_ble3 ha
  have a_i : ∀ r, am_isr 3 (vR a :: r) = true := th_isr ha
  refine am_enter mt_F_shelve ok_F_shelve rfl ?_
  refine am_run 400 mt_F_shelve ok_F_shelve (fun K S hK hS => ?_)
  iterate 30 (all_goals (first
    | (refine And.intro (by omega) ?_)
    | (refine And.intro (by decide) ?_)
    | (refine And.intro (fun hb => absurd hb (by omega)) (fun hb => ?_))
    | (refine And.intro (fun hb => ?_) (fun hb => absurd hb (by omega)))
    | (refine And.intro (fun hb => ?_) (fun hb => ?_))
    | (intro hb)
    | (refine am_if_mk (a_i _) ?_)
    | (simp only [a_l, a_b, a_q, a_m, a_c, a_r, a_R, a_z, a_3])
    | (conv => whnf)))
  refine hK (s_F_fine ?_)
  iterate 30 (all_goals (first
    | (refine And.intro (by omega) ?_)
    | (refine And.intro (fun hb => absurd hb (by omega)) (fun hb => ?_))
    | (refine And.intro (fun hb => ?_) (fun hb => absurd hb (by omega)))
    | (refine And.intro (fun hb => ?_) (fun hb => ?_))
    | (intro hb)
    | (conv => whnf)))
  rw [th_RFset]
  exact hQ
theorem s_F_meetOf {G : am_G} {d : Nat} {sh : Int → Option Nat} {V : am_V} {T : Nat} {Q : Option AV → am_V → am_T → Nat → Prop} {a b : Nat} {n : Int} (ha : th_pl a) (hb : th_pl b) (h1 : 1 ≤ n ∧ n ≤ 10) (hT : th_pl T) (haT : a + 2 ≤ T) (hbT : b + 2 ≤ T) (ea : V a 0 = n) (ra : ∀ i, 0 ≤ i → i < n → 0 ≤ V (a + 1) i ∧ V (a + 1) i < 10) (rb : ∀ i, 0 ≤ i → i < n → 0 ≤ V (b + 1) i ∧ V (b + 1) i < 10) (hQ : ∀ V', (∀ x, x ≠ 30 → x ≠ T → x ≠ T + 1 → V' x = V x) → th_ok V' T n → (∀ i j, 0 ≤ i → i < n → 0 ≤ j → j < n → (V' (T + 1) i = V' (T + 1) j ↔ (V (a + 1) i = V (a + 1) j ∧ V (b + 1) i = V (b + 1) j))) → Q (some (vR T)) V' (am_RF sh) (T + 2)) : am_Calls G (d + 5) 41 [vR 3, vR a, vR b] V (am_RF sh) T Q := by
  have a_0 : 107 ≤ a := ha.1
  have a_l := th_lay ha
  have a_b := th_ble ha
  have a_q := th_beq ha
  have a_m := th_lay1 ha
  have a_c := th_ble1 ha
  have a_r := th_beq1 ha
  have a_R : am_RF sh a 2 = some (a + 1) := th_RF ha
  have a_z : Nat.beq (a + 1) 0 = false := rfl
  have a_3 : Nat.ble 3 (a + 1) = true := th_ble3 ha
  have a_i : ∀ r, am_isr 3 (vR a :: r) = true := th_isr ha
  have b_0 : 107 ≤ b := hb.1
  have b_l := th_lay hb
  have b_b := th_ble hb
  have b_q := th_beq hb
  have b_m := th_lay1 hb
  have b_c := th_ble1 hb
  have b_r := th_beq1 hb
  have b_R : am_RF sh b 2 = some (b + 1) := th_RF hb
  have b_z : Nat.beq (b + 1) 0 = false := rfl
  have b_3 : Nat.ble 3 (b + 1) = true := th_ble3 hb
  have b_i : ∀ r, am_isr 3 (vR b :: r) = true := th_isr hb
  have T_0 : 107 ≤ T := hT.1
  have T_l := th_lay hT
  have T_b := th_ble hT
  have T_q := th_beq hT
  have T_m := th_lay1 hT
  have T_c := th_ble1 hT
  have T_r := th_beq1 hT
  have T_R : am_RF sh T 2 = some (T + 1) := th_RF hT
  have T_z : Nat.beq (T + 1) 0 = false := rfl
  have T_3 : Nat.ble 3 (T + 1) = true := th_ble3 hT
  have T_i : ∀ r, am_isr 3 (vR T :: r) = true := th_isr hT
  refine am_enter mt_F_meetOf ok_F_meetOf rfl ?_
  have loop : ∀ (j : Nat) (k : Int) (W : am_V), 0 ≤ k → k ≤ n → n - k < j → (∀ x, x ≠ 30 → W x = V x) → (∀ i, 0 ≤ i → i < k → W 30 i = V (a + 1) i * 10 + V (b + 1) i) → am_Sem G (d + 4) 41 V T Q 2 [some (vR 3), some (vR a), some (vR b), some (vI k)] [] W (am_RF sh) T 0 0 := by
    intro j
    induction j with
    | zero => intro k W q1 q2 q3; omega
    | succ j ih =>
      intro k W q1 q2 q3 w1 w2
      have e0 : W a 0 = n := by rw [w1 a (by omega), ea]
      by_cases hkn : k = n
      · have ez : am_zero W T a 0 = n := by rw [am_zero_ne (by omega), e0]
        have hz : am_zeroR (am_RF sh) T 3 6 = some 30 := by rw [am_zeroR_ne (by omega)]; rfl
        refine am_run 400 mt_F_meetOf ok_F_meetOf (fun K S hK hS => ?_)
        iterate 30 (all_goals (first
          | (refine And.intro (by omega) ?_)
          | (refine And.intro (by decide) ?_)
          | (refine And.intro (fun hb => absurd hb (by omega)) (fun hb => ?_))
          | (refine And.intro (fun hb => ?_) (fun hb => absurd hb (by omega)))
          | (refine And.intro (fun hb => ?_) (fun hb => ?_))
          | (intro hb)
          | (refine am_if_mk (a_i _) ?_)
          | (refine am_if_mk (b_i _) ?_)
          | (refine am_if_mk (T_i _) ?_)
          | (simp only [a_l, a_b, a_q, a_m, a_c, a_r, a_R, a_z, a_3, b_l, b_b, b_q, b_m, b_c, b_r, b_R, b_z, b_3, T_l, T_b, T_q, T_m, T_c, T_r, T_R, T_z, T_3, e0, ez, hz])
          | (conv => whnf)))
        rw [hkn] at w2
        refine hK (s_T_init hT h1 (fun i i1 i2 => ?_) (fun W' v1 v2 v3 => ?_))
        · rw [am_zero_ne (by omega), w2 i i1 i2]
          have := ra i i1 i2
          have := rb i i1 i2
          constructor <;> omega
        · iterate 30 (all_goals (first
            | (refine And.intro (by omega) ?_)
            | (refine And.intro (by decide) ?_)
            | (refine And.intro (fun hb => absurd hb (by omega)) (fun hb => ?_))
            | (refine And.intro (fun hb => ?_) (fun hb => absurd hb (by omega)))
            | (refine And.intro (fun hb => ?_) (fun hb => ?_))
            | (intro hb)
            | (refine am_if_mk (T_i _) ?_)
            | (simp only [T_l, T_b, T_q, T_m, T_c, T_r, T_R, T_z, T_3])
            | (conv => whnf)))
          refine hQ W' (fun x x1 x2 x3 => by rw [v1 x x2 x3, am_zero_ne x2, w1 x x1]) v2 (fun i j i1 i2 j1 j2 => ?_)
          have := v3 i j i1 i2 j1 j2
          rw [am_zero_ne (by omega), w2 i i1 i2, w2 j j1 j2] at this
          rw [this]
          have := ra i i1 i2
          have := rb i i1 i2
          have := ra j j1 j2
          have := rb j j1 j2
          omega
      · refine am_run 400 mt_F_meetOf ok_F_meetOf (fun K S hK hS => ?_)
        iterate 30 (all_goals (first
          | (refine And.intro (by omega) ?_)
          | (refine And.intro (by decide) ?_)
          | (refine And.intro (fun hb => absurd hb (by omega)) (fun hb => ?_))
          | (refine And.intro (fun hb => ?_) (fun hb => absurd hb (by omega)))
          | (refine And.intro (fun hb => ?_) (fun hb => ?_))
          | (intro hb)
          | (refine am_if_mk (a_i _) ?_)
          | (refine am_if_mk (b_i _) ?_)
          | (refine am_if_mk (T_i _) ?_)
          | (simp only [a_l, a_b, a_q, a_m, a_c, a_r, a_R, a_z, a_3, b_l, b_b, b_q, b_m, b_c, b_r, b_R, b_z, b_3, T_l, T_b, T_q, T_m, T_c, T_r, T_R, T_z, T_3, e0])
          | (conv => whnf)))
        refine hS (ih (k + 1) _ (by omega) (by omega) (by omega) (fun x hx => by rw [am_up_ne hx, w1 x hx]) (fun i i1 i2 => ?_))
        rw [am_up_at]
        by_cases e : i = k
        · rw [if_pos e, w1 (a + 1) (by omega), w1 (b + 1) (by omega), e]
        · rw [if_neg e, w2 i i1 (by omega)]
  refine am_run 400 mt_F_meetOf ok_F_meetOf (fun K S hK hS => ?_)
  iterate 30 (all_goals (first
    | (refine And.intro (by omega) ?_)
    | (refine And.intro (fun hb => absurd hb (by omega)) (fun hb => ?_))
    | (refine And.intro (fun hb => ?_) (fun hb => absurd hb (by omega)))
    | (refine And.intro (fun hb => ?_) (fun hb => ?_))
    | (intro hb)
    | (conv => whnf)))
  exact hS (loop (n + 1).toNat 0 V (by omega) (by omega) (by omega) (fun _ _ => rfl) (fun i i1 i2 => absurd i2 (by omega)))
theorem s_F_turnedBy {G : am_G} {d : Nat} {sh : Int → Option Nat} {V : am_V} {T : Nat} {Q : Option AV → am_V → am_T → Nat → Prop} {a : Nat} {n s : Int} (ha : th_pl a) (h1 : 1 ≤ n ∧ n ≤ 10) (hT : th_pl T) (haT : a + 2 ≤ T) (hs : 0 ≤ s ∧ s ≤ n) (ea : V a 0 = n) (ra : ∀ i, 0 ≤ i → i < n → 0 ≤ V (a + 1) i ∧ V (a + 1) i < 10) (hQ : ∀ V', (∀ x, x ≠ 30 → x ≠ T → x ≠ T + 1 → V' x = V x) → th_ok V' T n → (∀ i j, 0 ≤ i → i < n → 0 ≤ j → j < n → (V' (T + 1) i = V' (T + 1) j ↔ (V (a + 1) (if i + s < n then i + s else i + s - n) = V (a + 1) (if j + s < n then j + s else j + s - n)))) → Q (some (vR T)) V' (am_RF sh) (T + 2)) : am_Calls G (d + 5) 43 [vR 3, vR a, vI s] V (am_RF sh) T Q := by
  have a_0 : 107 ≤ a := ha.1
  have a_l := th_lay ha
  have a_b := th_ble ha
  have a_q := th_beq ha
  have a_m := th_lay1 ha
  have a_c := th_ble1 ha
  have a_r := th_beq1 ha
  have a_R : am_RF sh a 2 = some (a + 1) := th_RF ha
  have a_z : Nat.beq (a + 1) 0 = false := rfl
  have a_3 : Nat.ble 3 (a + 1) = true := th_ble3 ha
  have a_i : ∀ r, am_isr 3 (vR a :: r) = true := th_isr ha
  have T_0 : 107 ≤ T := hT.1
  have T_l := th_lay hT
  have T_b := th_ble hT
  have T_q := th_beq hT
  have T_m := th_lay1 hT
  have T_c := th_ble1 hT
  have T_r := th_beq1 hT
  have T_R : am_RF sh T 2 = some (T + 1) := th_RF hT
  have T_z : Nat.beq (T + 1) 0 = false := rfl
  have T_3 : Nat.ble 3 (T + 1) = true := th_ble3 hT
  have T_i : ∀ r, am_isr 3 (vR T :: r) = true := th_isr hT
  refine am_enter mt_F_turnedBy ok_F_turnedBy rfl ?_
  have loop : ∀ (j : Nat) (k : Int) (x4 : Option AV) (W : am_V), 0 ≤ k → k ≤ n → n - k < j → (∀ x, x ≠ 30 → W x = V x) → (∀ i, 0 ≤ i → i < k → W 30 i = V (a + 1) (if i + s < n then i + s else i + s - n)) → am_Sem G (d + 4) 43 V T Q 2 [some (vR 3), some (vR a), some (vI s), some (vI k), x4] [] W (am_RF sh) T 0 0 := by
    intro j
    induction j with
    | zero => intro k x4 W q1 q2 q3; omega
    | succ j ih =>
      intro k x4 W q1 q2 q3 w1 w2
      have e0 : W a 0 = n := by rw [w1 a (by omega), ea]
      by_cases hkn : k = n
      · have ez : am_zero W T a 0 = n := by rw [am_zero_ne (by omega), e0]
        have hz : am_zeroR (am_RF sh) T 3 6 = some 30 := by rw [am_zeroR_ne (by omega)]; rfl
        refine am_run 400 mt_F_turnedBy ok_F_turnedBy (fun K S hK hS => ?_)
        iterate 30 (all_goals (first
          | (refine And.intro (by omega) ?_)
          | (refine And.intro (by decide) ?_)
          | (refine And.intro (fun hb => absurd hb (by omega)) (fun hb => ?_))
          | (refine And.intro (fun hb => ?_) (fun hb => absurd hb (by omega)))
          | (refine And.intro (fun hb => ?_) (fun hb => ?_))
          | (intro hb)
          | (refine am_if_mk (a_i _) ?_)
          | (refine am_if_mk (T_i _) ?_)
          | (simp only [a_l, a_b, a_q, a_m, a_c, a_r, a_R, a_z, a_3, T_l, T_b, T_q, T_m, T_c, T_r, T_R, T_z, T_3, e0, ez, hz])
          | (conv => whnf)))
        rw [hkn] at w2
        refine hK (s_T_init hT h1 (fun i i1 i2 => ?_) (fun W' v1 v2 v3 => ?_))
        · rw [am_zero_ne (by omega), w2 i i1 i2]
          have := ra (if i + s < n then i + s else i + s - n) (by split <;> omega) (by split <;> omega)
          constructor <;> omega
        · iterate 30 (all_goals (first
            | (refine And.intro (by omega) ?_)
            | (refine And.intro (by decide) ?_)
            | (refine And.intro (fun hb => absurd hb (by omega)) (fun hb => ?_))
            | (refine And.intro (fun hb => ?_) (fun hb => absurd hb (by omega)))
            | (refine And.intro (fun hb => ?_) (fun hb => ?_))
            | (intro hb)
            | (refine am_if_mk (T_i _) ?_)
            | (simp only [T_l, T_b, T_q, T_m, T_c, T_r, T_R, T_z, T_3])
            | (conv => whnf)))
          refine hQ W' (fun x x1 x2 x3 => by rw [v1 x x2 x3, am_zero_ne x2, w1 x x1]) v2 (fun i j i1 i2 j1 j2 => ?_)
          have := v3 i j i1 i2 j1 j2
          rw [am_zero_ne (by omega), w2 i i1 i2, w2 j j1 j2] at this
          exact this
      · refine am_run 400 mt_F_turnedBy ok_F_turnedBy (fun K S hK hS => ?_)
        iterate 30 (all_goals (first
          | (refine And.intro (by omega) ?_)
          | (refine And.intro (by decide) ?_)
          | (refine And.intro (fun hb => absurd hb (by omega)) (fun hb => ?_))
          | (refine And.intro (fun hb => ?_) (fun hb => absurd hb (by omega)))
          | (refine And.intro (fun hb => ?_) (fun hb => ?_))
          | (intro hb)
          | (refine am_if_mk (a_i _) ?_)
          | (refine am_if_mk (T_i _) ?_)
          | (simp only [a_l, a_b, a_q, a_m, a_c, a_r, a_R, a_z, a_3, T_l, T_b, T_q, T_m, T_c, T_r, T_R, T_z, T_3, e0])
          | (conv => whnf)))
        all_goals refine hS (ih (k + 1) _ _ (by omega) (by omega) (by omega) (fun x hx => by rw [am_up_ne hx, w1 x hx]) (fun i i1 i2 => ?_))
        all_goals rw [am_up_at]
        all_goals by_cases e : i = k
        · rw [if_pos e, w1 (a + 1) (by omega), e, if_neg (by omega)]
        · rw [if_neg e, w2 i i1 (by omega)]
        · rw [if_pos e, w1 (a + 1) (by omega), e, if_pos (by omega)]
        · rw [if_neg e, w2 i i1 (by omega)]
  refine am_run 400 mt_F_turnedBy ok_F_turnedBy (fun K S hK hS => ?_)
  iterate 30 (all_goals (first
    | (refine And.intro (by omega) ?_)
    | (refine And.intro (fun hb => absurd hb (by omega)) (fun hb => ?_))
    | (refine And.intro (fun hb => ?_) (fun hb => absurd hb (by omega)))
    | (refine And.intro (fun hb => ?_) (fun hb => ?_))
    | (intro hb)
    | (conv => whnf)))
  exact hS (loop (n + 1).toNat 0 _ V (by omega) (by omega) (by omega) (fun _ _ => rfl) (fun i i1 i2 => absurd i2 (by omega)))
end
section
/-! what class and reference have in common between two calls -/
abbrev ns (a : Nat) : Prop := a ≠ 3 ∧ a ≠ 86 ∧ a ≠ 29 ∧ a ≠ 30 ∧ a ≠ 42 ∧ a ≠ 43 ∧ a ≠ 44 ∧ a ≠ 62 ∧ a ≠ 65 ∧ a ≠ 76 ∧ a ≠ 93 ∧ a ≠ 94 ∧ a ≠ 97 ∧ a ≠ 100 ∧ a ≠ 101 ∧ a ≠ 102 ∧ a ≠ 103 ∧ a ≠ 104 ∧ a ≠ 105 ∧ a ≠ 106
def k_nth : List Int → Nat → Int
  | [], _ => 0
  | x :: _, 0 => x
  | _ :: l, n + 1 => k_nth l n
def k_cat (j : Int) : Int := k_nth [1, 1, 2, 5, 14, 42, 132, 429, 1430, 4862, 16796] j.toNat
def k_wt (j : Int) : Int := k_nth [1, 1, -1, 2, -5, 14, -42, 132, -429, 1430, -4862] j.toNat
/-- ways to go on: left points to come, opened blocks open -/
def k_ways : Nat → Nat → Int
  | 0, _ => 1
  | l + 1, o => (List.range (o + 1)).foldl (fun s t => s + k_ways l (t + 1)) 0
def iv_sh (V : am_V) : Prop := ∀ s, 0 ≤ s → s < 8 → ((V 14 s = -1 ∧ V 87 s = -1) ∨ ((0 ≤ V 14 s ∧ V 14 s ≤ 40) ∧ V 88 s = V 14 s ∧ (0 ≤ V 13 s ∧ V 13 s ≤ 2) ∧ V 87 s = V 13 s))
def iv_it (V : am_V) : Prop := ∀ s, 0 ≤ s → s < 8 → ∀ i, 0 ≤ i → i < 40 → am_in64 (V 4 (64 * s + i)) ∧ V 89 (40 * s + i) = V 4 (64 * s + i)
/-- a Thing of n points at a, and the same at place k of the reference -/
def iv_th (V : am_V) (T : Nat) (k : Int) (a : Nat) (n : Int) : Prop := th_pl a ∧ a + 2 ≤ T ∧ th_ok V a n ∧ V 90 k = V a 4 ∧ V 91 k = n ∧ ∀ j, 0 ≤ j → j < n → V 92 (10 * k + j) = V (a + 1) j
def iv_tg (V : am_V) (sh : Int → Option Nat) (T : Nat) : Prop := th_pl T ∧ ∀ k, 0 ≤ k → k < 10 → ((sh k = none ∧ V 90 k = -1) ∨ (∃ a n, sh k = some a ∧ iv_th V T k a n))
def iv_tr (V : am_V) : Prop := (0 ≤ V 3 8 ∧ V 3 8 ≤ 16) ∧ V 86 12 = V 3 8 ∧ ∀ j, 0 ≤ j → j < V 3 8 → (0 ≤ V 31 j ∧ V 31 j ≤ 100) ∧ V 95 j = V 31 j
def iv_se (V : am_V) (p : Int) : Prop := ∀ s, 0 ≤ s → s < 8 → (1 ≤ V 41 s ∧ V 41 s ≤ 8) ∧ V 98 s = V 41 s ∧ V 32 (64 * s) = 1 ∧ ∀ k, 1 ≤ k → k ≤ 8 → (0 ≤ V 99 (9 * s + k) ∧ V 99 (9 * s + k) < p) ∧ (k ≤ V 41 s → V 32 (64 * s + k) = V 99 (9 * s + k))
def iv_st (V : am_V) : Prop := V 86 1 = V 3 17 ∧ 0 ≤ V 3 17 ∧ V 3 17 ≤ 5
def iv_p (V : am_V) (p : Int) : Prop := V 3 0 = p ∧ V 86 2 = p ∧ V 63 0 = p ∧ V 64 0 = p ∧ V 75 0 = p ∧ 101 ≤ p ∧ p ≤ 2000000000
def iv_k (V : am_V) : Prop := (∀ j, 0 ≤ j → j ≤ 10 → V 1 j = k_cat j ∧ V 96 j = k_cat j ∧ V 2 j = k_wt j) ∧ (∀ l o, 0 ≤ l → 0 ≤ o → l + o ≤ 10 → V 17 (64 * l + o) = k_ways l.toNat o.toNat) ∧ (∀ j, 0 ≤ j → j ≤ 8 → V 65 j = (if j = 0 then 1 else 0) ∧ V 76 j = (if j = 0 then 1 else 0))
/-- the pairings by handles -/
def k_pr (h g : Int) : Int := k_nth [1, 0, 0, 0, 0, 0, 1, 0, 0, 0, 0, 0, 2, 1, 0, 0, 0, 0, 5, 10, 0, 0, 0, 0, 14, 70, 21, 0, 0, 0, 42, 420, 483, 0, 0, 0, 132, 2310, 6468, 1485, 0, 0, 429, 12012, 66066, 56628, 0, 0, 1430, 60060, 570570, 1169740, 225225, 0, 4862, 291720, 4390386, 17454580, 12317877, 0, 16796, 1385670, 31039008, 211083730, 351683046, 59520825] (6 * h + g).toNat
def iv_q (V : am_V) : Prop := ∀ h g, 0 ≤ h → h ≤ 10 → 0 ≤ g → g ≤ 5 → V 50 (64 * h + g) = k_pr h g
def IJ (V : am_V) (sh : Int → Option Nat) (T : Nat) (p : Int) (f0 : Int → Int) : Prop := V 0 = f0 ∧ iv_sh V ∧ iv_it V ∧ iv_tg V sh T ∧ iv_tr V ∧ iv_se V p ∧ iv_p V p ∧ iv_k V ∧ iv_q V
def II (V : am_V) (sh : Int → Option Nat) (T : Nat) (p : Int) (f0 : Int → Int) : Prop := IJ V sh T p f0 ∧ iv_st V
theorem iv_sh_eq {V V' : am_V} (h : iv_sh V) (e1 : V' 13 = V 13) (e2 : V' 14 = V 14) (e3 : V' 87 = V 87) (e4 : V' 88 = V 88) : iv_sh V' := by
  intro s a b
  rw [e1, e2, e3, e4]
  exact h s a b
theorem iv_it_eq {V V' : am_V} (h : iv_it V) (e1 : V' 4 = V 4) (e2 : V' 89 = V 89) : iv_it V' := by
  intro s a b i c d
  rw [e1, e2]
  exact h s a b i c d
theorem iv_th_eq {V V' : am_V} {T T' : Nat} {k n : Int} {a : Nat} (h : iv_th V T k a n) (e1 : V' 90 k = V 90 k) (e2 : V' 91 k = V 91 k) (e3 : ∀ j, 0 ≤ j → j < n → V' 92 (10 * k + j) = V 92 (10 * k + j)) (eT : ∀ a, 107 ≤ a → a < T → V' a = V a) (hT : T ≤ T') : iv_th V' T' k a n := by
  obtain ⟨h1, h2, h3, h4, h5, h6⟩ := h
  have f1 := eT a h1.1 (by omega)
  have f2 := eT (a + 1) (by have := h1.1; omega) (by omega)
  refine ⟨h1, by omega, th_ok_eq h3 f1 f2, ?_, ?_, fun j a1 a2 => ?_⟩
  · rw [e1, f1]; exact h4
  · rw [e2]; exact h5
  · rw [e3 j a1 a2, f2]; exact h6 j a1 a2
theorem iv_tg_eq {V V' : am_V} {sh : Int → Option Nat} {T T' : Nat} (h : iv_tg V sh T) (e1 : V' 90 = V 90) (e2 : V' 91 = V 91) (e3 : V' 92 = V 92) (eT : ∀ a, 107 ≤ a → a < T → V' a = V a) (hT : T ≤ T') (hp : th_pl T') : iv_tg V' sh T' := by
  refine ⟨hp, fun k a b => ?_⟩
  rcases h.2 k a b with ⟨q1, q2⟩ | ⟨c, n, q1, q2⟩
  · exact Or.inl ⟨q1, by rw [e1]; exact q2⟩
  · exact Or.inr ⟨c, n, q1, iv_th_eq q2 (by rw [e1]) (by rw [e2]) (fun j _ _ => by rw [e3]) eT hT⟩
theorem iv_tr_eq {V V' : am_V} (h : iv_tr V) (e1 : V' 3 8 = V 3 8) (e2 : V' 86 12 = V 86 12) (e3 : V' 31 = V 31) (e4 : V' 95 = V 95) : iv_tr V' := by
  unfold iv_tr
  rw [e1, e2, e3, e4]
  exact h
theorem iv_se_eq {V V' : am_V} {p : Int} (h : iv_se V p) (e1 : V' 41 = V 41) (e2 : V' 32 = V 32) (e3 : V' 98 = V 98) (e4 : V' 99 = V 99) : iv_se V' p := by
  unfold iv_se
  rw [e1, e2, e3, e4]
  exact h
theorem iv_p_eq {V V' : am_V} {p : Int} (h : iv_p V p) (e1 : V' 3 0 = V 3 0) (e2 : V' 86 2 = V 86 2) (e3 : V' 63 = V 63) (e4 : V' 64 = V 64) (e5 : V' 75 = V 75) : iv_p V' p := by
  unfold iv_p
  rw [e1, e2, e3, e4, e5]
  exact h
theorem iv_k_eq {V V' : am_V} (h : iv_k V) (e1 : V' 1 = V 1) (e2 : V' 2 = V 2) (e3 : V' 96 = V 96) (e4 : V' 17 = V 17) (e5 : ∀ j, 0 ≤ j → j ≤ 8 → V' 65 j = V 65 j ∧ V' 76 j = V 76 j) : iv_k V' := by
  refine ⟨?_, ?_, fun j a b => ?_⟩
  · rw [e1, e2, e3]; exact h.1
  · rw [e4]; exact h.2.1
  · rw [(e5 j a b).1, (e5 j a b).2]; exact h.2.2 j a b
theorem iv_q_eq {V V' : am_V} (h : iv_q V) (e1 : V' 50 = V 50) : iv_q V' := by
  unfold iv_q
  rw [e1]
  exact h
/-- nothing but the status changed, and scratch -/
theorem IJ_ro {V V' : am_V} {sh : Int → Option Nat} {T T' : Nat} {p : Int} {f0 : Int → Int} (h : IJ V sh T p f0) (F : ∀ a, ns a → a < T → V' a = V a) (F3 : ∀ j, j ≠ 17 → V' 3 j = V 3 j) (F86 : ∀ j, j ≠ 0 → j ≠ 1 → V' 86 j = V 86 j) (F65 : ∀ j, 0 ≤ j → j ≤ 8 → V' 65 j = V 65 j ∧ V' 76 j = V 76 j) (hT : T ≤ T') (hp : th_pl T') : IJ V' sh T' p f0 := by
  obtain ⟨h0, h1, h2, h3, h4, h5, h7, h8, h9⟩ := h
  have t := h3.1.1
  refine ⟨by rw [F 0 (by decide) (by omega)]; exact h0, iv_sh_eq h1 (F 13 (by decide) (by omega)) (F 14 (by decide) (by omega)) (F 87 (by decide) (by omega)) (F 88 (by decide) (by omega)), iv_it_eq h2 (F 4 (by decide) (by omega)) (F 89 (by decide) (by omega)), iv_tg_eq h3 (F 90 (by decide) (by omega)) (F 91 (by decide) (by omega)) (F 92 (by decide) (by omega)) (fun a q q2 => F a (by omega) q2) hT hp, iv_tr_eq h4 (F3 8 (by decide)) (F86 12 (by decide) (by decide)) (F 31 (by decide) (by omega)) (F 95 (by decide) (by omega)), iv_se_eq h5 (F 41 (by decide) (by omega)) (F 32 (by decide) (by omega)) (F 98 (by decide) (by omega)) (F 99 (by decide) (by omega)), iv_p_eq h7 (F3 0 (by decide)) (F86 2 (by decide) (by decide)) (F 63 (by decide) (by omega)) (F 64 (by decide) (by omega)) (F 75 (by decide) (by omega)), iv_k_eq h8 (F 1 (by decide) (by omega)) (F 2 (by decide) (by omega)) (F 96 (by decide) (by omega)) (F 17 (by decide) (by omega)) F65, iv_q_eq h9 (F 50 (by decide) (by omega))⟩
/-- sheets changed -/
theorem IJ_sh {V V' : am_V} {sh : Int → Option Nat} {T : Nat} {p : Int} {f0 : Int → Int} (h : IJ V sh T p f0) (F : ∀ a, ns a → a ≠ 4 → a ≠ 13 → a ≠ 14 → a ≠ 87 → a ≠ 88 → a ≠ 89 → V' a = V a) (F3 : ∀ j, j ≠ 17 → V' 3 j = V 3 j) (F86 : ∀ j, j ≠ 0 → j ≠ 1 → V' 86 j = V 86 j) (F65 : V' 65 = V 65 ∧ V' 76 = V 76) (k1 : iv_sh V') (k2 : iv_it V') : IJ V' sh T p f0 := by
  obtain ⟨h0, h1, h2, h3, h4, h5, h7, h8, h9⟩ := h
  have t := h3.1.1
  refine ⟨by rw [F 0 (by decide) (by decide) (by decide) (by decide) (by decide) (by decide) (by decide)]; exact h0, k1, k2, iv_tg_eq h3 (F 90 (by decide) (by decide) (by decide) (by decide) (by decide) (by decide) (by decide)) (F 91 (by decide) (by decide) (by decide) (by decide) (by decide) (by decide) (by decide)) (F 92 (by decide) (by decide) (by decide) (by decide) (by decide) (by decide) (by decide)) (fun a q q2 => F a (by omega) (by omega) (by omega) (by omega) (by omega) (by omega) (by omega)) (Nat.le_refl _) h3.1, iv_tr_eq h4 (F3 8 (by decide)) (F86 12 (by decide) (by decide)) (F 31 (by decide) (by decide) (by decide) (by decide) (by decide) (by decide) (by decide)) (F 95 (by decide) (by decide) (by decide) (by decide) (by decide) (by decide) (by decide)), iv_se_eq h5 (F 41 (by decide) (by decide) (by decide) (by decide) (by decide) (by decide) (by decide)) (F 32 (by decide) (by decide) (by decide) (by decide) (by decide) (by decide) (by decide)) (F 98 (by decide) (by decide) (by decide) (by decide) (by decide) (by decide) (by decide)) (F 99 (by decide) (by decide) (by decide) (by decide) (by decide) (by decide) (by decide)), iv_p_eq h7 (F3 0 (by decide)) (F86 2 (by decide) (by decide)) (F 63 (by decide) (by decide) (by decide) (by decide) (by decide) (by decide) (by decide)) (F 64 (by decide) (by decide) (by decide) (by decide) (by decide) (by decide) (by decide)) (F 75 (by decide) (by decide) (by decide) (by decide) (by decide) (by decide) (by decide)), iv_k_eq h8 (F 1 (by decide) (by decide) (by decide) (by decide) (by decide) (by decide) (by decide)) (F 2 (by decide) (by decide) (by decide) (by decide) (by decide) (by decide) (by decide)) (F 96 (by decide) (by decide) (by decide) (by decide) (by decide) (by decide) (by decide)) (F 17 (by decide) (by decide) (by decide) (by decide) (by decide) (by decide) (by decide)) (fun j _ _ => by rw [F65.1, F65.2]; exact ⟨rfl, rfl⟩), iv_q_eq h9 (F 50 (by decide) (by decide) (by decide) (by decide) (by decide) (by decide) (by decide))⟩
/-- the status alone -/
theorem IJ_s {V V' : am_V} {sh : Int → Option Nat} {T : Nat} {p : Int} {f0 : Int → Int} (h : IJ V sh T p f0) (F : ∀ a, a ≠ 3 → a ≠ 86 → V' a = V a) (F3 : ∀ j, j ≠ 17 → V' 3 j = V 3 j) (F86 : ∀ j, j ≠ 0 → j ≠ 1 → V' 86 j = V 86 j) : IJ V' sh T p f0 :=
  IJ_ro h (fun a q _ => F a (by omega) (by omega)) F3 F86 (fun j _ _ => by rw [F 65 (by decide) (by decide), F 76 (by decide) (by decide)]; exact ⟨rfl, rfl⟩) (Nat.le_refl _) h.2.2.2.1.1
theorem IJ_3 {V : am_V} {sh : Int → Option Nat} {T : Nat} {p x : Int} {f0 : Int → Int} (h : IJ V sh T p f0) : IJ (am_up V 3 17 x) sh T p f0 :=
  IJ_s h (fun a q1 q2 => am_up_ne q1) (fun j q => by rw [am_up_at, if_neg q]) (fun j q1 q2 => by rw [am_up_ne (by decide)])
theorem IJ_86 {V : am_V} {sh : Int → Option Nat} {T : Nat} {p x k : Int} {f0 : Int → Int} (h : IJ V sh T p f0) (hk : k = 0 ∨ k = 1) : IJ (am_up V 86 k x) sh T p f0 :=
  IJ_s h (fun a q1 q2 => am_up_ne q2) (fun j q => by rw [am_up_ne (by decide)]) (fun j q1 q2 => by rw [am_up_at, if_neg (by omega)])
/-- what both answer -/
def pr_end (p : Int) (f0 : Int → Int) (r : Option AV) : Option AV → am_V → am_T → Nat → Prop := fun r' V2 R2 T2 => r' = r ∧ ∃ sh2, R2 = am_RF sh2 ∧ II V2 sh2 T2 p f0
def pr_int (G : am_G) (d ix : Nat) (as : List AV) (p : Int) (f0 : Int → Int) : Option AV → am_V → am_T → Nat → Prop := fun r V1 R1 T1 => ∃ z sh1, r = some (vI z) ∧ am_in32 z ∧ R1 = am_RF sh1 ∧ V1 0 = f0 ∧ am_Calls G d ix as V1 (am_RF sh1) T1 (pr_end p f0 r)
def pr_long (G : am_G) (d ix : Nat) (as : List AV) (p : Int) (f0 : Int → Int) : Option AV → am_V → am_T → Nat → Prop := fun r V1 R1 T1 => ∃ z sh1, r = some (vJ z) ∧ am_in64 z ∧ R1 = am_RF sh1 ∧ V1 0 = f0 ∧ am_Calls G d ix as V1 (am_RF sh1) T1 (pr_end p f0 r)
theorem pr_i {G : am_G} {d ix : Nat} {as : List AV} {p : Int} {f0 : Int → Int} {z : Int} {sh : Int → Option Nat} {V : am_V} {T : Nat} (hz : am_in32 z) (h0 : V 0 = f0) (h : am_Calls G d ix as V (am_RF sh) T (pr_end p f0 (some (vI z)))) : pr_int G d ix as p f0 (some (vI z)) V (am_RF sh) T := ⟨z, sh, rfl, hz, rfl, h0, h⟩
theorem pr_j {G : am_G} {d ix : Nat} {as : List AV} {p : Int} {f0 : Int → Int} {z : Int} {sh : Int → Option Nat} {V : am_V} {T : Nat} (hz : am_in64 z) (h0 : V 0 = f0) (h : am_Calls G d ix as V (am_RF sh) T (pr_end p f0 (some (vJ z)))) : pr_long G d ix as p f0 (some (vJ z)) V (am_RF sh) T := ⟨z, sh, rfl, hz, rfl, h0, h⟩
theorem pr_e {p : Int} {f0 : Int → Int} {r : Option AV} {sh : Int → Option Nat} {V : am_V} {T : Nat} (h : IJ V sh T p f0) (hs : V 86 1 = V 3 17 ∧ 0 ≤ V 3 17 ∧ V 3 17 ≤ 5) : pr_end p f0 r r V (am_RF sh) T := ⟨rfl, sh, rfl, h, hs⟩
end
section
/-! sheets -/
theorem s_M_sheet {G : am_G} {d : Nat} {sh : Int → Option Nat} {V : am_V} {T : Nat} {Q : Option AV → am_V → am_T → Nat → Prop} {s l n : Int} (h0 : am_in32 s) (h1 : am_in32 l) (h2 : am_in32 n)
    (hB : ¬ (0 ≤ s ∧ s < 8 ∧ 0 ≤ l ∧ l ≤ 2 ∧ n ≤ 40) → Q (some (vI (-1000001))) (am_up V 86 0 0) (am_RF sh) T)
    (hZ : (0 ≤ s ∧ s < 8 ∧ 0 ≤ l ∧ l ≤ 2 ∧ n ≤ 40) → n < 0 → Q (some (vI (-1000014))) (am_up (am_up (am_up V 86 0 0) 86 1 0) 86 1 4) (am_RF sh) T)
    (hQ : (0 ≤ s ∧ s < 8 ∧ 0 ≤ l ∧ l ≤ 2 ∧ n ≤ 40) → 0 ≤ n → ∀ V', (∀ a, a ≠ 89 → V' a = am_up (am_up (am_up (am_up V 86 0 0) 86 1 0) 87 s l) 88 s n a) → (∀ k, 0 ≤ k → k < 40 → V' 89 (40 * s + k) = 0) → (∀ j, ¬ (40 * s ≤ j ∧ j < 40 * s + 40) → V' 89 j = V 89 j) → Q (some (vI n)) V' (am_RF sh) T) : am_Calls G (d + 3) 72 [vR 86, vI s, vI l, vI n] V (am_RF sh) T Q := by
  refine am_enter mt_M_sheet ok_M_sheet rfl ?_
  have loop : ∀ (j : Nat) (k : Int) (W : am_V), (0 ≤ s ∧ s < 8 ∧ 0 ≤ l ∧ l ≤ 2 ∧ n ≤ 40) → 0 ≤ n → 0 ≤ k → k ≤ 40 → 40 - k < j → (∀ a, a ≠ 89 → W a = am_up (am_up (am_up (am_up V 86 0 0) 86 1 0) 87 s l) 88 s n a) → (∀ i, 0 ≤ i → i < k → W 89 (40 * s + i) = 0) → (∀ j, ¬ (40 * s ≤ j ∧ j < 40 * s + k) → W 89 j = V 89 j) → am_Sem G (d + 2) 72 V T Q 65 [some (vR 86), some (vI s), some (vI l), some (vI n), some (vI k)] [] W (am_RF sh) T 0 0 := by
    intro j
    induction j with
    | zero => intro k W hc q0 q1 q2 q3; omega
    | succ j ih =>
      intro k W hc q0 q1 q2 q3 w1 w2 w3
      by_cases hk : k = 40
      · subst hk
        refine am_run 400 mt_M_sheet ok_M_sheet (fun K S hK hS => ?_)
        iterate 30 (all_goals (first
          | (refine And.intro (by omega) ?_)
          | (refine And.intro (fun hb => absurd hb (by omega)) (fun hb => ?_))
          | (refine And.intro (fun hb => ?_) (fun hb => absurd hb (by omega)))
          | (refine And.intro (fun hb => ?_) (fun hb => ?_))
          | (intro hb)
          | (conv => whnf)))
        exact hQ hc q0 W w1 w2 w3
      · refine am_run 400 mt_M_sheet ok_M_sheet (fun K S hK hS => ?_)
        iterate 30 (all_goals (first
          | (refine And.intro (by omega) ?_)
          | (refine And.intro (fun hb => absurd hb (by omega)) (fun hb => ?_))
          | (refine And.intro (fun hb => ?_) (fun hb => absurd hb (by omega)))
          | (refine And.intro (fun hb => ?_) (fun hb => ?_))
          | (intro hb)
          | (conv => whnf)))
        refine hS (ih (k + 1) _ hc q0 (by omega) (by omega) (by omega) (fun a ha => by rw [am_up_ne ha, w1 a ha]) (fun i a b => ?_) (fun i a => by rw [am_up_at, if_neg (by omega), w3 i (by omega)]))
        rw [am_up_at]
        by_cases e : i = k
        · rw [if_pos (by omega)]
        · rw [if_neg (by omega), w2 i a (by omega)]
  refine am_run 400 mt_M_sheet ok_M_sheet (fun K S hK hS => ?_)
  iterate 30 (all_goals (first
    | (refine And.intro (by omega) ?_)
    | (refine And.intro (fun hb => absurd hb (by omega)) (fun hb => ?_))
    | (refine And.intro (fun hb => ?_) (fun hb => absurd hb (by omega)))
    | (refine And.intro (fun hb => ?_) (fun hb => ?_))
    | (intro hb)
    | (conv => whnf)))
  refine hK (s_M_isSheet h0 (fun r hr => ?_))
  iterate 30 (all_goals (first
    | (refine And.intro (by omega) ?_)
    | (refine And.intro (fun hb => absurd hb (by omega)) (fun hb => ?_))
    | (refine And.intro (fun hb => ?_) (fun hb => absurd hb (by omega)))
    | (refine And.intro (fun hb => ?_) (fun hb => ?_))
    | (intro hb)
    | (conv => whnf)))
  · exact hB (by omega)
  refine hK (s_M_in (by omega) (by omega) (by omega) (fun r2 hr2 => ?_))
  iterate 30 (all_goals (first
    | (refine And.intro (by omega) ?_)
    | (refine And.intro (fun hb => absurd hb (by omega)) (fun hb => ?_))
    | (refine And.intro (fun hb => ?_) (fun hb => absurd hb (by omega)))
    | (refine And.intro (fun hb => ?_) (fun hb => ?_))
    | (intro hb)
    | (conv => whnf)))
  · exact hB (by omega)
  · exact hS (loop 41 0 _ (by omega) (by omega) (by omega) (by omega) (by omega) (fun _ _ => rfl) (fun i a b => absurd b (by omega)) (fun _ _ => rfl))
  · refine hK (s_M_found ?_)
    iterate 30 (all_goals (first
      | (refine And.intro (by omega) ?_)
      | (refine And.intro (fun hb => absurd hb (by omega)) (fun hb => ?_))
      | (refine And.intro (fun hb => ?_) (fun hb => absurd hb (by omega)))
      | (refine And.intro (fun hb => ?_) (fun hb => ?_))
      | (intro hb)
      | (conv => whnf)))
    exact hZ (by omega) (by omega)
  · exact hB (by omega)
theorem pr_sheet {G : am_G} {d : Nat} {sh : Int → Option Nat} {V : am_V} {T : Nat} {p : Int} {f0 : Int → Int} {s l n : Int} (hI : II V sh T p f0) (h0 : am_in32 s) (h1 : am_in32 l) (h2 : am_in32 n) : am_Calls G (d + 9) 1 [vR 3, vI s, vI l, vI n] V (am_RF sh) T (pr_int G (d + 9) 72 [vR 86, vI s, vI l, vI n] p f0) := by
  obtain ⟨hJ, hst⟩ := hI
  have bad : ¬ (0 ≤ s ∧ s < 8 ∧ 0 ≤ l ∧ l ≤ 2 ∧ n ≤ 40) → pr_int G (d + 9) 72 [vR 86, vI s, vI l, vI n] p f0 (some (vI (-1000001))) V (am_RF sh) T := fun hc =>
    pr_i ⟨by omega, by omega⟩ hJ.1 (s_M_sheet h0 h1 h2 (fun _ => pr_e (IJ_86 hJ (Or.inl rfl)) (by rw [am_up_at, if_neg (by decide), am_up_ne (by decide)]; exact hst)) (fun q => absurd q hc) (fun q => absurd q hc))
  refine am_enter mt_F_sheet ok_F_sheet rfl ?_
  refine am_run 400 mt_F_sheet ok_F_sheet (fun K S hK hS => ?_)
  iterate 30 (all_goals (first
    | (refine And.intro (by omega) ?_)
    | (refine And.intro (fun hb => absurd hb (by omega)) (fun hb => ?_))
    | (refine And.intro (fun hb => ?_) (fun hb => absurd hb (by omega)))
    | (refine And.intro (fun hb => ?_) (fun hb => ?_))
    | (intro hb)
    | (conv => whnf)))
  refine hK (s_F_noSheet h0 (fun r hr => ?_))
  iterate 30 (all_goals (first
    | (refine And.intro (by omega) ?_)
    | (refine And.intro (fun hb => absurd hb (by omega)) (fun hb => ?_))
    | (refine And.intro (fun hb => ?_) (fun hb => absurd hb (by omega)))
    | (refine And.intro (fun hb => ?_) (fun hb => ?_))
    | (intro hb)
    | (conv => whnf)))
  all_goals (try exact bad (by omega))
  · have hc : 0 ≤ s ∧ s < 8 ∧ 0 ≤ l ∧ l ≤ 2 ∧ n ≤ 40 := by omega
    refine hK (s_JA_fillJrow (by omega) (fun W w1 w2 w3 => ?_))
    iterate 30 (all_goals (first
      | (refine And.intro (by omega) ?_)
      | (refine And.intro (fun hb => absurd hb (by omega)) (fun hb => ?_))
      | (refine And.intro (fun hb => ?_) (fun hb => absurd hb (by omega)))
      | (refine And.intro (fun hb => ?_) (fun hb => ?_))
      | (intro hb)
      | (conv => whnf)))
    refine hK (s_F_fine ?_)
    iterate 30 (all_goals (first
      | (refine And.intro (by omega) ?_)
      | (refine And.intro (fun hb => absurd hb (by omega)) (fun hb => ?_))
      | (refine And.intro (fun hb => ?_) (fun hb => absurd hb (by omega)))
      | (refine And.intro (fun hb => ?_) (fun hb => ?_))
      | (intro hb)
      | (conv => whnf)))
    refine pr_i (by omega) (by rw [am_up_ne (by decide), w1 0 (by decide)]; exact hJ.1) (s_M_sheet h0 h1 h2 (fun q => absurd hc q) (fun _ q => absurd q (by omega)) (fun _ _ U u1 u2 u3 => ?_))
    have fU : ∀ a, a ≠ 3 → a ≠ 86 → a ≠ 4 → a ≠ 13 → a ≠ 14 → a ≠ 87 → a ≠ 88 → a ≠ 89 → U a = V a := fun a q1 q2 q3 q4 q5 q6 q7 q8 => by
      rw [u1 a q8, am_up_ne q7, am_up_ne q6, am_up_ne q2, am_up_ne q2, am_up_ne q1, w1 a q3, am_up_ne q5, am_up_ne q4]
    have e3 : ∀ j, U 3 j = am_up V 3 17 0 3 j := fun j => by
      rw [u1 3 (by decide), am_up_ne (by decide), am_up_ne (by decide), am_up_ne (by decide), am_up_ne (by decide), am_up_at, am_up_at, w1 3 (by decide), am_up_ne (by decide), am_up_ne (by decide)]
    have e86 : ∀ j, U 86 j = am_up (am_up V 86 0 0) 86 1 0 86 j := fun j => by
      rw [u1 86 (by decide), am_up_ne (by decide), am_up_ne (by decide), am_up_at, am_up_at, am_up_at, am_up_at, am_up_ne (by decide), w1 86 (by decide), am_up_ne (by decide), am_up_ne (by decide)]
    have e13 : ∀ j, U 13 j = if j = s then l else V 13 j := fun j => by
      rw [u1 13 (by decide), am_up_ne (by decide), am_up_ne (by decide), am_up_ne (by decide), am_up_ne (by decide), am_up_ne (by decide), w1 13 (by decide), am_up_ne (by decide), am_up_at]
    have e14 : ∀ j, U 14 j = if j = s then n else V 14 j := fun j => by
      rw [u1 14 (by decide), am_up_ne (by decide), am_up_ne (by decide), am_up_ne (by decide), am_up_ne (by decide), am_up_ne (by decide), w1 14 (by decide), am_up_at, am_up_ne (by decide)]
    have e87 : ∀ j, U 87 j = if j = s then l else V 87 j := fun j => by
      rw [u1 87 (by decide), am_up_ne (by decide), am_up_at, am_up_ne (by decide), am_up_ne (by decide), am_up_ne (by decide), w1 87 (by decide), am_up_ne (by decide), am_up_ne (by decide)]
    have e88 : ∀ j, U 88 j = if j = s then n else V 88 j := fun j => by
      rw [u1 88 (by decide), am_up_at, am_up_ne (by decide), am_up_ne (by decide), am_up_ne (by decide), am_up_ne (by decide), w1 88 (by decide), am_up_ne (by decide), am_up_ne (by decide)]
    have e4 : U 4 = W 4 := by
      rw [u1 4 (by decide), am_up_ne (by decide), am_up_ne (by decide), am_up_ne (by decide), am_up_ne (by decide), am_up_ne (by decide)]
    refine pr_e (IJ_sh hJ (fun a q q1 q2 q3 q4 q5 q6 => fU a (by omega) (by omega) q1 q2 q3 q4 q5 q6) (fun j q => by rw [e3, am_up_at, if_neg q]) (fun j q1 q2 => by rw [e86, am_up_at, if_neg q2, am_up_at, if_neg q1]) ⟨fU 65 (by decide) (by decide) (by decide) (by decide) (by decide) (by decide) (by decide) (by decide), fU 76 (by decide) (by decide) (by decide) (by decide) (by decide) (by decide) (by decide) (by decide)⟩ (fun x a b => ?_) (fun x a b i c e => ?_)) (by rw [e3, e86, am_up_same, am_up_same]; exact ⟨rfl, by omega, by omega⟩)
    · rw [e13, e14, e87, e88]
      by_cases e : x = s
      · rw [if_pos e, if_pos e, if_pos e, if_pos e]
        exact Or.inr ⟨by omega, rfl, by omega, rfl⟩
      · rw [if_neg e, if_neg e, if_neg e, if_neg e]
        exact hJ.2.1 x a b
    · rw [e4]
      by_cases e2 : x = s
      · rw [e2, w2 i c e, u2 i c e]
        exact ⟨⟨by omega, by omega⟩, rfl⟩
      · rw [w3 _ (by omega), u3 _ (by omega), am_up_ne (by decide), am_up_ne (by decide), am_up_ne (by decide), w1 89 (by decide), am_up_ne (by decide), am_up_ne (by decide)]
        exact hJ.2.2.1 x a b i c e
  · have hc : 0 ≤ s ∧ s < 8 ∧ 0 ≤ l ∧ l ≤ 2 ∧ n ≤ 40 := by omega
    refine hK (s_F_finding ?_)
    iterate 30 (all_goals (first
      | (refine And.intro (by omega) ?_)
      | (refine And.intro (fun hb => absurd hb (by omega)) (fun hb => ?_))
      | (refine And.intro (fun hb => ?_) (fun hb => absurd hb (by omega)))
      | (refine And.intro (fun hb => ?_) (fun hb => ?_))
      | (intro hb)
      | (conv => whnf)))
    refine pr_i ⟨by omega, by omega⟩ (by rw [am_up_ne (by decide)]; exact hJ.1) (s_M_sheet h0 h1 h2 (fun q => absurd hc q) (fun _ _ => pr_e (IJ_86 (IJ_86 (IJ_86 (IJ_3 hJ) (Or.inl rfl)) (Or.inr rfl)) (Or.inr rfl)) ?_) (fun _ q => absurd q (by omega)))
    rw [am_up_at, if_pos rfl, am_up_ne (by decide), am_up_ne (by decide), am_up_ne (by decide), am_up_at, if_pos rfl]
    exact ⟨rfl, by omega, by omega⟩
theorem pr_drop {G : am_G} {d : Nat} {sh : Int → Option Nat} {V : am_V} {T : Nat} {p : Int} {f0 : Int → Int} {s : Int} (hI : II V sh T p f0) (h0 : am_in32 s) : am_Calls G (d + 9) 4 [vR 3, vI s] V (am_RF sh) T (pr_int G (d + 9) 75 [vR 86, vI s] p f0) := by
  obtain ⟨hJ, hst⟩ := hI
  have hst2 : V 86 1 = V 3 17 ∧ 0 ≤ V 3 17 ∧ V 3 17 ≤ 5 := hst
  by_cases hs : 0 ≤ s ∧ s < 8
  · have hsh := hJ.2.1 s hs.1 hs.2
    refine am_enter mt_F_drop ok_F_drop rfl ?_
    refine am_run 400 mt_F_drop ok_F_drop (fun K S hK hS => ?_)
    iterate 30 (all_goals (first
      | (refine And.intro (by omega) ?_)
      | (refine And.intro (fun hb => absurd hb (by omega)) (fun hb => ?_))
      | (refine And.intro (fun hb => ?_) (fun hb => absurd hb (by omega)))
      | (refine And.intro (fun hb => ?_) (fun hb => ?_))
      | (intro hb)
      | (conv => whnf)))
    refine hK (s_F_noSheet h0 (fun r hr => ?_))
    iterate 30 (all_goals (first
      | (refine And.intro (by omega) ?_)
      | (refine And.intro (fun hb => absurd hb (by omega)) (fun hb => ?_))
      | (refine And.intro (fun hb => ?_) (fun hb => absurd hb (by omega)))
      | (refine And.intro (fun hb => ?_) (fun hb => ?_))
      | (intro hb)
      | (conv => whnf)))
    · refine hK (s_F_fine ?_)
      iterate 30 (all_goals (first
        | (refine And.intro (by omega) ?_)
        | (refine And.intro (fun hb => absurd hb (by omega)) (fun hb => ?_))
        | (refine And.intro (fun hb => ?_) (fun hb => absurd hb (by omega)))
        | (refine And.intro (fun hb => ?_) (fun hb => ?_))
        | (intro hb)
        | (conv => whnf)))
      have e14 : 0 ≤ V 14 s ∧ V 14 s ≤ 40 := by omega
      have e87 : V 87 s = V 13 s ∧ 0 ≤ V 13 s ∧ V 13 s ≤ 2 := by omega
      have e88 : V 88 s = V 14 s := by omega
      have k87 : am_up (am_up V 14 s (-1)) 3 17 0 87 s = V 87 s := by simp +decide [am_up_ne, am_up_at, reduceIte]
      have k88 : am_up (am_up V 14 s (-1)) 3 17 0 88 s = V 88 s := by simp +decide [am_up_ne, am_up_at, reduceIte]
      refine pr_i (by omega) (by simp +decide [am_up_ne, am_up_at, reduceIte]; exact hJ.1) ?_
      generalize hW : am_up (am_up V 14 s (-1)) 3 17 0 = W at k87 k88
      refine am_enter mt_M_drop ok_M_drop rfl ?_
      refine am_run 400 mt_M_drop ok_M_drop (fun K S hK hS => ?_)
      iterate 30 (all_goals (first
        | (refine And.intro (by omega) ?_)
        | (refine And.intro (fun hb => absurd hb (by omega)) (fun hb => ?_))
        | (refine And.intro (fun hb => ?_) (fun hb => absurd hb (by omega)))
        | (refine And.intro (fun hb => ?_) (fun hb => ?_))
        | (intro hb)
        | (conv => whnf)))
      refine hK (s_M_isSheet h0 (fun r2 hr2 => ?_))
      iterate 30 (all_goals (first
        | (refine And.intro (by omega) ?_)
        | (refine And.intro (by decide) ?_)
        | (refine And.intro (fun hb => absurd hb (by omega)) (fun hb => ?_))
        | (refine And.intro (fun hb => ?_) (fun hb => absurd hb (by omega)))
        | (refine And.intro (fun hb => ?_) (fun hb => ?_))
        | (intro hb)
        | (simp +decide only [am_up_ne, am_up_at, reduceIte])
        | (conv => whnf)))
      · rw [k88, e88]
        refine pr_e (IJ_sh hJ (fun a q q1 q2 q3 q4 q5 q6 => ?_) (fun j q => ?_) (fun j q1 q2 => ?_) ⟨?_, ?_⟩ (fun x a b => ?_) (fun x a b i c e => ?_)) ?_
        · rw [← hW]; simp +decide [am_up_ne, am_up_at, reduceIte, q.1, q.2.1, q3, q4]
        · rw [← hW]; simp +decide [am_up_ne, am_up_at, reduceIte, q]
        · rw [← hW]; simp +decide [am_up_ne, am_up_at, reduceIte, q1, q2]
        · rw [← hW]; simp +decide [am_up_ne, am_up_at, reduceIte]
        · rw [← hW]; simp +decide [am_up_ne, am_up_at, reduceIte]
        · rw [← hW]
          have := hJ.2.1 x a b
          by_cases e2 : x = s
          · simp +decide [am_up_ne, am_up_at, reduceIte, e2]
          · simp +decide [am_up_ne, am_up_at, reduceIte, e2]; exact this
        · rw [← hW]; simp +decide [am_up_ne, am_up_at, reduceIte]; exact hJ.2.2.1 x a b i c e
        · rw [← hW]; simp +decide [am_up_ne, am_up_at, reduceIte]
    · refine hK (s_F_finding ?_)
      iterate 30 (all_goals (first
        | (refine And.intro (by omega) ?_)
        | (refine And.intro (fun hb => absurd hb (by omega)) (fun hb => ?_))
        | (refine And.intro (fun hb => ?_) (fun hb => absurd hb (by omega)))
        | (refine And.intro (fun hb => ?_) (fun hb => ?_))
        | (intro hb)
        | (conv => whnf)))
      have e87 : V 87 s = -1 := by omega
      have k87 : am_up V 3 17 1 87 s = V 87 s := by simp +decide [am_up_ne, am_up_at, reduceIte]
      refine pr_i (by omega) (by simp +decide [am_up_ne, am_up_at, reduceIte]; exact hJ.1) ?_
      generalize hW : am_up V 3 17 1 = W at k87
      refine am_enter mt_M_drop ok_M_drop rfl ?_
      refine am_run 400 mt_M_drop ok_M_drop (fun K S hK hS => ?_)
      iterate 30 (all_goals (first
        | (refine And.intro (by omega) ?_)
        | (refine And.intro (fun hb => absurd hb (by omega)) (fun hb => ?_))
        | (refine And.intro (fun hb => ?_) (fun hb => absurd hb (by omega)))
        | (refine And.intro (fun hb => ?_) (fun hb => ?_))
        | (intro hb)
        | (conv => whnf)))
      refine hK (s_M_isSheet h0 (fun r2 hr2 => ?_))
      have e : am_up (am_up W 86 0 0) 86 1 0 87 s = -1 := by simp +decide [am_up_ne, am_up_at, reduceIte, k87, e87]
      iterate 30 (all_goals (first
        | (refine And.intro (by omega) ?_)
        | (refine And.intro (by decide) ?_)
        | (refine And.intro (fun hb => absurd hb (by omega)) (fun hb => ?_))
        | (refine And.intro (fun hb => ?_) (fun hb => absurd hb (by omega)))
        | (refine And.intro (fun hb => ?_) (fun hb => ?_))
        | (intro hb)
        | (simp only [e])
        | (conv => whnf)))
      refine hK (s_M_found ?_)
      iterate 30 (all_goals (first
        | (refine And.intro (by omega) ?_)
        | (refine And.intro (fun hb => absurd hb (by omega)) (fun hb => ?_))
        | (refine And.intro (fun hb => ?_) (fun hb => absurd hb (by omega)))
        | (refine And.intro (fun hb => ?_) (fun hb => ?_))
        | (intro hb)
        | (conv => whnf)))
      refine pr_e ?_ ?_
      · rw [← hW]
        exact IJ_86 (IJ_86 (IJ_86 (IJ_3 hJ) (Or.inl rfl)) (Or.inr rfl)) (Or.inr rfl)
      · rw [← hW]; simp +decide [am_up_ne, am_up_at, reduceIte]
  · refine am_enter mt_F_drop ok_F_drop rfl ?_
    refine am_run 400 mt_F_drop ok_F_drop (fun K S hK hS => ?_)
    iterate 30 (all_goals (first
      | (refine And.intro (by omega) ?_)
      | (refine And.intro (fun hb => absurd hb (by omega)) (fun hb => ?_))
      | (refine And.intro (fun hb => ?_) (fun hb => absurd hb (by omega)))
      | (refine And.intro (fun hb => ?_) (fun hb => ?_))
      | (intro hb)
      | (conv => whnf)))
    refine hK (s_F_noSheet h0 (fun r hr => ?_))
    iterate 30 (all_goals (first
      | (refine And.intro (by omega) ?_)
      | (refine And.intro (fun hb => absurd hb (by omega)) (fun hb => ?_))
      | (refine And.intro (fun hb => ?_) (fun hb => absurd hb (by omega)))
      | (refine And.intro (fun hb => ?_) (fun hb => ?_))
      | (intro hb)
      | (conv => whnf)))
    refine pr_i (by omega) hJ.1 ?_
    refine am_enter mt_M_drop ok_M_drop rfl ?_
    refine am_run 400 mt_M_drop ok_M_drop (fun K S hK hS => ?_)
    iterate 30 (all_goals (first
      | (refine And.intro (by omega) ?_)
      | (refine And.intro (fun hb => absurd hb (by omega)) (fun hb => ?_))
      | (refine And.intro (fun hb => ?_) (fun hb => absurd hb (by omega)))
      | (refine And.intro (fun hb => ?_) (fun hb => ?_))
      | (intro hb)
      | (conv => whnf)))
    refine hK (s_M_isSheet h0 (fun r2 hr2 => ?_))
    iterate 30 (all_goals (first
      | (refine And.intro (by omega) ?_)
      | (refine And.intro (fun hb => absurd hb (by omega)) (fun hb => ?_))
      | (refine And.intro (fun hb => ?_) (fun hb => absurd hb (by omega)))
      | (refine And.intro (fun hb => ?_) (fun hb => ?_))
      | (intro hb)
      | (conv => whnf)))
    refine pr_e (IJ_86 hJ (Or.inl rfl)) ?_
    simp +decide [am_up_ne, am_up_at, reduceIte]; exact hst2
end
section
/-! sheets: set, copy -/
theorem pr_set {G : am_G} {d : Nat} {sh : Int → Option Nat} {V : am_V} {T : Nat} {p : Int} {f0 : Int → Int} {s i v : Int} (hI : II V sh T p f0) (h0 : am_in32 s) (h1 : am_in32 i) (h2 : am_in64 v) : am_Calls G (d + 9) 2 [vR 3, vI s, vI i, vJ v] V (am_RF sh) T (pr_long G (d + 9) 73 [vR 86, vI s, vI i, vJ v] p f0) := by
  obtain ⟨hJ, hst⟩ := hI
  have hst2 : V 86 1 = V 3 17 ∧ 0 ≤ V 3 17 ∧ V 3 17 ≤ 5 := hst
  have b32 := m_bm32 v
  have b8 := m_bm8 (Int.bmod v 4294967296)
  by_cases hs : 0 ≤ s ∧ s < 8
  · have hsh := hJ.2.1 s hs.1 hs.2
    refine am_enter mt_F_set ok_F_set rfl ?_
    refine am_run 400 mt_F_set ok_F_set (fun K S hK hS => ?_)
    iterate 30 (all_goals (first
      | (refine And.intro (by omega) ?_)
      | (refine And.intro (fun hb => absurd hb (by omega)) (fun hb => ?_))
      | (refine And.intro (fun hb => ?_) (fun hb => absurd hb (by omega)))
      | (refine And.intro (fun hb => ?_) (fun hb => ?_))
      | (intro hb)
      | (conv => whnf)))
    refine hK (s_F_noSheet h0 (fun r hr => ?_))
    have find : ∀ c, (c = 1 ∧ V 87 s = -1) ∨ (c = 2 ∧ V 87 s = V 13 s ∧ (0 ≤ V 13 s ∧ V 13 s ≤ 2) ∧ V 88 s = V 14 s ∧ (0 ≤ V 14 s ∧ V 14 s ≤ 40) ∧ ¬ (0 ≤ i ∧ i < V 14 s)) → pr_long G (d + 9) 73 [vR 86, vI s, vI i, vJ v] p f0 (some (vJ (-1000010 - c))) (am_up V 3 17 c) (am_RF sh) T := by
      intro c hc
      have k87 : am_up V 3 17 c 87 s = V 87 s := by simp +decide [am_up_ne, am_up_at, reduceIte]
      have k88 : am_up V 3 17 c 88 s = V 88 s := by simp +decide [am_up_ne, am_up_at, reduceIte]
      refine pr_j (by omega) (by simp +decide [am_up_ne, am_up_at, reduceIte]; exact hJ.1) ?_
      generalize hW : am_up V 3 17 c = W at k87 k88
      have fin : pr_end p f0 (some (vJ (-1000010 - c))) (some (vJ (-1000010 - c))) (am_up (am_up (am_up W 86 0 0) 86 1 0) 86 1 c) (am_RF sh) T := by
        refine pr_e ?_ ?_
        · rw [← hW]
          exact IJ_86 (IJ_86 (IJ_86 (IJ_3 hJ) (Or.inl rfl)) (Or.inr rfl)) (Or.inr rfl)
        · rw [← hW]; simp +decide [am_up_ne, am_up_at, reduceIte]; omega
      refine am_enter mt_M_set ok_M_set rfl ?_
      refine am_run 400 mt_M_set ok_M_set (fun K S hK hS => ?_)
      iterate 30 (all_goals (first
        | (refine And.intro (by omega) ?_)
        | (refine And.intro (fun hb => absurd hb (by omega)) (fun hb => ?_))
        | (refine And.intro (fun hb => ?_) (fun hb => absurd hb (by omega)))
        | (refine And.intro (fun hb => ?_) (fun hb => ?_))
        | (intro hb)
        | (conv => whnf)))
      refine hK (s_M_isSheet h0 (fun r2 hr2 => ?_))
      rcases hc with ⟨rfl, e87⟩ | ⟨rfl, e87, e13, e88, e14, en⟩
      · iterate 30 (all_goals (first
          | (refine And.intro (by omega) ?_)
          | (refine And.intro (by decide) ?_)
          | (refine And.intro (fun hb => absurd hb (by omega)) (fun hb => ?_))
          | (refine And.intro (fun hb => ?_) (fun hb => absurd hb (by omega)))
          | (refine And.intro (fun hb => ?_) (fun hb => ?_))
          | (intro hb)
          | (simp +decide only [am_up_ne, am_up_at, reduceIte, k87])
          | (conv => whnf)))
        refine hK (s_M_found ?_)
        iterate 30 (all_goals (first
          | (refine And.intro (by omega) ?_)
          | (refine And.intro (fun hb => absurd hb (by omega)) (fun hb => ?_))
          | (refine And.intro (fun hb => ?_) (fun hb => absurd hb (by omega)))
          | (refine And.intro (fun hb => ?_) (fun hb => ?_))
          | (intro hb)
          | (conv => whnf)))
        exact fin
      · iterate 30 (all_goals (first
          | (refine And.intro (by omega) ?_)
          | (refine And.intro (by decide) ?_)
          | (refine And.intro (fun hb => absurd hb (by omega)) (fun hb => ?_))
          | (refine And.intro (fun hb => ?_) (fun hb => absurd hb (by omega)))
          | (refine And.intro (fun hb => ?_) (fun hb => ?_))
          | (intro hb)
          | (simp +decide only [am_up_ne, am_up_at, reduceIte, k87, k88])
          | (conv => whnf)))
        refine hK (s_M_in (by omega) (by omega) (by omega) (fun r3 hr3 => ?_))
        iterate 30 (all_goals (first
          | (refine And.intro (by omega) ?_)
          | (refine And.intro (by decide) ?_)
          | (refine And.intro (fun hb => absurd hb (by omega)) (fun hb => ?_))
          | (refine And.intro (fun hb => ?_) (fun hb => absurd hb (by omega)))
          | (refine And.intro (fun hb => ?_) (fun hb => ?_))
          | (intro hb)
          | (simp +decide only [am_up_ne, am_up_at, reduceIte, k87, k88])
          | (conv => whnf)))
        refine hK (s_M_found ?_)
        iterate 30 (all_goals (first
          | (refine And.intro (by omega) ?_)
          | (refine And.intro (fun hb => absurd hb (by omega)) (fun hb => ?_))
          | (refine And.intro (fun hb => ?_) (fun hb => absurd hb (by omega)))
          | (refine And.intro (fun hb => ?_) (fun hb => ?_))
          | (intro hb)
          | (conv => whnf)))
        exact fin
    iterate 30 (all_goals (first
      | (refine And.intro (by omega) ?_)
      | (refine And.intro (fun hb => absurd hb (by omega)) (fun hb => ?_))
      | (refine And.intro (fun hb => ?_) (fun hb => absurd hb (by omega)))
      | (refine And.intro (fun hb => ?_) (fun hb => ?_))
      | (intro hb)
      | (conv => whnf)))
    · refine hK (s_F_finding ?_)
      iterate 30 (all_goals (first
        | (refine And.intro (by omega) ?_)
        | (refine And.intro (fun hb => absurd hb (by omega)) (fun hb => ?_))
        | (refine And.intro (fun hb => ?_) (fun hb => absurd hb (by omega)))
        | (refine And.intro (fun hb => ?_) (fun hb => ?_))
        | (intro hb)
        | (conv => whnf)))
      exact find 2 (Or.inr ⟨rfl, by omega⟩)
    · have e14 : 0 ≤ V 14 s ∧ V 14 s ≤ 40 := by omega
      have e87 : V 87 s = V 13 s ∧ 0 ≤ V 13 s ∧ V 13 s ≤ 2 := by omega
      have e88 : V 88 s = V 14 s := by omega
      have k13 : am_up V 3 17 0 13 s = V 13 s := by simp +decide [am_up_ne, am_up_at, reduceIte]
      refine hK (s_F_lowestBits (by rw [k13]; omega) ?_)
      rw [k13]
      have lowr := m_low_in (l := V 13 s) h2
      have kk : am_up (am_up V 3 17 0) 4 (64 * s + i) (m_low (V 13 s) v) 4 (64 * s + i) = m_low (V 13 s) v := am_up_same
      iterate 30 (all_goals (first
        | (refine And.intro (by omega) ?_)
        | (refine And.intro (by decide) ?_)
        | (refine And.intro (fun hb => absurd hb (by omega)) (fun hb => ?_))
        | (refine And.intro (fun hb => ?_) (fun hb => absurd hb (by omega)))
        | (refine And.intro (fun hb => ?_) (fun hb => ?_))
        | (intro hb)
        | (simp only [kk])
        | (conv => whnf)))
      refine pr_j lowr (by simp +decide [am_up_ne, am_up_at, reduceIte]; exact hJ.1) ?_
      have k87 : am_up (am_up V 3 17 0) 4 (64 * s + i) (m_low (V 13 s) v) 87 s = V 13 s := by simp +decide [am_up_ne, am_up_at, reduceIte]; omega
      have k88 : am_up (am_up V 3 17 0) 4 (64 * s + i) (m_low (V 13 s) v) 88 s = V 14 s := by simp +decide [am_up_ne, am_up_at, reduceIte]; omega
      generalize hW : am_up (am_up V 3 17 0) 4 (64 * s + i) (m_low (V 13 s) v) = W at k87 k88
      have fin : ∀ x, x = m_low (V 13 s) v → pr_end p f0 (some (vJ (m_low (V 13 s) v))) (some (vJ x)) (am_up (am_up (am_up W 86 0 0) 86 1 0) 89 (40 * s + i) x) (am_RF sh) T := by
        intro x hx
        subst hx
        refine pr_e (IJ_sh hJ (fun a q q1 q2 q3 q4 q5 q6 => ?_) (fun j q => ?_) (fun j q1 q2 => ?_) ⟨?_, ?_⟩ (fun x a b => ?_) (fun x a b j c e => ?_)) ?_
        · rw [← hW]; simp +decide [am_up_ne, am_up_at, reduceIte, q.1, q.2.1, q1, q6]
        · rw [← hW]; simp +decide [am_up_ne, am_up_at, reduceIte, q]
        · rw [← hW]; simp +decide [am_up_ne, am_up_at, reduceIte, q1, q2]
        · rw [← hW]; simp +decide [am_up_ne, am_up_at, reduceIte]
        · rw [← hW]; simp +decide [am_up_ne, am_up_at, reduceIte]
        · rw [← hW]; simp +decide [am_up_ne, am_up_at, reduceIte]; exact hJ.2.1 x a b
        · rw [← hW]
          have := hJ.2.2.1 x a b j c e
          by_cases e2 : x = s ∧ j = i
          · rw [e2.1, e2.2]
            simp +decide [am_up_ne, am_up_at, reduceIte]
            exact lowr
          · have n1 : ¬ (40 * x + j = 40 * s + i) := by omega
            have n2 : ¬ (64 * x + j = 64 * s + i) := by omega
            simp +decide only [am_up_ne, am_up_at, reduceIte, n1, n2]
            exact this
        · rw [← hW]; simp +decide [am_up_ne, am_up_at, reduceIte]
      refine am_enter mt_M_set ok_M_set rfl ?_
      refine am_run 400 mt_M_set ok_M_set (fun K S hK hS => ?_)
      iterate 30 (all_goals (first
        | (refine And.intro (by omega) ?_)
        | (refine And.intro (fun hb => absurd hb (by omega)) (fun hb => ?_))
        | (refine And.intro (fun hb => ?_) (fun hb => absurd hb (by omega)))
        | (refine And.intro (fun hb => ?_) (fun hb => ?_))
        | (intro hb)
        | (conv => whnf)))
      refine hK (s_M_isSheet h0 (fun r2 hr2 => ?_))
      iterate 30 (all_goals (first
        | (refine And.intro (by omega) ?_)
        | (refine And.intro (by decide) ?_)
        | (refine And.intro (fun hb => absurd hb (by omega)) (fun hb => ?_))
        | (refine And.intro (fun hb => ?_) (fun hb => absurd hb (by omega)))
        | (refine And.intro (fun hb => ?_) (fun hb => ?_))
        | (intro hb)
        | (simp +decide only [am_up_ne, am_up_at, reduceIte, k87, k88])
        | (conv => whnf)))
      refine hK (s_M_in (by omega) (by omega) (by omega) (fun r3 hr3 => ?_))
      have k87b : am_up (am_up W 86 0 0) 86 1 0 87 s = V 13 s := by simp +decide [am_up_ne, am_up_at, reduceIte]; exact k87
      iterate 30 (all_goals (first
        | (refine And.intro (by omega) ?_)
        | (refine And.intro (by decide) ?_)
        | (refine And.intro (b32) ?_)
        | (refine And.intro (b8) ?_)
        | (refine And.intro (fun hb => absurd hb (by omega)) (fun hb => ?_))
        | (refine And.intro (fun hb => ?_) (fun hb => absurd hb (by omega)))
        | (refine And.intro (fun hb => ?_) (fun hb => ?_))
        | (intro hb)
        | (simp only [k87b, am_up_same])
        | (conv => whnf)))
      · exact fin v (by rw [m_low, if_neg (by omega), if_neg (by omega)])
      · exact fin _ (by rw [m_low, if_neg (by omega), if_pos (by omega)])
      · exact fin _ (by rw [m_low, if_pos (by omega)])
    · refine hK (s_F_finding ?_)
      iterate 30 (all_goals (first
        | (refine And.intro (by omega) ?_)
        | (refine And.intro (fun hb => absurd hb (by omega)) (fun hb => ?_))
        | (refine And.intro (fun hb => ?_) (fun hb => absurd hb (by omega)))
        | (refine And.intro (fun hb => ?_) (fun hb => ?_))
        | (intro hb)
        | (conv => whnf)))
      exact find 2 (Or.inr ⟨rfl, by omega⟩)
    · refine hK (s_F_finding ?_)
      iterate 30 (all_goals (first
        | (refine And.intro (by omega) ?_)
        | (refine And.intro (fun hb => absurd hb (by omega)) (fun hb => ?_))
        | (refine And.intro (fun hb => ?_) (fun hb => absurd hb (by omega)))
        | (refine And.intro (fun hb => ?_) (fun hb => ?_))
        | (intro hb)
        | (conv => whnf)))
      exact find 1 (Or.inl ⟨rfl, by omega⟩)
  · refine am_enter mt_F_set ok_F_set rfl ?_
    refine am_run 400 mt_F_set ok_F_set (fun K S hK hS => ?_)
    iterate 30 (all_goals (first
      | (refine And.intro (by omega) ?_)
      | (refine And.intro (fun hb => absurd hb (by omega)) (fun hb => ?_))
      | (refine And.intro (fun hb => ?_) (fun hb => absurd hb (by omega)))
      | (refine And.intro (fun hb => ?_) (fun hb => ?_))
      | (intro hb)
      | (conv => whnf)))
    refine hK (s_F_noSheet h0 (fun r hr => ?_))
    iterate 30 (all_goals (first
      | (refine And.intro (by omega) ?_)
      | (refine And.intro (fun hb => absurd hb (by omega)) (fun hb => ?_))
      | (refine And.intro (fun hb => ?_) (fun hb => absurd hb (by omega)))
      | (refine And.intro (fun hb => ?_) (fun hb => ?_))
      | (intro hb)
      | (conv => whnf)))
    refine pr_j (by omega) hJ.1 ?_
    refine am_enter mt_M_set ok_M_set rfl ?_
    refine am_run 400 mt_M_set ok_M_set (fun K S hK hS => ?_)
    iterate 30 (all_goals (first
      | (refine And.intro (by omega) ?_)
      | (refine And.intro (fun hb => absurd hb (by omega)) (fun hb => ?_))
      | (refine And.intro (fun hb => ?_) (fun hb => absurd hb (by omega)))
      | (refine And.intro (fun hb => ?_) (fun hb => ?_))
      | (intro hb)
      | (conv => whnf)))
    refine hK (s_M_isSheet h0 (fun r2 hr2 => ?_))
    iterate 30 (all_goals (first
      | (refine And.intro (by omega) ?_)
      | (refine And.intro (fun hb => absurd hb (by omega)) (fun hb => ?_))
      | (refine And.intro (fun hb => ?_) (fun hb => absurd hb (by omega)))
      | (refine And.intro (fun hb => ?_) (fun hb => ?_))
      | (intro hb)
      | (conv => whnf)))
    refine pr_e (IJ_86 hJ (Or.inl rfl)) ?_
    simp +decide [am_up_ne, am_up_at, reduceIte]; exact hst2
end
section
/-! sheets: copy -/
theorem s_M_copy {G : am_G} {d : Nat} {sh : Int → Option Nat} {V : am_V} {T : Nat} {Q : Option AV → am_V → am_T → Nat → Prop} {a i b j n : Int} (h0 : am_in32 a) (h1 : am_in32 i) (h2 : am_in32 b) (h3 : am_in32 j) (h4 : am_in32 n)
    (hV : ∀ s, 0 ≤ s → s < 8 → (V 87 s = -1 ∨ (0 ≤ V 87 s ∧ V 87 s ≤ 2 ∧ 0 ≤ V 88 s ∧ V 88 s ≤ 40)))
    (hB : ¬ ((0 ≤ a ∧ a < 8) ∧ (0 ≤ b ∧ b < 8)) → Q (some (vI (-1000001))) (am_up V 86 0 0) (am_RF sh) T)
    (hF : ∀ c, ((0 ≤ a ∧ a < 8) ∧ (0 ≤ b ∧ b < 8)) → ((c = 1 ∧ (V 87 a < 0 ∨ V 87 b < 0)) ∨ (c = 5 ∧ 0 ≤ V 87 a ∧ 0 ≤ V 87 b ∧ V 87 a ≠ V 87 b) ∨ (c = 2 ∧ 0 ≤ V 87 a ∧ 0 ≤ V 87 b ∧ V 87 a = V 87 b ∧ ¬ (0 ≤ i ∧ 0 ≤ j ∧ 0 ≤ n ∧ i + n ≤ V 88 a ∧ j + n ≤ V 88 b))) → Q (some (vI (-1000010 - c))) (am_up (am_up (am_up V 86 0 0) 86 1 0) 86 1 c) (am_RF sh) T)
    (hQ : ((0 ≤ a ∧ a < 8) ∧ (0 ≤ b ∧ b < 8)) → (0 ≤ V 87 a ∧ 0 ≤ V 87 b ∧ V 87 a = V 87 b) → (0 ≤ i ∧ 0 ≤ j ∧ 0 ≤ n ∧ i + n ≤ V 88 a ∧ j + n ≤ V 88 b) → ∀ V', (∀ x, x ≠ 89 → V' x = am_up (am_up V 86 0 0) 86 1 0 x) → (∀ x, V' 89 x = if 40 * b + j ≤ x ∧ x < 40 * b + j + n then V 89 (40 * a + i + (x - (40 * b + j))) else V 89 x) → Q (some (vI n)) V' (am_RF sh) T) : am_Calls G (d + 3) 74 [vR 86, vI a, vI i, vI b, vI j, vI n] V (am_RF sh) T Q := by
  refine am_enter mt_M_copy ok_M_copy rfl ?_
  have loop : ∀ (jj : Nat) (k u lo hi : Int) (x8 : Option AV) (W : am_V), ((0 ≤ a ∧ a < 8) ∧ (0 ≤ b ∧ b < 8)) → (0 ≤ V 87 a ∧ 0 ≤ V 87 b ∧ V 87 a = V 87 b) → (0 ≤ i ∧ 0 ≤ j ∧ 0 ≤ n ∧ i + n ≤ V 88 a ∧ j + n ≤ V 88 b) → (V 88 a ≤ 40 ∧ V 88 b ≤ 40) → ((u = 1 ∧ j ≤ i ∧ lo = 0 ∧ hi = k) ∨ (u = 0 ∧ i < j ∧ lo = n - k ∧ hi = n)) → 0 ≤ k → k ≤ n → n - k < jj → (∀ x, x ≠ 89 → W x = am_up (am_up V 86 0 0) 86 1 0 x) → (∀ x, W 89 x = if 40 * b + j + lo ≤ x ∧ x < 40 * b + j + hi then V 89 (40 * a + i + (x - (40 * b + j))) else V 89 x) → am_Sem G (d + 2) 74 V T Q 143 [some (vR 86), some (vI a), some (vI i), some (vI b), some (vI j), some (vI n), some (vI u), some (vI k), x8] [] W (am_RF sh) T 0 0 := by
    intro jj
    induction jj with
    | zero => intro k u lo hi x8 W c1 c2 c3 c4 hu q1 q2 q3; omega
    | succ jj ih =>
      intro k u lo hi x8 W c1 c2 c3 c4 hu q1 q2 q3 w1 w2
      by_cases hk : k = n
      · refine am_run 400 mt_M_copy ok_M_copy (fun K S hK hS => ?_)
        iterate 30 (all_goals (first
          | (refine And.intro (by omega) ?_)
          | (refine And.intro (fun hb => absurd hb (by omega)) (fun hb => ?_))
          | (refine And.intro (fun hb => ?_) (fun hb => absurd hb (by omega)))
          | (refine And.intro (fun hb => ?_) (fun hb => ?_))
          | (intro hb)
          | (conv => whnf)))
        refine hQ c1 c2 c3 W w1 (fun x => ?_)
        rw [w2, show lo = 0 by omega, show hi = n by omega, Int.add_zero]
      · have nx : ∀ at_ lo' hi', ((u = 1 ∧ at_ = k ∧ lo' = 0 ∧ hi' = k + 1) ∨ (u = 0 ∧ at_ = n - 1 - k ∧ lo' = n - (k + 1) ∧ hi' = n)) → ∀ x, am_up W 89 (40 * b + j + at_) (W 89 (40 * a + i + at_)) 89 x = if 40 * b + j + lo' ≤ x ∧ x < 40 * b + j + hi' then V 89 (40 * a + i + (x - (40 * b + j))) else V 89 x := by
          intro at_ lo' hi' hat x
          have rd : W 89 (40 * a + i + at_) = V 89 (40 * a + i + at_) := by
            rw [w2, if_neg (by omega)]
          rw [am_up_at, rd]
          by_cases e : x = 40 * b + j + at_
          · rw [if_pos e, if_pos (by omega), e]
            congr 1; omega
          · rw [if_neg e, w2]
            by_cases c : 40 * b + j + lo ≤ x ∧ x < 40 * b + j + hi
            · rw [if_pos c, if_pos (by omega)]
            · rw [if_neg c, if_neg (by omega)]
        refine am_run 400 mt_M_copy ok_M_copy (fun K S hK hS => ?_)
        iterate 30 (all_goals (first
          | (refine And.intro (by omega) ?_)
          | (refine And.intro (fun hb => absurd hb (by omega)) (fun hb => ?_))
          | (refine And.intro (fun hb => ?_) (fun hb => absurd hb (by omega)))
          | (refine And.intro (fun hb => ?_) (fun hb => ?_))
          | (intro hb)
          | (conv => whnf)))
        · exact hS (ih (k + 1) u (n - (k + 1)) n _ _ c1 c2 c3 c4 (by omega) (by omega) (by omega) (by omega) (fun x hx => by rw [am_up_ne hx, w1 x hx]) (nx _ _ _ (by omega)))
        · exact hS (ih (k + 1) u 0 (k + 1) _ _ c1 c2 c3 c4 (by omega) (by omega) (by omega) (by omega) (fun x hx => by rw [am_up_ne hx, w1 x hx]) (nx _ _ _ (by omega)))
  refine am_run 400 mt_M_copy ok_M_copy (fun K S hK hS => ?_)
  iterate 30 (all_goals (first
    | (refine And.intro (by omega) ?_)
    | (refine And.intro (fun hb => absurd hb (by omega)) (fun hb => ?_))
    | (refine And.intro (fun hb => ?_) (fun hb => absurd hb (by omega)))
    | (refine And.intro (fun hb => ?_) (fun hb => ?_))
    | (intro hb)
    | (conv => whnf)))
  refine hK (s_M_isSheet h0 (fun r hr => ?_))
  iterate 30 (all_goals (first
    | (refine And.intro (by omega) ?_)
    | (refine And.intro (fun hb => absurd hb (by omega)) (fun hb => ?_))
    | (refine And.intro (fun hb => ?_) (fun hb => absurd hb (by omega)))
    | (refine And.intro (fun hb => ?_) (fun hb => ?_))
    | (intro hb)
    | (conv => whnf)))
  · exact hB (by omega)
  refine hK (s_M_isSheet h2 (fun r2 hr2 => ?_))
  by_cases hab : (0 ≤ a ∧ a < 8) ∧ (0 ≤ b ∧ b < 8)
  · have va := hV a hab.1.1 hab.1.2
    have vb := hV b hab.2.1 hab.2.2
    iterate 90 (all_goals (first
      | (refine And.intro (by omega) ?_)
      | (refine And.intro (by decide) ?_)
      | (refine And.intro (fun hb => absurd hb (by omega)) (fun hb => ?_))
      | (refine And.intro (fun hb => ?_) (fun hb => absurd hb (by omega)))
      | (refine And.intro (fun hb => ?_) (fun hb => ?_))
      | (intro hb)
      | (simp +decide only [am_up_ne, am_up_at, reduceIte])
      | (conv => whnf)))
    all_goals first
      | exact hS (loop (n + 1).toNat 0 0 n n _ _ hab (by omega) (by omega) (by omega) (by omega) (by omega) (by omega) (by omega) (fun _ _ => rfl) (fun x => by rw [am_up_ne (by decide), am_up_ne (by decide), if_neg (by omega)]))
      | exact hS (loop (n + 1).toNat 0 1 0 0 _ _ hab (by omega) (by omega) (by omega) (by omega) (by omega) (by omega) (by omega) (fun _ _ => rfl) (fun x => by rw [am_up_ne (by decide), am_up_ne (by decide), if_neg (by omega)]))
      | exact hK (s_M_found (hF 2 hab (by omega)))
      | exact hK (s_M_found (hF 5 hab (by omega)))
      | exact hK (s_M_found (hF 1 hab (by omega)))
  · iterate 30 (all_goals (first
      | (refine And.intro (by omega) ?_)
      | (refine And.intro (fun hb => absurd hb (by omega)) (fun hb => ?_))
      | (refine And.intro (fun hb => ?_) (fun hb => absurd hb (by omega)))
      | (refine And.intro (fun hb => ?_) (fun hb => ?_))
      | (intro hb)
      | (conv => whnf)))
    exact hB (by omega)
theorem pr_copy {G : am_G} {d : Nat} {sh : Int → Option Nat} {V : am_V} {T : Nat} {p : Int} {f0 : Int → Int} {a i b j n : Int} (hI : II V sh T p f0) (h0 : am_in32 a) (h1 : am_in32 i) (h2 : am_in32 b) (h3 : am_in32 j) (h4 : am_in32 n) : am_Calls G (d + 9) 3 [vR 3, vI a, vI i, vI b, vI j, vI n] V (am_RF sh) T (pr_int G (d + 9) 74 [vR 86, vI a, vI i, vI b, vI j, vI n] p f0) := by
  obtain ⟨hJ, hst⟩ := hI
  have hst2 : V 86 1 = V 3 17 ∧ 0 ≤ V 3 17 ∧ V 3 17 ≤ 5 := hst
  have hVV : ∀ s, 0 ≤ s → s < 8 → (V 87 s = -1 ∨ (0 ≤ V 87 s ∧ V 87 s ≤ 2 ∧ 0 ≤ V 88 s ∧ V 88 s ≤ 40)) := fun s q1 q2 => by
    have := hJ.2.1 s q1 q2
    omega
  have bad : ¬ ((0 ≤ a ∧ a < 8) ∧ (0 ≤ b ∧ b < 8)) → pr_int G (d + 9) 74 [vR 86, vI a, vI i, vI b, vI j, vI n] p f0 (some (vI (-1000001))) V (am_RF sh) T := fun hc =>
    pr_i (by omega) hJ.1 (s_M_copy h0 h1 h2 h3 h4 hVV (fun _ => pr_e (IJ_86 hJ (Or.inl rfl)) (by simp +decide [am_up_ne, am_up_at, reduceIte]; exact hst2)) (fun c q => absurd q hc) (fun q => absurd q hc))
  by_cases hab : (0 ≤ a ∧ a < 8) ∧ (0 ≤ b ∧ b < 8)
  · have va := hJ.2.1 a hab.1.1 hab.1.2
    have vb := hJ.2.1 b hab.2.1 hab.2.2
    have find : ∀ c, 0 ≤ c ∧ c ≤ 5 → ((c = 1 ∧ (V 87 a < 0 ∨ V 87 b < 0)) ∨ (c = 5 ∧ 0 ≤ V 87 a ∧ 0 ≤ V 87 b ∧ V 87 a ≠ V 87 b) ∨ (c = 2 ∧ 0 ≤ V 87 a ∧ 0 ≤ V 87 b ∧ V 87 a = V 87 b ∧ ¬ (0 ≤ i ∧ 0 ≤ j ∧ 0 ≤ n ∧ i + n ≤ V 88 a ∧ j + n ≤ V 88 b))) → pr_int G (d + 9) 74 [vR 86, vI a, vI i, vI b, vI j, vI n] p f0 (some (vI (-1000010 - c))) (am_up V 3 17 c) (am_RF sh) T := by
      intro c hc0 hc
      refine pr_i (by omega) (by simp +decide [am_up_ne, am_up_at, reduceIte]; exact hJ.1) (s_M_copy h0 h1 h2 h3 h4 (by simp +decide only [am_up_ne, am_up_at, reduceIte]; exact hVV) (fun q => absurd hab q) (fun c' q hc' => ?_) (fun _ q2 q3 => ?_))
      · simp +decide only [am_up_ne, am_up_at, reduceIte] at hc'
        obtain rfl : c' = c := by omega
        refine pr_e (IJ_86 (IJ_86 (IJ_86 (IJ_3 hJ) (Or.inl rfl)) (Or.inr rfl)) (Or.inr rfl)) ?_
        simp +decide [am_up_ne, am_up_at, reduceIte]; omega
      · exfalso
        simp +decide only [am_up_ne, am_up_at, reduceIte] at q2 q3
        omega
    refine am_enter mt_F_copy ok_F_copy rfl ?_
    refine am_run 400 mt_F_copy ok_F_copy (fun K S hK hS => ?_)
    iterate 30 (all_goals (first
      | (refine And.intro (by omega) ?_)
      | (refine And.intro (fun hb => absurd hb (by omega)) (fun hb => ?_))
      | (refine And.intro (fun hb => ?_) (fun hb => absurd hb (by omega)))
      | (refine And.intro (fun hb => ?_) (fun hb => ?_))
      | (intro hb)
      | (conv => whnf)))
    refine hK (s_F_noSheet h0 (fun r hr => ?_))
    iterate 30 (all_goals (first
      | (refine And.intro (by omega) ?_)
      | (refine And.intro (fun hb => absurd hb (by omega)) (fun hb => ?_))
      | (refine And.intro (fun hb => ?_) (fun hb => absurd hb (by omega)))
      | (refine And.intro (fun hb => ?_) (fun hb => ?_))
      | (intro hb)
      | (conv => whnf)))
    refine hK (s_F_noSheet h2 (fun r2 hr2 => ?_))
    iterate 60 (all_goals (first
      | (refine And.intro (by omega) ?_)
      | (refine And.intro (fun hb => absurd hb (by omega)) (fun hb => ?_))
      | (refine And.intro (fun hb => ?_) (fun hb => absurd hb (by omega)))
      | (refine And.intro (fun hb => ?_) (fun hb => ?_))
      | (intro hb)
      | (conv => whnf)))
    all_goals (try exact hK (s_F_finding (find 1 (by omega) (by omega))))
    all_goals (try exact hK (s_F_finding (find 5 (by omega) (by omega))))
    · refine hK (s_F_noRun hab.1 h1 h4 (by omega) (fun r3 hr3 => ?_))
      iterate 30 (all_goals (first
        | (refine And.intro (by omega) ?_)
        | (refine And.intro (fun hb => absurd hb (by omega)) (fun hb => ?_))
        | (refine And.intro (fun hb => ?_) (fun hb => absurd hb (by omega)))
        | (refine And.intro (fun hb => ?_) (fun hb => ?_))
        | (intro hb)
        | (conv => whnf)))
      · refine hK (s_F_finding ?_)
        iterate 30 (all_goals (first
          | (refine And.intro (by omega) ?_)
          | (refine And.intro (fun hb => absurd hb (by omega)) (fun hb => ?_))
          | (refine And.intro (fun hb => ?_) (fun hb => absurd hb (by omega)))
          | (refine And.intro (fun hb => ?_) (fun hb => ?_))
          | (intro hb)
          | (conv => whnf)))
        exact find 2 (by omega) (by omega)
      refine hK (s_F_noRun hab.2 h3 h4 (by omega) (fun r4 hr4 => ?_))
      iterate 30 (all_goals (first
        | (refine And.intro (by omega) ?_)
        | (refine And.intro (fun hb => absurd hb (by omega)) (fun hb => ?_))
        | (refine And.intro (fun hb => ?_) (fun hb => absurd hb (by omega)))
        | (refine And.intro (fun hb => ?_) (fun hb => ?_))
        | (intro hb)
        | (conv => whnf)))
      · refine hK (s_F_fine ?_)
        iterate 30 (all_goals (first
          | (refine And.intro (by omega) ?_)
          | (refine And.intro (fun hb => absurd hb (by omega)) (fun hb => ?_))
          | (refine And.intro (fun hb => ?_) (fun hb => absurd hb (by omega)))
          | (refine And.intro (fun hb => ?_) (fun hb => ?_))
          | (intro hb)
          | (conv => whnf)))
        refine pr_i (by omega) ?_ (s_M_copy h0 h1 h2 h3 h4 ?_ (fun q => absurd hab q) (fun c' q hc' => ?_) (fun _ q2 q3 U u1 u2 => ?_))
        · rw [am_up_ne (by decide)]
          unfold am_cpy
          simp +decide
          exact hJ.1
        · have e1 : am_up (am_cpy V 4 (64 * a + i) 4 (64 * b + j) n) 3 17 0 87 = V 87 := by rw [am_up_ne (by decide)]; unfold am_cpy; simp +decide
          have e2 : am_up (am_cpy V 4 (64 * a + i) 4 (64 * b + j) n) 3 17 0 88 = V 88 := by rw [am_up_ne (by decide)]; unfold am_cpy; simp +decide
          intro s s1 s2
          show am_up (am_cpy V 4 (64 * a + i) 4 (64 * b + j) n) 3 17 0 87 s = -1 ∨ (0 ≤ am_up (am_cpy V 4 (64 * a + i) 4 (64 * b + j) n) 3 17 0 87 s ∧ am_up (am_cpy V 4 (64 * a + i) 4 (64 * b + j) n) 3 17 0 87 s ≤ 2 ∧ 0 ≤ am_up (am_cpy V 4 (64 * a + i) 4 (64 * b + j) n) 3 17 0 88 s ∧ am_up (am_cpy V 4 (64 * a + i) 4 (64 * b + j) n) 3 17 0 88 s ≤ 40)
          rw [e1, e2]
          exact hVV s s1 s2
        · exfalso
          have e1 : am_up (am_cpy V 4 (64 * a + i) 4 (64 * b + j) n) 3 17 0 87 = V 87 := by rw [am_up_ne (by decide)]; unfold am_cpy; simp +decide
          have e2 : am_up (am_cpy V 4 (64 * a + i) 4 (64 * b + j) n) 3 17 0 88 = V 88 := by rw [am_up_ne (by decide)]; unfold am_cpy; simp +decide
          have hc2 : ((c' = 1 ∧ (am_up (am_cpy V 4 (64 * a + i) 4 (64 * b + j) n) 3 17 0 87 a < 0 ∨ am_up (am_cpy V 4 (64 * a + i) 4 (64 * b + j) n) 3 17 0 87 b < 0)) ∨ (c' = 5 ∧ 0 ≤ am_up (am_cpy V 4 (64 * a + i) 4 (64 * b + j) n) 3 17 0 87 a ∧ 0 ≤ am_up (am_cpy V 4 (64 * a + i) 4 (64 * b + j) n) 3 17 0 87 b ∧ am_up (am_cpy V 4 (64 * a + i) 4 (64 * b + j) n) 3 17 0 87 a ≠ am_up (am_cpy V 4 (64 * a + i) 4 (64 * b + j) n) 3 17 0 87 b) ∨ (c' = 2 ∧ 0 ≤ am_up (am_cpy V 4 (64 * a + i) 4 (64 * b + j) n) 3 17 0 87 a ∧ 0 ≤ am_up (am_cpy V 4 (64 * a + i) 4 (64 * b + j) n) 3 17 0 87 b ∧ am_up (am_cpy V 4 (64 * a + i) 4 (64 * b + j) n) 3 17 0 87 a = am_up (am_cpy V 4 (64 * a + i) 4 (64 * b + j) n) 3 17 0 87 b ∧ ¬ (0 ≤ i ∧ 0 ≤ j ∧ 0 ≤ n ∧ i + n ≤ am_up (am_cpy V 4 (64 * a + i) 4 (64 * b + j) n) 3 17 0 88 a ∧ j + n ≤ am_up (am_cpy V 4 (64 * a + i) 4 (64 * b + j) n) 3 17 0 88 b))) := hc'
          rw [e1, e2] at hc2
          omega
        · have cn : ∀ x, x ≠ 4 → am_cpy V 4 (64 * a + i) 4 (64 * b + j) n x = V x := fun x hx => by
            funext y; unfold am_cpy; rw [if_neg hx]
          have c4 : ∀ y, am_cpy V 4 (64 * a + i) 4 (64 * b + j) n 4 y = if 64 * b + j ≤ y ∧ y < 64 * b + j + n then V 4 (64 * a + i + (y - (64 * b + j))) else V 4 y := fun y => by
            unfold am_cpy; rw [if_pos rfl]
          have u1 : ∀ x, x ≠ 89 → U x = am_up (am_up (am_up (am_cpy V 4 (64 * a + i) 4 (64 * b + j) n) 3 17 0) 86 0 0) 86 1 0 x := u1
          have u2 : ∀ x, U 89 x = if 40 * b + j ≤ x ∧ x < 40 * b + j + n then am_up (am_cpy V 4 (64 * a + i) 4 (64 * b + j) n) 3 17 0 89 (40 * a + i + (x - (40 * b + j))) else am_up (am_cpy V 4 (64 * a + i) 4 (64 * b + j) n) 3 17 0 89 x := u2
          refine pr_e (IJ_sh hJ (fun a q q1 q2 q3 q4 q5 q6 => ?_) (fun j q => ?_) (fun j q1 q2 => ?_) ⟨?_, ?_⟩ (fun x a b => ?_) (fun x a' b' y c e => ?_)) ?_
          · rw [u1 a q6, am_up_ne q.2.1, am_up_ne q.2.1, am_up_ne q.1, cn a q1]
          · rw [u1 3 (by decide), am_up_ne (by decide), am_up_ne (by decide), am_up_at, if_neg q, cn 3 (by decide)]
          · rw [u1 86 (by decide), am_up_at, if_neg q2, am_up_at, if_neg q1, am_up_ne (by decide), cn 86 (by decide)]
          · rw [u1 65 (by decide), am_up_ne (by decide), am_up_ne (by decide), am_up_ne (by decide), cn 65 (by decide)]
          · rw [u1 76 (by decide), am_up_ne (by decide), am_up_ne (by decide), am_up_ne (by decide), cn 76 (by decide)]
          · rw [u1 13 (by decide), u1 14 (by decide), u1 87 (by decide), u1 88 (by decide), am_up_ne (by decide), am_up_ne (by decide), am_up_ne (by decide), am_up_ne (by decide), am_up_ne (by decide), am_up_ne (by decide), am_up_ne (by decide), am_up_ne (by decide), am_up_ne (by decide), am_up_ne (by decide), am_up_ne (by decide), am_up_ne (by decide), cn 13 (by decide), cn 14 (by decide), cn 87 (by decide), cn 88 (by decide)]
            exact hJ.2.1 x a b
          · rw [u2, u1 4 (by decide), am_up_ne (by decide), am_up_ne (by decide), am_up_ne (by decide), am_up_ne (by decide), c4, cn 89 (by decide)]
            by_cases hx : x = b ∧ j ≤ y ∧ y < j + n
            · rw [if_pos (by omega), if_pos (by omega), hx.1]
              have := hJ.2.2.1 a hab.1.1 hab.1.2 (i + (y - j)) (by omega) (by omega)
              rw [show 64 * a + i + (64 * b + y - (64 * b + j)) = 64 * a + (i + (y - j)) by omega, show 40 * a + i + (40 * b + y - (40 * b + j)) = 40 * a + (i + (y - j)) by omega]
              exact this
            · rw [if_neg (by omega), if_neg (by omega)]
              exact hJ.2.2.1 x a' b' y c e
          · rw [u1 86 (by decide), u1 3 (by decide), am_up_same, am_up_ne (by decide), am_up_ne (by decide), am_up_same]
            exact ⟨rfl, by omega, by omega⟩
      · refine hK (s_F_finding ?_)
        iterate 30 (all_goals (first
          | (refine And.intro (by omega) ?_)
          | (refine And.intro (fun hb => absurd hb (by omega)) (fun hb => ?_))
          | (refine And.intro (fun hb => ?_) (fun hb => absurd hb (by omega)))
          | (refine And.intro (fun hb => ?_) (fun hb => ?_))
          | (intro hb)
          | (conv => whnf)))
        exact find 2 (by omega) (by omega)
  · refine am_enter mt_F_copy ok_F_copy rfl ?_
    refine am_run 400 mt_F_copy ok_F_copy (fun K S hK hS => ?_)
    iterate 30 (all_goals (first
      | (refine And.intro (by omega) ?_)
      | (refine And.intro (fun hb => absurd hb (by omega)) (fun hb => ?_))
      | (refine And.intro (fun hb => ?_) (fun hb => absurd hb (by omega)))
      | (refine And.intro (fun hb => ?_) (fun hb => ?_))
      | (intro hb)
      | (conv => whnf)))
    refine hK (s_F_noSheet h0 (fun r hr => ?_))
    iterate 30 (all_goals (first
      | (refine And.intro (by omega) ?_)
      | (refine And.intro (fun hb => absurd hb (by omega)) (fun hb => ?_))
      | (refine And.intro (fun hb => ?_) (fun hb => absurd hb (by omega)))
      | (refine And.intro (fun hb => ?_) (fun hb => ?_))
      | (intro hb)
      | (conv => whnf)))
    · exact bad hab
    refine hK (s_F_noSheet h2 (fun r2 hr2 => ?_))
    iterate 30 (all_goals (first
      | (refine And.intro (by omega) ?_)
      | (refine And.intro (fun hb => absurd hb (by omega)) (fun hb => ?_))
      | (refine And.intro (fun hb => ?_) (fun hb => absurd hb (by omega)))
      | (refine And.intro (fun hb => ?_) (fun hb => ?_))
      | (intro hb)
      | (conv => whnf)))
    exact bad hab
end
