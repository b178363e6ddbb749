-- ===== PART A: goes FIRST, ahead of the names: the tables' words, and 'selects' of the private methods out of them =====
/-- a private method of a class that the tables say can be made, by its rows of tables_1 -/
def lw_okq (q : MethodName × Nat) : Prop := (q.1.cls ≠ "java/lang/invoke/MethodHandle" ∧ q.1.cls ≠ "java/lang/invoke/VarHandle") ∧ Cond.instantiable q.1.cls q.2 ∈ tables_1 ∧ Cond.privateMethod q.1 ∈ tables_1 ∧ Cond.instanceMethod q.1 ∈ tables_1
theorem lw_p0 : lw_okq (⟨"PatchHouse$Houses", "clear", "()V"⟩, 3) := ⟨⟨by decide +kernel, by decide +kernel⟩, List.mem_of_getElem? (i := 39) (by decide +kernel), List.mem_of_getElem? (i := 264) (by decide +kernel), List.mem_of_getElem? (i := 265) (by decide +kernel)⟩
theorem lw_p1 : lw_okq (⟨"PatchHouse$Writing", "apply", "(III)V"⟩, 2) := ⟨⟨by decide +kernel, by decide +kernel⟩, List.mem_of_getElem? (i := 23) (by decide +kernel), List.mem_of_getElem? (i := 278) (by decide +kernel), List.mem_of_getElem? (i := 279) (by decide +kernel)⟩
theorem lw_p2 : lw_okq (⟨"PatchHouse$Writing", "hasPlace", "(II)Z"⟩, 2) := ⟨⟨by decide +kernel, by decide +kernel⟩, List.mem_of_getElem? (i := 23) (by decide +kernel), List.mem_of_getElem? (i := 282) (by decide +kernel), List.mem_of_getElem? (i := 283) (by decide +kernel)⟩
theorem lw_p3 : lw_okq (⟨"PatchHouse", "readText", "(I)LPatchHouse$Writing;"⟩, 12) := ⟨⟨by decide +kernel, by decide +kernel⟩, List.mem_of_getElem? (i := 15) (by decide +kernel), List.mem_of_getElem? (i := 300) (by decide +kernel), List.mem_of_getElem? (i := 301) (by decide +kernel)⟩
theorem lw_p4 : lw_okq (⟨"PatchHouse$Writing", "copyFrom", "(LPatchHouse$Writing;)V"⟩, 2) := ⟨⟨by decide +kernel, by decide +kernel⟩, List.mem_of_getElem? (i := 23) (by decide +kernel), List.mem_of_getElem? (i := 304) (by decide +kernel), List.mem_of_getElem? (i := 305) (by decide +kernel)⟩
theorem lw_p5 : lw_okq (⟨"PatchHouse", "hasRoom", "(II)Z"⟩, 12) := ⟨⟨by decide +kernel, by decide +kernel⟩, List.mem_of_getElem? (i := 15) (by decide +kernel), List.mem_of_getElem? (i := 309) (by decide +kernel), List.mem_of_getElem? (i := 310) (by decide +kernel)⟩
theorem lw_p6 : lw_okq (⟨"PatchHouse$Past", "push", "(LPatchHouse$Houses;)V"⟩, 3) := ⟨⟨by decide +kernel, by decide +kernel⟩, List.mem_of_getElem? (i := 99) (by decide +kernel), List.mem_of_getElem? (i := 313) (by decide +kernel), List.mem_of_getElem? (i := 314) (by decide +kernel)⟩
theorem lw_p7 : lw_okq (⟨"PatchHouse$Houses", "copyFrom", "(LPatchHouse$Houses;)V"⟩, 3) := ⟨⟨by decide +kernel, by decide +kernel⟩, List.mem_of_getElem? (i := 39) (by decide +kernel), List.mem_of_getElem? (i := 317) (by decide +kernel), List.mem_of_getElem? (i := 318) (by decide +kernel)⟩
theorem lw_p8 : lw_okq (⟨"PatchHouse$History", "copyFrom", "(LPatchHouse$History;)V"⟩, 5) := ⟨⟨by decide +kernel, by decide +kernel⟩, List.mem_of_getElem? (i := 46) (by decide +kernel), List.mem_of_getElem? (i := 321) (by decide +kernel), List.mem_of_getElem? (i := 322) (by decide +kernel)⟩
theorem lw_p9 : lw_okq (⟨"PatchHouse", "append", "(IIII)I"⟩, 12) := ⟨⟨by decide +kernel, by decide +kernel⟩, List.mem_of_getElem? (i := 15) (by decide +kernel), List.mem_of_getElem? (i := 329) (by decide +kernel), List.mem_of_getElem? (i := 330) (by decide +kernel)⟩
theorem lw_p10 : lw_okq (⟨"PatchHouse$Writing", "at", "(I)I"⟩, 2) := ⟨⟨by decide +kernel, by decide +kernel⟩, List.mem_of_getElem? (i := 23) (by decide +kernel), List.mem_of_getElem? (i := 333) (by decide +kernel), List.mem_of_getElem? (i := 334) (by decide +kernel)⟩
theorem lw_p11 : lw_okq (⟨"PatchHouse$History", "add", "(IIII)V"⟩, 5) := ⟨⟨by decide +kernel, by decide +kernel⟩, List.mem_of_getElem? (i := 46) (by decide +kernel), List.mem_of_getElem? (i := 337) (by decide +kernel), List.mem_of_getElem? (i := 338) (by decide +kernel)⟩
theorem lw_p12 : lw_okq (⟨"PatchHouse$History", "find", "(I)I"⟩, 5) := ⟨⟨by decide +kernel, by decide +kernel⟩, List.mem_of_getElem? (i := 46) (by decide +kernel), List.mem_of_getElem? (i := 345) (by decide +kernel), List.mem_of_getElem? (i := 346) (by decide +kernel)⟩
theorem lw_p13 : lw_okq (⟨"PatchHouse$History", "canGoToEnd", "(I)Z"⟩, 5) := ⟨⟨by decide +kernel, by decide +kernel⟩, List.mem_of_getElem? (i := 46) (by decide +kernel), List.mem_of_getElem? (i := 349) (by decide +kernel), List.mem_of_getElem? (i := 350) (by decide +kernel)⟩
theorem lw_p14 : lw_okq (⟨"PatchHouse$History", "canGoBehind", "(II)Z"⟩, 5) := ⟨⟨by decide +kernel, by decide +kernel⟩, List.mem_of_getElem? (i := 46) (by decide +kernel), List.mem_of_getElem? (i := 353) (by decide +kernel), List.mem_of_getElem? (i := 354) (by decide +kernel)⟩
theorem lw_p15 : lw_okq (⟨"PatchHouse$History", "hasPlace", "(I)Z"⟩, 5) := ⟨⟨by decide +kernel, by decide +kernel⟩, List.mem_of_getElem? (i := 46) (by decide +kernel), List.mem_of_getElem? (i := 357) (by decide +kernel), List.mem_of_getElem? (i := 358) (by decide +kernel)⟩
def lw_privs_1 : List (MethodName × Nat) := [(⟨"PatchHouse$Houses", "clear", "()V"⟩, 3), (⟨"PatchHouse$Writing", "apply", "(III)V"⟩, 2), (⟨"PatchHouse$Writing", "hasPlace", "(II)Z"⟩, 2), (⟨"PatchHouse", "readText", "(I)LPatchHouse$Writing;"⟩, 12), (⟨"PatchHouse$Writing", "copyFrom", "(LPatchHouse$Writing;)V"⟩, 2), (⟨"PatchHouse", "hasRoom", "(II)Z"⟩, 12), (⟨"PatchHouse$Past", "push", "(LPatchHouse$Houses;)V"⟩, 3), (⟨"PatchHouse$Houses", "copyFrom", "(LPatchHouse$Houses;)V"⟩, 3), (⟨"PatchHouse$History", "copyFrom", "(LPatchHouse$History;)V"⟩, 5), (⟨"PatchHouse", "append", "(IIII)I"⟩, 12), (⟨"PatchHouse$Writing", "at", "(I)I"⟩, 2), (⟨"PatchHouse$History", "add", "(IIII)V"⟩, 5), (⟨"PatchHouse$History", "find", "(I)I"⟩, 5), (⟨"PatchHouse$History", "canGoToEnd", "(I)Z"⟩, 5), (⟨"PatchHouse$History", "canGoBehind", "(II)Z"⟩, 5), (⟨"PatchHouse$History", "hasPlace", "(I)Z"⟩, 5)]
theorem lw_r1 : ∀ q ∈ lw_privs_1, lw_okq q := List.forall_mem_cons.mpr ⟨lw_p0, List.forall_mem_cons.mpr ⟨lw_p1, List.forall_mem_cons.mpr ⟨lw_p2, List.forall_mem_cons.mpr ⟨lw_p3, List.forall_mem_cons.mpr ⟨lw_p4, List.forall_mem_cons.mpr ⟨lw_p5, List.forall_mem_cons.mpr ⟨lw_p6, List.forall_mem_cons.mpr ⟨lw_p7, List.forall_mem_cons.mpr ⟨lw_p8, List.forall_mem_cons.mpr ⟨lw_p9, List.forall_mem_cons.mpr ⟨lw_p10, List.forall_mem_cons.mpr ⟨lw_p11, List.forall_mem_cons.mpr ⟨lw_p12, List.forall_mem_cons.mpr ⟨lw_p13, List.forall_mem_cons.mpr ⟨lw_p14, List.forall_mem_cons.mpr ⟨lw_p15, fun _ h => absurd h List.not_mem_nil⟩⟩⟩⟩⟩⟩⟩⟩⟩⟩⟩⟩⟩⟩⟩⟩
theorem lw_p16 : lw_okq (⟨"PatchHouse$History", "bring", "(II)Z"⟩, 5) := ⟨⟨by decide +kernel, by decide +kernel⟩, List.mem_of_getElem? (i := 46) (by decide +kernel), List.mem_of_getElem? (i := 364) (by decide +kernel), List.mem_of_getElem? (i := 365) (by decide +kernel)⟩
theorem lw_p17 : lw_okq (⟨"PatchHouse$History", "swap", "(I)Z"⟩, 5) := ⟨⟨by decide +kernel, by decide +kernel⟩, List.mem_of_getElem? (i := 46) (by decide +kernel), List.mem_of_getElem? (i := 368) (by decide +kernel), List.mem_of_getElem? (i := 369) (by decide +kernel)⟩
theorem lw_p18 : lw_okq (⟨"PatchHouse$History", "hasPair", "(I)Z"⟩, 5) := ⟨⟨by decide +kernel, by decide +kernel⟩, List.mem_of_getElem? (i := 46) (by decide +kernel), List.mem_of_getElem? (i := 372) (by decide +kernel), List.mem_of_getElem? (i := 373) (by decide +kernel)⟩
theorem lw_p19 : lw_okq (⟨"PatchHouse$History", "pairAt", "(I)I"⟩, 5) := ⟨⟨by decide +kernel, by decide +kernel⟩, List.mem_of_getElem? (i := 46) (by decide +kernel), List.mem_of_getElem? (i := 381) (by decide +kernel), List.mem_of_getElem? (i := 382) (by decide +kernel)⟩
theorem lw_p20 : lw_okq (⟨"PatchHouse$Pulling", "sortOut", "(LPatchHouse$History;LPatchHouse$History;I)Z"⟩, 5) := ⟨⟨by decide +kernel, by decide +kernel⟩, List.mem_of_getElem? (i := 166) (by decide +kernel), List.mem_of_getElem? (i := 390) (by decide +kernel), List.mem_of_getElem? (i := 391) (by decide +kernel)⟩
theorem lw_p21 : lw_okq (⟨"PatchHouse$History", "asSet", "()I"⟩, 5) := ⟨⟨by decide +kernel, by decide +kernel⟩, List.mem_of_getElem? (i := 46) (by decide +kernel), List.mem_of_getElem? (i := 394) (by decide +kernel), List.mem_of_getElem? (i := 395) (by decide +kernel)⟩
theorem lw_p22 : lw_okq (⟨"PatchHouse$History", "bringToFront", "(I)I"⟩, 5) := ⟨⟨by decide +kernel, by decide +kernel⟩, List.mem_of_getElem? (i := 46) (by decide +kernel), List.mem_of_getElem? (i := 399) (by decide +kernel), List.mem_of_getElem? (i := 400) (by decide +kernel)⟩
theorem lw_p23 : lw_okq (⟨"PatchHouse$History", "gather", "(II)I"⟩, 5) := ⟨⟨by decide +kernel, by decide +kernel⟩, List.mem_of_getElem? (i := 46) (by decide +kernel), List.mem_of_getElem? (i := 405) (by decide +kernel), List.mem_of_getElem? (i := 406) (by decide +kernel)⟩
theorem lw_p24 : lw_okq (⟨"PatchHouse$Pulling", "hasRoom", "(I)Z"⟩, 5) := ⟨⟨by decide +kernel, by decide +kernel⟩, List.mem_of_getElem? (i := 166) (by decide +kernel), List.mem_of_getElem? (i := 409) (by decide +kernel), List.mem_of_getElem? (i := 410) (by decide +kernel)⟩
theorem lw_p25 : lw_okq (⟨"PatchHouse$Pulling", "goPast", "()I"⟩, 5) := ⟨⟨by decide +kernel, by decide +kernel⟩, List.mem_of_getElem? (i := 166) (by decide +kernel), List.mem_of_getElem? (i := 413) (by decide +kernel), List.mem_of_getElem? (i := 414) (by decide +kernel)⟩
theorem lw_p26 : lw_okq (⟨"PatchHouse$Pulling", "fits", "(LPatchHouse$Writing;)Z"⟩, 5) := ⟨⟨by decide +kernel, by decide +kernel⟩, List.mem_of_getElem? (i := 166) (by decide +kernel), List.mem_of_getElem? (i := 422) (by decide +kernel), List.mem_of_getElem? (i := 423) (by decide +kernel)⟩
theorem lw_p27 : lw_okq (⟨"PatchHouse$Writing", "fits", "(III)Z"⟩, 2) := ⟨⟨by decide +kernel, by decide +kernel⟩, List.mem_of_getElem? (i := 23) (by decide +kernel), List.mem_of_getElem? (i := 426) (by decide +kernel), List.mem_of_getElem? (i := 427) (by decide +kernel)⟩
theorem lw_p28 : lw_okq (⟨"PatchHouse$Pulling", "giveTo", "(LPatchHouse$History;)V"⟩, 5) := ⟨⟨by decide +kernel, by decide +kernel⟩, List.mem_of_getElem? (i := 166) (by decide +kernel), List.mem_of_getElem? (i := 431) (by decide +kernel), List.mem_of_getElem? (i := 432) (by decide +kernel)⟩
theorem lw_p29 : lw_okq (⟨"PatchHouse$Lots", "start", "(I)V"⟩, 1) := ⟨⟨by decide +kernel, by decide +kernel⟩, List.mem_of_getElem? (i := 213) (by decide +kernel), List.mem_of_getElem? (i := 441) (by decide +kernel), List.mem_of_getElem? (i := 442) (by decide +kernel)⟩
theorem lw_p30 : lw_okq (⟨"PatchHouse", "recordByLots", "()Z"⟩, 12) := ⟨⟨by decide +kernel, by decide +kernel⟩, List.mem_of_getElem? (i := 15) (by decide +kernel), List.mem_of_getElem? (i := 445) (by decide +kernel), List.mem_of_getElem? (i := 446) (by decide +kernel)⟩
theorem lw_p31 : lw_okq (⟨"PatchHouse$Lots", "next", "(I)I"⟩, 1) := ⟨⟨by decide +kernel, by decide +kernel⟩, List.mem_of_getElem? (i := 213) (by decide +kernel), List.mem_of_getElem? (i := 449) (by decide +kernel), List.mem_of_getElem? (i := 450) (by decide +kernel)⟩
def lw_privs_2 : List (MethodName × Nat) := [(⟨"PatchHouse$History", "bring", "(II)Z"⟩, 5), (⟨"PatchHouse$History", "swap", "(I)Z"⟩, 5), (⟨"PatchHouse$History", "hasPair", "(I)Z"⟩, 5), (⟨"PatchHouse$History", "pairAt", "(I)I"⟩, 5), (⟨"PatchHouse$Pulling", "sortOut", "(LPatchHouse$History;LPatchHouse$History;I)Z"⟩, 5), (⟨"PatchHouse$History", "asSet", "()I"⟩, 5), (⟨"PatchHouse$History", "bringToFront", "(I)I"⟩, 5), (⟨"PatchHouse$History", "gather", "(II)I"⟩, 5), (⟨"PatchHouse$Pulling", "hasRoom", "(I)Z"⟩, 5), (⟨"PatchHouse$Pulling", "goPast", "()I"⟩, 5), (⟨"PatchHouse$Pulling", "fits", "(LPatchHouse$Writing;)Z"⟩, 5), (⟨"PatchHouse$Writing", "fits", "(III)Z"⟩, 2), (⟨"PatchHouse$Pulling", "giveTo", "(LPatchHouse$History;)V"⟩, 5), (⟨"PatchHouse$Lots", "start", "(I)V"⟩, 1), (⟨"PatchHouse", "recordByLots", "()Z"⟩, 12), (⟨"PatchHouse$Lots", "next", "(I)I"⟩, 1)]
theorem lw_r2 : ∀ q ∈ lw_privs_2, lw_okq q := List.forall_mem_cons.mpr ⟨lw_p16, List.forall_mem_cons.mpr ⟨lw_p17, List.forall_mem_cons.mpr ⟨lw_p18, List.forall_mem_cons.mpr ⟨lw_p19, List.forall_mem_cons.mpr ⟨lw_p20, List.forall_mem_cons.mpr ⟨lw_p21, List.forall_mem_cons.mpr ⟨lw_p22, List.forall_mem_cons.mpr ⟨lw_p23, List.forall_mem_cons.mpr ⟨lw_p24, List.forall_mem_cons.mpr ⟨lw_p25, List.forall_mem_cons.mpr ⟨lw_p26, List.forall_mem_cons.mpr ⟨lw_p27, List.forall_mem_cons.mpr ⟨lw_p28, List.forall_mem_cons.mpr ⟨lw_p29, List.forall_mem_cons.mpr ⟨lw_p30, List.forall_mem_cons.mpr ⟨lw_p31, fun _ h => absurd h List.not_mem_nil⟩⟩⟩⟩⟩⟩⟩⟩⟩⟩⟩⟩⟩⟩⟩⟩
theorem lw_p32 : lw_okq (⟨"PatchHouse$Past", "pop", "(LPatchHouse$Houses;)V"⟩, 3) := ⟨⟨by decide +kernel, by decide +kernel⟩, List.mem_of_getElem? (i := 99) (by decide +kernel), List.mem_of_getElem? (i := 459) (by decide +kernel), List.mem_of_getElem? (i := 460) (by decide +kernel)⟩
theorem lw_p33 : lw_okq (⟨"PatchHouse$Writing", "isSame", "(LPatchHouse$Writing;)Z"⟩, 2) := ⟨⟨by decide +kernel, by decide +kernel⟩, List.mem_of_getElem? (i := 23) (by decide +kernel), List.mem_of_getElem? (i := 467) (by decide +kernel), List.mem_of_getElem? (i := 468) (by decide +kernel)⟩
theorem lw_p34 : lw_okq (⟨"PatchHouse$Orders", "count", "(LPatchHouse$History;)I"⟩, 5) := ⟨⟨by decide +kernel, by decide +kernel⟩, List.mem_of_getElem? (i := 191) (by decide +kernel), List.mem_of_getElem? (i := 476) (by decide +kernel), List.mem_of_getElem? (i := 477) (by decide +kernel)⟩
theorem lw_p35 : lw_okq (⟨"PatchHouse$Orders", "note", "(III)V"⟩, 5) := ⟨⟨by decide +kernel, by decide +kernel⟩, List.mem_of_getElem? (i := 191) (by decide +kernel), List.mem_of_getElem? (i := 483) (by decide +kernel), List.mem_of_getElem? (i := 484) (by decide +kernel)⟩
theorem lw_p36 : lw_okq (⟨"PatchHouse$Orders", "lookRound", "(LPatchHouse$History;II)V"⟩, 5) := ⟨⟨by decide +kernel, by decide +kernel⟩, List.mem_of_getElem? (i := 191) (by decide +kernel), List.mem_of_getElem? (i := 493) (by decide +kernel), List.mem_of_getElem? (i := 494) (by decide +kernel)⟩
theorem lw_p37 : lw_okq (⟨"PatchHouse", "needsAt", "(LPatchHouse$History;I)I"⟩, 12) := ⟨⟨by decide +kernel, by decide +kernel⟩, List.mem_of_getElem? (i := 15) (by decide +kernel), List.mem_of_getElem? (i := 511) (by decide +kernel), List.mem_of_getElem? (i := 512) (by decide +kernel)⟩
theorem lw_p38 : lw_okq (⟨"PatchHouse", "needingIt", "(LPatchHouse$History;I)I"⟩, 12) := ⟨⟨by decide +kernel, by decide +kernel⟩, List.mem_of_getElem? (i := 15) (by decide +kernel), List.mem_of_getElem? (i := 517) (by decide +kernel), List.mem_of_getElem? (i := 518) (by decide +kernel)⟩
theorem lw_p39 : lw_okq (⟨"PatchHouse$Shelf", "holdChange", "(LPatchHouse$History;I)I"⟩, 3) := ⟨⟨by decide +kernel, by decide +kernel⟩, List.mem_of_getElem? (i := 120) (by decide +kernel), List.mem_of_getElem? (i := 533) (by decide +kernel), List.mem_of_getElem? (i := 534) (by decide +kernel)⟩
theorem lw_p40 : lw_okq (⟨"PatchHouse$Shelf", "holdWriting", "(LPatchHouse$Writing;)I"⟩, 3) := ⟨⟨by decide +kernel, by decide +kernel⟩, List.mem_of_getElem? (i := 120) (by decide +kernel), List.mem_of_getElem? (i := 541) (by decide +kernel), List.mem_of_getElem? (i := 542) (by decide +kernel)⟩
theorem lw_p41 : lw_okq (⟨"PatchHouseModel", "clear", "()V"⟩, 22) := ⟨⟨by decide +kernel, by decide +kernel⟩, List.mem_of_getElem? (i := 583) (by decide +kernel), List.mem_of_getElem? (i := 589) (by decide +kernel), List.mem_of_getElem? (i := 590) (by decide +kernel)⟩
theorem lw_p42 : lw_okq (⟨"PatchHouseModel", "layText", "(I)I"⟩, 22) := ⟨⟨by decide +kernel, by decide +kernel⟩, List.mem_of_getElem? (i := 583) (by decide +kernel), List.mem_of_getElem? (i := 682) (by decide +kernel), List.mem_of_getElem? (i := 683) (by decide +kernel)⟩
theorem lw_p43 : lw_okq (⟨"PatchHouseModel", "many", "(I)I"⟩, 22) := ⟨⟨by decide +kernel, by decide +kernel⟩, List.mem_of_getElem? (i := 583) (by decide +kernel), List.mem_of_getElem? (i := 689) (by decide +kernel), List.mem_of_getElem? (i := 690) (by decide +kernel)⟩
theorem lw_p44 : lw_okq (⟨"PatchHouseModel", "at", "(II)I"⟩, 22) := ⟨⟨by decide +kernel, by decide +kernel⟩, List.mem_of_getElem? (i := 583) (by decide +kernel), List.mem_of_getElem? (i := 693) (by decide +kernel), List.mem_of_getElem? (i := 694) (by decide +kernel)⟩
theorem lw_p45 : lw_okq (⟨"PatchHouseModel", "done", "(III)I"⟩, 22) := ⟨⟨by decide +kernel, by decide +kernel⟩, List.mem_of_getElem? (i := 583) (by decide +kernel), List.mem_of_getElem? (i := 697) (by decide +kernel), List.mem_of_getElem? (i := 698) (by decide +kernel)⟩
theorem lw_p46 : lw_okq (⟨"PatchHouseModel", "isFull", "(III)Z"⟩, 22) := ⟨⟨by decide +kernel, by decide +kernel⟩, List.mem_of_getElem? (i := 583) (by decide +kernel), List.mem_of_getElem? (i := 710) (by decide +kernel), List.mem_of_getElem? (i := 711) (by decide +kernel)⟩
theorem lw_p47 : lw_okq (⟨"PatchHouseModel", "note", "()V"⟩, 22) := ⟨⟨by decide +kernel, by decide +kernel⟩, List.mem_of_getElem? (i := 583) (by decide +kernel), List.mem_of_getElem? (i := 714) (by decide +kernel), List.mem_of_getElem? (i := 715) (by decide +kernel)⟩
def lw_privs_3 : List (MethodName × Nat) := [(⟨"PatchHouse$Past", "pop", "(LPatchHouse$Houses;)V"⟩, 3), (⟨"PatchHouse$Writing", "isSame", "(LPatchHouse$Writing;)Z"⟩, 2), (⟨"PatchHouse$Orders", "count", "(LPatchHouse$History;)I"⟩, 5), (⟨"PatchHouse$Orders", "note", "(III)V"⟩, 5), (⟨"PatchHouse$Orders", "lookRound", "(LPatchHouse$History;II)V"⟩, 5), (⟨"PatchHouse", "needsAt", "(LPatchHouse$History;I)I"⟩, 12), (⟨"PatchHouse", "needingIt", "(LPatchHouse$History;I)I"⟩, 12), (⟨"PatchHouse$Shelf", "holdChange", "(LPatchHouse$History;I)I"⟩, 3), (⟨"PatchHouse$Shelf", "holdWriting", "(LPatchHouse$Writing;)I"⟩, 3), (⟨"PatchHouseModel", "clear", "()V"⟩, 22), (⟨"PatchHouseModel", "layText", "(I)I"⟩, 22), (⟨"PatchHouseModel", "many", "(I)I"⟩, 22), (⟨"PatchHouseModel", "at", "(II)I"⟩, 22), (⟨"PatchHouseModel", "done", "(III)I"⟩, 22), (⟨"PatchHouseModel", "isFull", "(III)Z"⟩, 22), (⟨"PatchHouseModel", "note", "()V"⟩, 22)]
theorem lw_r3 : ∀ q ∈ lw_privs_3, lw_okq q := List.forall_mem_cons.mpr ⟨lw_p32, List.forall_mem_cons.mpr ⟨lw_p33, List.forall_mem_cons.mpr ⟨lw_p34, List.forall_mem_cons.mpr ⟨lw_p35, List.forall_mem_cons.mpr ⟨lw_p36, List.forall_mem_cons.mpr ⟨lw_p37, List.forall_mem_cons.mpr ⟨lw_p38, List.forall_mem_cons.mpr ⟨lw_p39, List.forall_mem_cons.mpr ⟨lw_p40, List.forall_mem_cons.mpr ⟨lw_p41, List.forall_mem_cons.mpr ⟨lw_p42, List.forall_mem_cons.mpr ⟨lw_p43, List.forall_mem_cons.mpr ⟨lw_p44, List.forall_mem_cons.mpr ⟨lw_p45, List.forall_mem_cons.mpr ⟨lw_p46, List.forall_mem_cons.mpr ⟨lw_p47, fun _ h => absurd h List.not_mem_nil⟩⟩⟩⟩⟩⟩⟩⟩⟩⟩⟩⟩⟩⟩⟩⟩
theorem lw_p48 : lw_okq (⟨"PatchHouseModel", "recorded", "(IIII)I"⟩, 22) := ⟨⟨by decide +kernel, by decide +kernel⟩, List.mem_of_getElem? (i := 583) (by decide +kernel), List.mem_of_getElem? (i := 718) (by decide +kernel), List.mem_of_getElem? (i := 719) (by decide +kernel)⟩
theorem lw_p49 : lw_okq (⟨"PatchHouseModel", "placeOf", "(II)I"⟩, 22) := ⟨⟨by decide +kernel, by decide +kernel⟩, List.mem_of_getElem? (i := 583) (by decide +kernel), List.mem_of_getElem? (i := 729) (by decide +kernel), List.mem_of_getElem? (i := 730) (by decide +kernel)⟩
theorem lw_p50 : lw_okq (⟨"PatchHouseModel", "layOwn", "(I)I"⟩, 22) := ⟨⟨by decide +kernel, by decide +kernel⟩, List.mem_of_getElem? (i := 583) (by decide +kernel), List.mem_of_getElem? (i := 736) (by decide +kernel), List.mem_of_getElem? (i := 737) (by decide +kernel)⟩
theorem lw_p51 : lw_okq (⟨"PatchHouseModel", "setOf", "(I)I"⟩, 22) := ⟨⟨by decide +kernel, by decide +kernel⟩, List.mem_of_getElem? (i := 583) (by decide +kernel), List.mem_of_getElem? (i := 763) (by decide +kernel), List.mem_of_getElem? (i := 764) (by decide +kernel)⟩
theorem lw_p52 : lw_okq (⟨"PatchHouseModel", "fronted", "([III)I"⟩, 22) := ⟨⟨by decide +kernel, by decide +kernel⟩, List.mem_of_getElem? (i := 583) (by decide +kernel), List.mem_of_getElem? (i := 767) (by decide +kernel), List.mem_of_getElem? (i := 768) (by decide +kernel)⟩
theorem lw_p53 : lw_okq (⟨"PatchHouseModel", "needed", "([III)I"⟩, 22) := ⟨⟨by decide +kernel, by decide +kernel⟩, List.mem_of_getElem? (i := 583) (by decide +kernel), List.mem_of_getElem? (i := 774) (by decide +kernel), List.mem_of_getElem? (i := 775) (by decide +kernel)⟩
theorem lw_p54 : lw_okq (⟨"PatchHouseModel", "come", "(IIII)I"⟩, 22) := ⟨⟨by decide +kernel, by decide +kernel⟩, List.mem_of_getElem? (i := 583) (by decide +kernel), List.mem_of_getElem? (i := 778) (by decide +kernel), List.mem_of_getElem? (i := 779) (by decide +kernel)⟩
theorem lw_p55 : lw_okq (⟨"PatchHouseModel", "isTooMuch", "(II)Z"⟩, 22) := ⟨⟨by decide +kernel, by decide +kernel⟩, List.mem_of_getElem? (i := 583) (by decide +kernel), List.mem_of_getElem? (i := 782) (by decide +kernel), List.mem_of_getElem? (i := 783) (by decide +kernel)⟩
theorem lw_p56 : lw_okq (⟨"PatchHouseModel", "past", "(II)I"⟩, 22) := ⟨⟨by decide +kernel, by decide +kernel⟩, List.mem_of_getElem? (i := 583) (by decide +kernel), List.mem_of_getElem? (i := 786) (by decide +kernel), List.mem_of_getElem? (i := 787) (by decide +kernel)⟩
theorem lw_p57 : lw_okq (⟨"PatchHouseModel", "isLot", "()Z"⟩, 22) := ⟨⟨by decide +kernel, by decide +kernel⟩, List.mem_of_getElem? (i := 583) (by decide +kernel), List.mem_of_getElem? (i := 798) (by decide +kernel), List.mem_of_getElem? (i := 799) (by decide +kernel)⟩
theorem lw_p58 : lw_okq (⟨"PatchHouseModel", "drawn", "(I)I"⟩, 22) := ⟨⟨by decide +kernel, by decide +kernel⟩, List.mem_of_getElem? (i := 583) (by decide +kernel), List.mem_of_getElem? (i := 802) (by decide +kernel), List.mem_of_getElem? (i := 803) (by decide +kernel)⟩
theorem lw_p59 : lw_okq (⟨"PatchHouseModel", "areAlike", "()Z"⟩, 22) := ⟨⟨by decide +kernel, by decide +kernel⟩, List.mem_of_getElem? (i := 583) (by decide +kernel), List.mem_of_getElem? (i := 816) (by decide +kernel), List.mem_of_getElem? (i := 817) (by decide +kernel)⟩
theorem lw_p60 : lw_okq (⟨"PatchHouseModel", "lawful", "(I)I"⟩, 22) := ⟨⟨by decide +kernel, by decide +kernel⟩, List.mem_of_getElem? (i := 583) (by decide +kernel), List.mem_of_getElem? (i := 824) (by decide +kernel), List.mem_of_getElem? (i := 825) (by decide +kernel)⟩
theorem lw_p61 : lw_okq (⟨"PatchHouseModel", "isLaid", "(II)Z"⟩, 22) := ⟨⟨by decide +kernel, by decide +kernel⟩, List.mem_of_getElem? (i := 583) (by decide +kernel), List.mem_of_getElem? (i := 828) (by decide +kernel), List.mem_of_getElem? (i := 829) (by decide +kernel)⟩
theorem lw_p62 : lw_okq (⟨"PatchHouseModel", "isPlace", "(II)Z"⟩, 22) := ⟨⟨by decide +kernel, by decide +kernel⟩, List.mem_of_getElem? (i := 583) (by decide +kernel), List.mem_of_getElem? (i := 840) (by decide +kernel), List.mem_of_getElem? (i := 841) (by decide +kernel)⟩
theorem lw_p63 : lw_okq (⟨"PatchHouseModel", "whyNot", "(II)I"⟩, 22) := ⟨⟨by decide +kernel, by decide +kernel⟩, List.mem_of_getElem? (i := 583) (by decide +kernel), List.mem_of_getElem? (i := 874) (by decide +kernel), List.mem_of_getElem? (i := 875) (by decide +kernel)⟩
def lw_privs_4 : List (MethodName × Nat) := [(⟨"PatchHouseModel", "recorded", "(IIII)I"⟩, 22), (⟨"PatchHouseModel", "placeOf", "(II)I"⟩, 22), (⟨"PatchHouseModel", "layOwn", "(I)I"⟩, 22), (⟨"PatchHouseModel", "setOf", "(I)I"⟩, 22), (⟨"PatchHouseModel", "fronted", "([III)I"⟩, 22), (⟨"PatchHouseModel", "needed", "([III)I"⟩, 22), (⟨"PatchHouseModel", "come", "(IIII)I"⟩, 22), (⟨"PatchHouseModel", "isTooMuch", "(II)Z"⟩, 22), (⟨"PatchHouseModel", "past", "(II)I"⟩, 22), (⟨"PatchHouseModel", "isLot", "()Z"⟩, 22), (⟨"PatchHouseModel", "drawn", "(I)I"⟩, 22), (⟨"PatchHouseModel", "areAlike", "()Z"⟩, 22), (⟨"PatchHouseModel", "lawful", "(I)I"⟩, 22), (⟨"PatchHouseModel", "isLaid", "(II)Z"⟩, 22), (⟨"PatchHouseModel", "isPlace", "(II)Z"⟩, 22), (⟨"PatchHouseModel", "whyNot", "(II)I"⟩, 22)]
theorem lw_r4 : ∀ q ∈ lw_privs_4, lw_okq q := List.forall_mem_cons.mpr ⟨lw_p48, List.forall_mem_cons.mpr ⟨lw_p49, List.forall_mem_cons.mpr ⟨lw_p50, List.forall_mem_cons.mpr ⟨lw_p51, List.forall_mem_cons.mpr ⟨lw_p52, List.forall_mem_cons.mpr ⟨lw_p53, List.forall_mem_cons.mpr ⟨lw_p54, List.forall_mem_cons.mpr ⟨lw_p55, List.forall_mem_cons.mpr ⟨lw_p56, List.forall_mem_cons.mpr ⟨lw_p57, List.forall_mem_cons.mpr ⟨lw_p58, List.forall_mem_cons.mpr ⟨lw_p59, List.forall_mem_cons.mpr ⟨lw_p60, List.forall_mem_cons.mpr ⟨lw_p61, List.forall_mem_cons.mpr ⟨lw_p62, List.forall_mem_cons.mpr ⟨lw_p63, fun _ h => absurd h List.not_mem_nil⟩⟩⟩⟩⟩⟩⟩⟩⟩⟩⟩⟩⟩⟩⟩⟩
def lw_privs : List (MethodName × Nat) := lw_privs_1 ++ (lw_privs_2 ++ (lw_privs_3 ++ (lw_privs_4)))
def lw_tbl : List Cond := k2_sels lw_privs ++ tables_1
theorem lw_privs_ok : ∀ q ∈ lw_privs, lw_okq q := by
  show ∀ q ∈ lw_privs_1 ++ (lw_privs_2 ++ (lw_privs_3 ++ (lw_privs_4))), lw_okq q
  exact List.forall_mem_append.mpr ⟨lw_r1, List.forall_mem_append.mpr ⟨lw_r2, List.forall_mem_append.mpr ⟨lw_r3, lw_r4⟩⟩⟩

def RX0 : String := "PatchHouse$History"
def TX0 : u_T := fun k => match k with
  | 0 => ("PatchHouse$History", "numbers", "[I", true)
  | 1 => ("PatchHouse$History", "sorts", "[I", true)
  | 2 => ("PatchHouse$History", "places", "[I", true)
  | 3 => ("PatchHouse$History", "letters", "[I", true)
  | _ => ("PatchHouse$History", "size", "I", false)
def tyX0 : Nat → FieldType := fun k => match k with
  | 0 => .array .int
  | 1 => .array .int
  | 2 => .array .int
  | 3 => .array .int
  | _ => .int
abbrev wsX00 : List Cond := u_ws RX0 TX0 5
theorem nmX0 : ∀ a, a < 5 → ∀ b, b < 5 → a ≠ b → (TX0 a).2.1 ≠ (TX0 b).2.1 := by decide +kernel
theorem tyX0_ok : ∀ k, k < 5 → parseFieldDescriptor (TX0 k).2.2.1 = some (tyX0 k) := by decide +kernel
abbrev cX0_init : ByteArray := prog_2_method_1_code
def yX0_init : MethodName := ⟨RX0, "<init>", "()V"⟩
abbrev cX0_copyFrom : ByteArray := prog_2_method_2_code
def yX0_copyFrom : MethodName := ⟨RX0, "copyFrom", "(LPatchHouse$History;)V"⟩
abbrev cX0_add : ByteArray := prog_2_method_3_code
def yX0_add : MethodName := ⟨RX0, "add", "(IIII)V"⟩
abbrev cX0_hasPlace : ByteArray := prog_2_method_4_code
def yX0_hasPlace : MethodName := ⟨RX0, "hasPlace", "(I)Z"⟩
abbrev cX0_hasPair : ByteArray := prog_2_method_5_code
def yX0_hasPair : MethodName := ⟨RX0, "hasPair", "(I)Z"⟩
abbrev cX0_find : ByteArray := prog_2_method_6_code
def yX0_find : MethodName := ⟨RX0, "find", "(I)I"⟩
abbrev cX0_asSet : ByteArray := prog_2_method_7_code
def yX0_asSet : MethodName := ⟨RX0, "asSet", "()I"⟩
abbrev cX0_pairAt : ByteArray := prog_2_method_8_code
def yX0_pairAt : MethodName := ⟨RX0, "pairAt", "(I)I"⟩
abbrev cX0_swap : ByteArray := prog_2_method_9_code
def yX0_swap : MethodName := ⟨RX0, "swap", "(I)Z"⟩
abbrev cX0_canGoBehind : ByteArray := prog_2_method_10_code
def yX0_canGoBehind : MethodName := ⟨RX0, "canGoBehind", "(II)Z"⟩
abbrev cX0_canGoToEnd : ByteArray := prog_2_method_11_code
def yX0_canGoToEnd : MethodName := ⟨RX0, "canGoToEnd", "(I)Z"⟩
abbrev cX0_bring : ByteArray := prog_2_method_12_code
def yX0_bring : MethodName := ⟨RX0, "bring", "(II)Z"⟩
abbrev cX0_gather : ByteArray := prog_2_method_13_code
def yX0_gather : MethodName := ⟨RX0, "gather", "(II)I"⟩
abbrev cX0_bringToFront : ByteArray := prog_2_method_14_code
def yX0_bringToFront : MethodName := ⟨RX0, "bringToFront", "(I)I"⟩
def RX1 : String := "PatchHouse$Houses"
def TX1 : u_T := fun k => match k with
  | 0 => ("PatchHouse$Houses", "histories", "[LPatchHouse$History;", true)
  | 1 => ("PatchHouse$Houses", "held", "[I", true)
  | _ => ("PatchHouse$Houses", "clashes", "[I", true)
def tyX1 : Nat → FieldType := fun k => match k with
  | 0 => .array (.object "PatchHouse$History")
  | 1 => .array .int
  | _ => .array .int
abbrev wsX10 : List Cond := u_ws RX1 TX1 3
theorem nmX1 : ∀ a, a < 3 → ∀ b, b < 3 → a ≠ b → (TX1 a).2.1 ≠ (TX1 b).2.1 := by decide +kernel
theorem tyX1_ok : ∀ k, k < 3 → parseFieldDescriptor (TX1 k).2.2.1 = some (tyX1 k) := by decide +kernel
abbrev cX1_init : ByteArray := prog_3_method_1_code
def yX1_init : MethodName := ⟨RX1, "<init>", "()V"⟩
abbrev cX1_clear : ByteArray := prog_3_method_2_code
def yX1_clear : MethodName := ⟨RX1, "clear", "()V"⟩
abbrev cX1_copyFrom : ByteArray := prog_3_method_3_code
def yX1_copyFrom : MethodName := ⟨RX1, "copyFrom", "(LPatchHouse$Houses;)V"⟩
def RX2 : String := "PatchHouse$Lots"
def TX2 : u_T := fun k => match k with
  | _ => ("PatchHouse$Lots", "x", "J", false)
def tyX2 : Nat → FieldType := fun k => match k with
  | _ => .long
abbrev wsX20 : List Cond := u_ws RX2 TX2 1
theorem nmX2 : ∀ a, a < 1 → ∀ b, b < 1 → a ≠ b → (TX2 a).2.1 ≠ (TX2 b).2.1 := by decide +kernel
theorem tyX2_ok : ∀ k, k < 1 → parseFieldDescriptor (TX2 k).2.2.1 = some (tyX2 k) := by decide +kernel
abbrev cX2_init : ByteArray := prog_4_method_1_code
def yX2_init : MethodName := ⟨RX2, "<init>", "()V"⟩
abbrev cX2_start : ByteArray := prog_4_method_2_code
def yX2_start : MethodName := ⟨RX2, "start", "(I)V"⟩
abbrev cX2_next : ByteArray := prog_4_method_3_code
def yX2_next : MethodName := ⟨RX2, "next", "(I)I"⟩
def RX3 : String := "PatchHouse$OneChange"
def TX3 : u_T := fun k => match k with
  | 0 => ("PatchHouse$OneChange", "number", "I", false)
  | 1 => ("PatchHouse$OneChange", "sort", "I", false)
  | 2 => ("PatchHouse$OneChange", "place", "I", false)
  | _ => ("PatchHouse$OneChange", "letter", "I", false)
def tyX3 : Nat → FieldType := fun k => match k with
  | 0 => .int
  | 1 => .int
  | 2 => .int
  | _ => .int
abbrev wsX30 : List Cond := u_ws RX3 TX3 4
theorem nmX3 : ∀ a, a < 4 → ∀ b, b < 4 → a ≠ b → (TX3 a).2.1 ≠ (TX3 b).2.1 := by decide +kernel
theorem tyX3_ok : ∀ k, k < 4 → parseFieldDescriptor (TX3 k).2.2.1 = some (tyX3 k) := by decide +kernel
abbrev cX3_init : ByteArray := prog_5_method_1_code
def yX3_init : MethodName := ⟨RX3, "<init>", "()V"⟩
def RX4 : String := "PatchHouse$Orders"
def TX4 : u_T := fun k => match k with
  | 0 => ("PatchHouse$Orders", "found", "[I", true)
  | 1 => ("PatchHouse$Orders", "places", "[I", true)
  | 2 => ("PatchHouse$Orders", "seen", "[I", true)
  | 3 => ("PatchHouse$Orders", "counts", "I", false)
  | _ => ("PatchHouse$Orders", "size", "I", false)
def tyX4 : Nat → FieldType := fun k => match k with
  | 0 => .array .int
  | 1 => .array .int
  | 2 => .array .int
  | 3 => .int
  | _ => .int
abbrev wsX40 : List Cond := u_ws RX4 TX4 5
theorem nmX4 : ∀ a, a < 5 → ∀ b, b < 5 → a ≠ b → (TX4 a).2.1 ≠ (TX4 b).2.1 := by decide +kernel
theorem tyX4_ok : ∀ k, k < 5 → parseFieldDescriptor (TX4 k).2.2.1 = some (tyX4 k) := by decide +kernel
abbrev cX4_init : ByteArray := prog_6_method_1_code
def yX4_init : MethodName := ⟨RX4, "<init>", "()V"⟩
abbrev cX4_count : ByteArray := prog_6_method_2_code
def yX4_count : MethodName := ⟨RX4, "count", "(LPatchHouse$History;)I"⟩
abbrev cX4_lookRound : ByteArray := prog_6_method_3_code
def yX4_lookRound : MethodName := ⟨RX4, "lookRound", "(LPatchHouse$History;II)V"⟩
abbrev cX4_note : ByteArray := prog_6_method_4_code
def yX4_note : MethodName := ⟨RX4, "note", "(III)V"⟩
abbrev cX4_rankOf : ByteArray := prog_6_method_5_code
def yX4_rankOf : MethodName := ⟨RX4, "rankOf", "(II)I"⟩
abbrev cX4_part : ByteArray := prog_6_method_6_code
def yX4_part : MethodName := ⟨RX4, "part", "(III)I"⟩
abbrev cX4_with : ByteArray := prog_6_method_7_code
def yX4_with : MethodName := ⟨RX4, "with", "(IIII)I"⟩
def RX5 : String := "PatchHouse$Past"
def TX5 : u_T := fun k => match k with
  | 0 => ("PatchHouse$Past", "rows", "[LPatchHouse$Houses;", true)
  | 1 => ("PatchHouse$Past", "next", "I", false)
  | _ => ("PatchHouse$Past", "count", "I", false)
def tyX5 : Nat → FieldType := fun k => match k with
  | 0 => .array (.object "PatchHouse$Houses")
  | 1 => .int
  | _ => .int
abbrev wsX50 : List Cond := u_ws RX5 TX5 3
theorem nmX5 : ∀ a, a < 3 → ∀ b, b < 3 → a ≠ b → (TX5 a).2.1 ≠ (TX5 b).2.1 := by decide +kernel
theorem tyX5_ok : ∀ k, k < 3 → parseFieldDescriptor (TX5 k).2.2.1 = some (tyX5 k) := by decide +kernel
abbrev cX5_init : ByteArray := prog_7_method_1_code
def yX5_init : MethodName := ⟨RX5, "<init>", "()V"⟩
abbrev cX5_push : ByteArray := prog_7_method_2_code
def yX5_push : MethodName := ⟨RX5, "push", "(LPatchHouse$Houses;)V"⟩
abbrev cX5_pop : ByteArray := prog_7_method_3_code
def yX5_pop : MethodName := ⟨RX5, "pop", "(LPatchHouse$Houses;)V"⟩
def RX6 : String := "PatchHouse$Pulling"
def TX6 : u_T := fun k => match k with
  | 0 => ("PatchHouse$Pulling", "ours", "LPatchHouse$History;", true)
  | 1 => ("PatchHouse$Pulling", "theirs", "LPatchHouse$History;", true)
  | 2 => ("PatchHouse$Pulling", "past", "[I", true)
  | 3 => ("PatchHouse$Pulling", "front", "I", false)
  | _ => ("PatchHouse$Pulling", "coming", "I", false)
def tyX6 : Nat → FieldType := fun k => match k with
  | 0 => .object "PatchHouse$History"
  | 1 => .object "PatchHouse$History"
  | 2 => .array .int
  | 3 => .int
  | _ => .int
abbrev wsX60 : List Cond := u_ws RX6 TX6 5
theorem nmX6 : ∀ a, a < 5 → ∀ b, b < 5 → a ≠ b → (TX6 a).2.1 ≠ (TX6 b).2.1 := by decide +kernel
theorem tyX6_ok : ∀ k, k < 5 → parseFieldDescriptor (TX6 k).2.2.1 = some (tyX6 k) := by decide +kernel
abbrev cX6_init : ByteArray := prog_8_method_1_code
def yX6_init : MethodName := ⟨RX6, "<init>", "()V"⟩
abbrev cX6_sortOut : ByteArray := prog_8_method_2_code
def yX6_sortOut : MethodName := ⟨RX6, "sortOut", "(LPatchHouse$History;LPatchHouse$History;I)Z"⟩
abbrev cX6_hasRoom : ByteArray := prog_8_method_3_code
def yX6_hasRoom : MethodName := ⟨RX6, "hasRoom", "(I)Z"⟩
abbrev cX6_goPast : ByteArray := prog_8_method_4_code
def yX6_goPast : MethodName := ⟨RX6, "goPast", "()I"⟩
abbrev cX6_fits : ByteArray := prog_8_method_5_code
def yX6_fits : MethodName := ⟨RX6, "fits", "(LPatchHouse$Writing;)Z"⟩
abbrev cX6_giveTo : ByteArray := prog_8_method_6_code
def yX6_giveTo : MethodName := ⟨RX6, "giveTo", "(LPatchHouse$History;)V"⟩
def RX7 : String := "PatchHouse$Shelf"
def TX7 : u_T := fun k => match k with
  | 0 => ("PatchHouse$Shelf", "one", "LPatchHouse$OneChange;", true)
  | 1 => ("PatchHouse$Shelf", "written", "LPatchHouse$Writing;", true)
  | _ => ("PatchHouse$Shelf", "held", "LPatchHouse$Shelvable;", false)
def tyX7 : Nat → FieldType := fun k => match k with
  | 0 => .object "PatchHouse$OneChange"
  | 1 => .object "PatchHouse$Writing"
  | _ => .object "PatchHouse$Shelvable"
abbrev wsX70 : List Cond := u_ws RX7 TX7 3
theorem nmX7 : ∀ a, a < 3 → ∀ b, b < 3 → a ≠ b → (TX7 a).2.1 ≠ (TX7 b).2.1 := by decide +kernel
theorem tyX7_ok : ∀ k, k < 3 → parseFieldDescriptor (TX7 k).2.2.1 = some (tyX7 k) := by decide +kernel
abbrev cX7_init : ByteArray := prog_9_method_1_code
def yX7_init : MethodName := ⟨RX7, "<init>", "()V"⟩
abbrev cX7_holdChange : ByteArray := prog_9_method_2_code
def yX7_holdChange : MethodName := ⟨RX7, "holdChange", "(LPatchHouse$History;I)I"⟩
abbrev cX7_holdWriting : ByteArray := prog_9_method_3_code
def yX7_holdWriting : MethodName := ⟨RX7, "holdWriting", "(LPatchHouse$Writing;)I"⟩
def RX8 : String := "PatchHouse$Shelvable"
def TX8 : u_T := fun k => match k with
  | _ => ("", "", "", false)
def tyX8 : Nat → FieldType := fun k => match k with
  | _ => .int
abbrev wsX80 : List Cond := u_ws RX8 TX8 0
theorem nmX8 : ∀ a, a < 0 → ∀ b, b < 0 → a ≠ b → (TX8 a).2.1 ≠ (TX8 b).2.1 := by decide +kernel
theorem tyX8_ok : ∀ k, k < 0 → parseFieldDescriptor (TX8 k).2.2.1 = some (tyX8 k) := by decide +kernel
def RX9 : String := "PatchHouse$Writing"
def TX9 : u_T := fun k => match k with
  | 0 => ("PatchHouse$Writing", "letters", "[I", true)
  | _ => ("PatchHouse$Writing", "size", "I", false)
def tyX9 : Nat → FieldType := fun k => match k with
  | 0 => .array .int
  | _ => .int
abbrev wsX90 : List Cond := u_ws RX9 TX9 2
theorem nmX9 : ∀ a, a < 2 → ∀ b, b < 2 → a ≠ b → (TX9 a).2.1 ≠ (TX9 b).2.1 := by decide +kernel
theorem tyX9_ok : ∀ k, k < 2 → parseFieldDescriptor (TX9 k).2.2.1 = some (tyX9 k) := by decide +kernel
abbrev cX9_init : ByteArray := prog_11_method_1_code
def yX9_init : MethodName := ⟨RX9, "<init>", "()V"⟩
abbrev cX9_copyFrom : ByteArray := prog_11_method_2_code
def yX9_copyFrom : MethodName := ⟨RX9, "copyFrom", "(LPatchHouse$Writing;)V"⟩
abbrev cX9_at : ByteArray := prog_11_method_3_code
def yX9_at : MethodName := ⟨RX9, "at", "(I)I"⟩
abbrev cX9_hasPlace : ByteArray := prog_11_method_4_code
def yX9_hasPlace : MethodName := ⟨RX9, "hasPlace", "(II)Z"⟩
abbrev cX9_fits : ByteArray := prog_11_method_5_code
def yX9_fits : MethodName := ⟨RX9, "fits", "(III)Z"⟩
abbrev cX9_apply : ByteArray := prog_11_method_6_code
def yX9_apply : MethodName := ⟨RX9, "apply", "(III)V"⟩
abbrev cX9_isSame : ByteArray := prog_11_method_7_code
def yX9_isSame : MethodName := ⟨RX9, "isSame", "(LPatchHouse$Writing;)Z"⟩
def RX10 : String := "PatchHouse"
def TX10 : u_T := fun k => match k with
  | 0 => ("PatchHouse", "beginning", "LPatchHouse$Writing;", true)
  | 1 => ("PatchHouse", "now", "LPatchHouse$Houses;", true)
  | 2 => ("PatchHouse", "past", "LPatchHouse$Past;", true)
  | 3 => ("PatchHouse", "images", "[LPatchHouse$Houses;", true)
  | 4 => ("PatchHouse", "isKept", "[Z", true)
  | 5 => ("PatchHouse", "shelves", "[LPatchHouse$Shelf;", true)
  | 6 => ("PatchHouse", "texts", "[LPatchHouse$Writing;", true)
  | 7 => ("PatchHouse", "spare", "LPatchHouse$History;", true)
  | 8 => ("PatchHouse", "pulling", "LPatchHouse$Pulling;", true)
  | 9 => ("PatchHouse", "orders", "LPatchHouse$Orders;", true)
  | 10 => ("PatchHouse", "lots", "LPatchHouse$Lots;", true)
  | _ => ("PatchHouse", "numbers", "I", false)
def tyX10 : Nat → FieldType := fun k => match k with
  | 0 => .object "PatchHouse$Writing"
  | 1 => .object "PatchHouse$Houses"
  | 2 => .object "PatchHouse$Past"
  | 3 => .array (.object "PatchHouse$Houses")
  | 4 => .array .boolean
  | 5 => .array (.object "PatchHouse$Shelf")
  | 6 => .array (.object "PatchHouse$Writing")
  | 7 => .object "PatchHouse$History"
  | 8 => .object "PatchHouse$Pulling"
  | 9 => .object "PatchHouse$Orders"
  | 10 => .object "PatchHouse$Lots"
  | _ => .int
abbrev wsX100 : List Cond := u_ws RX10 TX10 12
theorem nmX10 : ∀ a, a < 12 → ∀ b, b < 12 → a ≠ b → (TX10 a).2.1 ≠ (TX10 b).2.1 := by decide +kernel
theorem tyX10_ok : ∀ k, k < 12 → parseFieldDescriptor (TX10 k).2.2.1 = some (tyX10 k) := by decide +kernel
abbrev cX10_init : ByteArray := prog_1_method_1_code
def yX10_init : MethodName := ⟨RX10, "<init>", "()V"⟩
abbrev cX10_anew : ByteArray := prog_1_method_2_code
def yX10_anew : MethodName := ⟨RX10, "anew", "()I"⟩
abbrev cX10_begin : ByteArray := prog_1_method_3_code
def yX10_begin : MethodName := ⟨RX10, "begin", "(I)I"⟩
abbrev cX10_record : ByteArray := prog_1_method_4_code
def yX10_record : MethodName := ⟨RX10, "record", "(IIII)I"⟩
abbrev cX10_takeOff : ByteArray := prog_1_method_5_code
def yX10_takeOff : MethodName := ⟨RX10, "takeOff", "(II)I"⟩
abbrev cX10_turn : ByteArray := prog_1_method_6_code
def yX10_turn : MethodName := ⟨RX10, "turn", "(II)I"⟩
abbrev cX10_pull : ByteArray := prog_1_method_7_code
def yX10_pull : MethodName := ⟨RX10, "pull", "(II)I"⟩
abbrev cX10_drift : ByteArray := prog_1_method_8_code
def yX10_drift : MethodName := ⟨RX10, "drift", "(II)I"⟩
abbrev cX10_undo : ByteArray := prog_1_method_9_code
def yX10_undo : MethodName := ⟨RX10, "undo", "()I"⟩
abbrev cX10_told : ByteArray := prog_1_method_10_code
def yX10_told : MethodName := ⟨RX10, "told", "(I)I"⟩
abbrev cX10_house : ByteArray := prog_1_method_11_code
def yX10_house : MethodName := ⟨RX10, "house", "(II)I"⟩
abbrev cX10_text : ByteArray := prog_1_method_12_code
def yX10_text : MethodName := ⟨RX10, "text", "(II)I"⟩
abbrev cX10_history : ByteArray := prog_1_method_13_code
def yX10_history : MethodName := ⟨RX10, "history", "(III)I"⟩
abbrev cX10_change : ByteArray := prog_1_method_14_code
def yX10_change : MethodName := ⟨RX10, "change", "(III)I"⟩
abbrev cX10_round : ByteArray := prog_1_method_15_code
def yX10_round : MethodName := ⟨RX10, "round", "(IIII)I"⟩
abbrev cX10_shelve : ByteArray := prog_1_method_16_code
def yX10_shelve : MethodName := ⟨RX10, "shelve", "(III)I"⟩
abbrev cX10_shelveText : ByteArray := prog_1_method_17_code
def yX10_shelveText : MethodName := ⟨RX10, "shelveText", "(II)I"⟩
abbrev cX10_empty : ByteArray := prog_1_method_18_code
def yX10_empty : MethodName := ⟨RX10, "empty", "(I)I"⟩
abbrev cX10_shelved : ByteArray := prog_1_method_19_code
def yX10_shelved : MethodName := ⟨RX10, "shelved", "(II)I"⟩
abbrev cX10_letter : ByteArray := prog_1_method_20_code
def yX10_letter : MethodName := ⟨RX10, "letter", "(II)I"⟩
abbrev cX10_isText : ByteArray := prog_1_method_21_code
def yX10_isText : MethodName := ⟨RX10, "isText", "(II)I"⟩
abbrev cX10_oppose : ByteArray := prog_1_method_22_code
def yX10_oppose : MethodName := ⟨RX10, "oppose", "(II)I"⟩
abbrev cX10_keep : ByteArray := prog_1_method_23_code
def yX10_keep : MethodName := ⟨RX10, "keep", "(I)I"⟩
abbrev cX10_goBack : ByteArray := prog_1_method_24_code
def yX10_goBack : MethodName := ⟨RX10, "goBack", "(I)I"⟩
abbrev cX10_isHouse : ByteArray := prog_1_method_25_code
def yX10_isHouse : MethodName := ⟨RX10, "isHouse", "(I)Z"⟩
abbrev cX10_isShelf : ByteArray := prog_1_method_26_code
def yX10_isShelf : MethodName := ⟨RX10, "isShelf", "(I)Z"⟩
abbrev cX10_isImage : ByteArray := prog_1_method_27_code
def yX10_isImage : MethodName := ⟨RX10, "isImage", "(I)Z"⟩
abbrev cX10_isSort : ByteArray := prog_1_method_28_code
def yX10_isSort : MethodName := ⟨RX10, "isSort", "(I)Z"⟩
abbrev cX10_isLetter : ByteArray := prog_1_method_29_code
def yX10_isLetter : MethodName := ⟨RX10, "isLetter", "(I)Z"⟩
abbrev cX10_opposite : ByteArray := prog_1_method_30_code
def yX10_opposite : MethodName := ⟨RX10, "opposite", "(I)I"⟩
abbrev cX10_readText : ByteArray := prog_1_method_31_code
def yX10_readText : MethodName := ⟨RX10, "readText", "(I)LPatchHouse$Writing;"⟩
abbrev cX10_hasRoom : ByteArray := prog_1_method_32_code
def yX10_hasRoom : MethodName := ⟨RX10, "hasRoom", "(II)Z"⟩
abbrev cX10_append : ByteArray := prog_1_method_33_code
def yX10_append : MethodName := ⟨RX10, "append", "(IIII)I"⟩
abbrev cX10_recordByLots : ByteArray := prog_1_method_34_code
def yX10_recordByLots : MethodName := ⟨RX10, "recordByLots", "()Z"⟩
abbrev cX10_needsAt : ByteArray := prog_1_method_35_code
def yX10_needsAt : MethodName := ⟨RX10, "needsAt", "(LPatchHouse$History;I)I"⟩
abbrev cX10_needingIt : ByteArray := prog_1_method_36_code
def yX10_needingIt : MethodName := ⟨RX10, "needingIt", "(LPatchHouse$History;I)I"⟩
abbrev cX10_turned : ByteArray := prog_1_method_37_code
def yX10_turned : MethodName := ⟨RX10, "turned", "(IIII)I"⟩
def RX11 : String := "PatchHouseModel"
def TX11 : u_T := fun k => match k with
  | 0 => ("PatchHouseModel", "begun", "I", false)
  | 1 => ("PatchHouseModel", "begin", "[I", true)
  | 2 => ("PatchHouseModel", "numbers", "I", false)
  | 3 => ("PatchHouseModel", "now", "[I", true)
  | 4 => ("PatchHouseModel", "backs", "I", false)
  | 5 => ("PatchHouseModel", "back", "[I", true)
  | 6 => ("PatchHouseModel", "image", "[I", true)
  | 7 => ("PatchHouseModel", "isKept", "[Z", true)
  | 8 => ("PatchHouseModel", "shelf", "[I", true)
  | 9 => ("PatchHouseModel", "held", "[I", true)
  | 10 => ("PatchHouseModel", "shelfText", "[I", true)
  | 11 => ("PatchHouseModel", "other", "[I", true)
  | 12 => ("PatchHouseModel", "others", "I", false)
  | 13 => ("PatchHouseModel", "own", "[I", true)
  | 14 => ("PatchHouseModel", "owns", "I", false)
  | 15 => ("PatchHouseModel", "block", "[I", true)
  | 16 => ("PatchHouseModel", "blocks", "I", false)
  | 17 => ("PatchHouseModel", "tried", "[I", true)
  | 18 => ("PatchHouseModel", "coming", "[I", true)
  | 19 => ("PatchHouseModel", "text", "[I", true)
  | 20 => ("PatchHouseModel", "orders", "[I", true)
  | _ => ("PatchHouseModel", "lots", "J", false)
def tyX11 : Nat → FieldType := fun k => match k with
  | 0 => .int
  | 1 => .array .int
  | 2 => .int
  | 3 => .array .int
  | 4 => .int
  | 5 => .array .int
  | 6 => .array .int
  | 7 => .array .boolean
  | 8 => .array .int
  | 9 => .array .int
  | 10 => .array .int
  | 11 => .array .int
  | 12 => .int
  | 13 => .array .int
  | 14 => .int
  | 15 => .array .int
  | 16 => .int
  | 17 => .array .int
  | 18 => .array .int
  | 19 => .array .int
  | 20 => .array .int
  | _ => .long
abbrev wsX110 : List Cond := u_ws RX11 TX11 22
theorem nmX11 : ∀ a, a < 22 → ∀ b, b < 22 → a ≠ b → (TX11 a).2.1 ≠ (TX11 b).2.1 := by decide +kernel
theorem tyX11_ok : ∀ k, k < 22 → parseFieldDescriptor (TX11 k).2.2.1 = some (tyX11 k) := by decide +kernel
abbrev cX11_init : ByteArray := prog_13_method_1_code
def yX11_init : MethodName := ⟨RX11, "<init>", "()V"⟩
abbrev cX11_in : ByteArray := prog_13_method_2_code
def yX11_in : MethodName := ⟨RX11, "in", "(III)Z"⟩
abbrev cX11_bring : ByteArray := prog_13_method_3_code
def yX11_bring : MethodName := ⟨RX11, "bring", "([II[III)V"⟩
abbrev cX11_isHouse : ByteArray := prog_13_method_4_code
def yX11_isHouse : MethodName := ⟨RX11, "isHouse", "(I)Z"⟩
abbrev cX11_made : ByteArray := prog_13_method_5_code
def yX11_made : MethodName := ⟨RX11, "made", "(IIII)I"⟩
abbrev cX11_number : ByteArray := prog_13_method_6_code
def yX11_number : MethodName := ⟨RX11, "number", "(I)I"⟩
abbrev cX11_sort : ByteArray := prog_13_method_7_code
def yX11_sort : MethodName := ⟨RX11, "sort", "(I)I"⟩
abbrev cX11_place : ByteArray := prog_13_method_8_code
def yX11_place : MethodName := ⟨RX11, "place", "(I)I"⟩
abbrev cX11_letterOf : ByteArray := prog_13_method_9_code
def yX11_letterOf : MethodName := ⟨RX11, "letterOf", "(I)I"⟩
abbrev cX11_moved : ByteArray := prog_13_method_10_code
def yX11_moved : MethodName := ⟨RX11, "moved", "(II)I"⟩
abbrev cX11_opposite : ByteArray := prog_13_method_11_code
def yX11_opposite : MethodName := ⟨RX11, "opposite", "(I)I"⟩
abbrev cX11_turned : ByteArray := prog_13_method_12_code
def yX11_turned : MethodName := ⟨RX11, "turned", "(IIII)I"⟩
abbrev cX11_turnedBy : ByteArray := prog_13_method_13_code
def yX11_turnedBy : MethodName := ⟨RX11, "turnedBy", "(II)I"⟩
abbrev cX11_isTurned : ByteArray := prog_13_method_14_code
def yX11_isTurned : MethodName := ⟨RX11, "isTurned", "([II)Z"⟩
abbrev cX11_isBrought : ByteArray := prog_13_method_15_code
def yX11_isBrought : MethodName := ⟨RX11, "isBrought", "([III)Z"⟩
abbrev cX11_placeIn : ByteArray := prog_13_method_16_code
def yX11_placeIn : MethodName := ⟨RX11, "placeIn", "([III)I"⟩
abbrev cX11_needed : ByteArray := prog_13_method_17_code
def yX11_needed : MethodName := ⟨RX11, "needed", "([III)I"⟩
abbrev cX11_many : ByteArray := prog_13_method_18_code
def yX11_many : MethodName := ⟨RX11, "many", "(I)I"⟩
abbrev cX11_at : ByteArray := prog_13_method_19_code
def yX11_at : MethodName := ⟨RX11, "at", "(II)I"⟩
abbrev cX11_placeOf : ByteArray := prog_13_method_20_code
def yX11_placeOf : MethodName := ⟨RX11, "placeOf", "(II)I"⟩
abbrev cX11_setOf : ByteArray := prog_13_method_21_code
def yX11_setOf : MethodName := ⟨RX11, "setOf", "(I)I"⟩
abbrev cX11_done : ByteArray := prog_13_method_22_code
def yX11_done : MethodName := ⟨RX11, "done", "(III)I"⟩
abbrev cX11_layText : ByteArray := prog_13_method_23_code
def yX11_layText : MethodName := ⟨RX11, "layText", "(I)I"⟩
abbrev cX11_clear : ByteArray := prog_13_method_24_code
def yX11_clear : MethodName := ⟨RX11, "clear", "()V"⟩
abbrev cX11_anew : ByteArray := prog_13_method_25_code
def yX11_anew : MethodName := ⟨RX11, "anew", "()I"⟩
abbrev cX11_begin : ByteArray := prog_13_method_26_code
def yX11_begin : MethodName := ⟨RX11, "begin", "(I)I"⟩
abbrev cX11_note : ByteArray := prog_13_method_27_code
def yX11_note : MethodName := ⟨RX11, "note", "()V"⟩
abbrev cX11_isFull : ByteArray := prog_13_method_28_code
def yX11_isFull : MethodName := ⟨RX11, "isFull", "(III)Z"⟩
abbrev cX11_recorded : ByteArray := prog_13_method_29_code
def yX11_recorded : MethodName := ⟨RX11, "recorded", "(IIII)I"⟩
abbrev cX11_record : ByteArray := prog_13_method_30_code
def yX11_record : MethodName := ⟨RX11, "record", "(IIII)I"⟩
abbrev cX11_layOwn : ByteArray := prog_13_method_31_code
def yX11_layOwn : MethodName := ⟨RX11, "layOwn", "(I)I"⟩
abbrev cX11_takeOff : ByteArray := prog_13_method_32_code
def yX11_takeOff : MethodName := ⟨RX11, "takeOff", "(II)I"⟩
abbrev cX11_turn : ByteArray := prog_13_method_33_code
def yX11_turn : MethodName := ⟨RX11, "turn", "(II)I"⟩
abbrev cX11_fronted : ByteArray := prog_13_method_34_code
def yX11_fronted : MethodName := ⟨RX11, "fronted", "([III)I"⟩
abbrev cX11_pull : ByteArray := prog_13_method_35_code
def yX11_pull : MethodName := ⟨RX11, "pull", "(II)I"⟩
abbrev cX11_isTooMuch : ByteArray := prog_13_method_36_code
def yX11_isTooMuch : MethodName := ⟨RX11, "isTooMuch", "(II)Z"⟩
abbrev cX11_past : ByteArray := prog_13_method_37_code
def yX11_past : MethodName := ⟨RX11, "past", "(II)I"⟩
abbrev cX11_come : ByteArray := prog_13_method_38_code
def yX11_come : MethodName := ⟨RX11, "come", "(IIII)I"⟩
abbrev cX11_drawn : ByteArray := prog_13_method_39_code
def yX11_drawn : MethodName := ⟨RX11, "drawn", "(I)I"⟩
abbrev cX11_isLot : ByteArray := prog_13_method_40_code
def yX11_isLot : MethodName := ⟨RX11, "isLot", "()Z"⟩
abbrev cX11_drift : ByteArray := prog_13_method_41_code
def yX11_drift : MethodName := ⟨RX11, "drift", "(II)I"⟩
abbrev cX11_undo : ByteArray := prog_13_method_42_code
def yX11_undo : MethodName := ⟨RX11, "undo", "()I"⟩
abbrev cX11_areAlike : ByteArray := prog_13_method_43_code
def yX11_areAlike : MethodName := ⟨RX11, "areAlike", "()Z"⟩
abbrev cX11_told : ByteArray := prog_13_method_44_code
def yX11_told : MethodName := ⟨RX11, "told", "(I)I"⟩
abbrev cX11_isLaid : ByteArray := prog_13_method_45_code
def yX11_isLaid : MethodName := ⟨RX11, "isLaid", "(II)Z"⟩
abbrev cX11_lawful : ByteArray := prog_13_method_46_code
def yX11_lawful : MethodName := ⟨RX11, "lawful", "(I)I"⟩
abbrev cX11_house : ByteArray := prog_13_method_47_code
def yX11_house : MethodName := ⟨RX11, "house", "(II)I"⟩
abbrev cX11_text : ByteArray := prog_13_method_48_code
def yX11_text : MethodName := ⟨RX11, "text", "(II)I"⟩
abbrev cX11_isPlace : ByteArray := prog_13_method_49_code
def yX11_isPlace : MethodName := ⟨RX11, "isPlace", "(II)Z"⟩
abbrev cX11_shown : ByteArray := prog_13_method_50_code
def yX11_shown : MethodName := ⟨RX11, "shown", "(II)I"⟩
abbrev cX11_history : ByteArray := prog_13_method_51_code
def yX11_history : MethodName := ⟨RX11, "history", "(III)I"⟩
abbrev cX11_change : ByteArray := prog_13_method_52_code
def yX11_change : MethodName := ⟨RX11, "change", "(III)I"⟩
abbrev cX11_round : ByteArray := prog_13_method_53_code
def yX11_round : MethodName := ⟨RX11, "round", "(IIII)I"⟩
abbrev cX11_isShelf : ByteArray := prog_13_method_54_code
def yX11_isShelf : MethodName := ⟨RX11, "isShelf", "(I)Z"⟩
abbrev cX11_shelve : ByteArray := prog_13_method_55_code
def yX11_shelve : MethodName := ⟨RX11, "shelve", "(III)I"⟩
abbrev cX11_shelveText : ByteArray := prog_13_method_56_code
def yX11_shelveText : MethodName := ⟨RX11, "shelveText", "(II)I"⟩
abbrev cX11_empty : ByteArray := prog_13_method_57_code
def yX11_empty : MethodName := ⟨RX11, "empty", "(I)I"⟩
abbrev cX11_whyNot : ByteArray := prog_13_method_58_code
def yX11_whyNot : MethodName := ⟨RX11, "whyNot", "(II)I"⟩
abbrev cX11_shelved : ByteArray := prog_13_method_59_code
def yX11_shelved : MethodName := ⟨RX11, "shelved", "(II)I"⟩
abbrev cX11_letter : ByteArray := prog_13_method_60_code
def yX11_letter : MethodName := ⟨RX11, "letter", "(II)I"⟩
abbrev cX11_isText : ByteArray := prog_13_method_61_code
def yX11_isText : MethodName := ⟨RX11, "isText", "(II)I"⟩
abbrev cX11_oppose : ByteArray := prog_13_method_62_code
def yX11_oppose : MethodName := ⟨RX11, "oppose", "(II)I"⟩
abbrev cX11_keep : ByteArray := prog_13_method_63_code
def yX11_keep : MethodName := ⟨RX11, "keep", "(I)I"⟩
abbrev cX11_goBack : ByteArray := prog_13_method_64_code
def yX11_goBack : MethodName := ⟨RX11, "goBack", "(I)I"⟩
def RJ9 : String := "java/lang/Math"
def TJ9 : u_T := fun k => match k with
  | _ => ("", "", "", false)
def tyJ9 : Nat → FieldType := fun k => match k with
  | _ => .int
abbrev wsJ90 : List Cond := u_ws RJ9 TJ9 0
theorem nmJ9 : ∀ a, a < 0 → ∀ b, b < 0 → a ≠ b → (TJ9 a).2.1 ≠ (TJ9 b).2.1 := by decide +kernel
theorem tyJ9_ok : ∀ k, k < 0 → parseFieldDescriptor (TJ9 k).2.2.1 = some (tyJ9 k) := by decide +kernel
abbrev cJ9_min_7cf53 : ByteArray := prog_14_method_69_code
def yJ9_min_7cf53 : MethodName := ⟨RJ9, "min", "(II)I"⟩
def RJ10 : String := "java/lang/System"
def TJ10 : u_T := fun k => match k with
  | _ => ("", "", "", false)
def tyJ10 : Nat → FieldType := fun k => match k with
  | _ => .int
abbrev wsJ100 : List Cond := u_ws RJ10 TJ10 0
theorem nmJ10 : ∀ a, a < 0 → ∀ b, b < 0 → a ≠ b → (TJ10 a).2.1 ≠ (TJ10 b).2.1 := by decide +kernel
theorem tyJ10_ok : ∀ k, k < 0 → parseFieldDescriptor (TJ10 k).2.2.1 = some (tyJ10 k) := by decide +kernel
def RL : String := "PatchHouseLaw"
abbrev cL_law : ByteArray := code
def yL_law : MethodName := ⟨RL, "law", "([I)Z"⟩
abbrev vwCl : List vw_C := [(RX0, TX0, 5), (RX1, TX1, 3), (RX2, TX2, 1), (RX3, TX3, 4), (RX4, TX4, 5), (RX5, TX5, 3), (RX6, TX6, 5), (RX7, TX7, 3), (RX9, TX9, 2), (RX10, TX10, 12), (RX11, TX11, 22)]
