section
-- ===== PART A: goes FIRST, ahead of the names: the tables' words, and 'selects' of the private methods out of them =====
/-- a private method of a class that the tables say can be made, by its rows of tables_1 -/
def lw_okq (q : MethodName × Nat) : Prop := (q.1.cls ≠ "java/lang/invoke/MethodHandle" ∧ q.1.cls ≠ "java/lang/invoke/VarHandle") ∧ Cond.instantiable q.1.cls q.2 ∈ tables_1 ∧ Cond.privateMethod q.1 ∈ tables_1 ∧ Cond.instanceMethod q.1 ∈ tables_1
theorem lw_p0 : lw_okq (⟨"PatchHouse$Houses", "clear", "()V"⟩, 3) := ⟨⟨by decide +kernel, by decide +kernel⟩, List.mem_of_getElem? (i := 39) (by decide +kernel), List.mem_of_getElem? (i := 264) (by decide +kernel), List.mem_of_getElem? (i := 265) (by decide +kernel)⟩
theorem lw_p1 : lw_okq (⟨"PatchHouse$Writing", "apply", "(III)V"⟩, 2) := ⟨⟨by decide +kernel, by decide +kernel⟩, List.mem_of_getElem? (i := 23) (by decide +kernel), List.mem_of_getElem? (i := 278) (by decide +kernel), List.mem_of_getElem? (i := 279) (by decide +kernel)⟩
theorem lw_p2 : lw_okq (⟨"PatchHouse$Writing", "hasPlace", "(II)Z"⟩, 2) := ⟨⟨by decide +kernel, by decide +kernel⟩, List.mem_of_getElem? (i := 23) (by decide +kernel), List.mem_of_getElem? (i := 282) (by decide +kernel), List.mem_of_getElem? (i := 283) (by decide +kernel)⟩
theorem lw_p3 : lw_okq (⟨"PatchHouse", "readText", "(I)LPatchHouse$Writing;"⟩, 12) := ⟨⟨by decide +kernel, by decide +kernel⟩, List.mem_of_getElem? (i := 15) (by decide +kernel), List.mem_of_getElem? (i := 300) (by decide +kernel), List.mem_of_getElem? (i := 301) (by decide +kernel)⟩
theorem lw_p4 : lw_okq (⟨"PatchHouse$Writing", "copyFrom", "(LPatchHouse$Writing;)V"⟩, 2) := ⟨⟨by decide +kernel, by decide +kernel⟩, List.mem_of_getElem? (i := 23) (by decide +kernel), List.mem_of_getElem? (i := 304) (by decide +kernel), List.mem_of_getElem? (i := 305) (by decide +kernel)⟩
theorem lw_p5 : lw_okq (⟨"PatchHouse", "hasRoom", "(II)Z"⟩, 12) := ⟨⟨by decide +kernel, by decide +kernel⟩, List.mem_of_getElem? (i := 15) (by decide +kernel), List.mem_of_getElem? (i := 309) (by decide +kernel), List.mem_of_getElem? (i := 310) (by decide +kernel)⟩
theorem lw_p6 : lw_okq (⟨"PatchHouse$Past", "push", "(LPatchHouse$Houses;)V"⟩, 3) := ⟨⟨by decide +kernel, by decide +kernel⟩, List.mem_of_getElem? (i := 99) (by decide +kernel), List.mem_of_getElem? (i := 313) (by decide +kernel), List.mem_of_getElem? (i := 314) (by decide +kernel)⟩
theorem lw_p7 : lw_okq (⟨"PatchHouse$Houses", "copyFrom", "(LPatchHouse$Houses;)V"⟩, 3) := ⟨⟨by decide +kernel, by decide +kernel⟩, List.mem_of_getElem? (i := 39) (by decide +kernel), List.mem_of_getElem? (i := 317) (by decide +kernel), List.mem_of_getElem? (i := 318) (by decide +kernel)⟩
theorem lw_p8 : lw_okq (⟨"PatchHouse$History", "copyFrom", "(LPatchHouse$History;)V"⟩, 5) := ⟨⟨by decide +kernel, by decide +kernel⟩, List.mem_of_getElem? (i := 46) (by decide +kernel), List.mem_of_getElem? (i := 321) (by decide +kernel), List.mem_of_getElem? (i := 322) (by decide +kernel)⟩
theorem lw_p9 : lw_okq (⟨"PatchHouse", "append", "(IIII)I"⟩, 12) := ⟨⟨by decide +kernel, by decide +kernel⟩, List.mem_of_getElem? (i := 15) (by decide +kernel), List.mem_of_getElem? (i := 329) (by decide +kernel), List.mem_of_getElem? (i := 330) (by decide +kernel)⟩
theorem lw_p10 : lw_okq (⟨"PatchHouse$Writing", "at", "(I)I"⟩, 2) := ⟨⟨by decide +kernel, by decide +kernel⟩, List.mem_of_getElem? (i := 23) (by decide +kernel), List.mem_of_getElem? (i := 333) (by decide +kernel), List.mem_of_getElem? (i := 334) (by decide +kernel)⟩
theorem lw_p11 : lw_okq (⟨"PatchHouse$History", "add", "(IIII)V"⟩, 5) := ⟨⟨by decide +kernel, by decide +kernel⟩, List.mem_of_getElem? (i := 46) (by decide +kernel), List.mem_of_getElem? (i := 337) (by decide +kernel), List.mem_of_getElem? (i := 338) (by decide +kernel)⟩
theorem lw_p12 : lw_okq (⟨"PatchHouse$History", "find", "(I)I"⟩, 5) := ⟨⟨by decide +kernel, by decide +kernel⟩, List.mem_of_getElem? (i := 46) (by decide +kernel), List.mem_of_getElem? (i := 345) (by decide +kernel), List.mem_of_getElem? (i := 346) (by decide +kernel)⟩
theorem lw_p13 : lw_okq (⟨"PatchHouse$History", "canGoToEnd", "(I)Z"⟩, 5) := ⟨⟨by decide +kernel, by decide +kernel⟩, List.mem_of_getElem? (i := 46) (by decide +kernel), List.mem_of_getElem? (i := 349) (by decide +kernel), List.mem_of_getElem? (i := 350) (by decide +kernel)⟩
theorem lw_p14 : lw_okq (⟨"PatchHouse$History", "canGoBehind", "(II)Z"⟩, 5) := ⟨⟨by decide +kernel, by decide +kernel⟩, List.mem_of_getElem? (i := 46) (by decide +kernel), List.mem_of_getElem? (i := 353) (by decide +kernel), List.mem_of_getElem? (i := 354) (by decide +kernel)⟩
theorem lw_p15 : lw_okq (⟨"PatchHouse$History", "hasPlace", "(I)Z"⟩, 5) := ⟨⟨by decide +kernel, by decide +kernel⟩, List.mem_of_getElem? (i := 46) (by decide +kernel), List.mem_of_getElem? (i := 357) (by decide +kernel), List.mem_of_getElem? (i := 358) (by decide +kernel)⟩
def lw_privs_1 : List (MethodName × Nat) := [(⟨"PatchHouse$Houses", "clear", "()V"⟩, 3), (⟨"PatchHouse$Writing", "apply", "(III)V"⟩, 2), (⟨"PatchHouse$Writing", "hasPlace", "(II)Z"⟩, 2), (⟨"PatchHouse", "readText", "(I)LPatchHouse$Writing;"⟩, 12), (⟨"PatchHouse$Writing", "copyFrom", "(LPatchHouse$Writing;)V"⟩, 2), (⟨"PatchHouse", "hasRoom", "(II)Z"⟩, 12), (⟨"PatchHouse$Past", "push", "(LPatchHouse$Houses;)V"⟩, 3), (⟨"PatchHouse$Houses", "copyFrom", "(LPatchHouse$Houses;)V"⟩, 3), (⟨"PatchHouse$History", "copyFrom", "(LPatchHouse$History;)V"⟩, 5), (⟨"PatchHouse", "append", "(IIII)I"⟩, 12), (⟨"PatchHouse$Writing", "at", "(I)I"⟩, 2), (⟨"PatchHouse$History", "add", "(IIII)V"⟩, 5), (⟨"PatchHouse$History", "find", "(I)I"⟩, 5), (⟨"PatchHouse$History", "canGoToEnd", "(I)Z"⟩, 5), (⟨"PatchHouse$History", "canGoBehind", "(II)Z"⟩, 5), (⟨"PatchHouse$History", "hasPlace", "(I)Z"⟩, 5)]
theorem lw_r1 : ∀ q ∈ lw_privs_1, lw_okq q := List.forall_mem_cons.mpr ⟨lw_p0, List.forall_mem_cons.mpr ⟨lw_p1, List.forall_mem_cons.mpr ⟨lw_p2, List.forall_mem_cons.mpr ⟨lw_p3, List.forall_mem_cons.mpr ⟨lw_p4, List.forall_mem_cons.mpr ⟨lw_p5, List.forall_mem_cons.mpr ⟨lw_p6, List.forall_mem_cons.mpr ⟨lw_p7, List.forall_mem_cons.mpr ⟨lw_p8, List.forall_mem_cons.mpr ⟨lw_p9, List.forall_mem_cons.mpr ⟨lw_p10, List.forall_mem_cons.mpr ⟨lw_p11, List.forall_mem_cons.mpr ⟨lw_p12, List.forall_mem_cons.mpr ⟨lw_p13, List.forall_mem_cons.mpr ⟨lw_p14, List.forall_mem_cons.mpr ⟨lw_p15, fun _ h => absurd h List.not_mem_nil⟩⟩⟩⟩⟩⟩⟩⟩⟩⟩⟩⟩⟩⟩⟩⟩
theorem lw_p16 : lw_okq (⟨"PatchHouse$History", "bring", "(II)Z"⟩, 5) := ⟨⟨by decide +kernel, by decide +kernel⟩, List.mem_of_getElem? (i := 46) (by decide +kernel), List.mem_of_getElem? (i := 364) (by decide +kernel), List.mem_of_getElem? (i := 365) (by decide +kernel)⟩
theorem lw_p17 : lw_okq (⟨"PatchHouse$History", "swap", "(I)Z"⟩, 5) := ⟨⟨by decide +kernel, by decide +kernel⟩, List.mem_of_getElem? (i := 46) (by decide +kernel), List.mem_of_getElem? (i := 368) (by decide +kernel), List.mem_of_getElem? (i := 369) (by decide +kernel)⟩
theorem lw_p18 : lw_okq (⟨"PatchHouse$History", "hasPair", "(I)Z"⟩, 5) := ⟨⟨by decide +kernel, by decide +kernel⟩, List.mem_of_getElem? (i := 46) (by decide +kernel), List.mem_of_getElem? (i := 372) (by decide +kernel), List.mem_of_getElem? (i := 373) (by decide +kernel)⟩
theorem lw_p19 : lw_okq (⟨"PatchHouse$History", "pairAt", "(I)I"⟩, 5) := ⟨⟨by decide +kernel, by decide +kernel⟩, List.mem_of_getElem? (i := 46) (by decide +kernel), List.mem_of_getElem? (i := 381) (by decide +kernel), List.mem_of_getElem? (i := 382) (by decide +kernel)⟩
theorem lw_p20 : lw_okq (⟨"PatchHouse$Pulling", "sortOut", "(LPatchHouse$History;LPatchHouse$History;I)Z"⟩, 5) := ⟨⟨by decide +kernel, by decide +kernel⟩, List.mem_of_getElem? (i := 166) (by decide +kernel), List.mem_of_getElem? (i := 390) (by decide +kernel), List.mem_of_getElem? (i := 391) (by decide +kernel)⟩
theorem lw_p21 : lw_okq (⟨"PatchHouse$History", "asSet", "()I"⟩, 5) := ⟨⟨by decide +kernel, by decide +kernel⟩, List.mem_of_getElem? (i := 46) (by decide +kernel), List.mem_of_getElem? (i := 394) (by decide +kernel), List.mem_of_getElem? (i := 395) (by decide +kernel)⟩
theorem lw_p22 : lw_okq (⟨"PatchHouse$History", "bringToFront", "(I)I"⟩, 5) := ⟨⟨by decide +kernel, by decide +kernel⟩, List.mem_of_getElem? (i := 46) (by decide +kernel), List.mem_of_getElem? (i := 399) (by decide +kernel), List.mem_of_getElem? (i := 400) (by decide +kernel)⟩
theorem lw_p23 : lw_okq (⟨"PatchHouse$History", "gather", "(II)I"⟩, 5) := ⟨⟨by decide +kernel, by decide +kernel⟩, List.mem_of_getElem? (i := 46) (by decide +kernel), List.mem_of_getElem? (i := 405) (by decide +kernel), List.mem_of_getElem? (i := 406) (by decide +kernel)⟩
theorem lw_p24 : lw_okq (⟨"PatchHouse$Pulling", "hasRoom", "(I)Z"⟩, 5) := ⟨⟨by decide +kernel, by decide +kernel⟩, List.mem_of_getElem? (i := 166) (by decide +kernel), List.mem_of_getElem? (i := 409) (by decide +kernel), List.mem_of_getElem? (i := 410) (by decide +kernel)⟩
theorem lw_p25 : lw_okq (⟨"PatchHouse$Pulling", "goPast", "()I"⟩, 5) := ⟨⟨by decide +kernel, by decide +kernel⟩, List.mem_of_getElem? (i := 166) (by decide +kernel), List.mem_of_getElem? (i := 413) (by decide +kernel), List.mem_of_getElem? (i := 414) (by decide +kernel)⟩
theorem lw_p26 : lw_okq (⟨"PatchHouse$Pulling", "fits", "(LPatchHouse$Writing;)Z"⟩, 5) := ⟨⟨by decide +kernel, by decide +kernel⟩, List.mem_of_getElem? (i := 166) (by decide +kernel), List.mem_of_getElem? (i := 422) (by decide +kernel), List.mem_of_getElem? (i := 423) (by decide +kernel)⟩
theorem lw_p27 : lw_okq (⟨"PatchHouse$Writing", "fits", "(III)Z"⟩, 2) := ⟨⟨by decide +kernel, by decide +kernel⟩, List.mem_of_getElem? (i := 23) (by decide +kernel), List.mem_of_getElem? (i := 426) (by decide +kernel), List.mem_of_getElem? (i := 427) (by decide +kernel)⟩
theorem lw_p28 : lw_okq (⟨"PatchHouse$Pulling", "giveTo", "(LPatchHouse$History;)V"⟩, 5) := ⟨⟨by decide +kernel, by decide +kernel⟩, List.mem_of_getElem? (i := 166) (by decide +kernel), List.mem_of_getElem? (i := 431) (by decide +kernel), List.mem_of_getElem? (i := 432) (by decide +kernel)⟩
theorem lw_p29 : lw_okq (⟨"PatchHouse$Lots", "start", "(I)V"⟩, 1) := ⟨⟨by decide +kernel, by decide +kernel⟩, List.mem_of_getElem? (i := 213) (by decide +kernel), List.mem_of_getElem? (i := 441) (by decide +kernel), List.mem_of_getElem? (i := 442) (by decide +kernel)⟩
theorem lw_p30 : lw_okq (⟨"PatchHouse", "recordByLots", "()Z"⟩, 12) := ⟨⟨by decide +kernel, by decide +kernel⟩, List.mem_of_getElem? (i := 15) (by decide +kernel), List.mem_of_getElem? (i := 445) (by decide +kernel), List.mem_of_getElem? (i := 446) (by decide +kernel)⟩
theorem lw_p31 : lw_okq (⟨"PatchHouse$Lots", "next", "(I)I"⟩, 1) := ⟨⟨by decide +kernel, by decide +kernel⟩, List.mem_of_getElem? (i := 213) (by decide +kernel), List.mem_of_getElem? (i := 449) (by decide +kernel), List.mem_of_getElem? (i := 450) (by decide +kernel)⟩
def lw_privs_2 : List (MethodName × Nat) := [(⟨"PatchHouse$History", "bring", "(II)Z"⟩, 5), (⟨"PatchHouse$History", "swap", "(I)Z"⟩, 5), (⟨"PatchHouse$History", "hasPair", "(I)Z"⟩, 5), (⟨"PatchHouse$History", "pairAt", "(I)I"⟩, 5), (⟨"PatchHouse$Pulling", "sortOut", "(LPatchHouse$History;LPatchHouse$History;I)Z"⟩, 5), (⟨"PatchHouse$History", "asSet", "()I"⟩, 5), (⟨"PatchHouse$History", "bringToFront", "(I)I"⟩, 5), (⟨"PatchHouse$History", "gather", "(II)I"⟩, 5), (⟨"PatchHouse$Pulling", "hasRoom", "(I)Z"⟩, 5), (⟨"PatchHouse$Pulling", "goPast", "()I"⟩, 5), (⟨"PatchHouse$Pulling", "fits", "(LPatchHouse$Writing;)Z"⟩, 5), (⟨"PatchHouse$Writing", "fits", "(III)Z"⟩, 2), (⟨"PatchHouse$Pulling", "giveTo", "(LPatchHouse$History;)V"⟩, 5), (⟨"PatchHouse$Lots", "start", "(I)V"⟩, 1), (⟨"PatchHouse", "recordByLots", "()Z"⟩, 12), (⟨"PatchHouse$Lots", "next", "(I)I"⟩, 1)]
theorem lw_r2 : ∀ q ∈ lw_privs_2, lw_okq q := List.forall_mem_cons.mpr ⟨lw_p16, List.forall_mem_cons.mpr ⟨lw_p17, List.forall_mem_cons.mpr ⟨lw_p18, List.forall_mem_cons.mpr ⟨lw_p19, List.forall_mem_cons.mpr ⟨lw_p20, List.forall_mem_cons.mpr ⟨lw_p21, List.forall_mem_cons.mpr ⟨lw_p22, List.forall_mem_cons.mpr ⟨lw_p23, List.forall_mem_cons.mpr ⟨lw_p24, List.forall_mem_cons.mpr ⟨lw_p25, List.forall_mem_cons.mpr ⟨lw_p26, List.forall_mem_cons.mpr ⟨lw_p27, List.forall_mem_cons.mpr ⟨lw_p28, List.forall_mem_cons.mpr ⟨lw_p29, List.forall_mem_cons.mpr ⟨lw_p30, List.forall_mem_cons.mpr ⟨lw_p31, fun _ h => absurd h List.not_mem_nil⟩⟩⟩⟩⟩⟩⟩⟩⟩⟩⟩⟩⟩⟩⟩⟩
theorem lw_p32 : lw_okq (⟨"PatchHouse$Past", "pop", "(LPatchHouse$Houses;)V"⟩, 3) := ⟨⟨by decide +kernel, by decide +kernel⟩, List.mem_of_getElem? (i := 99) (by decide +kernel), List.mem_of_getElem? (i := 459) (by decide +kernel), List.mem_of_getElem? (i := 460) (by decide +kernel)⟩
theorem lw_p33 : lw_okq (⟨"PatchHouse$Writing", "isSame", "(LPatchHouse$Writing;)Z"⟩, 2) := ⟨⟨by decide +kernel, by decide +kernel⟩, List.mem_of_getElem? (i := 23) (by decide +kernel), List.mem_of_getElem? (i := 467) (by decide +kernel), List.mem_of_getElem? (i := 468) (by decide +kernel)⟩
theorem lw_p34 : lw_okq (⟨"PatchHouse$Orders", "count", "(LPatchHouse$History;)I"⟩, 5) := ⟨⟨by decide +kernel, by decide +kernel⟩, List.mem_of_getElem? (i := 191) (by decide +kernel), List.mem_of_getElem? (i := 476) (by decide +kernel), List.mem_of_getElem? (i := 477) (by decide +kernel)⟩
theorem lw_p35 : lw_okq (⟨"PatchHouse$Orders", "note", "(III)V"⟩, 5) := ⟨⟨by decide +kernel, by decide +kernel⟩, List.mem_of_getElem? (i := 191) (by decide +kernel), List.mem_of_getElem? (i := 483) (by decide +kernel), List.mem_of_getElem? (i := 484) (by decide +kernel)⟩
theorem lw_p36 : lw_okq (⟨"PatchHouse$Orders", "lookRound", "(LPatchHouse$History;II)V"⟩, 5) := ⟨⟨by decide +kernel, by decide +kernel⟩, List.mem_of_getElem? (i := 191) (by decide +kernel), List.mem_of_getElem? (i := 493) (by decide +kernel), List.mem_of_getElem? (i := 494) (by decide +kernel)⟩
theorem lw_p37 : lw_okq (⟨"PatchHouse", "needsAt", "(LPatchHouse$History;I)I"⟩, 12) := ⟨⟨by decide +kernel, by decide +kernel⟩, List.mem_of_getElem? (i := 15) (by decide +kernel), List.mem_of_getElem? (i := 511) (by decide +kernel), List.mem_of_getElem? (i := 512) (by decide +kernel)⟩
theorem lw_p38 : lw_okq (⟨"PatchHouse", "needingIt", "(LPatchHouse$History;I)I"⟩, 12) := ⟨⟨by decide +kernel, by decide +kernel⟩, List.mem_of_getElem? (i := 15) (by decide +kernel), List.mem_of_getElem? (i := 517) (by decide +kernel), List.mem_of_getElem? (i := 518) (by decide +kernel)⟩
theorem lw_p39 : lw_okq (⟨"PatchHouse$Shelf", "holdChange", "(LPatchHouse$History;I)I"⟩, 3) := ⟨⟨by decide +kernel, by decide +kernel⟩, List.mem_of_getElem? (i := 120) (by decide +kernel), List.mem_of_getElem? (i := 533) (by decide +kernel), List.mem_of_getElem? (i := 534) (by decide +kernel)⟩
theorem lw_p40 : lw_okq (⟨"PatchHouse$Shelf", "holdWriting", "(LPatchHouse$Writing;)I"⟩, 3) := ⟨⟨by decide +kernel, by decide +kernel⟩, List.mem_of_getElem? (i := 120) (by decide +kernel), List.mem_of_getElem? (i := 541) (by decide +kernel), List.mem_of_getElem? (i := 542) (by decide +kernel)⟩
theorem lw_p41 : lw_okq (⟨"PatchHouseModel", "clear", "()V"⟩, 22) := ⟨⟨by decide +kernel, by decide +kernel⟩, List.mem_of_getElem? (i := 583) (by decide +kernel), List.mem_of_getElem? (i := 589) (by decide +kernel), List.mem_of_getElem? (i := 590) (by decide +kernel)⟩
theorem lw_p42 : lw_okq (⟨"PatchHouseModel", "layText", "(I)I"⟩, 22) := ⟨⟨by decide +kernel, by decide +kernel⟩, List.mem_of_getElem? (i := 583) (by decide +kernel), List.mem_of_getElem? (i := 682) (by decide +kernel), List.mem_of_getElem? (i := 683) (by decide +kernel)⟩
theorem lw_p43 : lw_okq (⟨"PatchHouseModel", "many", "(I)I"⟩, 22) := ⟨⟨by decide +kernel, by decide +kernel⟩, List.mem_of_getElem? (i := 583) (by decide +kernel), List.mem_of_getElem? (i := 689) (by decide +kernel), List.mem_of_getElem? (i := 690) (by decide +kernel)⟩
theorem lw_p44 : lw_okq (⟨"PatchHouseModel", "at", "(II)I"⟩, 22) := ⟨⟨by decide +kernel, by decide +kernel⟩, List.mem_of_getElem? (i := 583) (by decide +kernel), List.mem_of_getElem? (i := 693) (by decide +kernel), List.mem_of_getElem? (i := 694) (by decide +kernel)⟩
theorem lw_p45 : lw_okq (⟨"PatchHouseModel", "done", "(III)I"⟩, 22) := ⟨⟨by decide +kernel, by decide +kernel⟩, List.mem_of_getElem? (i := 583) (by decide +kernel), List.mem_of_getElem? (i := 697) (by decide +kernel), List.mem_of_getElem? (i := 698) (by decide +kernel)⟩
theorem lw_p46 : lw_okq (⟨"PatchHouseModel", "isFull", "(III)Z"⟩, 22) := ⟨⟨by decide +kernel, by decide +kernel⟩, List.mem_of_getElem? (i := 583) (by decide +kernel), List.mem_of_getElem? (i := 710) (by decide +kernel), List.mem_of_getElem? (i := 711) (by decide +kernel)⟩
theorem lw_p47 : lw_okq (⟨"PatchHouseModel", "note", "()V"⟩, 22) := ⟨⟨by decide +kernel, by decide +kernel⟩, List.mem_of_getElem? (i := 583) (by decide +kernel), List.mem_of_getElem? (i := 714) (by decide +kernel), List.mem_of_getElem? (i := 715) (by decide +kernel)⟩
def lw_privs_3 : List (MethodName × Nat) := [(⟨"PatchHouse$Past", "pop", "(LPatchHouse$Houses;)V"⟩, 3), (⟨"PatchHouse$Writing", "isSame", "(LPatchHouse$Writing;)Z"⟩, 2), (⟨"PatchHouse$Orders", "count", "(LPatchHouse$History;)I"⟩, 5), (⟨"PatchHouse$Orders", "note", "(III)V"⟩, 5), (⟨"PatchHouse$Orders", "lookRound", "(LPatchHouse$History;II)V"⟩, 5), (⟨"PatchHouse", "needsAt", "(LPatchHouse$History;I)I"⟩, 12), (⟨"PatchHouse", "needingIt", "(LPatchHouse$History;I)I"⟩, 12), (⟨"PatchHouse$Shelf", "holdChange", "(LPatchHouse$History;I)I"⟩, 3), (⟨"PatchHouse$Shelf", "holdWriting", "(LPatchHouse$Writing;)I"⟩, 3), (⟨"PatchHouseModel", "clear", "()V"⟩, 22), (⟨"PatchHouseModel", "layText", "(I)I"⟩, 22), (⟨"PatchHouseModel", "many", "(I)I"⟩, 22), (⟨"PatchHouseModel", "at", "(II)I"⟩, 22), (⟨"PatchHouseModel", "done", "(III)I"⟩, 22), (⟨"PatchHouseModel", "isFull", "(III)Z"⟩, 22), (⟨"PatchHouseModel", "note", "()V"⟩, 22)]
theorem lw_r3 : ∀ q ∈ lw_privs_3, lw_okq q := List.forall_mem_cons.mpr ⟨lw_p32, List.forall_mem_cons.mpr ⟨lw_p33, List.forall_mem_cons.mpr ⟨lw_p34, List.forall_mem_cons.mpr ⟨lw_p35, List.forall_mem_cons.mpr ⟨lw_p36, List.forall_mem_cons.mpr ⟨lw_p37, List.forall_mem_cons.mpr ⟨lw_p38, List.forall_mem_cons.mpr ⟨lw_p39, List.forall_mem_cons.mpr ⟨lw_p40, List.forall_mem_cons.mpr ⟨lw_p41, List.forall_mem_cons.mpr ⟨lw_p42, List.forall_mem_cons.mpr ⟨lw_p43, List.forall_mem_cons.mpr ⟨lw_p44, List.forall_mem_cons.mpr ⟨lw_p45, List.forall_mem_cons.mpr ⟨lw_p46, List.forall_mem_cons.mpr ⟨lw_p47, fun _ h => absurd h List.not_mem_nil⟩⟩⟩⟩⟩⟩⟩⟩⟩⟩⟩⟩⟩⟩⟩⟩
theorem lw_p48 : lw_okq (⟨"PatchHouseModel", "recorded", "(IIII)I"⟩, 22) := ⟨⟨by decide +kernel, by decide +kernel⟩, List.mem_of_getElem? (i := 583) (by decide +kernel), List.mem_of_getElem? (i := 718) (by decide +kernel), List.mem_of_getElem? (i := 719) (by decide +kernel)⟩
theorem lw_p49 : lw_okq (⟨"PatchHouseModel", "placeOf", "(II)I"⟩, 22) := ⟨⟨by decide +kernel, by decide +kernel⟩, List.mem_of_getElem? (i := 583) (by decide +kernel), List.mem_of_getElem? (i := 729) (by decide +kernel), List.mem_of_getElem? (i := 730) (by decide +kernel)⟩
theorem lw_p50 : lw_okq (⟨"PatchHouseModel", "layOwn", "(I)I"⟩, 22) := ⟨⟨by decide +kernel, by decide +kernel⟩, List.mem_of_getElem? (i := 583) (by decide +kernel), List.mem_of_getElem? (i := 736) (by decide +kernel), List.mem_of_getElem? (i := 737) (by decide +kernel)⟩
theorem lw_p51 : lw_okq (⟨"PatchHouseModel", "setOf", "(I)I"⟩, 22) := ⟨⟨by decide +kernel, by decide +kernel⟩, List.mem_of_getElem? (i := 583) (by decide +kernel), List.mem_of_getElem? (i := 763) (by decide +kernel), List.mem_of_getElem? (i := 764) (by decide +kernel)⟩
theorem lw_p52 : lw_okq (⟨"PatchHouseModel", "fronted", "([III)I"⟩, 22) := ⟨⟨by decide +kernel, by decide +kernel⟩, List.mem_of_getElem? (i := 583) (by decide +kernel), List.mem_of_getElem? (i := 767) (by decide +kernel), List.mem_of_getElem? (i := 768) (by decide +kernel)⟩
theorem lw_p53 : lw_okq (⟨"PatchHouseModel", "needed", "([III)I"⟩, 22) := ⟨⟨by decide +kernel, by decide +kernel⟩, List.mem_of_getElem? (i := 583) (by decide +kernel), List.mem_of_getElem? (i := 774) (by decide +kernel), List.mem_of_getElem? (i := 775) (by decide +kernel)⟩
theorem lw_p54 : lw_okq (⟨"PatchHouseModel", "come", "(IIII)I"⟩, 22) := ⟨⟨by decide +kernel, by decide +kernel⟩, List.mem_of_getElem? (i := 583) (by decide +kernel), List.mem_of_getElem? (i := 778) (by decide +kernel), List.mem_of_getElem? (i := 779) (by decide +kernel)⟩
theorem lw_p55 : lw_okq (⟨"PatchHouseModel", "isTooMuch", "(II)Z"⟩, 22) := ⟨⟨by decide +kernel, by decide +kernel⟩, List.mem_of_getElem? (i := 583) (by decide +kernel), List.mem_of_getElem? (i := 782) (by decide +kernel), List.mem_of_getElem? (i := 783) (by decide +kernel)⟩
theorem lw_p56 : lw_okq (⟨"PatchHouseModel", "past", "(II)I"⟩, 22) := ⟨⟨by decide +kernel, by decide +kernel⟩, List.mem_of_getElem? (i := 583) (by decide +kernel), List.mem_of_getElem? (i := 786) (by decide +kernel), List.mem_of_getElem? (i := 787) (by decide +kernel)⟩
theorem lw_p57 : lw_okq (⟨"PatchHouseModel", "isLot", "()Z"⟩, 22) := ⟨⟨by decide +kernel, by decide +kernel⟩, List.mem_of_getElem? (i := 583) (by decide +kernel), List.mem_of_getElem? (i := 798) (by decide +kernel), List.mem_of_getElem? (i := 799) (by decide +kernel)⟩
theorem lw_p58 : lw_okq (⟨"PatchHouseModel", "drawn", "(I)I"⟩, 22) := ⟨⟨by decide +kernel, by decide +kernel⟩, List.mem_of_getElem? (i := 583) (by decide +kernel), List.mem_of_getElem? (i := 802) (by decide +kernel), List.mem_of_getElem? (i := 803) (by decide +kernel)⟩
theorem lw_p59 : lw_okq (⟨"PatchHouseModel", "areAlike", "()Z"⟩, 22) := ⟨⟨by decide +kernel, by decide +kernel⟩, List.mem_of_getElem? (i := 583) (by decide +kernel), List.mem_of_getElem? (i := 816) (by decide +kernel), List.mem_of_getElem? (i := 817) (by decide +kernel)⟩
theorem lw_p60 : lw_okq (⟨"PatchHouseModel", "lawful", "(I)I"⟩, 22) := ⟨⟨by decide +kernel, by decide +kernel⟩, List.mem_of_getElem? (i := 583) (by decide +kernel), List.mem_of_getElem? (i := 824) (by decide +kernel), List.mem_of_getElem? (i := 825) (by decide +kernel)⟩
theorem lw_p61 : lw_okq (⟨"PatchHouseModel", "isLaid", "(II)Z"⟩, 22) := ⟨⟨by decide +kernel, by decide +kernel⟩, List.mem_of_getElem? (i := 583) (by decide +kernel), List.mem_of_getElem? (i := 828) (by decide +kernel), List.mem_of_getElem? (i := 829) (by decide +kernel)⟩
theorem lw_p62 : lw_okq (⟨"PatchHouseModel", "isPlace", "(II)Z"⟩, 22) := ⟨⟨by decide +kernel, by decide +kernel⟩, List.mem_of_getElem? (i := 583) (by decide +kernel), List.mem_of_getElem? (i := 840) (by decide +kernel), List.mem_of_getElem? (i := 841) (by decide +kernel)⟩
theorem lw_p63 : lw_okq (⟨"PatchHouseModel", "whyNot", "(II)I"⟩, 22) := ⟨⟨by decide +kernel, by decide +kernel⟩, List.mem_of_getElem? (i := 583) (by decide +kernel), List.mem_of_getElem? (i := 874) (by decide +kernel), List.mem_of_getElem? (i := 875) (by decide +kernel)⟩
def lw_privs_4 : List (MethodName × Nat) := [(⟨"PatchHouseModel", "recorded", "(IIII)I"⟩, 22), (⟨"PatchHouseModel", "placeOf", "(II)I"⟩, 22), (⟨"PatchHouseModel", "layOwn", "(I)I"⟩, 22), (⟨"PatchHouseModel", "setOf", "(I)I"⟩, 22), (⟨"PatchHouseModel", "fronted", "([III)I"⟩, 22), (⟨"PatchHouseModel", "needed", "([III)I"⟩, 22), (⟨"PatchHouseModel", "come", "(IIII)I"⟩, 22), (⟨"PatchHouseModel", "isTooMuch", "(II)Z"⟩, 22), (⟨"PatchHouseModel", "past", "(II)I"⟩, 22), (⟨"PatchHouseModel", "isLot", "()Z"⟩, 22), (⟨"PatchHouseModel", "drawn", "(I)I"⟩, 22), (⟨"PatchHouseModel", "areAlike", "()Z"⟩, 22), (⟨"PatchHouseModel", "lawful", "(I)I"⟩, 22), (⟨"PatchHouseModel", "isLaid", "(II)Z"⟩, 22), (⟨"PatchHouseModel", "isPlace", "(II)Z"⟩, 22), (⟨"PatchHouseModel", "whyNot", "(II)I"⟩, 22)]
theorem lw_r4 : ∀ q ∈ lw_privs_4, lw_okq q := List.forall_mem_cons.mpr ⟨lw_p48, List.forall_mem_cons.mpr ⟨lw_p49, List.forall_mem_cons.mpr ⟨lw_p50, List.forall_mem_cons.mpr ⟨lw_p51, List.forall_mem_cons.mpr ⟨lw_p52, List.forall_mem_cons.mpr ⟨lw_p53, List.forall_mem_cons.mpr ⟨lw_p54, List.forall_mem_cons.mpr ⟨lw_p55, List.forall_mem_cons.mpr ⟨lw_p56, List.forall_mem_cons.mpr ⟨lw_p57, List.forall_mem_cons.mpr ⟨lw_p58, List.forall_mem_cons.mpr ⟨lw_p59, List.forall_mem_cons.mpr ⟨lw_p60, List.forall_mem_cons.mpr ⟨lw_p61, List.forall_mem_cons.mpr ⟨lw_p62, List.forall_mem_cons.mpr ⟨lw_p63, fun _ h => absurd h List.not_mem_nil⟩⟩⟩⟩⟩⟩⟩⟩⟩⟩⟩⟩⟩⟩⟩⟩
def lw_privs : List (MethodName × Nat) := lw_privs_1 ++ (lw_privs_2 ++ (lw_privs_3 ++ (lw_privs_4)))
def lw_tbl : List Cond := k2_sels lw_privs ++ tables_1
theorem lw_privs_ok : ∀ q ∈ lw_privs, lw_okq q := by
  show ∀ q ∈ lw_privs_1 ++ (lw_privs_2 ++ (lw_privs_3 ++ (lw_privs_4))), lw_okq q
  exact List.forall_mem_append.mpr ⟨lw_r1, List.forall_mem_append.mpr ⟨lw_r2, List.forall_mem_append.mpr ⟨lw_r3, lw_r4⟩⟩⟩

def RX0 : String := "PatchHouse$History"
def TX0 : u_T := fun k => match k with
  | 0 => ("PatchHouse$History", "numbers", "[I", true)
  | 1 => ("PatchHouse$History", "sorts", "[I", true)
  | 2 => ("PatchHouse$History", "places", "[I", true)
  | 3 => ("PatchHouse$History", "letters", "[I", true)
  | _ => ("PatchHouse$History", "size", "I", false)
def tyX0 : Nat → FieldType := fun k => match k with
  | 0 => .array .int
  | 1 => .array .int
  | 2 => .array .int
  | 3 => .array .int
  | _ => .int
abbrev wsX00 : List Cond := u_ws RX0 TX0 5
theorem nmX0 : ∀ a, a < 5 → ∀ b, b < 5 → a ≠ b → (TX0 a).2.1 ≠ (TX0 b).2.1 := by decide +kernel
theorem tyX0_ok : ∀ k, k < 5 → parseFieldDescriptor (TX0 k).2.2.1 = some (tyX0 k) := by decide +kernel
abbrev cX0_init : ByteArray := prog_2_method_1_code
def yX0_init : MethodName := ⟨RX0, "<init>", "()V"⟩
abbrev cX0_copyFrom : ByteArray := prog_2_method_2_code
def yX0_copyFrom : MethodName := ⟨RX0, "copyFrom", "(LPatchHouse$History;)V"⟩
abbrev cX0_add : ByteArray := prog_2_method_3_code
def yX0_add : MethodName := ⟨RX0, "add", "(IIII)V"⟩
abbrev cX0_hasPlace : ByteArray := prog_2_method_4_code
def yX0_hasPlace : MethodName := ⟨RX0, "hasPlace", "(I)Z"⟩
abbrev cX0_hasPair : ByteArray := prog_2_method_5_code
def yX0_hasPair : MethodName := ⟨RX0, "hasPair", "(I)Z"⟩
abbrev cX0_find : ByteArray := prog_2_method_6_code
def yX0_find : MethodName := ⟨RX0, "find", "(I)I"⟩
abbrev cX0_asSet : ByteArray := prog_2_method_7_code
def yX0_asSet : MethodName := ⟨RX0, "asSet", "()I"⟩
abbrev cX0_pairAt : ByteArray := prog_2_method_8_code
def yX0_pairAt : MethodName := ⟨RX0, "pairAt", "(I)I"⟩
abbrev cX0_swap : ByteArray := prog_2_method_9_code
def yX0_swap : MethodName := ⟨RX0, "swap", "(I)Z"⟩
abbrev cX0_canGoBehind : ByteArray := prog_2_method_10_code
def yX0_canGoBehind : MethodName := ⟨RX0, "canGoBehind", "(II)Z"⟩
abbrev cX0_canGoToEnd : ByteArray := prog_2_method_11_code
def yX0_canGoToEnd : MethodName := ⟨RX0, "canGoToEnd", "(I)Z"⟩
abbrev cX0_bring : ByteArray := prog_2_method_12_code
def yX0_bring : MethodName := ⟨RX0, "bring", "(II)Z"⟩
abbrev cX0_gather : ByteArray := prog_2_method_13_code
def yX0_gather : MethodName := ⟨RX0, "gather", "(II)I"⟩
abbrev cX0_bringToFront : ByteArray := prog_2_method_14_code
def yX0_bringToFront : MethodName := ⟨RX0, "bringToFront", "(I)I"⟩
def RX1 : String := "PatchHouse$Houses"
def TX1 : u_T := fun k => match k with
  | 0 => ("PatchHouse$Houses", "histories", "[LPatchHouse$History;", true)
  | 1 => ("PatchHouse$Houses", "held", "[I", true)
  | _ => ("PatchHouse$Houses", "clashes", "[I", true)
def tyX1 : Nat → FieldType := fun k => match k with
  | 0 => .array (.object "PatchHouse$History")
  | 1 => .array .int
  | _ => .array .int
abbrev wsX10 : List Cond := u_ws RX1 TX1 3
theorem nmX1 : ∀ a, a < 3 → ∀ b, b < 3 → a ≠ b → (TX1 a).2.1 ≠ (TX1 b).2.1 := by decide +kernel
theorem tyX1_ok : ∀ k, k < 3 → parseFieldDescriptor (TX1 k).2.2.1 = some (tyX1 k) := by decide +kernel
abbrev cX1_init : ByteArray := prog_3_method_1_code
def yX1_init : MethodName := ⟨RX1, "<init>", "()V"⟩
abbrev cX1_clear : ByteArray := prog_3_method_2_code
def yX1_clear : MethodName := ⟨RX1, "clear", "()V"⟩
abbrev cX1_copyFrom : ByteArray := prog_3_method_3_code
def yX1_copyFrom : MethodName := ⟨RX1, "copyFrom", "(LPatchHouse$Houses;)V"⟩
def RX2 : String := "PatchHouse$Lots"
def TX2 : u_T := fun k => match k with
  | _ => ("PatchHouse$Lots", "x", "J", false)
def tyX2 : Nat → FieldType := fun k => match k with
  | _ => .long
abbrev wsX20 : List Cond := u_ws RX2 TX2 1
theorem nmX2 : ∀ a, a < 1 → ∀ b, b < 1 → a ≠ b → (TX2 a).2.1 ≠ (TX2 b).2.1 := by decide +kernel
theorem tyX2_ok : ∀ k, k < 1 → parseFieldDescriptor (TX2 k).2.2.1 = some (tyX2 k) := by decide +kernel
abbrev cX2_init : ByteArray := prog_4_method_1_code
def yX2_init : MethodName := ⟨RX2, "<init>", "()V"⟩
abbrev cX2_start : ByteArray := prog_4_method_2_code
def yX2_start : MethodName := ⟨RX2, "start", "(I)V"⟩
abbrev cX2_next : ByteArray := prog_4_method_3_code
def yX2_next : MethodName := ⟨RX2, "next", "(I)I"⟩
def RX3 : String := "PatchHouse$OneChange"
def TX3 : u_T := fun k => match k with
  | 0 => ("PatchHouse$OneChange", "number", "I", false)
  | 1 => ("PatchHouse$OneChange", "sort", "I", false)
  | 2 => ("PatchHouse$OneChange", "place", "I", false)
  | _ => ("PatchHouse$OneChange", "letter", "I", false)
def tyX3 : Nat → FieldType := fun k => match k with
  | 0 => .int
  | 1 => .int
  | 2 => .int
  | _ => .int
abbrev wsX30 : List Cond := u_ws RX3 TX3 4
theorem nmX3 : ∀ a, a < 4 → ∀ b, b < 4 → a ≠ b → (TX3 a).2.1 ≠ (TX3 b).2.1 := by decide +kernel
theorem tyX3_ok : ∀ k, k < 4 → parseFieldDescriptor (TX3 k).2.2.1 = some (tyX3 k) := by decide +kernel
abbrev cX3_init : ByteArray := prog_5_method_1_code
def yX3_init : MethodName := ⟨RX3, "<init>", "()V"⟩
def RX4 : String := "PatchHouse$Orders"
def TX4 : u_T := fun k => match k with
  | 0 => ("PatchHouse$Orders", "found", "[I", true)
  | 1 => ("PatchHouse$Orders", "places", "[I", true)
  | 2 => ("PatchHouse$Orders", "seen", "[I", true)
  | 3 => ("PatchHouse$Orders", "counts", "I", false)
  | _ => ("PatchHouse$Orders", "size", "I", false)
def tyX4 : Nat → FieldType := fun k => match k with
  | 0 => .array .int
  | 1 => .array .int
  | 2 => .array .int
  | 3 => .int
  | _ => .int
abbrev wsX40 : List Cond := u_ws RX4 TX4 5
theorem nmX4 : ∀ a, a < 5 → ∀ b, b < 5 → a ≠ b → (TX4 a).2.1 ≠ (TX4 b).2.1 := by decide +kernel
theorem tyX4_ok : ∀ k, k < 5 → parseFieldDescriptor (TX4 k).2.2.1 = some (tyX4 k) := by decide +kernel
abbrev cX4_init : ByteArray := prog_6_method_1_code
def yX4_init : MethodName := ⟨RX4, "<init>", "()V"⟩
abbrev cX4_count : ByteArray := prog_6_method_2_code
def yX4_count : MethodName := ⟨RX4, "count", "(LPatchHouse$History;)I"⟩
abbrev cX4_lookRound : ByteArray := prog_6_method_3_code
def yX4_lookRound : MethodName := ⟨RX4, "lookRound", "(LPatchHouse$History;II)V"⟩
abbrev cX4_note : ByteArray := prog_6_method_4_code
def yX4_note : MethodName := ⟨RX4, "note", "(III)V"⟩
abbrev cX4_rankOf : ByteArray := prog_6_method_5_code
def yX4_rankOf : MethodName := ⟨RX4, "rankOf", "(II)I"⟩
abbrev cX4_part : ByteArray := prog_6_method_6_code
def yX4_part : MethodName := ⟨RX4, "part", "(III)I"⟩
abbrev cX4_with : ByteArray := prog_6_method_7_code
def yX4_with : MethodName := ⟨RX4, "with", "(IIII)I"⟩
def RX5 : String := "PatchHouse$Past"
def TX5 : u_T := fun k => match k with
  | 0 => ("PatchHouse$Past", "rows", "[LPatchHouse$Houses;", true)
  | 1 => ("PatchHouse$Past", "next", "I", false)
  | _ => ("PatchHouse$Past", "count", "I", false)
def tyX5 : Nat → FieldType := fun k => match k with
  | 0 => .array (.object "PatchHouse$Houses")
  | 1 => .int
  | _ => .int
abbrev wsX50 : List Cond := u_ws RX5 TX5 3
theorem nmX5 : ∀ a, a < 3 → ∀ b, b < 3 → a ≠ b → (TX5 a).2.1 ≠ (TX5 b).2.1 := by decide +kernel
theorem tyX5_ok : ∀ k, k < 3 → parseFieldDescriptor (TX5 k).2.2.1 = some (tyX5 k) := by decide +kernel
abbrev cX5_init : ByteArray := prog_7_method_1_code
def yX5_init : MethodName := ⟨RX5, "<init>", "()V"⟩
abbrev cX5_push : ByteArray := prog_7_method_2_code
def yX5_push : MethodName := ⟨RX5, "push", "(LPatchHouse$Houses;)V"⟩
abbrev cX5_pop : ByteArray := prog_7_method_3_code
def yX5_pop : MethodName := ⟨RX5, "pop", "(LPatchHouse$Houses;)V"⟩
def RX6 : String := "PatchHouse$Pulling"
def TX6 : u_T := fun k => match k with
  | 0 => ("PatchHouse$Pulling", "ours", "LPatchHouse$History;", true)
  | 1 => ("PatchHouse$Pulling", "theirs", "LPatchHouse$History;", true)
  | 2 => ("PatchHouse$Pulling", "past", "[I", true)
  | 3 => ("PatchHouse$Pulling", "front", "I", false)
  | _ => ("PatchHouse$Pulling", "coming", "I", false)
def tyX6 : Nat → FieldType := fun k => match k with
  | 0 => .object "PatchHouse$History"
  | 1 => .object "PatchHouse$History"
  | 2 => .array .int
  | 3 => .int
  | _ => .int
abbrev wsX60 : List Cond := u_ws RX6 TX6 5
theorem nmX6 : ∀ a, a < 5 → ∀ b, b < 5 → a ≠ b → (TX6 a).2.1 ≠ (TX6 b).2.1 := by decide +kernel
theorem tyX6_ok : ∀ k, k < 5 → parseFieldDescriptor (TX6 k).2.2.1 = some (tyX6 k) := by decide +kernel
abbrev cX6_init : ByteArray := prog_8_method_1_code
def yX6_init : MethodName := ⟨RX6, "<init>", "()V"⟩
abbrev cX6_sortOut : ByteArray := prog_8_method_2_code
def yX6_sortOut : MethodName := ⟨RX6, "sortOut", "(LPatchHouse$History;LPatchHouse$History;I)Z"⟩
abbrev cX6_hasRoom : ByteArray := prog_8_method_3_code
def yX6_hasRoom : MethodName := ⟨RX6, "hasRoom", "(I)Z"⟩
abbrev cX6_goPast : ByteArray := prog_8_method_4_code
def yX6_goPast : MethodName := ⟨RX6, "goPast", "()I"⟩
abbrev cX6_fits : ByteArray := prog_8_method_5_code
def yX6_fits : MethodName := ⟨RX6, "fits", "(LPatchHouse$Writing;)Z"⟩
abbrev cX6_giveTo : ByteArray := prog_8_method_6_code
def yX6_giveTo : MethodName := ⟨RX6, "giveTo", "(LPatchHouse$History;)V"⟩
def RX7 : String := "PatchHouse$Shelf"
def TX7 : u_T := fun k => match k with
  | 0 => ("PatchHouse$Shelf", "one", "LPatchHouse$OneChange;", true)
  | 1 => ("PatchHouse$Shelf", "written", "LPatchHouse$Writing;", true)
  | _ => ("PatchHouse$Shelf", "held", "LPatchHouse$Shelvable;", false)
def tyX7 : Nat → FieldType := fun k => match k with
  | 0 => .object "PatchHouse$OneChange"
  | 1 => .object "PatchHouse$Writing"
  | _ => .object "PatchHouse$Shelvable"
abbrev wsX70 : List Cond := u_ws RX7 TX7 3
theorem nmX7 : ∀ a, a < 3 → ∀ b, b < 3 → a ≠ b → (TX7 a).2.1 ≠ (TX7 b).2.1 := by decide +kernel
theorem tyX7_ok : ∀ k, k < 3 → parseFieldDescriptor (TX7 k).2.2.1 = some (tyX7 k) := by decide +kernel
abbrev cX7_init : ByteArray := prog_9_method_1_code
def yX7_init : MethodName := ⟨RX7, "<init>", "()V"⟩
abbrev cX7_holdChange : ByteArray := prog_9_method_2_code
def yX7_holdChange : MethodName := ⟨RX7, "holdChange", "(LPatchHouse$History;I)I"⟩
abbrev cX7_holdWriting : ByteArray := prog_9_method_3_code
def yX7_holdWriting : MethodName := ⟨RX7, "holdWriting", "(LPatchHouse$Writing;)I"⟩
def RX8 : String := "PatchHouse$Shelvable"
def TX8 : u_T := fun k => match k with
  | _ => ("", "", "", false)
def tyX8 : Nat → FieldType := fun k => match k with
  | _ => .int
abbrev wsX80 : List Cond := u_ws RX8 TX8 0
theorem nmX8 : ∀ a, a < 0 → ∀ b, b < 0 → a ≠ b → (TX8 a).2.1 ≠ (TX8 b).2.1 := by decide +kernel
theorem tyX8_ok : ∀ k, k < 0 → parseFieldDescriptor (TX8 k).2.2.1 = some (tyX8 k) := by decide +kernel
def RX9 : String := "PatchHouse$Writing"
def TX9 : u_T := fun k => match k with
  | 0 => ("PatchHouse$Writing", "letters", "[I", true)
  | _ => ("PatchHouse$Writing", "size", "I", false)
def tyX9 : Nat → FieldType := fun k => match k with
  | 0 => .array .int
  | _ => .int
abbrev wsX90 : List Cond := u_ws RX9 TX9 2
theorem nmX9 : ∀ a, a < 2 → ∀ b, b < 2 → a ≠ b → (TX9 a).2.1 ≠ (TX9 b).2.1 := by decide +kernel
theorem tyX9_ok : ∀ k, k < 2 → parseFieldDescriptor (TX9 k).2.2.1 = some (tyX9 k) := by decide +kernel
abbrev cX9_init : ByteArray := prog_11_method_1_code
def yX9_init : MethodName := ⟨RX9, "<init>", "()V"⟩
abbrev cX9_copyFrom : ByteArray := prog_11_method_2_code
def yX9_copyFrom : MethodName := ⟨RX9, "copyFrom", "(LPatchHouse$Writing;)V"⟩
abbrev cX9_at : ByteArray := prog_11_method_3_code
def yX9_at : MethodName := ⟨RX9, "at", "(I)I"⟩
abbrev cX9_hasPlace : ByteArray := prog_11_method_4_code
def yX9_hasPlace : MethodName := ⟨RX9, "hasPlace", "(II)Z"⟩
abbrev cX9_fits : ByteArray := prog_11_method_5_code
def yX9_fits : MethodName := ⟨RX9, "fits", "(III)Z"⟩
abbrev cX9_apply : ByteArray := prog_11_method_6_code
def yX9_apply : MethodName := ⟨RX9, "apply", "(III)V"⟩
abbrev cX9_isSame : ByteArray := prog_11_method_7_code
def yX9_isSame : MethodName := ⟨RX9, "isSame", "(LPatchHouse$Writing;)Z"⟩
def RX10 : String := "PatchHouse"
def TX10 : u_T := fun k => match k with
  | 0 => ("PatchHouse", "beginning", "LPatchHouse$Writing;", true)
  | 1 => ("PatchHouse", "now", "LPatchHouse$Houses;", true)
  | 2 => ("PatchHouse", "past", "LPatchHouse$Past;", true)
  | 3 => ("PatchHouse", "images", "[LPatchHouse$Houses;", true)
  | 4 => ("PatchHouse", "isKept", "[Z", true)
  | 5 => ("PatchHouse", "shelves", "[LPatchHouse$Shelf;", true)
  | 6 => ("PatchHouse", "texts", "[LPatchHouse$Writing;", true)
  | 7 => ("PatchHouse", "spare", "LPatchHouse$History;", true)
  | 8 => ("PatchHouse", "pulling", "LPatchHouse$Pulling;", true)
  | 9 => ("PatchHouse", "orders", "LPatchHouse$Orders;", true)
  | 10 => ("PatchHouse", "lots", "LPatchHouse$Lots;", true)
  | _ => ("PatchHouse", "numbers", "I", false)
def tyX10 : Nat → FieldType := fun k => match k with
  | 0 => .object "PatchHouse$Writing"
  | 1 => .object "PatchHouse$Houses"
  | 2 => .object "PatchHouse$Past"
  | 3 => .array (.object "PatchHouse$Houses")
  | 4 => .array .boolean
  | 5 => .array (.object "PatchHouse$Shelf")
  | 6 => .array (.object "PatchHouse$Writing")
  | 7 => .object "PatchHouse$History"
  | 8 => .object "PatchHouse$Pulling"
  | 9 => .object "PatchHouse$Orders"
  | 10 => .object "PatchHouse$Lots"
  | _ => .int
abbrev wsX100 : List Cond := u_ws RX10 TX10 12
theorem nmX10 : ∀ a, a < 12 → ∀ b, b < 12 → a ≠ b → (TX10 a).2.1 ≠ (TX10 b).2.1 := by decide +kernel
theorem tyX10_ok : ∀ k, k < 12 → parseFieldDescriptor (TX10 k).2.2.1 = some (tyX10 k) := by decide +kernel
abbrev cX10_init : ByteArray := prog_1_method_1_code
def yX10_init : MethodName := ⟨RX10, "<init>", "()V"⟩
abbrev cX10_anew : ByteArray := prog_1_method_2_code
def yX10_anew : MethodName := ⟨RX10, "anew", "()I"⟩
abbrev cX10_begin : ByteArray := prog_1_method_3_code
def yX10_begin : MethodName := ⟨RX10, "begin", "(I)I"⟩
abbrev cX10_record : ByteArray := prog_1_method_4_code
def yX10_record : MethodName := ⟨RX10, "record", "(IIII)I"⟩
abbrev cX10_takeOff : ByteArray := prog_1_method_5_code
def yX10_takeOff : MethodName := ⟨RX10, "takeOff", "(II)I"⟩
abbrev cX10_turn : ByteArray := prog_1_method_6_code
def yX10_turn : MethodName := ⟨RX10, "turn", "(II)I"⟩
abbrev cX10_pull : ByteArray := prog_1_method_7_code
def yX10_pull : MethodName := ⟨RX10, "pull", "(II)I"⟩
abbrev cX10_drift : ByteArray := prog_1_method_8_code
def yX10_drift : MethodName := ⟨RX10, "drift", "(II)I"⟩
abbrev cX10_undo : ByteArray := prog_1_method_9_code
def yX10_undo : MethodName := ⟨RX10, "undo", "()I"⟩
abbrev cX10_told : ByteArray := prog_1_method_10_code
def yX10_told : MethodName := ⟨RX10, "told", "(I)I"⟩
abbrev cX10_house : ByteArray := prog_1_method_11_code
def yX10_house : MethodName := ⟨RX10, "house", "(II)I"⟩
abbrev cX10_text : ByteArray := prog_1_method_12_code
def yX10_text : MethodName := ⟨RX10, "text", "(II)I"⟩
abbrev cX10_history : ByteArray := prog_1_method_13_code
def yX10_history : MethodName := ⟨RX10, "history", "(III)I"⟩
abbrev cX10_change : ByteArray := prog_1_method_14_code
def yX10_change : MethodName := ⟨RX10, "change", "(III)I"⟩
abbrev cX10_round : ByteArray := prog_1_method_15_code
def yX10_round : MethodName := ⟨RX10, "round", "(IIII)I"⟩
abbrev cX10_shelve : ByteArray := prog_1_method_16_code
def yX10_shelve : MethodName := ⟨RX10, "shelve", "(III)I"⟩
abbrev cX10_shelveText : ByteArray := prog_1_method_17_code
def yX10_shelveText : MethodName := ⟨RX10, "shelveText", "(II)I"⟩
abbrev cX10_empty : ByteArray := prog_1_method_18_code
def yX10_empty : MethodName := ⟨RX10, "empty", "(I)I"⟩
abbrev cX10_shelved : ByteArray := prog_1_method_19_code
def yX10_shelved : MethodName := ⟨RX10, "shelved", "(II)I"⟩
abbrev cX10_letter : ByteArray := prog_1_method_20_code
def yX10_letter : MethodName := ⟨RX10, "letter", "(II)I"⟩
abbrev cX10_isText : ByteArray := prog_1_method_21_code
def yX10_isText : MethodName := ⟨RX10, "isText", "(II)I"⟩
abbrev cX10_oppose : ByteArray := prog_1_method_22_code
def yX10_oppose : MethodName := ⟨RX10, "oppose", "(II)I"⟩
abbrev cX10_keep : ByteArray := prog_1_method_23_code
def yX10_keep : MethodName := ⟨RX10, "keep", "(I)I"⟩
abbrev cX10_goBack : ByteArray := prog_1_method_24_code
def yX10_goBack : MethodName := ⟨RX10, "goBack", "(I)I"⟩
abbrev cX10_isHouse : ByteArray := prog_1_method_25_code
def yX10_isHouse : MethodName := ⟨RX10, "isHouse", "(I)Z"⟩
abbrev cX10_isShelf : ByteArray := prog_1_method_26_code
def yX10_isShelf : MethodName := ⟨RX10, "isShelf", "(I)Z"⟩
abbrev cX10_isImage : ByteArray := prog_1_method_27_code
def yX10_isImage : MethodName := ⟨RX10, "isImage", "(I)Z"⟩
abbrev cX10_isSort : ByteArray := prog_1_method_28_code
def yX10_isSort : MethodName := ⟨RX10, "isSort", "(I)Z"⟩
abbrev cX10_isLetter : ByteArray := prog_1_method_29_code
def yX10_isLetter : MethodName := ⟨RX10, "isLetter", "(I)Z"⟩
abbrev cX10_opposite : ByteArray := prog_1_method_30_code
def yX10_opposite : MethodName := ⟨RX10, "opposite", "(I)I"⟩
abbrev cX10_readText : ByteArray := prog_1_method_31_code
def yX10_readText : MethodName := ⟨RX10, "readText", "(I)LPatchHouse$Writing;"⟩
abbrev cX10_hasRoom : ByteArray := prog_1_method_32_code
def yX10_hasRoom : MethodName := ⟨RX10, "hasRoom", "(II)Z"⟩
abbrev cX10_append : ByteArray := prog_1_method_33_code
def yX10_append : MethodName := ⟨RX10, "append", "(IIII)I"⟩
abbrev cX10_recordByLots : ByteArray := prog_1_method_34_code
def yX10_recordByLots : MethodName := ⟨RX10, "recordByLots", "()Z"⟩
abbrev cX10_needsAt : ByteArray := prog_1_method_35_code
def yX10_needsAt : MethodName := ⟨RX10, "needsAt", "(LPatchHouse$History;I)I"⟩
abbrev cX10_needingIt : ByteArray := prog_1_method_36_code
def yX10_needingIt : MethodName := ⟨RX10, "needingIt", "(LPatchHouse$History;I)I"⟩
abbrev cX10_turned : ByteArray := prog_1_method_37_code
def yX10_turned : MethodName := ⟨RX10, "turned", "(IIII)I"⟩
def RX11 : String := "PatchHouseModel"
def TX11 : u_T := fun k => match k with
  | 0 => ("PatchHouseModel", "begun", "I", false)
  | 1 => ("PatchHouseModel", "begin", "[I", true)
  | 2 => ("PatchHouseModel", "numbers", "I", false)
  | 3 => ("PatchHouseModel", "now", "[I", true)
  | 4 => ("PatchHouseModel", "backs", "I", false)
  | 5 => ("PatchHouseModel", "back", "[I", true)
  | 6 => ("PatchHouseModel", "image", "[I", true)
  | 7 => ("PatchHouseModel", "isKept", "[Z", true)
  | 8 => ("PatchHouseModel", "shelf", "[I", true)
  | 9 => ("PatchHouseModel", "held", "[I", true)
  | 10 => ("PatchHouseModel", "shelfText", "[I", true)
  | 11 => ("PatchHouseModel", "other", "[I", true)
  | 12 => ("PatchHouseModel", "others", "I", false)
  | 13 => ("PatchHouseModel", "own", "[I", true)
  | 14 => ("PatchHouseModel", "owns", "I", false)
  | 15 => ("PatchHouseModel", "block", "[I", true)
  | 16 => ("PatchHouseModel", "blocks", "I", false)
  | 17 => ("PatchHouseModel", "tried", "[I", true)
  | 18 => ("PatchHouseModel", "coming", "[I", true)
  | 19 => ("PatchHouseModel", "text", "[I", true)
  | 20 => ("PatchHouseModel", "orders", "[I", true)
  | _ => ("PatchHouseModel", "lots", "J", false)
def tyX11 : Nat → FieldType := fun k => match k with
  | 0 => .int
  | 1 => .array .int
  | 2 => .int
  | 3 => .array .int
  | 4 => .int
  | 5 => .array .int
  | 6 => .array .int
  | 7 => .array .boolean
  | 8 => .array .int
  | 9 => .array .int
  | 10 => .array .int
  | 11 => .array .int
  | 12 => .int
  | 13 => .array .int
  | 14 => .int
  | 15 => .array .int
  | 16 => .int
  | 17 => .array .int
  | 18 => .array .int
  | 19 => .array .int
  | 20 => .array .int
  | _ => .long
abbrev wsX110 : List Cond := u_ws RX11 TX11 22
theorem nmX11 : ∀ a, a < 22 → ∀ b, b < 22 → a ≠ b → (TX11 a).2.1 ≠ (TX11 b).2.1 := by decide +kernel
theorem tyX11_ok : ∀ k, k < 22 → parseFieldDescriptor (TX11 k).2.2.1 = some (tyX11 k) := by decide +kernel
abbrev cX11_init : ByteArray := prog_13_method_1_code
def yX11_init : MethodName := ⟨RX11, "<init>", "()V"⟩
abbrev cX11_in : ByteArray := prog_13_method_2_code
def yX11_in : MethodName := ⟨RX11, "in", "(III)Z"⟩
abbrev cX11_bring : ByteArray := prog_13_method_3_code
def yX11_bring : MethodName := ⟨RX11, "bring", "([II[III)V"⟩
abbrev cX11_isHouse : ByteArray := prog_13_method_4_code
def yX11_isHouse : MethodName := ⟨RX11, "isHouse", "(I)Z"⟩
abbrev cX11_made : ByteArray := prog_13_method_5_code
def yX11_made : MethodName := ⟨RX11, "made", "(IIII)I"⟩
abbrev cX11_number : ByteArray := prog_13_method_6_code
def yX11_number : MethodName := ⟨RX11, "number", "(I)I"⟩
abbrev cX11_sort : ByteArray := prog_13_method_7_code
def yX11_sort : MethodName := ⟨RX11, "sort", "(I)I"⟩
abbrev cX11_place : ByteArray := prog_13_method_8_code
def yX11_place : MethodName := ⟨RX11, "place", "(I)I"⟩
abbrev cX11_letterOf : ByteArray := prog_13_method_9_code
def yX11_letterOf : MethodName := ⟨RX11, "letterOf", "(I)I"⟩
abbrev cX11_moved : ByteArray := prog_13_method_10_code
def yX11_moved : MethodName := ⟨RX11, "moved", "(II)I"⟩
abbrev cX11_opposite : ByteArray := prog_13_method_11_code
def yX11_opposite : MethodName := ⟨RX11, "opposite", "(I)I"⟩
abbrev cX11_turned : ByteArray := prog_13_method_12_code
def yX11_turned : MethodName := ⟨RX11, "turned", "(IIII)I"⟩
abbrev cX11_turnedBy : ByteArray := prog_13_method_13_code
def yX11_turnedBy : MethodName := ⟨RX11, "turnedBy", "(II)I"⟩
abbrev cX11_isTurned : ByteArray := prog_13_method_14_code
def yX11_isTurned : MethodName := ⟨RX11, "isTurned", "([II)Z"⟩
abbrev cX11_isBrought : ByteArray := prog_13_method_15_code
def yX11_isBrought : MethodName := ⟨RX11, "isBrought", "([III)Z"⟩
abbrev cX11_placeIn : ByteArray := prog_13_method_16_code
def yX11_placeIn : MethodName := ⟨RX11, "placeIn", "([III)I"⟩
abbrev cX11_needed : ByteArray := prog_13_method_17_code
def yX11_needed : MethodName := ⟨RX11, "needed", "([III)I"⟩
abbrev cX11_many : ByteArray := prog_13_method_18_code
def yX11_many : MethodName := ⟨RX11, "many", "(I)I"⟩
abbrev cX11_at : ByteArray := prog_13_method_19_code
def yX11_at : MethodName := ⟨RX11, "at", "(II)I"⟩
abbrev cX11_placeOf : ByteArray := prog_13_method_20_code
def yX11_placeOf : MethodName := ⟨RX11, "placeOf", "(II)I"⟩
abbrev cX11_setOf : ByteArray := prog_13_method_21_code
def yX11_setOf : MethodName := ⟨RX11, "setOf", "(I)I"⟩
abbrev cX11_done : ByteArray := prog_13_method_22_code
def yX11_done : MethodName := ⟨RX11, "done", "(III)I"⟩
abbrev cX11_layText : ByteArray := prog_13_method_23_code
def yX11_layText : MethodName := ⟨RX11, "layText", "(I)I"⟩
abbrev cX11_clear : ByteArray := prog_13_method_24_code
def yX11_clear : MethodName := ⟨RX11, "clear", "()V"⟩
abbrev cX11_anew : ByteArray := prog_13_method_25_code
def yX11_anew : MethodName := ⟨RX11, "anew", "()I"⟩
abbrev cX11_begin : ByteArray := prog_13_method_26_code
def yX11_begin : MethodName := ⟨RX11, "begin", "(I)I"⟩
abbrev cX11_note : ByteArray := prog_13_method_27_code
def yX11_note : MethodName := ⟨RX11, "note", "()V"⟩
abbrev cX11_isFull : ByteArray := prog_13_method_28_code
def yX11_isFull : MethodName := ⟨RX11, "isFull", "(III)Z"⟩
abbrev cX11_recorded : ByteArray := prog_13_method_29_code
def yX11_recorded : MethodName := ⟨RX11, "recorded", "(IIII)I"⟩
abbrev cX11_record : ByteArray := prog_13_method_30_code
def yX11_record : MethodName := ⟨RX11, "record", "(IIII)I"⟩
abbrev cX11_layOwn : ByteArray := prog_13_method_31_code
def yX11_layOwn : MethodName := ⟨RX11, "layOwn", "(I)I"⟩
abbrev cX11_takeOff : ByteArray := prog_13_method_32_code
def yX11_takeOff : MethodName := ⟨RX11, "takeOff", "(II)I"⟩
abbrev cX11_turn : ByteArray := prog_13_method_33_code
def yX11_turn : MethodName := ⟨RX11, "turn", "(II)I"⟩
abbrev cX11_fronted : ByteArray := prog_13_method_34_code
def yX11_fronted : MethodName := ⟨RX11, "fronted", "([III)I"⟩
abbrev cX11_pull : ByteArray := prog_13_method_35_code
def yX11_pull : MethodName := ⟨RX11, "pull", "(II)I"⟩
abbrev cX11_isTooMuch : ByteArray := prog_13_method_36_code
def yX11_isTooMuch : MethodName := ⟨RX11, "isTooMuch", "(II)Z"⟩
abbrev cX11_past : ByteArray := prog_13_method_37_code
def yX11_past : MethodName := ⟨RX11, "past", "(II)I"⟩
abbrev cX11_come : ByteArray := prog_13_method_38_code
def yX11_come : MethodName := ⟨RX11, "come", "(IIII)I"⟩
abbrev cX11_drawn : ByteArray := prog_13_method_39_code
def yX11_drawn : MethodName := ⟨RX11, "drawn", "(I)I"⟩
abbrev cX11_isLot : ByteArray := prog_13_method_40_code
def yX11_isLot : MethodName := ⟨RX11, "isLot", "()Z"⟩
abbrev cX11_drift : ByteArray := prog_13_method_41_code
def yX11_drift : MethodName := ⟨RX11, "drift", "(II)I"⟩
abbrev cX11_undo : ByteArray := prog_13_method_42_code
def yX11_undo : MethodName := ⟨RX11, "undo", "()I"⟩
abbrev cX11_areAlike : ByteArray := prog_13_method_43_code
def yX11_areAlike : MethodName := ⟨RX11, "areAlike", "()Z"⟩
abbrev cX11_told : ByteArray := prog_13_method_44_code
def yX11_told : MethodName := ⟨RX11, "told", "(I)I"⟩
abbrev cX11_isLaid : ByteArray := prog_13_method_45_code
def yX11_isLaid : MethodName := ⟨RX11, "isLaid", "(II)Z"⟩
abbrev cX11_lawful : ByteArray := prog_13_method_46_code
def yX11_lawful : MethodName := ⟨RX11, "lawful", "(I)I"⟩
abbrev cX11_house : ByteArray := prog_13_method_47_code
def yX11_house : MethodName := ⟨RX11, "house", "(II)I"⟩
abbrev cX11_text : ByteArray := prog_13_method_48_code
def yX11_text : MethodName := ⟨RX11, "text", "(II)I"⟩
abbrev cX11_isPlace : ByteArray := prog_13_method_49_code
def yX11_isPlace : MethodName := ⟨RX11, "isPlace", "(II)Z"⟩
abbrev cX11_shown : ByteArray := prog_13_method_50_code
def yX11_shown : MethodName := ⟨RX11, "shown", "(II)I"⟩
abbrev cX11_history : ByteArray := prog_13_method_51_code
def yX11_history : MethodName := ⟨RX11, "history", "(III)I"⟩
abbrev cX11_change : ByteArray := prog_13_method_52_code
def yX11_change : MethodName := ⟨RX11, "change", "(III)I"⟩
abbrev cX11_round : ByteArray := prog_13_method_53_code
def yX11_round : MethodName := ⟨RX11, "round", "(IIII)I"⟩
abbrev cX11_isShelf : ByteArray := prog_13_method_54_code
def yX11_isShelf : MethodName := ⟨RX11, "isShelf", "(I)Z"⟩
abbrev cX11_shelve : ByteArray := prog_13_method_55_code
def yX11_shelve : MethodName := ⟨RX11, "shelve", "(III)I"⟩
abbrev cX11_shelveText : ByteArray := prog_13_method_56_code
def yX11_shelveText : MethodName := ⟨RX11, "shelveText", "(II)I"⟩
abbrev cX11_empty : ByteArray := prog_13_method_57_code
def yX11_empty : MethodName := ⟨RX11, "empty", "(I)I"⟩
abbrev cX11_whyNot : ByteArray := prog_13_method_58_code
def yX11_whyNot : MethodName := ⟨RX11, "whyNot", "(II)I"⟩
abbrev cX11_shelved : ByteArray := prog_13_method_59_code
def yX11_shelved : MethodName := ⟨RX11, "shelved", "(II)I"⟩
abbrev cX11_letter : ByteArray := prog_13_method_60_code
def yX11_letter : MethodName := ⟨RX11, "letter", "(II)I"⟩
abbrev cX11_isText : ByteArray := prog_13_method_61_code
def yX11_isText : MethodName := ⟨RX11, "isText", "(II)I"⟩
abbrev cX11_oppose : ByteArray := prog_13_method_62_code
def yX11_oppose : MethodName := ⟨RX11, "oppose", "(II)I"⟩
abbrev cX11_keep : ByteArray := prog_13_method_63_code
def yX11_keep : MethodName := ⟨RX11, "keep", "(I)I"⟩
abbrev cX11_goBack : ByteArray := prog_13_method_64_code
def yX11_goBack : MethodName := ⟨RX11, "goBack", "(I)I"⟩
def RJ9 : String := "java/lang/Math"
def TJ9 : u_T := fun k => match k with
  | _ => ("", "", "", false)
def tyJ9 : Nat → FieldType := fun k => match k with
  | _ => .int
abbrev wsJ90 : List Cond := u_ws RJ9 TJ9 0
theorem nmJ9 : ∀ a, a < 0 → ∀ b, b < 0 → a ≠ b → (TJ9 a).2.1 ≠ (TJ9 b).2.1 := by decide +kernel
theorem tyJ9_ok : ∀ k, k < 0 → parseFieldDescriptor (TJ9 k).2.2.1 = some (tyJ9 k) := by decide +kernel
abbrev cJ9_min_7cf53 : ByteArray := prog_14_method_69_code
def yJ9_min_7cf53 : MethodName := ⟨RJ9, "min", "(II)I"⟩
def RJ10 : String := "java/lang/System"
def TJ10 : u_T := fun k => match k with
  | _ => ("", "", "", false)
def tyJ10 : Nat → FieldType := fun k => match k with
  | _ => .int
abbrev wsJ100 : List Cond := u_ws RJ10 TJ10 0
theorem nmJ10 : ∀ a, a < 0 → ∀ b, b < 0 → a ≠ b → (TJ10 a).2.1 ≠ (TJ10 b).2.1 := by decide +kernel
theorem tyJ10_ok : ∀ k, k < 0 → parseFieldDescriptor (TJ10 k).2.2.1 = some (tyJ10 k) := by decide +kernel
def RL : String := "PatchHouseLaw"
abbrev cL_law : ByteArray := code
def yL_law : MethodName := ⟨RL, "law", "([I)Z"⟩
abbrev vwCl : List vw_C := [(RX0, TX0, 5), (RX1, TX1, 3), (RX2, TX2, 1), (RX3, TX3, 4), (RX4, TX4, 5), (RX5, TX5, 3), (RX6, TX6, 5), (RX7, TX7, 3), (RX9, TX9, 2), (RX10, TX10, 12), (RX11, TX11, 22)]
end
section
theorem dec_J9_min_7cf53 : decode cJ9_min_7cf53 0 = .ok (.iload_n 0, 1) ∧ decode cJ9_min_7cf53 1 = .ok (.iload_n 1, 1) ∧ decode cJ9_min_7cf53 2 = .ok (.if_icmp .gt 7, 3) ∧ decode cJ9_min_7cf53 5 = .ok (.iload_n 0, 1) ∧ decode cJ9_min_7cf53 6 = .ok (.goto 4, 3) ∧ decode cJ9_min_7cf53 9 = .ok (.iload_n 1, 1) ∧ decode cJ9_min_7cf53 10 = .ok (.ireturn, 1) := ⟨by decide +kernel, by decide +kernel, by decide +kernel, by decide +kernel, by decide +kernel, by decide +kernel, by decide +kernel⟩
theorem dec_X0_add : decode cX0_add 0 = .ok (.aload_n 0, 1) ∧ decode cX0_add 1 = .ok (.getfield 24, 3) ∧ decode cX0_add 4 = .ok (.bipush 16, 2) ∧ decode cX0_add 6 = .ok (.if_icmp .lt 4, 3) ∧ decode cX0_add 9 = .ok (.return_, 1) ∧ decode cX0_add 10 = .ok (.aload_n 0, 1) ∧ decode cX0_add 11 = .ok (.getfield 9, 3) ∧ decode cX0_add 14 = .ok (.aload_n 0, 1) ∧ decode cX0_add 15 = .ok (.getfield 24, 3) ∧ decode cX0_add 18 = .ok (.iload_n 1, 1) ∧ decode cX0_add 19 = .ok (.iastore, 1) ∧ decode cX0_add 20 = .ok (.aload_n 0, 1) ∧ decode cX0_add 21 = .ok (.getfield 15, 3) ∧ decode cX0_add 24 = .ok (.aload_n 0, 1) ∧ decode cX0_add 25 = .ok (.getfield 24, 3) ∧ decode cX0_add 28 = .ok (.iload_n 2, 1) ∧ decode cX0_add 29 = .ok (.iastore, 1) ∧ decode cX0_add 30 = .ok (.aload_n 0, 1) ∧ decode cX0_add 31 = .ok (.getfield 18, 3) ∧ decode cX0_add 34 = .ok (.aload_n 0, 1) ∧ decode cX0_add 35 = .ok (.getfield 24, 3) ∧ decode cX0_add 38 = .ok (.iload_n 3, 1) ∧ decode cX0_add 39 = .ok (.iastore, 1) ∧ decode cX0_add 40 = .ok (.aload_n 0, 1) ∧ decode cX0_add 41 = .ok (.getfield 21, 3) ∧ decode cX0_add 44 = .ok (.aload_n 0, 1) ∧ decode cX0_add 45 = .ok (.getfield 24, 3) ∧ decode cX0_add 48 = .ok (.iload 4, 2) ∧ decode cX0_add 50 = .ok (.iastore, 1) ∧ decode cX0_add 51 = .ok (.aload_n 0, 1) ∧ decode cX0_add 52 = .ok (.dup, 1) ∧ decode cX0_add 53 = .ok (.getfield 24, 3) ∧ decode cX0_add 56 = .ok (.iconst 1, 1) ∧ decode cX0_add 57 = .ok (.iadd, 1) ∧ decode cX0_add 58 = .ok (.putfield 24, 3) ∧ decode cX0_add 61 = .ok (.return_, 1) := ⟨by decide +kernel, by decide +kernel, by decide +kernel, by decide +kernel, by decide +kernel, by decide +kernel, by decide +kernel, by decide +kernel, by decide +kernel, by decide +kernel, by decide +kernel, by decide +kernel, by decide +kernel, by decide +kernel, by decide +kernel, by decide +kernel, by decide +kernel, by decide +kernel, by decide +kernel, by decide +kernel, by decide +kernel, by decide +kernel, by decide +kernel, by decide +kernel, by decide +kernel, by decide +kernel, by decide +kernel, by decide +kernel, by decide +kernel, by decide +kernel, by decide +kernel, by decide +kernel, by decide +kernel, by decide +kernel, by decide +kernel, by decide +kernel⟩
theorem dec_X0_asSet : decode cX0_asSet 0 = .ok (.iconst 0, 1) ∧ decode cX0_asSet 1 = .ok (.istore_n 1, 1) ∧ decode cX0_asSet 2 = .ok (.iconst 0, 1) ∧ decode cX0_asSet 3 = .ok (.istore_n 2, 1) ∧ decode cX0_asSet 4 = .ok (.iload_n 2, 1) ∧ decode cX0_asSet 5 = .ok (.aload_n 0, 1) ∧ decode cX0_asSet 6 = .ok (.getfield 24, 3) ∧ decode cX0_asSet 9 = .ok (.if_icmp .ge 20, 3) ∧ decode cX0_asSet 12 = .ok (.iload_n 1, 1) ∧ decode cX0_asSet 13 = .ok (.iconst 1, 1) ∧ decode cX0_asSet 14 = .ok (.aload_n 0, 1) ∧ decode cX0_asSet 15 = .ok (.getfield 9, 3) ∧ decode cX0_asSet 18 = .ok (.iload_n 2, 1) ∧ decode cX0_asSet 19 = .ok (.iaload, 1) ∧ decode cX0_asSet 20 = .ok (.ishl, 1) ∧ decode cX0_asSet 21 = .ok (.ior, 1) ∧ decode cX0_asSet 22 = .ok (.istore_n 1, 1) ∧ decode cX0_asSet 23 = .ok (.iinc 2 1, 3) ∧ decode cX0_asSet 26 = .ok (.goto (-22), 3) ∧ decode cX0_asSet 29 = .ok (.iload_n 1, 1) ∧ decode cX0_asSet 30 = .ok (.ireturn, 1) := ⟨by decide +kernel, by decide +kernel, by decide +kernel, by decide +kernel, by decide +kernel, by decide +kernel, by decide +kernel, by decide +kernel, by decide +kernel, by decide +kernel, by decide +kernel, by decide +kernel, by decide +kernel, by decide +kernel, by decide +kernel, by decide +kernel, by decide +kernel, by decide +kernel, by decide +kernel, by decide +kernel, by decide +kernel⟩
theorem dec_X0_bring : decode cX0_bring 0 = .ok (.iconst 1, 1) ∧ decode cX0_bring 1 = .ok (.istore_n 3, 1) ∧ decode cX0_bring 2 = .ok (.iload_n 1, 1) ∧ decode cX0_bring 3 = .ok (.istore 4, 2) ∧ decode cX0_bring 5 = .ok (.iload 4, 2) ∧ decode cX0_bring 7 = .ok (.iload_n 2, 1) ∧ decode cX0_bring 8 = .ok (.if_icmp .ge 20, 3) ∧ decode cX0_bring 11 = .ok (.iload_n 3, 1) ∧ decode cX0_bring 12 = .ok (.ifCond .eq 16, 3) ∧ decode cX0_bring 15 = .ok (.aload_n 0, 1) ∧ decode cX0_bring 16 = .ok (.iload 4, 2) ∧ decode cX0_bring 18 = .ok (.invokevirtual 49, 3) ∧ decode cX0_bring 21 = .ok (.istore_n 3, 1) ∧ decode cX0_bring 22 = .ok (.iinc 4 1, 3) ∧ decode cX0_bring 25 = .ok (.goto (-20), 3) ∧ decode cX0_bring 28 = .ok (.iload_n 1, 1) ∧ decode cX0_bring 29 = .ok (.istore 4, 2) ∧ decode cX0_bring 31 = .ok (.iload 4, 2) ∧ decode cX0_bring 33 = .ok (.iload_n 2, 1) ∧ decode cX0_bring 34 = .ok (.if_icmp .le 22, 3) ∧ decode cX0_bring 37 = .ok (.iload_n 3, 1) ∧ decode cX0_bring 38 = .ok (.ifCond .eq 18, 3) ∧ decode cX0_bring 41 = .ok (.aload_n 0, 1) ∧ decode cX0_bring 42 = .ok (.iload 4, 2) ∧ decode cX0_bring 44 = .ok (.iconst 1, 1) ∧ decode cX0_bring 45 = .ok (.isub, 1) ∧ decode cX0_bring 46 = .ok (.invokevirtual 49, 3) ∧ decode cX0_bring 49 = .ok (.istore_n 3, 1) ∧ decode cX0_bring 50 = .ok (.iinc 4 (-1), 3) ∧ decode cX0_bring 53 = .ok (.goto (-22), 3) ∧ decode cX0_bring 56 = .ok (.iload_n 3, 1) ∧ decode cX0_bring 57 = .ok (.ireturn, 1) := ⟨by decide +kernel, by decide +kernel, by decide +kernel, by decide +kernel, by decide +kernel, by decide +kernel, by decide +kernel, by decide +kernel, by decide +kernel, by decide +kernel, by decide +kernel, by decide +kernel, by decide +kernel, by decide +kernel, by decide +kernel, by decide +kernel, by decide +kernel, by decide +kernel, by decide +kernel, by decide +kernel, by decide +kernel, by decide +kernel, by decide +kernel, by decide +kernel, by decide +kernel, by decide +kernel, by decide +kernel, by decide +kernel, by decide +kernel, by decide +kernel, by decide +kernel, by decide +kernel⟩
theorem dec_X0_bringToFront : decode cX0_bringToFront 0 = .ok (.iconst 0, 1) ∧ decode cX0_bringToFront 1 = .ok (.istore_n 2, 1) ∧ decode cX0_bringToFront 2 = .ok (.iconst 0, 1) ∧ decode cX0_bringToFront 3 = .ok (.istore_n 3, 1) ∧ decode cX0_bringToFront 4 = .ok (.iload_n 3, 1) ∧ decode cX0_bringToFront 5 = .ok (.aload_n 0, 1) ∧ decode cX0_bringToFront 6 = .ok (.getfield 24, 3) ∧ decode cX0_bringToFront 9 = .ok (.if_icmp .ge 37, 3) ∧ decode cX0_bringToFront 12 = .ok (.iload_n 1, 1) ∧ decode cX0_bringToFront 13 = .ok (.aload_n 0, 1) ∧ decode cX0_bringToFront 14 = .ok (.getfield 9, 3) ∧ decode cX0_bringToFront 17 = .ok (.iload_n 3, 1) ∧ decode cX0_bringToFront 18 = .ok (.iaload, 1) ∧ decode cX0_bringToFront 19 = .ok (.ishr, 1) ∧ decode cX0_bringToFront 20 = .ok (.iconst 1, 1) ∧ decode cX0_bringToFront 21 = .ok (.iand, 1) ∧ decode cX0_bringToFront 22 = .ok (.iconst 1, 1) ∧ decode cX0_bringToFront 23 = .ok (.if_icmp .ne 17, 3) ∧ decode cX0_bringToFront 26 = .ok (.aload_n 0, 1) ∧ decode cX0_bringToFront 27 = .ok (.iload_n 3, 1) ∧ decode cX0_bringToFront 28 = .ok (.iload_n 2, 1) ∧ decode cX0_bringToFront 29 = .ok (.invokevirtual 52, 3) ∧ decode cX0_bringToFront 32 = .ok (.ifCond .ne 5, 3) ∧ decode cX0_bringToFront 35 = .ok (.iconst (-1), 1) ∧ decode cX0_bringToFront 36 = .ok (.ireturn, 1) ∧ decode cX0_bringToFront 37 = .ok (.iinc 2 1, 3) ∧ decode cX0_bringToFront 40 = .ok (.iinc 3 1, 3) ∧ decode cX0_bringToFront 43 = .ok (.goto (-39), 3) ∧ decode cX0_bringToFront 46 = .ok (.iload_n 2, 1) ∧ decode cX0_bringToFront 47 = .ok (.ireturn, 1) := ⟨by decide +kernel, by decide +kernel, by decide +kernel, by decide +kernel, by decide +kernel, by decide +kernel, by decide +kernel, by decide +kernel, by decide +kernel, by decide +kernel, by decide +kernel, by decide +kernel, by decide +kernel, by decide +kernel, by decide +kernel, by decide +kernel, by decide +kernel, by decide +kernel, by decide +kernel, by decide +kernel, by decide +kernel, by decide +kernel, by decide +kernel, by decide +kernel, by decide +kernel, by decide +kernel, by decide +kernel, by decide +kernel, by decide +kernel, by decide +kernel⟩
theorem dec_X0_canGoBehind : decode cX0_canGoBehind 0 = .ok (.aload_n 0, 1) ∧ decode cX0_canGoBehind 1 = .ok (.iload_n 1, 1) ∧ decode cX0_canGoBehind 2 = .ok (.invokevirtual 42, 3) ∧ decode cX0_canGoBehind 5 = .ok (.ifCond .eq 11, 3) ∧ decode cX0_canGoBehind 8 = .ok (.aload_n 0, 1) ∧ decode cX0_canGoBehind 9 = .ok (.iload_n 2, 1) ∧ decode cX0_canGoBehind 10 = .ok (.invokevirtual 42, 3) ∧ decode cX0_canGoBehind 13 = .ok (.ifCond .ne 5, 3) ∧ decode cX0_canGoBehind 16 = .ok (.iconst 0, 1) ∧ decode cX0_canGoBehind 17 = .ok (.ireturn, 1) ∧ decode cX0_canGoBehind 18 = .ok (.aload_n 0, 1) ∧ decode cX0_canGoBehind 19 = .ok (.getfield 18, 3) ∧ decode cX0_canGoBehind 22 = .ok (.iload_n 1, 1) ∧ decode cX0_canGoBehind 23 = .ok (.iaload, 1) ∧ decode cX0_canGoBehind 24 = .ok (.istore_n 3, 1) ∧ decode cX0_canGoBehind 25 = .ok (.iload_n 1, 1) ∧ decode cX0_canGoBehind 26 = .ok (.iconst 1, 1) ∧ decode cX0_canGoBehind 27 = .ok (.iadd, 1) ∧ decode cX0_canGoBehind 28 = .ok (.istore 4, 2) ∧ decode cX0_canGoBehind 30 = .ok (.iload 4, 2) ∧ decode cX0_canGoBehind 32 = .ok (.iload_n 2, 1) ∧ decode cX0_canGoBehind 33 = .ok (.if_icmp .gt 49, 3) ∧ decode cX0_canGoBehind 36 = .ok (.aload_n 0, 1) ∧ decode cX0_canGoBehind 37 = .ok (.getfield 15, 3) ∧ decode cX0_canGoBehind 40 = .ok (.iload_n 1, 1) ∧ decode cX0_canGoBehind 41 = .ok (.iaload, 1) ∧ decode cX0_canGoBehind 42 = .ok (.iload_n 3, 1) ∧ decode cX0_canGoBehind 43 = .ok (.aload_n 0, 1) ∧ decode cX0_canGoBehind 44 = .ok (.getfield 15, 3) ∧ decode cX0_canGoBehind 47 = .ok (.iload 4, 2) ∧ decode cX0_canGoBehind 49 = .ok (.iaload, 1) ∧ decode cX0_canGoBehind 50 = .ok (.aload_n 0, 1) ∧ decode cX0_canGoBehind 51 = .ok (.getfield 18, 3) ∧ decode cX0_canGoBehind 54 = .ok (.iload 4, 2) ∧ decode cX0_canGoBehind 56 = .ok (.iaload, 1) ∧ decode cX0_canGoBehind 57 = .ok (.invokestatic 38, 3) ∧ decode cX0_canGoBehind 60 = .ok (.istore 5, 2) ∧ decode cX0_canGoBehind 62 = .ok (.iload 5, 2) ∧ decode cX0_canGoBehind 64 = .ok (.iconst (-1), 1) ∧ decode cX0_canGoBehind 65 = .ok (.if_icmp .ne 5, 3) ∧ decode cX0_canGoBehind 68 = .ok (.iconst 0, 1) ∧ decode cX0_canGoBehind 69 = .ok (.ireturn, 1) ∧ decode cX0_canGoBehind 70 = .ok (.iload 5, 2) ∧ decode cX0_canGoBehind 72 = .ok (.bipush 100, 2) ∧ decode cX0_canGoBehind 74 = .ok (.irem, 1) ∧ decode cX0_canGoBehind 75 = .ok (.istore_n 3, 1) ∧ decode cX0_canGoBehind 76 = .ok (.iinc 4 1, 3) ∧ decode cX0_canGoBehind 79 = .ok (.goto (-49), 3) ∧ decode cX0_canGoBehind 82 = .ok (.iconst 1, 1) ∧ decode cX0_canGoBehind 83 = .ok (.ireturn, 1) := ⟨by decide +kernel, by decide +kernel, by decide +kernel, by decide +kernel, by decide +kernel, by decide +kernel, by decide +kernel, by decide +kernel, by decide +kernel, by decide +kernel, by decide +kernel, by decide +kernel, by decide +kernel, by decide +kernel, by decide +kernel, by decide +kernel, by decide +kernel, by decide +kernel, by decide +kernel, by decide +kernel, by decide +kernel, by decide +kernel, by decide +kernel, by decide +kernel, by decide +kernel, by decide +kernel, by decide +kernel, by decide +kernel, by decide +kernel, by decide +kernel, by decide +kernel, by decide +kernel, by decide +kernel, by decide +kernel, by decide +kernel, by decide +kernel, by decide +kernel, by decide +kernel, by decide +kernel, by decide +kernel, by decide +kernel, by decide +kernel, by decide +kernel, by decide +kernel, by decide +kernel, by decide +kernel, by decide +kernel, by decide +kernel, by decide +kernel, by decide +kernel⟩
theorem dec_X0_canGoToEnd : decode cX0_canGoToEnd 0 = .ok (.aload_n 0, 1) ∧ decode cX0_canGoToEnd 1 = .ok (.iload_n 1, 1) ∧ decode cX0_canGoToEnd 2 = .ok (.aload_n 0, 1) ∧ decode cX0_canGoToEnd 3 = .ok (.getfield 24, 3) ∧ decode cX0_canGoToEnd 6 = .ok (.iconst 1, 1) ∧ decode cX0_canGoToEnd 7 = .ok (.isub, 1) ∧ decode cX0_canGoToEnd 8 = .ok (.invokevirtual 45, 3) ∧ decode cX0_canGoToEnd 11 = .ok (.ireturn, 1) := ⟨by decide +kernel, by decide +kernel, by decide +kernel, by decide +kernel, by decide +kernel, by decide +kernel, by decide +kernel, by decide +kernel⟩
theorem dec_X0_copyFrom : decode cX0_copyFrom 0 = .ok (.aload_n 1, 1) ∧ decode cX0_copyFrom 1 = .ok (.getfield 9, 3) ∧ decode cX0_copyFrom 4 = .ok (.iconst 0, 1) ∧ decode cX0_copyFrom 5 = .ok (.aload_n 0, 1) ∧ decode cX0_copyFrom 6 = .ok (.getfield 9, 3) ∧ decode cX0_copyFrom 9 = .ok (.iconst 0, 1) ∧ decode cX0_copyFrom 10 = .ok (.aload_n 1, 1) ∧ decode cX0_copyFrom 11 = .ok (.getfield 24, 3) ∧ decode cX0_copyFrom 14 = .ok (.invokestatic 28, 3) ∧ decode cX0_copyFrom 17 = .ok (.aload_n 1, 1) ∧ decode cX0_copyFrom 18 = .ok (.getfield 15, 3) ∧ decode cX0_copyFrom 21 = .ok (.iconst 0, 1) ∧ decode cX0_copyFrom 22 = .ok (.aload_n 0, 1) ∧ decode cX0_copyFrom 23 = .ok (.getfield 15, 3) ∧ decode cX0_copyFrom 26 = .ok (.iconst 0, 1) ∧ decode cX0_copyFrom 27 = .ok (.aload_n 1, 1) ∧ decode cX0_copyFrom 28 = .ok (.getfield 24, 3) ∧ decode cX0_copyFrom 31 = .ok (.invokestatic 28, 3) ∧ decode cX0_copyFrom 34 = .ok (.aload_n 1, 1) ∧ decode cX0_copyFrom 35 = .ok (.getfield 18, 3) ∧ decode cX0_copyFrom 38 = .ok (.iconst 0, 1) ∧ decode cX0_copyFrom 39 = .ok (.aload_n 0, 1) ∧ decode cX0_copyFrom 40 = .ok (.getfield 18, 3) ∧ decode cX0_copyFrom 43 = .ok (.iconst 0, 1) ∧ decode cX0_copyFrom 44 = .ok (.aload_n 1, 1) ∧ decode cX0_copyFrom 45 = .ok (.getfield 24, 3) ∧ decode cX0_copyFrom 48 = .ok (.invokestatic 28, 3) ∧ decode cX0_copyFrom 51 = .ok (.aload_n 1, 1) ∧ decode cX0_copyFrom 52 = .ok (.getfield 21, 3) ∧ decode cX0_copyFrom 55 = .ok (.iconst 0, 1) ∧ decode cX0_copyFrom 56 = .ok (.aload_n 0, 1) ∧ decode cX0_copyFrom 57 = .ok (.getfield 21, 3) ∧ decode cX0_copyFrom 60 = .ok (.iconst 0, 1) ∧ decode cX0_copyFrom 61 = .ok (.aload_n 1, 1) ∧ decode cX0_copyFrom 62 = .ok (.getfield 24, 3) ∧ decode cX0_copyFrom 65 = .ok (.invokestatic 28, 3) ∧ decode cX0_copyFrom 68 = .ok (.aload_n 0, 1) ∧ decode cX0_copyFrom 69 = .ok (.aload_n 1, 1) ∧ decode cX0_copyFrom 70 = .ok (.getfield 24, 3) ∧ decode cX0_copyFrom 73 = .ok (.putfield 24, 3) ∧ decode cX0_copyFrom 76 = .ok (.return_, 1) := ⟨by decide +kernel, by decide +kernel, by decide +kernel, by decide +kernel, by decide +kernel, by decide +kernel, by decide +kernel, by decide +kernel, by decide +kernel, by decide +kernel, by decide +kernel, by decide +kernel, by decide +kernel, by decide +kernel, by decide +kernel, by decide +kernel, by decide +kernel, by decide +kernel, by decide +kernel, by decide +kernel, by decide +kernel, by decide +kernel, by decide +kernel, by decide +kernel, by decide +kernel, by decide +kernel, by decide +kernel, by decide +kernel, by decide +kernel, by decide +kernel, by decide +kernel, by decide +kernel, by decide +kernel, by decide +kernel, by decide +kernel, by decide +kernel, by decide +kernel, by decide +kernel, by decide +kernel, by decide +kernel, by decide +kernel⟩
theorem dec_X0_find : decode cX0_find 0 = .ok (.iconst 0, 1) ∧ decode cX0_find 1 = .ok (.istore_n 2, 1) ∧ decode cX0_find 2 = .ok (.iload_n 2, 1) ∧ decode cX0_find 3 = .ok (.aload_n 0, 1) ∧ decode cX0_find 4 = .ok (.getfield 24, 3) ∧ decode cX0_find 7 = .ok (.if_icmp .ge 21, 3) ∧ decode cX0_find 10 = .ok (.aload_n 0, 1) ∧ decode cX0_find 11 = .ok (.getfield 9, 3) ∧ decode cX0_find 14 = .ok (.iload_n 2, 1) ∧ decode cX0_find 15 = .ok (.iaload, 1) ∧ decode cX0_find 16 = .ok (.iload_n 1, 1) ∧ decode cX0_find 17 = .ok (.if_icmp .ne 5, 3) ∧ decode cX0_find 20 = .ok (.iload_n 2, 1) ∧ decode cX0_find 21 = .ok (.ireturn, 1) ∧ decode cX0_find 22 = .ok (.iinc 2 1, 3) ∧ decode cX0_find 25 = .ok (.goto (-23), 3) ∧ decode cX0_find 28 = .ok (.iconst (-1), 1) ∧ decode cX0_find 29 = .ok (.ireturn, 1) := ⟨by decide +kernel, by decide +kernel, by decide +kernel, by decide +kernel, by decide +kernel, by decide +kernel, by decide +kernel, by decide +kernel, by decide +kernel, by decide +kernel, by decide +kernel, by decide +kernel, by decide +kernel, by decide +kernel, by decide +kernel, by decide +kernel, by decide +kernel, by decide +kernel⟩
theorem dec_X0_gather : decode cX0_gather 0 = .ok (.iload_n 1, 1) ∧ decode cX0_gather 1 = .ok (.istore_n 3, 1) ∧ decode cX0_gather 2 = .ok (.iload_n 1, 1) ∧ decode cX0_gather 3 = .ok (.iconst 1, 1) ∧ decode cX0_gather 4 = .ok (.isub, 1) ∧ decode cX0_gather 5 = .ok (.istore 4, 2) ∧ decode cX0_gather 7 = .ok (.iload 4, 2) ∧ decode cX0_gather 9 = .ok (.iload_n 2, 1) ∧ decode cX0_gather 10 = .ok (.if_icmp .lt 30, 3) ∧ decode cX0_gather 13 = .ok (.aload_n 0, 1) ∧ decode cX0_gather 14 = .ok (.iload 4, 2) ∧ decode cX0_gather 16 = .ok (.iload_n 3, 1) ∧ decode cX0_gather 17 = .ok (.invokevirtual 45, 3) ∧ decode cX0_gather 20 = .ok (.ifCond .eq 14, 3) ∧ decode cX0_gather 23 = .ok (.aload_n 0, 1) ∧ decode cX0_gather 24 = .ok (.iload 4, 2) ∧ decode cX0_gather 26 = .ok (.iload_n 3, 1) ∧ decode cX0_gather 27 = .ok (.invokevirtual 52, 3) ∧ decode cX0_gather 30 = .ok (.pop, 1) ∧ decode cX0_gather 31 = .ok (.iinc 3 (-1), 3) ∧ decode cX0_gather 34 = .ok (.iinc 4 (-1), 3) ∧ decode cX0_gather 37 = .ok (.goto (-30), 3) ∧ decode cX0_gather 40 = .ok (.iload_n 3, 1) ∧ decode cX0_gather 41 = .ok (.iload_n 2, 1) ∧ decode cX0_gather 42 = .ok (.isub, 1) ∧ decode cX0_gather 43 = .ok (.ireturn, 1) := ⟨by decide +kernel, by decide +kernel, by decide +kernel, by decide +kernel, by decide +kernel, by decide +kernel, by decide +kernel, by decide +kernel, by decide +kernel, by decide +kernel, by decide +kernel, by decide +kernel, by decide +kernel, by decide +kernel, by decide +kernel, by decide +kernel, by decide +kernel, by decide +kernel, by decide +kernel, by decide +kernel, by decide +kernel, by decide +kernel, by decide +kernel, by decide +kernel, by decide +kernel, by decide +kernel⟩
theorem dec_X0_hasPair : decode cX0_hasPair 0 = .ok (.iload_n 1, 1) ∧ decode cX0_hasPair 1 = .ok (.ifCond .lt 17, 3) ∧ decode cX0_hasPair 4 = .ok (.iload_n 1, 1) ∧ decode cX0_hasPair 5 = .ok (.aload_n 0, 1) ∧ decode cX0_hasPair 6 = .ok (.getfield 24, 3) ∧ decode cX0_hasPair 9 = .ok (.iconst 1, 1) ∧ decode cX0_hasPair 10 = .ok (.isub, 1) ∧ decode cX0_hasPair 11 = .ok (.if_icmp .ge 7, 3) ∧ decode cX0_hasPair 14 = .ok (.iconst 1, 1) ∧ decode cX0_hasPair 15 = .ok (.goto 4, 3) ∧ decode cX0_hasPair 18 = .ok (.iconst 0, 1) ∧ decode cX0_hasPair 19 = .ok (.ireturn, 1) := ⟨by decide +kernel, by decide +kernel, by decide +kernel, by decide +kernel, by decide +kernel, by decide +kernel, by decide +kernel, by decide +kernel, by decide +kernel, by decide +kernel, by decide +kernel, by decide +kernel⟩
theorem dec_X0_hasPlace : decode cX0_hasPlace 0 = .ok (.iload_n 1, 1) ∧ decode cX0_hasPlace 1 = .ok (.ifCond .lt 15, 3) ∧ decode cX0_hasPlace 4 = .ok (.iload_n 1, 1) ∧ decode cX0_hasPlace 5 = .ok (.aload_n 0, 1) ∧ decode cX0_hasPlace 6 = .ok (.getfield 24, 3) ∧ decode cX0_hasPlace 9 = .ok (.if_icmp .ge 7, 3) ∧ decode cX0_hasPlace 12 = .ok (.iconst 1, 1) ∧ decode cX0_hasPlace 13 = .ok (.goto 4, 3) ∧ decode cX0_hasPlace 16 = .ok (.iconst 0, 1) ∧ decode cX0_hasPlace 17 = .ok (.ireturn, 1) := ⟨by decide +kernel, by decide +kernel, by decide +kernel, by decide +kernel, by decide +kernel, by decide +kernel, by decide +kernel, by decide +kernel, by decide +kernel, by decide +kernel⟩
theorem dec_X0_init : decode cX0_init 0 = .ok (.aload_n 0, 1) ∧ decode cX0_init 1 = .ok (.invokespecial 3, 3) ∧ decode cX0_init 4 = .ok (.aload_n 0, 1) ∧ decode cX0_init 5 = .ok (.bipush 16, 2) ∧ decode cX0_init 7 = .ok (.newarray .int, 2) ∧ decode cX0_init 9 = .ok (.putfield 9, 3) ∧ decode cX0_init 12 = .ok (.aload_n 0, 1) ∧ decode cX0_init 13 = .ok (.bipush 16, 2) ∧ decode cX0_init 15 = .ok (.newarray .int, 2) ∧ decode cX0_init 17 = .ok (.putfield 15, 3) ∧ decode cX0_init 20 = .ok (.aload_n 0, 1) ∧ decode cX0_init 21 = .ok (.bipush 16, 2) ∧ decode cX0_init 23 = .ok (.newarray .int, 2) ∧ decode cX0_init 25 = .ok (.putfield 18, 3) ∧ decode cX0_init 28 = .ok (.aload_n 0, 1) ∧ decode cX0_init 29 = .ok (.bipush 16, 2) ∧ decode cX0_init 31 = .ok (.newarray .int, 2) ∧ decode cX0_init 33 = .ok (.putfield 21, 3) ∧ decode cX0_init 36 = .ok (.return_, 1) := ⟨by decide +kernel, by decide +kernel, by decide +kernel, by decide +kernel, by decide +kernel, by decide +kernel, by decide +kernel, by decide +kernel, by decide +kernel, by decide +kernel, by decide +kernel, by decide +kernel, by decide +kernel, by decide +kernel, by decide +kernel, by decide +kernel, by decide +kernel, by decide +kernel, by decide +kernel⟩
theorem dec_X0_pairAt : decode cX0_pairAt 0 = .ok (.aload_n 0, 1) ∧ decode cX0_pairAt 1 = .ok (.iload_n 1, 1) ∧ decode cX0_pairAt 2 = .ok (.invokevirtual 34, 3) ∧ decode cX0_pairAt 5 = .ok (.ifCond .eq 37, 3) ∧ decode cX0_pairAt 8 = .ok (.aload_n 0, 1) ∧ decode cX0_pairAt 9 = .ok (.getfield 15, 3) ∧ decode cX0_pairAt 12 = .ok (.iload_n 1, 1) ∧ decode cX0_pairAt 13 = .ok (.iaload, 1) ∧ decode cX0_pairAt 14 = .ok (.aload_n 0, 1) ∧ decode cX0_pairAt 15 = .ok (.getfield 18, 3) ∧ decode cX0_pairAt 18 = .ok (.iload_n 1, 1) ∧ decode cX0_pairAt 19 = .ok (.iaload, 1) ∧ decode cX0_pairAt 20 = .ok (.aload_n 0, 1) ∧ decode cX0_pairAt 21 = .ok (.getfield 15, 3) ∧ decode cX0_pairAt 24 = .ok (.iload_n 1, 1) ∧ decode cX0_pairAt 25 = .ok (.iconst 1, 1) ∧ decode cX0_pairAt 26 = .ok (.iadd, 1) ∧ decode cX0_pairAt 27 = .ok (.iaload, 1) ∧ decode cX0_pairAt 28 = .ok (.aload_n 0, 1) ∧ decode cX0_pairAt 29 = .ok (.getfield 18, 3) ∧ decode cX0_pairAt 32 = .ok (.iload_n 1, 1) ∧ decode cX0_pairAt 33 = .ok (.iconst 1, 1) ∧ decode cX0_pairAt 34 = .ok (.iadd, 1) ∧ decode cX0_pairAt 35 = .ok (.iaload, 1) ∧ decode cX0_pairAt 36 = .ok (.invokestatic 38, 3) ∧ decode cX0_pairAt 39 = .ok (.goto 4, 3) ∧ decode cX0_pairAt 42 = .ok (.iconst (-1), 1) ∧ decode cX0_pairAt 43 = .ok (.ireturn, 1) := ⟨by decide +kernel, by decide +kernel, by decide +kernel, by decide +kernel, by decide +kernel, by decide +kernel, by decide +kernel, by decide +kernel, by decide +kernel, by decide +kernel, by decide +kernel, by decide +kernel, by decide +kernel, by decide +kernel, by decide +kernel, by decide +kernel, by decide +kernel, by decide +kernel, by decide +kernel, by decide +kernel, by decide +kernel, by decide +kernel, by decide +kernel, by decide +kernel, by decide +kernel, by decide +kernel, by decide +kernel, by decide +kernel⟩
theorem dec_X0_swap : decode cX0_swap 0 = .ok (.aload_n 0, 1) ∧ decode cX0_swap 1 = .ok (.iload_n 1, 1) ∧ decode cX0_swap 2 = .ok (.invokevirtual 34, 3) ∧ decode cX0_swap 5 = .ok (.ifCond .ne 5, 3) ∧ decode cX0_swap 8 = .ok (.iconst 0, 1) ∧ decode cX0_swap 9 = .ok (.ireturn, 1) ∧ decode cX0_swap 10 = .ok (.aload_n 0, 1) ∧ decode cX0_swap 11 = .ok (.getfield 15, 3) ∧ decode cX0_swap 14 = .ok (.iload_n 1, 1) ∧ decode cX0_swap 15 = .ok (.iaload, 1) ∧ decode cX0_swap 16 = .ok (.aload_n 0, 1) ∧ decode cX0_swap 17 = .ok (.getfield 18, 3) ∧ decode cX0_swap 20 = .ok (.iload_n 1, 1) ∧ decode cX0_swap 21 = .ok (.iaload, 1) ∧ decode cX0_swap 22 = .ok (.aload_n 0, 1) ∧ decode cX0_swap 23 = .ok (.getfield 15, 3) ∧ decode cX0_swap 26 = .ok (.iload_n 1, 1) ∧ decode cX0_swap 27 = .ok (.iconst 1, 1) ∧ decode cX0_swap 28 = .ok (.iadd, 1) ∧ decode cX0_swap 29 = .ok (.iaload, 1) ∧ decode cX0_swap 30 = .ok (.aload_n 0, 1) ∧ decode cX0_swap 31 = .ok (.getfield 18, 3) ∧ decode cX0_swap 34 = .ok (.iload_n 1, 1) ∧ decode cX0_swap 35 = .ok (.iconst 1, 1) ∧ decode cX0_swap 36 = .ok (.iadd, 1) ∧ decode cX0_swap 37 = .ok (.iaload, 1) ∧ decode cX0_swap 38 = .ok (.invokestatic 38, 3) ∧ decode cX0_swap 41 = .ok (.istore_n 2, 1) ∧ decode cX0_swap 42 = .ok (.iload_n 2, 1) ∧ decode cX0_swap 43 = .ok (.iconst (-1), 1) ∧ decode cX0_swap 44 = .ok (.if_icmp .ne 5, 3) ∧ decode cX0_swap 47 = .ok (.iconst 0, 1) ∧ decode cX0_swap 48 = .ok (.ireturn, 1) ∧ decode cX0_swap 49 = .ok (.aload_n 0, 1) ∧ decode cX0_swap 50 = .ok (.getfield 9, 3) ∧ decode cX0_swap 53 = .ok (.iload_n 1, 1) ∧ decode cX0_swap 54 = .ok (.iaload, 1) ∧ decode cX0_swap 55 = .ok (.istore_n 3, 1) ∧ decode cX0_swap 56 = .ok (.aload_n 0, 1) ∧ decode cX0_swap 57 = .ok (.getfield 15, 3) ∧ decode cX0_swap 60 = .ok (.iload_n 1, 1) ∧ decode cX0_swap 61 = .ok (.iaload, 1) ∧ decode cX0_swap 62 = .ok (.istore 4, 2) ∧ decode cX0_swap 64 = .ok (.aload_n 0, 1) ∧ decode cX0_swap 65 = .ok (.getfield 21, 3) ∧ decode cX0_swap 68 = .ok (.iload_n 1, 1) ∧ decode cX0_swap 69 = .ok (.iaload, 1) ∧ decode cX0_swap 70 = .ok (.istore 5, 2) ∧ decode cX0_swap 72 = .ok (.aload_n 0, 1) ∧ decode cX0_swap 73 = .ok (.getfield 9, 3) ∧ decode cX0_swap 76 = .ok (.iload_n 1, 1) ∧ decode cX0_swap 77 = .ok (.aload_n 0, 1) ∧ decode cX0_swap 78 = .ok (.getfield 9, 3) ∧ decode cX0_swap 81 = .ok (.iload_n 1, 1) ∧ decode cX0_swap 82 = .ok (.iconst 1, 1) ∧ decode cX0_swap 83 = .ok (.iadd, 1) ∧ decode cX0_swap 84 = .ok (.iaload, 1) ∧ decode cX0_swap 85 = .ok (.iastore, 1) ∧ decode cX0_swap 86 = .ok (.aload_n 0, 1) ∧ decode cX0_swap 87 = .ok (.getfield 15, 3) ∧ decode cX0_swap 90 = .ok (.iload_n 1, 1) ∧ decode cX0_swap 91 = .ok (.aload_n 0, 1) ∧ decode cX0_swap 92 = .ok (.getfield 15, 3) ∧ decode cX0_swap 95 = .ok (.iload_n 1, 1) ∧ decode cX0_swap 96 = .ok (.iconst 1, 1) ∧ decode cX0_swap 97 = .ok (.iadd, 1) ∧ decode cX0_swap 98 = .ok (.iaload, 1) ∧ decode cX0_swap 99 = .ok (.iastore, 1) ∧ decode cX0_swap 100 = .ok (.aload_n 0, 1) ∧ decode cX0_swap 101 = .ok (.getfield 21, 3) ∧ decode cX0_swap 104 = .ok (.iload_n 1, 1) ∧ decode cX0_swap 105 = .ok (.aload_n 0, 1) ∧ decode cX0_swap 106 = .ok (.getfield 21, 3) ∧ decode cX0_swap 109 = .ok (.iload_n 1, 1) ∧ decode cX0_swap 110 = .ok (.iconst 1, 1) ∧ decode cX0_swap 111 = .ok (.iadd, 1) ∧ decode cX0_swap 112 = .ok (.iaload, 1) ∧ decode cX0_swap 113 = .ok (.iastore, 1) ∧ decode cX0_swap 114 = .ok (.aload_n 0, 1) ∧ decode cX0_swap 115 = .ok (.getfield 18, 3) ∧ decode cX0_swap 118 = .ok (.iload_n 1, 1) ∧ decode cX0_swap 119 = .ok (.iload_n 2, 1) ∧ decode cX0_swap 120 = .ok (.bipush 100, 2) ∧ decode cX0_swap 122 = .ok (.idiv, 1) ∧ decode cX0_swap 123 = .ok (.iastore, 1) ∧ decode cX0_swap 124 = .ok (.aload_n 0, 1) ∧ decode cX0_swap 125 = .ok (.getfield 9, 3) ∧ decode cX0_swap 128 = .ok (.iload_n 1, 1) ∧ decode cX0_swap 129 = .ok (.iconst 1, 1) ∧ decode cX0_swap 130 = .ok (.iadd, 1) ∧ decode cX0_swap 131 = .ok (.iload_n 3, 1) ∧ decode cX0_swap 132 = .ok (.iastore, 1) ∧ decode cX0_swap 133 = .ok (.aload_n 0, 1) ∧ decode cX0_swap 134 = .ok (.getfield 15, 3) ∧ decode cX0_swap 137 = .ok (.iload_n 1, 1) ∧ decode cX0_swap 138 = .ok (.iconst 1, 1) ∧ decode cX0_swap 139 = .ok (.iadd, 1) ∧ decode cX0_swap 140 = .ok (.iload 4, 2) ∧ decode cX0_swap 142 = .ok (.iastore, 1) ∧ decode cX0_swap 143 = .ok (.aload_n 0, 1) ∧ decode cX0_swap 144 = .ok (.getfield 21, 3) ∧ decode cX0_swap 147 = .ok (.iload_n 1, 1) ∧ decode cX0_swap 148 = .ok (.iconst 1, 1) ∧ decode cX0_swap 149 = .ok (.iadd, 1) ∧ decode cX0_swap 150 = .ok (.iload 5, 2) ∧ decode cX0_swap 152 = .ok (.iastore, 1) ∧ decode cX0_swap 153 = .ok (.aload_n 0, 1) ∧ decode cX0_swap 154 = .ok (.getfield 18, 3) ∧ decode cX0_swap 157 = .ok (.iload_n 1, 1) ∧ decode cX0_swap 158 = .ok (.iconst 1, 1) ∧ decode cX0_swap 159 = .ok (.iadd, 1) ∧ decode cX0_swap 160 = .ok (.iload_n 2, 1) ∧ decode cX0_swap 161 = .ok (.bipush 100, 2) ∧ decode cX0_swap 163 = .ok (.irem, 1) ∧ decode cX0_swap 164 = .ok (.iastore, 1) ∧ decode cX0_swap 165 = .ok (.iconst 1, 1) ∧ decode cX0_swap 166 = .ok (.ireturn, 1) := ⟨by decide +kernel, by decide +kernel, by decide +kernel, by decide +kernel, by decide +kernel, by decide +kernel, by decide +kernel, by decide +kernel, by decide +kernel, by decide +kernel, by decide +kernel, by decide +kernel, by decide +kernel, by decide +kernel, by decide +kernel, by decide +kernel, by decide +kernel, by decide +kernel, by decide +kernel, by decide +kernel, by decide +kernel, by decide +kernel, by decide +kernel, by decide +kernel, by decide +kernel, by decide +kernel, by decide +kernel, by decide +kernel, by decide +kernel, by decide +kernel, by decide +kernel, by decide +kernel, by decide +kernel, by decide +kernel, by decide +kernel, by decide +kernel, by decide +kernel, by decide +kernel, by decide +kernel, by decide +kernel, by decide +kernel, by decide +kernel, by decide +kernel, by decide +kernel, by decide +kernel, by decide +kernel, by decide +kernel, by decide +kernel, by decide +kernel, by decide +kernel, by decide +kernel, by decide +kernel, by decide +kernel, by decide +kernel, by decide +kernel, by decide +kernel, by decide +kernel, by decide +kernel, by decide +kernel, by decide +kernel, by decide +kernel, by decide +kernel, by decide +kernel, by decide +kernel, by decide +kernel, by decide +kernel, by decide +kernel, by decide +kernel, by decide +kernel, by decide +kernel, by decide +kernel, by decide +kernel, by decide +kernel, by decide +kernel, by decide +kernel, by decide +kernel, by decide +kernel, by decide +kernel, by decide +kernel, by decide +kernel, by decide +kernel, by decide +kernel, by decide +kernel, by decide +kernel, by decide +kernel, by decide +kernel, by decide +kernel, by decide +kernel, by decide +kernel, by decide +kernel, by decide +kernel, by decide +kernel, by decide +kernel, by decide +kernel, by decide +kernel, by decide +kernel, by decide +kernel, by decide +kernel, by decide +kernel, by decide +kernel, by decide +kernel, by decide +kernel, by decide +kernel, by decide +kernel, by decide +kernel, by decide +kernel, by decide +kernel, by decide +kernel, by decide +kernel, by decide +kernel, by decide +kernel, by decide +kernel, by decide +kernel, by decide +kernel, by decide +kernel, by decide +kernel, by decide +kernel⟩
theorem dec_X10_anew : decode cX10_anew 0 = .ok (.aload_n 0, 1) ∧ decode cX10_anew 1 = .ok (.getfield 77, 3) ∧ decode cX10_anew 4 = .ok (.istore_n 1, 1) ∧ decode cX10_anew 5 = .ok (.aload_n 0, 1) ∧ decode cX10_anew 6 = .ok (.getfield 12, 3) ∧ decode cX10_anew 9 = .ok (.iconst 0, 1) ∧ decode cX10_anew 10 = .ok (.putfield 81, 3) ∧ decode cX10_anew 13 = .ok (.aload_n 0, 1) ∧ decode cX10_anew 14 = .ok (.getfield 19, 3) ∧ decode cX10_anew 17 = .ok (.invokevirtual 84, 3) ∧ decode cX10_anew 20 = .ok (.aload_n 0, 1) ∧ decode cX10_anew 21 = .ok (.getfield 26, 3) ∧ decode cX10_anew 24 = .ok (.iconst 0, 1) ∧ decode cX10_anew 25 = .ok (.putfield 87, 3) ∧ decode cX10_anew 28 = .ok (.iconst 0, 1) ∧ decode cX10_anew 29 = .ok (.istore_n 2, 1) ∧ decode cX10_anew 30 = .ok (.iload_n 2, 1) ∧ decode cX10_anew 31 = .ok (.iconst 2, 1) ∧ decode cX10_anew 32 = .ok (.if_icmp .ge 16, 3) ∧ decode cX10_anew 35 = .ok (.aload_n 0, 1) ∧ decode cX10_anew 36 = .ok (.getfield 34, 3) ∧ decode cX10_anew 39 = .ok (.iload_n 2, 1) ∧ decode cX10_anew 40 = .ok (.iconst 0, 1) ∧ decode cX10_anew 41 = .ok (.bastore, 1) ∧ decode cX10_anew 42 = .ok (.iinc 2 1, 3) ∧ decode cX10_anew 45 = .ok (.goto (-15), 3) ∧ decode cX10_anew 48 = .ok (.aload_n 0, 1) ∧ decode cX10_anew 49 = .ok (.iconst 0, 1) ∧ decode cX10_anew 50 = .ok (.putfield 77, 3) ∧ decode cX10_anew 53 = .ok (.iload_n 1, 1) ∧ decode cX10_anew 54 = .ok (.ireturn, 1) := ⟨by decide +kernel, by decide +kernel, by decide +kernel, by decide +kernel, by decide +kernel, by decide +kernel, by decide +kernel, by decide +kernel, by decide +kernel, by decide +kernel, by decide +kernel, by decide +kernel, by decide +kernel, by decide +kernel, by decide +kernel, by decide +kernel, by decide +kernel, by decide +kernel, by decide +kernel, by decide +kernel, by decide +kernel, by decide +kernel, by decide +kernel, by decide +kernel, by decide +kernel, by decide +kernel, by decide +kernel, by decide +kernel, by decide +kernel, by decide +kernel, by decide +kernel⟩
theorem dec_X10_append : decode cX10_append 0 = .ok (.iload_n 2, 1) ∧ decode cX10_append 1 = .ok (.iconst 1, 1) ∧ decode cX10_append 2 = .ok (.if_icmp .ne 16, 3) ∧ decode cX10_append 5 = .ok (.aload_n 0, 1) ∧ decode cX10_append 6 = .ok (.getfield 45, 3) ∧ decode cX10_append 9 = .ok (.iload_n 1, 1) ∧ decode cX10_append 10 = .ok (.aaload, 1) ∧ decode cX10_append 11 = .ok (.iload_n 3, 1) ∧ decode cX10_append 12 = .ok (.invokevirtual 202, 3) ∧ decode cX10_append 15 = .ok (.goto 5, 3) ∧ decode cX10_append 18 = .ok (.iload 4, 2) ∧ decode cX10_append 20 = .ok (.istore 5, 2) ∧ decode cX10_append 22 = .ok (.aload_n 0, 1) ∧ decode cX10_append 23 = .ok (.getfield 77, 3) ∧ decode cX10_append 26 = .ok (.istore 6, 2) ∧ decode cX10_append 28 = .ok (.aload_n 0, 1) ∧ decode cX10_append 29 = .ok (.getfield 19, 3) ∧ decode cX10_append 32 = .ok (.getfield 127, 3) ∧ decode cX10_append 35 = .ok (.iload_n 1, 1) ∧ decode cX10_append 36 = .ok (.aaload, 1) ∧ decode cX10_append 37 = .ok (.iload 6, 2) ∧ decode cX10_append 39 = .ok (.iload_n 2, 1) ∧ decode cX10_append 40 = .ok (.iload_n 3, 1) ∧ decode cX10_append 41 = .ok (.iload 5, 2) ∧ decode cX10_append 43 = .ok (.invokevirtual 270, 3) ∧ decode cX10_append 46 = .ok (.aload_n 0, 1) ∧ decode cX10_append 47 = .ok (.dup, 1) ∧ decode cX10_append 48 = .ok (.getfield 77, 3) ∧ decode cX10_append 51 = .ok (.iconst 1, 1) ∧ decode cX10_append 52 = .ok (.iadd, 1) ∧ decode cX10_append 53 = .ok (.putfield 77, 3) ∧ decode cX10_append 56 = .ok (.iload 6, 2) ∧ decode cX10_append 58 = .ok (.ireturn, 1) := ⟨by decide +kernel, by decide +kernel, by decide +kernel, by decide +kernel, by decide +kernel, by decide +kernel, by decide +kernel, by decide +kernel, by decide +kernel, by decide +kernel, by decide +kernel, by decide +kernel, by decide +kernel, by decide +kernel, by decide +kernel, by decide +kernel, by decide +kernel, by decide +kernel, by decide +kernel, by decide +kernel, by decide +kernel, by decide +kernel, by decide +kernel, by decide +kernel, by decide +kernel, by decide +kernel, by decide +kernel, by decide +kernel, by decide +kernel, by decide +kernel, by decide +kernel, by decide +kernel, by decide +kernel⟩
theorem dec_X10_begin : decode cX10_begin 0 = .ok (.iload_n 1, 1) ∧ decode cX10_begin 1 = .ok (.invokestatic 90, 3) ∧ decode cX10_begin 4 = .ok (.ifCond .ne 6, 3) ∧ decode cX10_begin 7 = .ok (.ldc 94, 2) ∧ decode cX10_begin 9 = .ok (.ireturn, 1) ∧ decode cX10_begin 10 = .ok (.aload_n 0, 1) ∧ decode cX10_begin 11 = .ok (.getfield 77, 3) ∧ decode cX10_begin 14 = .ok (.ifCond .le 6, 3) ∧ decode cX10_begin 17 = .ok (.ldc 95, 2) ∧ decode cX10_begin 19 = .ok (.ireturn, 1) ∧ decode cX10_begin 20 = .ok (.aload_n 0, 1) ∧ decode cX10_begin 21 = .ok (.getfield 12, 3) ∧ decode cX10_begin 24 = .ok (.getfield 81, 3) ∧ decode cX10_begin 27 = .ok (.bipush 12, 2) ∧ decode cX10_begin 29 = .ok (.if_icmp .lt 6, 3) ∧ decode cX10_begin 32 = .ok (.ldc 96, 2) ∧ decode cX10_begin 34 = .ok (.ireturn, 1) ∧ decode cX10_begin 35 = .ok (.aload_n 0, 1) ∧ decode cX10_begin 36 = .ok (.getfield 12, 3) ∧ decode cX10_begin 39 = .ok (.iconst 0, 1) ∧ decode cX10_begin 40 = .ok (.aload_n 0, 1) ∧ decode cX10_begin 41 = .ok (.getfield 12, 3) ∧ decode cX10_begin 44 = .ok (.getfield 81, 3) ∧ decode cX10_begin 47 = .ok (.iload_n 1, 1) ∧ decode cX10_begin 48 = .ok (.invokevirtual 97, 3) ∧ decode cX10_begin 51 = .ok (.aload_n 0, 1) ∧ decode cX10_begin 52 = .ok (.getfield 12, 3) ∧ decode cX10_begin 55 = .ok (.getfield 81, 3) ∧ decode cX10_begin 58 = .ok (.ireturn, 1) := ⟨by decide +kernel, by decide +kernel, by decide +kernel, by decide +kernel, by decide +kernel, by decide +kernel, by decide +kernel, by decide +kernel, by decide +kernel, by decide +kernel, by decide +kernel, by decide +kernel, by decide +kernel, by decide +kernel, by decide +kernel, by decide +kernel, by decide +kernel, by decide +kernel, by decide +kernel, by decide +kernel, by decide +kernel, by decide +kernel, by decide +kernel, by decide +kernel, by decide +kernel, by decide +kernel, by decide +kernel, by decide +kernel, by decide +kernel⟩
theorem dec_X10_change : decode cX10_change 0 = .ok (.iload_n 1, 1) ∧ decode cX10_change 1 = .ok (.invokestatic 101, 3) ∧ decode cX10_change 4 = .ok (.ifCond .ne 6, 3) ∧ decode cX10_change 7 = .ok (.ldc 104, 2) ∧ decode cX10_change 9 = .ok (.ireturn, 1) ∧ decode cX10_change 10 = .ok (.aload_n 0, 1) ∧ decode cX10_change 11 = .ok (.getfield 19, 3) ∧ decode cX10_change 14 = .ok (.getfield 127, 3) ∧ decode cX10_change 17 = .ok (.iload_n 1, 1) ∧ decode cX10_change 18 = .ok (.aaload, 1) ∧ decode cX10_change 19 = .ok (.astore 4, 2) ∧ decode cX10_change 21 = .ok (.aload 4, 2) ∧ decode cX10_change 23 = .ok (.iload_n 2, 1) ∧ decode cX10_change 24 = .ok (.invokevirtual 131, 3) ∧ decode cX10_change 27 = .ok (.istore 5, 2) ∧ decode cX10_change 29 = .ok (.iload 5, 2) ∧ decode cX10_change 31 = .ok (.iconst (-1), 1) ∧ decode cX10_change 32 = .ok (.if_icmp .ne 6, 3) ∧ decode cX10_change 35 = .ok (.ldc 104, 2) ∧ decode cX10_change 37 = .ok (.ireturn, 1) ∧ decode cX10_change 38 = .ok (.iload_n 3, 1) ∧ decode cX10_change 39 = .ok (.tableswitch 66 0 3 #[29, 32, 41, 50], 29) ∧ decode cX10_change 68 = .ok (.iload 5, 2) ∧ decode cX10_change 70 = .ok (.ireturn, 1) ∧ decode cX10_change 71 = .ok (.aload_n 0, 1) ∧ decode cX10_change 72 = .ok (.aload 4, 2) ∧ decode cX10_change 74 = .ok (.iload 5, 2) ∧ decode cX10_change 76 = .ok (.invokevirtual 216, 3) ∧ decode cX10_change 79 = .ok (.ireturn, 1) ∧ decode cX10_change 80 = .ok (.aload_n 0, 1) ∧ decode cX10_change 81 = .ok (.aload 4, 2) ∧ decode cX10_change 83 = .ok (.iload 5, 2) ∧ decode cX10_change 85 = .ok (.invokevirtual 220, 3) ∧ decode cX10_change 88 = .ok (.ireturn, 1) ∧ decode cX10_change 89 = .ok (.aload 4, 2) ∧ decode cX10_change 91 = .ok (.iload 5, 2) ∧ decode cX10_change 93 = .ok (.invokevirtual 135, 3) ∧ decode cX10_change 96 = .ok (.ifCond .eq 7, 3) ∧ decode cX10_change 99 = .ok (.iconst 1, 1) ∧ decode cX10_change 100 = .ok (.goto 4, 3) ∧ decode cX10_change 103 = .ok (.iconst 0, 1) ∧ decode cX10_change 104 = .ok (.ireturn, 1) ∧ decode cX10_change 105 = .ok (.ldc 94, 2) ∧ decode cX10_change 107 = .ok (.ireturn, 1) := ⟨by decide +kernel, by decide +kernel, by decide +kernel, by decide +kernel, by decide +kernel, by decide +kernel, by decide +kernel, by decide +kernel, by decide +kernel, by decide +kernel, by decide +kernel, by decide +kernel, by decide +kernel, by decide +kernel, by decide +kernel, by decide +kernel, by decide +kernel, by decide +kernel, by decide +kernel, by decide +kernel, by decide +kernel, by decide +kernel, by decide +kernel, by decide +kernel, by decide +kernel, by decide +kernel, by decide +kernel, by decide +kernel, by decide +kernel, by decide +kernel, by decide +kernel, by decide +kernel, by decide +kernel, by decide +kernel, by decide +kernel, by decide +kernel, by decide +kernel, by decide +kernel, by decide +kernel, by decide +kernel, by decide +kernel, by decide +kernel, by decide +kernel, by decide +kernel⟩
theorem dec_X10_drift : decode cX10_drift 0 = .ok (.iload_n 1, 1) ∧ decode cX10_drift 1 = .ok (.iconst 1, 1) ∧ decode cX10_drift 2 = .ok (.if_icmp .lt 20, 3) ∧ decode cX10_drift 5 = .ok (.iload_n 1, 1) ∧ decode cX10_drift 6 = .ok (.bipush 20, 2) ∧ decode cX10_drift 8 = .ok (.if_icmp .gt 14, 3) ∧ decode cX10_drift 11 = .ok (.iload_n 2, 1) ∧ decode cX10_drift 12 = .ok (.iconst 1, 1) ∧ decode cX10_drift 13 = .ok (.if_icmp .lt 9, 3) ∧ decode cX10_drift 16 = .ok (.iload_n 2, 1) ∧ decode cX10_drift 17 = .ok (.ldc 181, 2) ∧ decode cX10_drift 19 = .ok (.if_icmp .le 6, 3) ∧ decode cX10_drift 22 = .ok (.ldc 94, 2) ∧ decode cX10_drift 24 = .ok (.ireturn, 1) ∧ decode cX10_drift 25 = .ok (.aload_n 0, 1) ∧ decode cX10_drift 26 = .ok (.getfield 26, 3) ∧ decode cX10_drift 29 = .ok (.aload_n 0, 1) ∧ decode cX10_drift 30 = .ok (.getfield 19, 3) ∧ decode cX10_drift 33 = .ok (.invokevirtual 119, 3) ∧ decode cX10_drift 36 = .ok (.aload_n 0, 1) ∧ decode cX10_drift 37 = .ok (.getfield 73, 3) ∧ decode cX10_drift 40 = .ok (.iload_n 2, 1) ∧ decode cX10_drift 41 = .ok (.invokevirtual 182, 3) ∧ decode cX10_drift 44 = .ok (.iconst 0, 1) ∧ decode cX10_drift 45 = .ok (.istore_n 3, 1) ∧ decode cX10_drift 46 = .ok (.iconst 0, 1) ∧ decode cX10_drift 47 = .ok (.istore 4, 2) ∧ decode cX10_drift 49 = .ok (.iload 4, 2) ∧ decode cX10_drift 51 = .ok (.iload_n 1, 1) ∧ decode cX10_drift 52 = .ok (.if_icmp .ge 19, 3) ∧ decode cX10_drift 55 = .ok (.aload_n 0, 1) ∧ decode cX10_drift 56 = .ok (.invokevirtual 186, 3) ∧ decode cX10_drift 59 = .ok (.ifCond .eq 6, 3) ∧ decode cX10_drift 62 = .ok (.iinc 3 1, 3) ∧ decode cX10_drift 65 = .ok (.iinc 4 1, 3) ∧ decode cX10_drift 68 = .ok (.goto (-19), 3) ∧ decode cX10_drift 71 = .ok (.iload_n 3, 1) ∧ decode cX10_drift 72 = .ok (.ireturn, 1) := ⟨by decide +kernel, by decide +kernel, by decide +kernel, by decide +kernel, by decide +kernel, by decide +kernel, by decide +kernel, by decide +kernel, by decide +kernel, by decide +kernel, by decide +kernel, by decide +kernel, by decide +kernel, by decide +kernel, by decide +kernel, by decide +kernel, by decide +kernel, by decide +kernel, by decide +kernel, by decide +kernel, by decide +kernel, by decide +kernel, by decide +kernel, by decide +kernel, by decide +kernel, by decide +kernel, by decide +kernel, by decide +kernel, by decide +kernel, by decide +kernel, by decide +kernel, by decide +kernel, by decide +kernel, by decide +kernel, by decide +kernel, by decide +kernel, by decide +kernel, by decide +kernel⟩
theorem dec_X10_empty : decode cX10_empty 0 = .ok (.iload_n 1, 1) ∧ decode cX10_empty 1 = .ok (.invokestatic 226, 3) ∧ decode cX10_empty 4 = .ok (.ifCond .ne 6, 3) ∧ decode cX10_empty 7 = .ok (.ldc 104, 2) ∧ decode cX10_empty 9 = .ok (.ireturn, 1) ∧ decode cX10_empty 10 = .ok (.aload_n 0, 1) ∧ decode cX10_empty 11 = .ok (.getfield 40, 3) ∧ decode cX10_empty 14 = .ok (.iload_n 1, 1) ∧ decode cX10_empty 15 = .ok (.aaload, 1) ∧ decode cX10_empty 16 = .ok (.getfield 236, 3) ∧ decode cX10_empty 19 = .ok (.astore_n 2, 1) ∧ decode cX10_empty 20 = .ok (.aload_n 0, 1) ∧ decode cX10_empty 21 = .ok (.getfield 40, 3) ∧ decode cX10_empty 24 = .ok (.iload_n 1, 1) ∧ decode cX10_empty 25 = .ok (.aaload, 1) ∧ decode cX10_empty 26 = .ok (.aconst_null, 1) ∧ decode cX10_empty 27 = .ok (.putfield 236, 3) ∧ decode cX10_empty 30 = .ok (.aload_n 2, 1) ∧ decode cX10_empty 31 = .ok (.ifnonnull 5, 3) ∧ decode cX10_empty 34 = .ok (.iconst 0, 1) ∧ decode cX10_empty 35 = .ok (.ireturn, 1) ∧ decode cX10_empty 36 = .ok (.aload_n 2, 1) ∧ decode cX10_empty 37 = .ok (.instanceof 239, 3) ∧ decode cX10_empty 40 = .ok (.ifCond .eq 7, 3) ∧ decode cX10_empty 43 = .ok (.iconst 1, 1) ∧ decode cX10_empty 44 = .ok (.goto 4, 3) ∧ decode cX10_empty 47 = .ok (.iconst 2, 1) ∧ decode cX10_empty 48 = .ok (.ireturn, 1) := ⟨by decide +kernel, by decide +kernel, by decide +kernel, by decide +kernel, by decide +kernel, by decide +kernel, by decide +kernel, by decide +kernel, by decide +kernel, by decide +kernel, by decide +kernel, by decide +kernel, by decide +kernel, by decide +kernel, by decide +kernel, by decide +kernel, by decide +kernel, by decide +kernel, by decide +kernel, by decide +kernel, by decide +kernel, by decide +kernel, by decide +kernel, by decide +kernel, by decide +kernel, by decide +kernel, by decide +kernel, by decide +kernel⟩
theorem dec_X10_goBack : decode cX10_goBack 0 = .ok (.iload_n 1, 1) ∧ decode cX10_goBack 1 = .ok (.invokestatic 261, 3) ∧ decode cX10_goBack 4 = .ok (.ifCond .ne 6, 3) ∧ decode cX10_goBack 7 = .ok (.ldc 104, 2) ∧ decode cX10_goBack 9 = .ok (.ireturn, 1) ∧ decode cX10_goBack 10 = .ok (.aload_n 0, 1) ∧ decode cX10_goBack 11 = .ok (.getfield 34, 3) ∧ decode cX10_goBack 14 = .ok (.iload_n 1, 1) ∧ decode cX10_goBack 15 = .ok (.baload, 1) ∧ decode cX10_goBack 16 = .ok (.ifCond .ne 6, 3) ∧ decode cX10_goBack 19 = .ok (.ldc 95, 2) ∧ decode cX10_goBack 21 = .ok (.ireturn, 1) ∧ decode cX10_goBack 22 = .ok (.aload_n 0, 1) ∧ decode cX10_goBack 23 = .ok (.getfield 19, 3) ∧ decode cX10_goBack 26 = .ok (.aload_n 0, 1) ∧ decode cX10_goBack 27 = .ok (.getfield 30, 3) ∧ decode cX10_goBack 30 = .ok (.iload_n 1, 1) ∧ decode cX10_goBack 31 = .ok (.aaload, 1) ∧ decode cX10_goBack 32 = .ok (.invokevirtual 264, 3) ∧ decode cX10_goBack 35 = .ok (.aload_n 0, 1) ∧ decode cX10_goBack 36 = .ok (.getfield 26, 3) ∧ decode cX10_goBack 39 = .ok (.iconst 0, 1) ∧ decode cX10_goBack 40 = .ok (.putfield 87, 3) ∧ decode cX10_goBack 43 = .ok (.iconst 1, 1) ∧ decode cX10_goBack 44 = .ok (.ireturn, 1) := ⟨by decide +kernel, by decide +kernel, by decide +kernel, by decide +kernel, by decide +kernel, by decide +kernel, by decide +kernel, by decide +kernel, by decide +kernel, by decide +kernel, by decide +kernel, by decide +kernel, by decide +kernel, by decide +kernel, by decide +kernel, by decide +kernel, by decide +kernel, by decide +kernel, by decide +kernel, by decide +kernel, by decide +kernel, by decide +kernel, by decide +kernel, by decide +kernel, by decide +kernel⟩
theorem dec_X10_hasRoom : decode cX10_hasRoom 0 = .ok (.aload_n 0, 1) ∧ decode cX10_hasRoom 1 = .ok (.getfield 77, 3) ∧ decode cX10_hasRoom 4 = .ok (.bipush 24, 2) ∧ decode cX10_hasRoom 6 = .ok (.if_icmp .ge 43, 3) ∧ decode cX10_hasRoom 9 = .ok (.aload_n 0, 1) ∧ decode cX10_hasRoom 10 = .ok (.getfield 19, 3) ∧ decode cX10_hasRoom 13 = .ok (.getfield 127, 3) ∧ decode cX10_hasRoom 16 = .ok (.iload_n 1, 1) ∧ decode cX10_hasRoom 17 = .ok (.aaload, 1) ∧ decode cX10_hasRoom 18 = .ok (.getfield 138, 3) ∧ decode cX10_hasRoom 21 = .ok (.bipush 16, 2) ∧ decode cX10_hasRoom 23 = .ok (.if_icmp .ge 26, 3) ∧ decode cX10_hasRoom 26 = .ok (.iload_n 2, 1) ∧ decode cX10_hasRoom 27 = .ok (.iconst 1, 1) ∧ decode cX10_hasRoom 28 = .ok (.if_icmp .eq 17, 3) ∧ decode cX10_hasRoom 31 = .ok (.aload_n 0, 1) ∧ decode cX10_hasRoom 32 = .ok (.getfield 45, 3) ∧ decode cX10_hasRoom 35 = .ok (.iload_n 1, 1) ∧ decode cX10_hasRoom 36 = .ok (.aaload, 1) ∧ decode cX10_hasRoom 37 = .ok (.getfield 81, 3) ∧ decode cX10_hasRoom 40 = .ok (.bipush 24, 2) ∧ decode cX10_hasRoom 42 = .ok (.if_icmp .ge 7, 3) ∧ decode cX10_hasRoom 45 = .ok (.iconst 1, 1) ∧ decode cX10_hasRoom 46 = .ok (.goto 4, 3) ∧ decode cX10_hasRoom 49 = .ok (.iconst 0, 1) ∧ decode cX10_hasRoom 50 = .ok (.ireturn, 1) := ⟨by decide +kernel, by decide +kernel, by decide +kernel, by decide +kernel, by decide +kernel, by decide +kernel, by decide +kernel, by decide +kernel, by decide +kernel, by decide +kernel, by decide +kernel, by decide +kernel, by decide +kernel, by decide +kernel, by decide +kernel, by decide +kernel, by decide +kernel, by decide +kernel, by decide +kernel, by decide +kernel, by decide +kernel, by decide +kernel, by decide +kernel, by decide +kernel, by decide +kernel, by decide +kernel⟩
theorem dec_X10_history : decode cX10_history 0 = .ok (.iload_n 1, 1) ∧ decode cX10_history 1 = .ok (.invokestatic 101, 3) ∧ decode cX10_history 4 = .ok (.ifCond .eq 19, 3) ∧ decode cX10_history 7 = .ok (.aload_n 0, 1) ∧ decode cX10_history 8 = .ok (.getfield 19, 3) ∧ decode cX10_history 11 = .ok (.getfield 127, 3) ∧ decode cX10_history 14 = .ok (.iload_n 1, 1) ∧ decode cX10_history 15 = .ok (.aaload, 1) ∧ decode cX10_history 16 = .ok (.iload_n 2, 1) ∧ decode cX10_history 17 = .ok (.invokevirtual 205, 3) ∧ decode cX10_history 20 = .ok (.ifCond .ne 6, 3) ∧ decode cX10_history 23 = .ok (.ldc 104, 2) ∧ decode cX10_history 25 = .ok (.ireturn, 1) ∧ decode cX10_history 26 = .ok (.aload_n 0, 1) ∧ decode cX10_history 27 = .ok (.getfield 19, 3) ∧ decode cX10_history 30 = .ok (.getfield 127, 3) ∧ decode cX10_history 33 = .ok (.iload_n 1, 1) ∧ decode cX10_history 34 = .ok (.aaload, 1) ∧ decode cX10_history 35 = .ok (.astore 4, 2) ∧ decode cX10_history 37 = .ok (.iload_n 3, 1) ∧ decode cX10_history 38 = .ok (.tableswitch 82 0 4 #[34, 42, 50, 58, 66], 34) ∧ decode cX10_history 72 = .ok (.aload 4, 2) ∧ decode cX10_history 74 = .ok (.getfield 151, 3) ∧ decode cX10_history 77 = .ok (.iload_n 2, 1) ∧ decode cX10_history 78 = .ok (.iaload, 1) ∧ decode cX10_history 79 = .ok (.ireturn, 1) ∧ decode cX10_history 80 = .ok (.aload 4, 2) ∧ decode cX10_history 82 = .ok (.getfield 207, 3) ∧ decode cX10_history 85 = .ok (.iload_n 2, 1) ∧ decode cX10_history 86 = .ok (.iaload, 1) ∧ decode cX10_history 87 = .ok (.ireturn, 1) ∧ decode cX10_history 88 = .ok (.aload 4, 2) ∧ decode cX10_history 90 = .ok (.getfield 210, 3) ∧ decode cX10_history 93 = .ok (.iload_n 2, 1) ∧ decode cX10_history 94 = .ok (.iaload, 1) ∧ decode cX10_history 95 = .ok (.ireturn, 1) ∧ decode cX10_history 96 = .ok (.aload 4, 2) ∧ decode cX10_history 98 = .ok (.getfield 213, 3) ∧ decode cX10_history 101 = .ok (.iload_n 2, 1) ∧ decode cX10_history 102 = .ok (.iaload, 1) ∧ decode cX10_history 103 = .ok (.ireturn, 1) ∧ decode cX10_history 104 = .ok (.aload 4, 2) ∧ decode cX10_history 106 = .ok (.iload_n 2, 1) ∧ decode cX10_history 107 = .ok (.invokevirtual 145, 3) ∧ decode cX10_history 110 = .ok (.iconst (-1), 1) ∧ decode cX10_history 111 = .ok (.if_icmp .ne 7, 3) ∧ decode cX10_history 114 = .ok (.iconst 0, 1) ∧ decode cX10_history 115 = .ok (.goto 4, 3) ∧ decode cX10_history 118 = .ok (.iconst 1, 1) ∧ decode cX10_history 119 = .ok (.ireturn, 1) ∧ decode cX10_history 120 = .ok (.ldc 94, 2) ∧ decode cX10_history 122 = .ok (.ireturn, 1) := ⟨by decide +kernel, by decide +kernel, by decide +kernel, by decide +kernel, by decide +kernel, by decide +kernel, by decide +kernel, by decide +kernel, by decide +kernel, by decide +kernel, by decide +kernel, by decide +kernel, by decide +kernel, by decide +kernel, by decide +kernel, by decide +kernel, by decide +kernel, by decide +kernel, by decide +kernel, by decide +kernel, by decide +kernel, by decide +kernel, by decide +kernel, by decide +kernel, by decide +kernel, by decide +kernel, by decide +kernel, by decide +kernel, by decide +kernel, by decide +kernel, by decide +kernel, by decide +kernel, by decide +kernel, by decide +kernel, by decide +kernel, by decide +kernel, by decide +kernel, by decide +kernel, by decide +kernel, by decide +kernel, by decide +kernel, by decide +kernel, by decide +kernel, by decide +kernel, by decide +kernel, by decide +kernel, by decide +kernel, by decide +kernel, by decide +kernel, by decide +kernel, by decide +kernel, by decide +kernel⟩
theorem dec_X10_house : decode cX10_house 0 = .ok (.iload_n 1, 1) ∧ decode cX10_house 1 = .ok (.invokestatic 101, 3) ∧ decode cX10_house 4 = .ok (.ifCond .ne 6, 3) ∧ decode cX10_house 7 = .ok (.ldc 104, 2) ∧ decode cX10_house 9 = .ok (.ireturn, 1) ∧ decode cX10_house 10 = .ok (.aload_n 0, 1) ∧ decode cX10_house 11 = .ok (.getfield 19, 3) ∧ decode cX10_house 14 = .ok (.getfield 127, 3) ∧ decode cX10_house 17 = .ok (.iload_n 1, 1) ∧ decode cX10_house 18 = .ok (.aaload, 1) ∧ decode cX10_house 19 = .ok (.astore_n 3, 1) ∧ decode cX10_house 20 = .ok (.iload_n 2, 1) ∧ decode cX10_house 21 = .ok (.tableswitch 126 0 6 #[43, 52, 57, 62, 84, 106, 116], 43) ∧ decode cX10_house 64 = .ok (.aload_n 0, 1) ∧ decode cX10_house 65 = .ok (.iload_n 1, 1) ∧ decode cX10_house 66 = .ok (.invokevirtual 108, 3) ∧ decode cX10_house 69 = .ok (.getfield 81, 3) ∧ decode cX10_house 72 = .ok (.ireturn, 1) ∧ decode cX10_house 73 = .ok (.aload_n 3, 1) ∧ decode cX10_house 74 = .ok (.getfield 138, 3) ∧ decode cX10_house 77 = .ok (.ireturn, 1) ∧ decode cX10_house 78 = .ok (.aload_n 3, 1) ∧ decode cX10_house 79 = .ok (.invokevirtual 196, 3) ∧ decode cX10_house 82 = .ok (.ireturn, 1) ∧ decode cX10_house 83 = .ok (.aload_n 3, 1) ∧ decode cX10_house 84 = .ok (.invokevirtual 196, 3) ∧ decode cX10_house 87 = .ok (.aload_n 0, 1) ∧ decode cX10_house 88 = .ok (.getfield 19, 3) ∧ decode cX10_house 91 = .ok (.getfield 127, 3) ∧ decode cX10_house 94 = .ok (.iconst 1, 1) ∧ decode cX10_house 95 = .ok (.iload_n 1, 1) ∧ decode cX10_house 96 = .ok (.isub, 1) ∧ decode cX10_house 97 = .ok (.aaload, 1) ∧ decode cX10_house 98 = .ok (.invokevirtual 196, 3) ∧ decode cX10_house 101 = .ok (.iconst (-1), 1) ∧ decode cX10_house 102 = .ok (.ixor, 1) ∧ decode cX10_house 103 = .ok (.iand, 1) ∧ decode cX10_house 104 = .ok (.ireturn, 1) ∧ decode cX10_house 105 = .ok (.aload_n 3, 1) ∧ decode cX10_house 106 = .ok (.getfield 138, 3) ∧ decode cX10_house 109 = .ok (.bipush 6, 2) ∧ decode cX10_house 111 = .ok (.if_icmp .le 7, 3) ∧ decode cX10_house 114 = .ok (.iconst (-1), 1) ∧ decode cX10_house 115 = .ok (.goto 11, 3) ∧ decode cX10_house 118 = .ok (.aload_n 0, 1) ∧ decode cX10_house 119 = .ok (.getfield 66, 3) ∧ decode cX10_house 122 = .ok (.aload_n 3, 1) ∧ decode cX10_house 123 = .ok (.invokevirtual 199, 3) ∧ decode cX10_house 126 = .ok (.ireturn, 1) ∧ decode cX10_house 127 = .ok (.aload_n 0, 1) ∧ decode cX10_house 128 = .ok (.getfield 19, 3) ∧ decode cX10_house 131 = .ok (.getfield 164, 3) ∧ decode cX10_house 134 = .ok (.iload_n 1, 1) ∧ decode cX10_house 135 = .ok (.iaload, 1) ∧ decode cX10_house 136 = .ok (.ireturn, 1) ∧ decode cX10_house 137 = .ok (.aload_n 0, 1) ∧ decode cX10_house 138 = .ok (.getfield 19, 3) ∧ decode cX10_house 141 = .ok (.getfield 167, 3) ∧ decode cX10_house 144 = .ok (.iload_n 1, 1) ∧ decode cX10_house 145 = .ok (.iaload, 1) ∧ decode cX10_house 146 = .ok (.ireturn, 1) ∧ decode cX10_house 147 = .ok (.ldc 94, 2) ∧ decode cX10_house 149 = .ok (.ireturn, 1) := ⟨by decide +kernel, by decide +kernel, by decide +kernel, by decide +kernel, by decide +kernel, by decide +kernel, by decide +kernel, by decide +kernel, by decide +kernel, by decide +kernel, by decide +kernel, by decide +kernel, by decide +kernel, by decide +kernel, by decide +kernel, by decide +kernel, by decide +kernel, by decide +kernel, by decide +kernel, by decide +kernel, by decide +kernel, by decide +kernel, by decide +kernel, by decide +kernel, by decide +kernel, by decide +kernel, by decide +kernel, by decide +kernel, by decide +kernel, by decide +kernel, by decide +kernel, by decide +kernel, by decide +kernel, by decide +kernel, by decide +kernel, by decide +kernel, by decide +kernel, by decide +kernel, by decide +kernel, by decide +kernel, by decide +kernel, by decide +kernel, by decide +kernel, by decide +kernel, by decide +kernel, by decide +kernel, by decide +kernel, by decide +kernel, by decide +kernel, by decide +kernel, by decide +kernel, by decide +kernel, by decide +kernel, by decide +kernel, by decide +kernel, by decide +kernel, by decide +kernel, by decide +kernel, by decide +kernel, by decide +kernel, by decide +kernel, by decide +kernel, by decide +kernel⟩
theorem dec_X10_init : decode cX10_init 0 = .ok (.aload_n 0, 1) ∧ decode cX10_init 1 = .ok (.invokespecial 3, 3) ∧ decode cX10_init 4 = .ok (.aload_n 0, 1) ∧ decode cX10_init 5 = .ok (.new 9, 3) ∧ decode cX10_init 8 = .ok (.dup, 1) ∧ decode cX10_init 9 = .ok (.invokespecial 11, 3) ∧ decode cX10_init 12 = .ok (.putfield 12, 3) ∧ decode cX10_init 15 = .ok (.aload_n 0, 1) ∧ decode cX10_init 16 = .ok (.new 16, 3) ∧ decode cX10_init 19 = .ok (.dup, 1) ∧ decode cX10_init 20 = .ok (.invokespecial 18, 3) ∧ decode cX10_init 23 = .ok (.putfield 19, 3) ∧ decode cX10_init 26 = .ok (.aload_n 0, 1) ∧ decode cX10_init 27 = .ok (.new 23, 3) ∧ decode cX10_init 30 = .ok (.dup, 1) ∧ decode cX10_init 31 = .ok (.invokespecial 25, 3) ∧ decode cX10_init 34 = .ok (.putfield 26, 3) ∧ decode cX10_init 37 = .ok (.aload_n 0, 1) ∧ decode cX10_init 38 = .ok (.iconst 2, 1) ∧ decode cX10_init 39 = .ok (.anewarray 16, 3) ∧ decode cX10_init 42 = .ok (.putfield 30, 3) ∧ decode cX10_init 45 = .ok (.iconst 0, 1) ∧ decode cX10_init 46 = .ok (.istore_n 1, 1) ∧ decode cX10_init 47 = .ok (.iload_n 1, 1) ∧ decode cX10_init 48 = .ok (.iconst 2, 1) ∧ decode cX10_init 49 = .ok (.if_icmp .ge 22, 3) ∧ decode cX10_init 52 = .ok (.aload_n 0, 1) ∧ decode cX10_init 53 = .ok (.getfield 30, 3) ∧ decode cX10_init 56 = .ok (.iload_n 1, 1) ∧ decode cX10_init 57 = .ok (.new 16, 3) ∧ decode cX10_init 60 = .ok (.dup, 1) ∧ decode cX10_init 61 = .ok (.invokespecial 18, 3) ∧ decode cX10_init 64 = .ok (.aastore, 1) ∧ decode cX10_init 65 = .ok (.iinc 1 1, 3) ∧ decode cX10_init 68 = .ok (.goto (-21), 3) ∧ decode cX10_init 71 = .ok (.aload_n 0, 1) ∧ decode cX10_init 72 = .ok (.iconst 2, 1) ∧ decode cX10_init 73 = .ok (.newarray .boolean, 2) ∧ decode cX10_init 75 = .ok (.putfield 34, 3) ∧ decode cX10_init 78 = .ok (.aload_n 0, 1) ∧ decode cX10_init 79 = .ok (.iconst 4, 1) ∧ decode cX10_init 80 = .ok (.anewarray 38, 3) ∧ decode cX10_init 83 = .ok (.putfield 40, 3) ∧ decode cX10_init 86 = .ok (.iconst 0, 1) ∧ decode cX10_init 87 = .ok (.istore_n 1, 1) ∧ decode cX10_init 88 = .ok (.iload_n 1, 1) ∧ decode cX10_init 89 = .ok (.iconst 4, 1) ∧ decode cX10_init 90 = .ok (.if_icmp .ge 22, 3) ∧ decode cX10_init 93 = .ok (.aload_n 0, 1) ∧ decode cX10_init 94 = .ok (.getfield 40, 3) ∧ decode cX10_init 97 = .ok (.iload_n 1, 1) ∧ decode cX10_init 98 = .ok (.new 38, 3) ∧ decode cX10_init 101 = .ok (.dup, 1) ∧ decode cX10_init 102 = .ok (.invokespecial 44, 3) ∧ decode cX10_init 105 = .ok (.aastore, 1) ∧ decode cX10_init 106 = .ok (.iinc 1 1, 3) ∧ decode cX10_init 109 = .ok (.goto (-21), 3) ∧ decode cX10_init 112 = .ok (.aload_n 0, 1) ∧ decode cX10_init 113 = .ok (.iconst 2, 1) ∧ decode cX10_init 114 = .ok (.anewarray 9, 3) ∧ decode cX10_init 117 = .ok (.putfield 45, 3) ∧ decode cX10_init 120 = .ok (.iconst 0, 1) ∧ decode cX10_init 121 = .ok (.istore_n 1, 1) ∧ decode cX10_init 122 = .ok (.iload_n 1, 1) ∧ decode cX10_init 123 = .ok (.iconst 2, 1) ∧ decode cX10_init 124 = .ok (.if_icmp .ge 22, 3) ∧ decode cX10_init 127 = .ok (.aload_n 0, 1) ∧ decode cX10_init 128 = .ok (.getfield 45, 3) ∧ decode cX10_init 131 = .ok (.iload_n 1, 1) ∧ decode cX10_init 132 = .ok (.new 9, 3) ∧ decode cX10_init 135 = .ok (.dup, 1) ∧ decode cX10_init 136 = .ok (.invokespecial 11, 3) ∧ decode cX10_init 139 = .ok (.aastore, 1) ∧ decode cX10_init 140 = .ok (.iinc 1 1, 3) ∧ decode cX10_init 143 = .ok (.goto (-21), 3) ∧ decode cX10_init 146 = .ok (.aload_n 0, 1) ∧ decode cX10_init 147 = .ok (.new 49, 3) ∧ decode cX10_init 150 = .ok (.dup, 1) ∧ decode cX10_init 151 = .ok (.invokespecial 51, 3) ∧ decode cX10_init 154 = .ok (.putfield 52, 3) ∧ decode cX10_init 157 = .ok (.aload_n 0, 1) ∧ decode cX10_init 158 = .ok (.new 56, 3) ∧ decode cX10_init 161 = .ok (.dup, 1) ∧ decode cX10_init 162 = .ok (.invokespecial 58, 3) ∧ decode cX10_init 165 = .ok (.putfield 59, 3) ∧ decode cX10_init 168 = .ok (.aload_n 0, 1) ∧ decode cX10_init 169 = .ok (.new 63, 3) ∧ decode cX10_init 172 = .ok (.dup, 1) ∧ decode cX10_init 173 = .ok (.invokespecial 65, 3) ∧ decode cX10_init 176 = .ok (.putfield 66, 3) ∧ decode cX10_init 179 = .ok (.aload_n 0, 1) ∧ decode cX10_init 180 = .ok (.new 70, 3) ∧ decode cX10_init 183 = .ok (.dup, 1) ∧ decode cX10_init 184 = .ok (.invokespecial 72, 3) ∧ decode cX10_init 187 = .ok (.putfield 73, 3) ∧ decode cX10_init 190 = .ok (.aload_n 0, 1) ∧ decode cX10_init 191 = .ok (.iconst 0, 1) ∧ decode cX10_init 192 = .ok (.putfield 77, 3) ∧ decode cX10_init 195 = .ok (.return_, 1) := ⟨by decide +kernel, by decide +kernel, by decide +kernel, by decide +kernel, by decide +kernel, by decide +kernel, by decide +kernel, by decide +kernel, by decide +kernel, by decide +kernel, by decide +kernel, by decide +kernel, by decide +kernel, by decide +kernel, by decide +kernel, by decide +kernel, by decide +kernel, by decide +kernel, by decide +kernel, by decide +kernel, by decide +kernel, by decide +kernel, by decide +kernel, by decide +kernel, by decide +kernel, by decide +kernel, by decide +kernel, by decide +kernel, by decide +kernel, by decide +kernel, by decide +kernel, by decide +kernel, by decide +kernel, by decide +kernel, by decide +kernel, by decide +kernel, by decide +kernel, by decide +kernel, by decide +kernel, by decide +kernel, by decide +kernel, by decide +kernel, by decide +kernel, by decide +kernel, by decide +kernel, by decide +kernel, by decide +kernel, by decide +kernel, by decide +kernel, by decide +kernel, by decide +kernel, by decide +kernel, by decide +kernel, by decide +kernel, by decide +kernel, by decide +kernel, by decide +kernel, by decide +kernel, by decide +kernel, by decide +kernel, by decide +kernel, by decide +kernel, by decide +kernel, by decide +kernel, by decide +kernel, by decide +kernel, by decide +kernel, by decide +kernel, by decide +kernel, by decide +kernel, by decide +kernel, by decide +kernel, by decide +kernel, by decide +kernel, by decide +kernel, by decide +kernel, by decide +kernel, by decide +kernel, by decide +kernel, by decide +kernel, by decide +kernel, by decide +kernel, by decide +kernel, by decide +kernel, by decide +kernel, by decide +kernel, by decide +kernel, by decide +kernel, by decide +kernel, by decide +kernel, by decide +kernel, by decide +kernel, by decide +kernel, by decide +kernel, by decide +kernel, by decide +kernel, by decide +kernel, by decide +kernel, by decide +kernel⟩
theorem dec_X10_isHouse : decode cX10_isHouse 0 = .ok (.iload_n 0, 1) ∧ decode cX10_isHouse 1 = .ok (.ifCond .lt 12, 3) ∧ decode cX10_isHouse 4 = .ok (.iload_n 0, 1) ∧ decode cX10_isHouse 5 = .ok (.iconst 2, 1) ∧ decode cX10_isHouse 6 = .ok (.if_icmp .ge 7, 3) ∧ decode cX10_isHouse 9 = .ok (.iconst 1, 1) ∧ decode cX10_isHouse 10 = .ok (.goto 4, 3) ∧ decode cX10_isHouse 13 = .ok (.iconst 0, 1) ∧ decode cX10_isHouse 14 = .ok (.ireturn, 1) := ⟨by decide +kernel, by decide +kernel, by decide +kernel, by decide +kernel, by decide +kernel, by decide +kernel, by decide +kernel, by decide +kernel, by decide +kernel⟩
theorem dec_X10_isImage : decode cX10_isImage 0 = .ok (.iload_n 0, 1) ∧ decode cX10_isImage 1 = .ok (.ifCond .lt 12, 3) ∧ decode cX10_isImage 4 = .ok (.iload_n 0, 1) ∧ decode cX10_isImage 5 = .ok (.iconst 2, 1) ∧ decode cX10_isImage 6 = .ok (.if_icmp .ge 7, 3) ∧ decode cX10_isImage 9 = .ok (.iconst 1, 1) ∧ decode cX10_isImage 10 = .ok (.goto 4, 3) ∧ decode cX10_isImage 13 = .ok (.iconst 0, 1) ∧ decode cX10_isImage 14 = .ok (.ireturn, 1) := ⟨by decide +kernel, by decide +kernel, by decide +kernel, by decide +kernel, by decide +kernel, by decide +kernel, by decide +kernel, by decide +kernel, by decide +kernel⟩
theorem dec_X10_isLetter : decode cX10_isLetter 0 = .ok (.iload_n 0, 1) ∧ decode cX10_isLetter 1 = .ok (.bipush 97, 2) ∧ decode cX10_isLetter 3 = .ok (.if_icmp .lt 13, 3) ∧ decode cX10_isLetter 6 = .ok (.iload_n 0, 1) ∧ decode cX10_isLetter 7 = .ok (.bipush 122, 2) ∧ decode cX10_isLetter 9 = .ok (.if_icmp .gt 7, 3) ∧ decode cX10_isLetter 12 = .ok (.iconst 1, 1) ∧ decode cX10_isLetter 13 = .ok (.goto 4, 3) ∧ decode cX10_isLetter 16 = .ok (.iconst 0, 1) ∧ decode cX10_isLetter 17 = .ok (.ireturn, 1) := ⟨by decide +kernel, by decide +kernel, by decide +kernel, by decide +kernel, by decide +kernel, by decide +kernel, by decide +kernel, by decide +kernel, by decide +kernel, by decide +kernel⟩
theorem dec_X10_isShelf : decode cX10_isShelf 0 = .ok (.iload_n 0, 1) ∧ decode cX10_isShelf 1 = .ok (.ifCond .lt 12, 3) ∧ decode cX10_isShelf 4 = .ok (.iload_n 0, 1) ∧ decode cX10_isShelf 5 = .ok (.iconst 4, 1) ∧ decode cX10_isShelf 6 = .ok (.if_icmp .ge 7, 3) ∧ decode cX10_isShelf 9 = .ok (.iconst 1, 1) ∧ decode cX10_isShelf 10 = .ok (.goto 4, 3) ∧ decode cX10_isShelf 13 = .ok (.iconst 0, 1) ∧ decode cX10_isShelf 14 = .ok (.ireturn, 1) := ⟨by decide +kernel, by decide +kernel, by decide +kernel, by decide +kernel, by decide +kernel, by decide +kernel, by decide +kernel, by decide +kernel, by decide +kernel⟩
theorem dec_X10_isSort : decode cX10_isSort 0 = .ok (.iload_n 0, 1) ∧ decode cX10_isSort 1 = .ok (.ifCond .eq 8, 3) ∧ decode cX10_isSort 4 = .ok (.iload_n 0, 1) ∧ decode cX10_isSort 5 = .ok (.iconst 1, 1) ∧ decode cX10_isSort 6 = .ok (.if_icmp .ne 7, 3) ∧ decode cX10_isSort 9 = .ok (.iconst 1, 1) ∧ decode cX10_isSort 10 = .ok (.goto 4, 3) ∧ decode cX10_isSort 13 = .ok (.iconst 0, 1) ∧ decode cX10_isSort 14 = .ok (.ireturn, 1) := ⟨by decide +kernel, by decide +kernel, by decide +kernel, by decide +kernel, by decide +kernel, by decide +kernel, by decide +kernel, by decide +kernel, by decide +kernel⟩
theorem dec_X10_isText : decode cX10_isText 0 = .ok (.iload_n 1, 1) ∧ decode cX10_isText 1 = .ok (.invokestatic 226, 3) ∧ decode cX10_isText 4 = .ok (.ifCond .eq 10, 3) ∧ decode cX10_isText 7 = .ok (.iload_n 2, 1) ∧ decode cX10_isText 8 = .ok (.invokestatic 101, 3) ∧ decode cX10_isText 11 = .ok (.ifCond .ne 6, 3) ∧ decode cX10_isText 14 = .ok (.ldc 104, 2) ∧ decode cX10_isText 16 = .ok (.ireturn, 1) ∧ decode cX10_isText 17 = .ok (.aload_n 0, 1) ∧ decode cX10_isText 18 = .ok (.getfield 40, 3) ∧ decode cX10_isText 21 = .ok (.iload_n 1, 1) ∧ decode cX10_isText 22 = .ok (.aaload, 1) ∧ decode cX10_isText 23 = .ok (.getfield 236, 3) ∧ decode cX10_isText 26 = .ok (.astore_n 3, 1) ∧ decode cX10_isText 27 = .ok (.aload_n 3, 1) ∧ decode cX10_isText 28 = .ok (.ifnonnull 6, 3) ∧ decode cX10_isText 31 = .ok (.ldc 241, 2) ∧ decode cX10_isText 33 = .ok (.ireturn, 1) ∧ decode cX10_isText 34 = .ok (.aload_n 3, 1) ∧ decode cX10_isText 35 = .ok (.instanceof 9, 3) ∧ decode cX10_isText 38 = .ok (.ifCond .eq 12, 3) ∧ decode cX10_isText 41 = .ok (.aload_n 3, 1) ∧ decode cX10_isText 42 = .ok (.checkcast 9, 3) ∧ decode cX10_isText 45 = .ok (.astore 4, 2) ∧ decode cX10_isText 47 = .ok (.goto 6, 3) ∧ decode cX10_isText 50 = .ok (.ldc 242, 2) ∧ decode cX10_isText 52 = .ok (.ireturn, 1) ∧ decode cX10_isText 53 = .ok (.aload 4, 2) ∧ decode cX10_isText 55 = .ok (.aload_n 0, 1) ∧ decode cX10_isText 56 = .ok (.iload_n 2, 1) ∧ decode cX10_isText 57 = .ok (.invokevirtual 108, 3) ∧ decode cX10_isText 60 = .ok (.invokevirtual 193, 3) ∧ decode cX10_isText 63 = .ok (.ifCond .eq 7, 3) ∧ decode cX10_isText 66 = .ok (.iconst 1, 1) ∧ decode cX10_isText 67 = .ok (.goto 4, 3) ∧ decode cX10_isText 70 = .ok (.iconst 0, 1) ∧ decode cX10_isText 71 = .ok (.ireturn, 1) := ⟨by decide +kernel, by decide +kernel, by decide +kernel, by decide +kernel, by decide +kernel, by decide +kernel, by decide +kernel, by decide +kernel, by decide +kernel, by decide +kernel, by decide +kernel, by decide +kernel, by decide +kernel, by decide +kernel, by decide +kernel, by decide +kernel, by decide +kernel, by decide +kernel, by decide +kernel, by decide +kernel, by decide +kernel, by decide +kernel, by decide +kernel, by decide +kernel, by decide +kernel, by decide +kernel, by decide +kernel, by decide +kernel, by decide +kernel, by decide +kernel, by decide +kernel, by decide +kernel, by decide +kernel, by decide +kernel, by decide +kernel, by decide +kernel, by decide +kernel⟩
theorem dec_X10_keep : decode cX10_keep 0 = .ok (.iload_n 1, 1) ∧ decode cX10_keep 1 = .ok (.invokestatic 261, 3) ∧ decode cX10_keep 4 = .ok (.ifCond .ne 6, 3) ∧ decode cX10_keep 7 = .ok (.ldc 104, 2) ∧ decode cX10_keep 9 = .ok (.ireturn, 1) ∧ decode cX10_keep 10 = .ok (.aload_n 0, 1) ∧ decode cX10_keep 11 = .ok (.getfield 30, 3) ∧ decode cX10_keep 14 = .ok (.iload_n 1, 1) ∧ decode cX10_keep 15 = .ok (.aaload, 1) ∧ decode cX10_keep 16 = .ok (.aload_n 0, 1) ∧ decode cX10_keep 17 = .ok (.getfield 19, 3) ∧ decode cX10_keep 20 = .ok (.invokevirtual 264, 3) ∧ decode cX10_keep 23 = .ok (.aload_n 0, 1) ∧ decode cX10_keep 24 = .ok (.getfield 34, 3) ∧ decode cX10_keep 27 = .ok (.iload_n 1, 1) ∧ decode cX10_keep 28 = .ok (.iconst 1, 1) ∧ decode cX10_keep 29 = .ok (.bastore, 1) ∧ decode cX10_keep 30 = .ok (.aload_n 0, 1) ∧ decode cX10_keep 31 = .ok (.getfield 26, 3) ∧ decode cX10_keep 34 = .ok (.iconst 0, 1) ∧ decode cX10_keep 35 = .ok (.putfield 87, 3) ∧ decode cX10_keep 38 = .ok (.iconst 1, 1) ∧ decode cX10_keep 39 = .ok (.ireturn, 1) := ⟨by decide +kernel, by decide +kernel, by decide +kernel, by decide +kernel, by decide +kernel, by decide +kernel, by decide +kernel, by decide +kernel, by decide +kernel, by decide +kernel, by decide +kernel, by decide +kernel, by decide +kernel, by decide +kernel, by decide +kernel, by decide +kernel, by decide +kernel, by decide +kernel, by decide +kernel, by decide +kernel, by decide +kernel, by decide +kernel, by decide +kernel⟩
theorem dec_X10_letter : decode cX10_letter 0 = .ok (.iload_n 1, 1) ∧ decode cX10_letter 1 = .ok (.invokestatic 226, 3) ∧ decode cX10_letter 4 = .ok (.ifCond .ne 6, 3) ∧ decode cX10_letter 7 = .ok (.ldc 104, 2) ∧ decode cX10_letter 9 = .ok (.ireturn, 1) ∧ decode cX10_letter 10 = .ok (.iload_n 2, 1) ∧ decode cX10_letter 11 = .ok (.ifCond .ge 6, 3) ∧ decode cX10_letter 14 = .ok (.ldc 94, 2) ∧ decode cX10_letter 16 = .ok (.ireturn, 1) ∧ decode cX10_letter 17 = .ok (.aload_n 0, 1) ∧ decode cX10_letter 18 = .ok (.getfield 40, 3) ∧ decode cX10_letter 21 = .ok (.iload_n 1, 1) ∧ decode cX10_letter 22 = .ok (.aaload, 1) ∧ decode cX10_letter 23 = .ok (.getfield 236, 3) ∧ decode cX10_letter 26 = .ok (.astore_n 3, 1) ∧ decode cX10_letter 27 = .ok (.aload_n 3, 1) ∧ decode cX10_letter 28 = .ok (.ifnonnull 6, 3) ∧ decode cX10_letter 31 = .ok (.ldc 241, 2) ∧ decode cX10_letter 33 = .ok (.ireturn, 1) ∧ decode cX10_letter 34 = .ok (.aload_n 3, 1) ∧ decode cX10_letter 35 = .ok (.instanceof 9, 3) ∧ decode cX10_letter 38 = .ok (.ifCond .eq 18, 3) ∧ decode cX10_letter 41 = .ok (.aload_n 3, 1) ∧ decode cX10_letter 42 = .ok (.checkcast 9, 3) ∧ decode cX10_letter 45 = .ok (.astore 4, 2) ∧ decode cX10_letter 47 = .ok (.aload 4, 2) ∧ decode cX10_letter 49 = .ok (.iload_n 2, 1) ∧ decode cX10_letter 50 = .ok (.invokevirtual 202, 3) ∧ decode cX10_letter 53 = .ok (.goto 5, 3) ∧ decode cX10_letter 56 = .ok (.ldc 242, 2) ∧ decode cX10_letter 58 = .ok (.ireturn, 1) := ⟨by decide +kernel, by decide +kernel, by decide +kernel, by decide +kernel, by decide +kernel, by decide +kernel, by decide +kernel, by decide +kernel, by decide +kernel, by decide +kernel, by decide +kernel, by decide +kernel, by decide +kernel, by decide +kernel, by decide +kernel, by decide +kernel, by decide +kernel, by decide +kernel, by decide +kernel, by decide +kernel, by decide +kernel, by decide +kernel, by decide +kernel, by decide +kernel, by decide +kernel, by decide +kernel, by decide +kernel, by decide +kernel, by decide +kernel, by decide +kernel, by decide +kernel⟩
theorem dec_X10_needingIt : decode cX10_needingIt 0 = .ok (.iconst 0, 1) ∧ decode cX10_needingIt 1 = .ok (.istore_n 3, 1) ∧ decode cX10_needingIt 2 = .ok (.iload_n 2, 1) ∧ decode cX10_needingIt 3 = .ok (.iconst 1, 1) ∧ decode cX10_needingIt 4 = .ok (.iadd, 1) ∧ decode cX10_needingIt 5 = .ok (.istore 4, 2) ∧ decode cX10_needingIt 7 = .ok (.iload 4, 2) ∧ decode cX10_needingIt 9 = .ok (.aload_n 1, 1) ∧ decode cX10_needingIt 10 = .ok (.getfield 138, 3) ∧ decode cX10_needingIt 13 = .ok (.if_icmp .ge 41, 3) ∧ decode cX10_needingIt 16 = .ok (.aload_n 0, 1) ∧ decode cX10_needingIt 17 = .ok (.aload_n 1, 1) ∧ decode cX10_needingIt 18 = .ok (.iload 4, 2) ∧ decode cX10_needingIt 20 = .ok (.invokevirtual 216, 3) ∧ decode cX10_needingIt 23 = .ok (.aload_n 1, 1) ∧ decode cX10_needingIt 24 = .ok (.getfield 151, 3) ∧ decode cX10_needingIt 27 = .ok (.iload_n 2, 1) ∧ decode cX10_needingIt 28 = .ok (.iaload, 1) ∧ decode cX10_needingIt 29 = .ok (.ishr, 1) ∧ decode cX10_needingIt 30 = .ok (.iconst 1, 1) ∧ decode cX10_needingIt 31 = .ok (.iand, 1) ∧ decode cX10_needingIt 32 = .ok (.iconst 1, 1) ∧ decode cX10_needingIt 33 = .ok (.if_icmp .ne 15, 3) ∧ decode cX10_needingIt 36 = .ok (.iload_n 3, 1) ∧ decode cX10_needingIt 37 = .ok (.iconst 1, 1) ∧ decode cX10_needingIt 38 = .ok (.aload_n 1, 1) ∧ decode cX10_needingIt 39 = .ok (.getfield 151, 3) ∧ decode cX10_needingIt 42 = .ok (.iload 4, 2) ∧ decode cX10_needingIt 44 = .ok (.iaload, 1) ∧ decode cX10_needingIt 45 = .ok (.ishl, 1) ∧ decode cX10_needingIt 46 = .ok (.ior, 1) ∧ decode cX10_needingIt 47 = .ok (.istore_n 3, 1) ∧ decode cX10_needingIt 48 = .ok (.iinc 4 1, 3) ∧ decode cX10_needingIt 51 = .ok (.goto (-44), 3) ∧ decode cX10_needingIt 54 = .ok (.iload_n 3, 1) ∧ decode cX10_needingIt 55 = .ok (.ireturn, 1) := ⟨by decide +kernel, by decide +kernel, by decide +kernel, by decide +kernel, by decide +kernel, by decide +kernel, by decide +kernel, by decide +kernel, by decide +kernel, by decide +kernel, by decide +kernel, by decide +kernel, by decide +kernel, by decide +kernel, by decide +kernel, by decide +kernel, by decide +kernel, by decide +kernel, by decide +kernel, by decide +kernel, by decide +kernel, by decide +kernel, by decide +kernel, by decide +kernel, by decide +kernel, by decide +kernel, by decide +kernel, by decide +kernel, by decide +kernel, by decide +kernel, by decide +kernel, by decide +kernel, by decide +kernel, by decide +kernel, by decide +kernel, by decide +kernel⟩
theorem dec_X10_needsAt : decode cX10_needsAt 0 = .ok (.aload_n 0, 1) ∧ decode cX10_needsAt 1 = .ok (.getfield 52, 3) ∧ decode cX10_needsAt 4 = .ok (.aload_n 1, 1) ∧ decode cX10_needsAt 5 = .ok (.invokevirtual 277, 3) ∧ decode cX10_needsAt 8 = .ok (.aload_n 0, 1) ∧ decode cX10_needsAt 9 = .ok (.getfield 52, 3) ∧ decode cX10_needsAt 12 = .ok (.iload_n 2, 1) ∧ decode cX10_needsAt 13 = .ok (.iconst 0, 1) ∧ decode cX10_needsAt 14 = .ok (.invokevirtual 279, 3) ∧ decode cX10_needsAt 17 = .ok (.istore_n 3, 1) ∧ decode cX10_needsAt 18 = .ok (.iconst 0, 1) ∧ decode cX10_needsAt 19 = .ok (.istore 4, 2) ∧ decode cX10_needsAt 21 = .ok (.iconst 0, 1) ∧ decode cX10_needsAt 22 = .ok (.istore 5, 2) ∧ decode cX10_needsAt 24 = .ok (.iload 5, 2) ∧ decode cX10_needsAt 26 = .ok (.iload_n 3, 1) ∧ decode cX10_needsAt 27 = .ok (.if_icmp .ge 26, 3) ∧ decode cX10_needsAt 30 = .ok (.iload 4, 2) ∧ decode cX10_needsAt 32 = .ok (.iconst 1, 1) ∧ decode cX10_needsAt 33 = .ok (.aload_n 0, 1) ∧ decode cX10_needsAt 34 = .ok (.getfield 52, 3) ∧ decode cX10_needsAt 37 = .ok (.getfield 151, 3) ∧ decode cX10_needsAt 40 = .ok (.iload 5, 2) ∧ decode cX10_needsAt 42 = .ok (.iaload, 1) ∧ decode cX10_needsAt 43 = .ok (.ishl, 1) ∧ decode cX10_needsAt 44 = .ok (.ior, 1) ∧ decode cX10_needsAt 45 = .ok (.istore 4, 2) ∧ decode cX10_needsAt 47 = .ok (.iinc 5 1, 3) ∧ decode cX10_needsAt 50 = .ok (.goto (-26), 3) ∧ decode cX10_needsAt 53 = .ok (.iload 4, 2) ∧ decode cX10_needsAt 55 = .ok (.ireturn, 1) := ⟨by decide +kernel, by decide +kernel, by decide +kernel, by decide +kernel, by decide +kernel, by decide +kernel, by decide +kernel, by decide +kernel, by decide +kernel, by decide +kernel, by decide +kernel, by decide +kernel, by decide +kernel, by decide +kernel, by decide +kernel, by decide +kernel, by decide +kernel, by decide +kernel, by decide +kernel, by decide +kernel, by decide +kernel, by decide +kernel, by decide +kernel, by decide +kernel, by decide +kernel, by decide +kernel, by decide +kernel, by decide +kernel, by decide +kernel, by decide +kernel, by decide +kernel⟩
theorem dec_X10_oppose : decode cX10_oppose 0 = .ok (.iload_n 1, 1) ∧ decode cX10_oppose 1 = .ok (.invokestatic 226, 3) ∧ decode cX10_oppose 4 = .ok (.ifCond .eq 10, 3) ∧ decode cX10_oppose 7 = .ok (.iload_n 2, 1) ∧ decode cX10_oppose 8 = .ok (.invokestatic 101, 3) ∧ decode cX10_oppose 11 = .ok (.ifCond .ne 6, 3) ∧ decode cX10_oppose 14 = .ok (.ldc 104, 2) ∧ decode cX10_oppose 16 = .ok (.ireturn, 1) ∧ decode cX10_oppose 17 = .ok (.aload_n 0, 1) ∧ decode cX10_oppose 18 = .ok (.getfield 40, 3) ∧ decode cX10_oppose 21 = .ok (.iload_n 1, 1) ∧ decode cX10_oppose 22 = .ok (.aaload, 1) ∧ decode cX10_oppose 23 = .ok (.getfield 236, 3) ∧ decode cX10_oppose 26 = .ok (.astore_n 3, 1) ∧ decode cX10_oppose 27 = .ok (.aload_n 3, 1) ∧ decode cX10_oppose 28 = .ok (.ifnonnull 6, 3) ∧ decode cX10_oppose 31 = .ok (.ldc 241, 2) ∧ decode cX10_oppose 33 = .ok (.ireturn, 1) ∧ decode cX10_oppose 34 = .ok (.aload_n 3, 1) ∧ decode cX10_oppose 35 = .ok (.instanceof 239, 3) ∧ decode cX10_oppose 38 = .ok (.ifCond .eq 12, 3) ∧ decode cX10_oppose 41 = .ok (.aload_n 3, 1) ∧ decode cX10_oppose 42 = .ok (.checkcast 239, 3) ∧ decode cX10_oppose 45 = .ok (.astore 4, 2) ∧ decode cX10_oppose 47 = .ok (.goto 6, 3) ∧ decode cX10_oppose 50 = .ok (.ldc 242, 2) ∧ decode cX10_oppose 52 = .ok (.ireturn, 1) ∧ decode cX10_oppose 53 = .ok (.aload 4, 2) ∧ decode cX10_oppose 55 = .ok (.getfield 246, 3) ∧ decode cX10_oppose 58 = .ok (.invokestatic 255, 3) ∧ decode cX10_oppose 61 = .ok (.istore 5, 2) ∧ decode cX10_oppose 63 = .ok (.aload_n 0, 1) ∧ decode cX10_oppose 64 = .ok (.iload_n 2, 1) ∧ decode cX10_oppose 65 = .ok (.invokevirtual 108, 3) ∧ decode cX10_oppose 68 = .ok (.iload 5, 2) ∧ decode cX10_oppose 70 = .ok (.aload 4, 2) ∧ decode cX10_oppose 72 = .ok (.getfield 249, 3) ∧ decode cX10_oppose 75 = .ok (.aload 4, 2) ∧ decode cX10_oppose 77 = .ok (.getfield 252, 3) ∧ decode cX10_oppose 80 = .ok (.invokevirtual 258, 3) ∧ decode cX10_oppose 83 = .ok (.ifCond .ne 6, 3) ∧ decode cX10_oppose 86 = .ok (.ldc 95, 2) ∧ decode cX10_oppose 88 = .ok (.ireturn, 1) ∧ decode cX10_oppose 89 = .ok (.aload_n 0, 1) ∧ decode cX10_oppose 90 = .ok (.iload_n 2, 1) ∧ decode cX10_oppose 91 = .ok (.iload 5, 2) ∧ decode cX10_oppose 93 = .ok (.invokevirtual 116, 3) ∧ decode cX10_oppose 96 = .ok (.ifCond .ne 6, 3) ∧ decode cX10_oppose 99 = .ok (.ldc 96, 2) ∧ decode cX10_oppose 101 = .ok (.ireturn, 1) ∧ decode cX10_oppose 102 = .ok (.aload_n 0, 1) ∧ decode cX10_oppose 103 = .ok (.getfield 26, 3) ∧ decode cX10_oppose 106 = .ok (.aload_n 0, 1) ∧ decode cX10_oppose 107 = .ok (.getfield 19, 3) ∧ decode cX10_oppose 110 = .ok (.invokevirtual 119, 3) ∧ decode cX10_oppose 113 = .ok (.aload_n 0, 1) ∧ decode cX10_oppose 114 = .ok (.iload_n 2, 1) ∧ decode cX10_oppose 115 = .ok (.iload 5, 2) ∧ decode cX10_oppose 117 = .ok (.aload 4, 2) ∧ decode cX10_oppose 119 = .ok (.getfield 249, 3) ∧ decode cX10_oppose 122 = .ok (.aload 4, 2) ∧ decode cX10_oppose 124 = .ok (.getfield 252, 3) ∧ decode cX10_oppose 127 = .ok (.invokevirtual 123, 3) ∧ decode cX10_oppose 130 = .ok (.ireturn, 1) := ⟨by decide +kernel, by decide +kernel, by decide +kernel, by decide +kernel, by decide +kernel, by decide +kernel, by decide +kernel, by decide +kernel, by decide +kernel, by decide +kernel, by decide +kernel, by decide +kernel, by decide +kernel, by decide +kernel, by decide +kernel, by decide +kernel, by decide +kernel, by decide +kernel, by decide +kernel, by decide +kernel, by decide +kernel, by decide +kernel, by decide +kernel, by decide +kernel, by decide +kernel, by decide +kernel, by decide +kernel, by decide +kernel, by decide +kernel, by decide +kernel, by decide +kernel, by decide +kernel, by decide +kernel, by decide +kernel, by decide +kernel, by decide +kernel, by decide +kernel, by decide +kernel, by decide +kernel, by decide +kernel, by decide +kernel, by decide +kernel, by decide +kernel, by decide +kernel, by decide +kernel, by decide +kernel, by decide +kernel, by decide +kernel, by decide +kernel, by decide +kernel, by decide +kernel, by decide +kernel, by decide +kernel, by decide +kernel, by decide +kernel, by decide +kernel, by decide +kernel, by decide +kernel, by decide +kernel, by decide +kernel, by decide +kernel, by decide +kernel, by decide +kernel, by decide +kernel⟩
theorem dec_X10_opposite : decode cX10_opposite 0 = .ok (.iload_n 0, 1) ∧ decode cX10_opposite 1 = .ok (.ifCond .ne 7, 3) ∧ decode cX10_opposite 4 = .ok (.iconst 1, 1) ∧ decode cX10_opposite 5 = .ok (.goto 4, 3) ∧ decode cX10_opposite 8 = .ok (.iconst 0, 1) ∧ decode cX10_opposite 9 = .ok (.ireturn, 1) := ⟨by decide +kernel, by decide +kernel, by decide +kernel, by decide +kernel, by decide +kernel, by decide +kernel⟩
theorem dec_X10_pull : decode cX10_pull 0 = .ok (.iload_n 1, 1) ∧ decode cX10_pull 1 = .ok (.invokestatic 101, 3) ∧ decode cX10_pull 4 = .ok (.ifCond .eq 22, 3) ∧ decode cX10_pull 7 = .ok (.aload_n 0, 1) ∧ decode cX10_pull 8 = .ok (.getfield 19, 3) ∧ decode cX10_pull 11 = .ok (.getfield 127, 3) ∧ decode cX10_pull 14 = .ok (.iconst 1, 1) ∧ decode cX10_pull 15 = .ok (.iload_n 1, 1) ∧ decode cX10_pull 16 = .ok (.isub, 1) ∧ decode cX10_pull 17 = .ok (.aaload, 1) ∧ decode cX10_pull 18 = .ok (.iload_n 2, 1) ∧ decode cX10_pull 19 = .ok (.invokevirtual 131, 3) ∧ decode cX10_pull 22 = .ok (.iconst (-1), 1) ∧ decode cX10_pull 23 = .ok (.if_icmp .ne 6, 3) ∧ decode cX10_pull 26 = .ok (.ldc 104, 2) ∧ decode cX10_pull 28 = .ok (.ireturn, 1) ∧ decode cX10_pull 29 = .ok (.aload_n 0, 1) ∧ decode cX10_pull 30 = .ok (.getfield 19, 3) ∧ decode cX10_pull 33 = .ok (.getfield 127, 3) ∧ decode cX10_pull 36 = .ok (.iload_n 1, 1) ∧ decode cX10_pull 37 = .ok (.aaload, 1) ∧ decode cX10_pull 38 = .ok (.astore_n 3, 1) ∧ decode cX10_pull 39 = .ok (.aload_n 3, 1) ∧ decode cX10_pull 40 = .ok (.iload_n 2, 1) ∧ decode cX10_pull 41 = .ok (.invokevirtual 131, 3) ∧ decode cX10_pull 44 = .ok (.iconst (-1), 1) ∧ decode cX10_pull 45 = .ok (.if_icmp .ne 26, 3) ∧ decode cX10_pull 48 = .ok (.aload_n 0, 1) ∧ decode cX10_pull 49 = .ok (.getfield 59, 3) ∧ decode cX10_pull 52 = .ok (.aload_n 3, 1) ∧ decode cX10_pull 53 = .ok (.aload_n 0, 1) ∧ decode cX10_pull 54 = .ok (.getfield 19, 3) ∧ decode cX10_pull 57 = .ok (.getfield 127, 3) ∧ decode cX10_pull 60 = .ok (.iconst 1, 1) ∧ decode cX10_pull 61 = .ok (.iload_n 1, 1) ∧ decode cX10_pull 62 = .ok (.isub, 1) ∧ decode cX10_pull 63 = .ok (.aaload, 1) ∧ decode cX10_pull 64 = .ok (.iload_n 2, 1) ∧ decode cX10_pull 65 = .ok (.invokevirtual 154, 3) ∧ decode cX10_pull 68 = .ok (.ifCond .ne 6, 3) ∧ decode cX10_pull 71 = .ok (.ldc 95, 2) ∧ decode cX10_pull 73 = .ok (.ireturn, 1) ∧ decode cX10_pull 74 = .ok (.aload_n 0, 1) ∧ decode cX10_pull 75 = .ok (.iload_n 1, 1) ∧ decode cX10_pull 76 = .ok (.invokevirtual 108, 3) ∧ decode cX10_pull 79 = .ok (.astore 4, 2) ∧ decode cX10_pull 81 = .ok (.aload_n 0, 1) ∧ decode cX10_pull 82 = .ok (.getfield 59, 3) ∧ decode cX10_pull 85 = .ok (.aload 4, 2) ∧ decode cX10_pull 87 = .ok (.getfield 81, 3) ∧ decode cX10_pull 90 = .ok (.invokevirtual 158, 3) ∧ decode cX10_pull 93 = .ok (.ifCond .ne 6, 3) ∧ decode cX10_pull 96 = .ok (.ldc 96, 2) ∧ decode cX10_pull 98 = .ok (.ireturn, 1) ∧ decode cX10_pull 99 = .ok (.aload_n 0, 1) ∧ decode cX10_pull 100 = .ok (.getfield 59, 3) ∧ decode cX10_pull 103 = .ok (.invokevirtual 160, 3) ∧ decode cX10_pull 106 = .ok (.istore 5, 2) ∧ decode cX10_pull 108 = .ok (.iload 5, 2) ∧ decode cX10_pull 110 = .ok (.iconst (-1), 1) ∧ decode cX10_pull 111 = .ok (.if_icmp .eq 37, 3) ∧ decode cX10_pull 114 = .ok (.aload_n 0, 1) ∧ decode cX10_pull 115 = .ok (.getfield 26, 3) ∧ decode cX10_pull 118 = .ok (.aload_n 0, 1) ∧ decode cX10_pull 119 = .ok (.getfield 19, 3) ∧ decode cX10_pull 122 = .ok (.invokevirtual 119, 3) ∧ decode cX10_pull 125 = .ok (.aload_n 0, 1) ∧ decode cX10_pull 126 = .ok (.getfield 19, 3) ∧ decode cX10_pull 129 = .ok (.getfield 164, 3) ∧ decode cX10_pull 132 = .ok (.iload_n 1, 1) ∧ decode cX10_pull 133 = .ok (.iload_n 2, 1) ∧ decode cX10_pull 134 = .ok (.iastore, 1) ∧ decode cX10_pull 135 = .ok (.aload_n 0, 1) ∧ decode cX10_pull 136 = .ok (.getfield 19, 3) ∧ decode cX10_pull 139 = .ok (.getfield 167, 3) ∧ decode cX10_pull 142 = .ok (.iload_n 1, 1) ∧ decode cX10_pull 143 = .ok (.iload 5, 2) ∧ decode cX10_pull 145 = .ok (.iastore, 1) ∧ decode cX10_pull 146 = .ok (.iconst 0, 1) ∧ decode cX10_pull 147 = .ok (.ireturn, 1) ∧ decode cX10_pull 148 = .ok (.aload_n 0, 1) ∧ decode cX10_pull 149 = .ok (.getfield 59, 3) ∧ decode cX10_pull 152 = .ok (.aload 4, 2) ∧ decode cX10_pull 154 = .ok (.invokevirtual 170, 3) ∧ decode cX10_pull 157 = .ok (.ifCond .ne 6, 3) ∧ decode cX10_pull 160 = .ok (.ldc 95, 2) ∧ decode cX10_pull 162 = .ok (.ireturn, 1) ∧ decode cX10_pull 163 = .ok (.aload_n 0, 1) ∧ decode cX10_pull 164 = .ok (.getfield 26, 3) ∧ decode cX10_pull 167 = .ok (.aload_n 0, 1) ∧ decode cX10_pull 168 = .ok (.getfield 19, 3) ∧ decode cX10_pull 171 = .ok (.invokevirtual 119, 3) ∧ decode cX10_pull 174 = .ok (.aload_n 0, 1) ∧ decode cX10_pull 175 = .ok (.getfield 59, 3) ∧ decode cX10_pull 178 = .ok (.aload_n 3, 1) ∧ decode cX10_pull 179 = .ok (.invokevirtual 174, 3) ∧ decode cX10_pull 182 = .ok (.aload_n 0, 1) ∧ decode cX10_pull 183 = .ok (.getfield 59, 3) ∧ decode cX10_pull 186 = .ok (.getfield 178, 3) ∧ decode cX10_pull 189 = .ok (.ireturn, 1) := ⟨by decide +kernel, by decide +kernel, by decide +kernel, by decide +kernel, by decide +kernel, by decide +kernel, by decide +kernel, by decide +kernel, by decide +kernel, by decide +kernel, by decide +kernel, by decide +kernel, by decide +kernel, by decide +kernel, by decide +kernel, by decide +kernel, by decide +kernel, by decide +kernel, by decide +kernel, by decide +kernel, by decide +kernel, by decide +kernel, by decide +kernel, by decide +kernel, by decide +kernel, by decide +kernel, by decide +kernel, by decide +kernel, by decide +kernel, by decide +kernel, by decide +kernel, by decide +kernel, by decide +kernel, by decide +kernel, by decide +kernel, by decide +kernel, by decide +kernel, by decide +kernel, by decide +kernel, by decide +kernel, by decide +kernel, by decide +kernel, by decide +kernel, by decide +kernel, by decide +kernel, by decide +kernel, by decide +kernel, by decide +kernel, by decide +kernel, by decide +kernel, by decide +kernel, by decide +kernel, by decide +kernel, by decide +kernel, by decide +kernel, by decide +kernel, by decide +kernel, by decide +kernel, by decide +kernel, by decide +kernel, by decide +kernel, by decide +kernel, by decide +kernel, by decide +kernel, by decide +kernel, by decide +kernel, by decide +kernel, by decide +kernel, by decide +kernel, by decide +kernel, by decide +kernel, by decide +kernel, by decide +kernel, by decide +kernel, by decide +kernel, by decide +kernel, by decide +kernel, by decide +kernel, by decide +kernel, by decide +kernel, by decide +kernel, by decide +kernel, by decide +kernel, by decide +kernel, by decide +kernel, by decide +kernel, by decide +kernel, by decide +kernel, by decide +kernel, by decide +kernel, by decide +kernel, by decide +kernel, by decide +kernel, by decide +kernel, by decide +kernel, by decide +kernel, by decide +kernel, by decide +kernel, by decide +kernel, by decide +kernel⟩
theorem dec_X10_readText : decode cX10_readText 0 = .ok (.aload_n 0, 1) ∧ decode cX10_readText 1 = .ok (.getfield 45, 3) ∧ decode cX10_readText 4 = .ok (.iload_n 1, 1) ∧ decode cX10_readText 5 = .ok (.aaload, 1) ∧ decode cX10_readText 6 = .ok (.astore_n 2, 1) ∧ decode cX10_readText 7 = .ok (.aload_n 2, 1) ∧ decode cX10_readText 8 = .ok (.aload_n 0, 1) ∧ decode cX10_readText 9 = .ok (.getfield 12, 3) ∧ decode cX10_readText 12 = .ok (.invokevirtual 267, 3) ∧ decode cX10_readText 15 = .ok (.aload_n 0, 1) ∧ decode cX10_readText 16 = .ok (.getfield 19, 3) ∧ decode cX10_readText 19 = .ok (.getfield 127, 3) ∧ decode cX10_readText 22 = .ok (.iload_n 1, 1) ∧ decode cX10_readText 23 = .ok (.aaload, 1) ∧ decode cX10_readText 24 = .ok (.astore_n 3, 1) ∧ decode cX10_readText 25 = .ok (.iconst 0, 1) ∧ decode cX10_readText 26 = .ok (.istore 4, 2) ∧ decode cX10_readText 28 = .ok (.iload 4, 2) ∧ decode cX10_readText 30 = .ok (.aload_n 3, 1) ∧ decode cX10_readText 31 = .ok (.getfield 138, 3) ∧ decode cX10_readText 34 = .ok (.if_icmp .ge 34, 3) ∧ decode cX10_readText 37 = .ok (.aload_n 2, 1) ∧ decode cX10_readText 38 = .ok (.aload_n 3, 1) ∧ decode cX10_readText 39 = .ok (.getfield 207, 3) ∧ decode cX10_readText 42 = .ok (.iload 4, 2) ∧ decode cX10_readText 44 = .ok (.iaload, 1) ∧ decode cX10_readText 45 = .ok (.aload_n 3, 1) ∧ decode cX10_readText 46 = .ok (.getfield 210, 3) ∧ decode cX10_readText 49 = .ok (.iload 4, 2) ∧ decode cX10_readText 51 = .ok (.iaload, 1) ∧ decode cX10_readText 52 = .ok (.aload_n 3, 1) ∧ decode cX10_readText 53 = .ok (.getfield 213, 3) ∧ decode cX10_readText 56 = .ok (.iload 4, 2) ∧ decode cX10_readText 58 = .ok (.iaload, 1) ∧ decode cX10_readText 59 = .ok (.invokevirtual 97, 3) ∧ decode cX10_readText 62 = .ok (.iinc 4 1, 3) ∧ decode cX10_readText 65 = .ok (.goto (-37), 3) ∧ decode cX10_readText 68 = .ok (.aload_n 2, 1) ∧ decode cX10_readText 69 = .ok (.areturn, 1) := ⟨by decide +kernel, by decide +kernel, by decide +kernel, by decide +kernel, by decide +kernel, by decide +kernel, by decide +kernel, by decide +kernel, by decide +kernel, by decide +kernel, by decide +kernel, by decide +kernel, by decide +kernel, by decide +kernel, by decide +kernel, by decide +kernel, by decide +kernel, by decide +kernel, by decide +kernel, by decide +kernel, by decide +kernel, by decide +kernel, by decide +kernel, by decide +kernel, by decide +kernel, by decide +kernel, by decide +kernel, by decide +kernel, by decide +kernel, by decide +kernel, by decide +kernel, by decide +kernel, by decide +kernel, by decide +kernel, by decide +kernel, by decide +kernel, by decide +kernel, by decide +kernel, by decide +kernel⟩
theorem dec_X10_record : decode cX10_record 0 = .ok (.iload_n 1, 1) ∧ decode cX10_record 1 = .ok (.invokestatic 101, 3) ∧ decode cX10_record 4 = .ok (.ifCond .ne 6, 3) ∧ decode cX10_record 7 = .ok (.ldc 104, 2) ∧ decode cX10_record 9 = .ok (.ireturn, 1) ∧ decode cX10_record 10 = .ok (.iload_n 2, 1) ∧ decode cX10_record 11 = .ok (.invokestatic 105, 3) ∧ decode cX10_record 14 = .ok (.ifCond .eq 15, 3) ∧ decode cX10_record 17 = .ok (.iload_n 2, 1) ∧ decode cX10_record 18 = .ok (.ifCond .ne 14, 3) ∧ decode cX10_record 21 = .ok (.iload 4, 2) ∧ decode cX10_record 23 = .ok (.invokestatic 90, 3) ∧ decode cX10_record 26 = .ok (.ifCond .ne 6, 3) ∧ decode cX10_record 29 = .ok (.ldc 94, 2) ∧ decode cX10_record 31 = .ok (.ireturn, 1) ∧ decode cX10_record 32 = .ok (.aload_n 0, 1) ∧ decode cX10_record 33 = .ok (.iload_n 1, 1) ∧ decode cX10_record 34 = .ok (.invokevirtual 108, 3) ∧ decode cX10_record 37 = .ok (.astore 5, 2) ∧ decode cX10_record 39 = .ok (.aload 5, 2) ∧ decode cX10_record 41 = .ok (.iload_n 2, 1) ∧ decode cX10_record 42 = .ok (.iload_n 3, 1) ∧ decode cX10_record 43 = .ok (.invokevirtual 112, 3) ∧ decode cX10_record 46 = .ok (.ifCond .ne 6, 3) ∧ decode cX10_record 49 = .ok (.ldc 94, 2) ∧ decode cX10_record 51 = .ok (.ireturn, 1) ∧ decode cX10_record 52 = .ok (.aload_n 0, 1) ∧ decode cX10_record 53 = .ok (.iload_n 1, 1) ∧ decode cX10_record 54 = .ok (.iload_n 2, 1) ∧ decode cX10_record 55 = .ok (.invokevirtual 116, 3) ∧ decode cX10_record 58 = .ok (.ifCond .ne 6, 3) ∧ decode cX10_record 61 = .ok (.ldc 96, 2) ∧ decode cX10_record 63 = .ok (.ireturn, 1) ∧ decode cX10_record 64 = .ok (.aload_n 0, 1) ∧ decode cX10_record 65 = .ok (.getfield 26, 3) ∧ decode cX10_record 68 = .ok (.aload_n 0, 1) ∧ decode cX10_record 69 = .ok (.getfield 19, 3) ∧ decode cX10_record 72 = .ok (.invokevirtual 119, 3) ∧ decode cX10_record 75 = .ok (.aload_n 0, 1) ∧ decode cX10_record 76 = .ok (.iload_n 1, 1) ∧ decode cX10_record 77 = .ok (.iload_n 2, 1) ∧ decode cX10_record 78 = .ok (.iload_n 3, 1) ∧ decode cX10_record 79 = .ok (.iload 4, 2) ∧ decode cX10_record 81 = .ok (.invokevirtual 123, 3) ∧ decode cX10_record 84 = .ok (.ireturn, 1) := ⟨by decide +kernel, by decide +kernel, by decide +kernel, by decide +kernel, by decide +kernel, by decide +kernel, by decide +kernel, by decide +kernel, by decide +kernel, by decide +kernel, by decide +kernel, by decide +kernel, by decide +kernel, by decide +kernel, by decide +kernel, by decide +kernel, by decide +kernel, by decide +kernel, by decide +kernel, by decide +kernel, by decide +kernel, by decide +kernel, by decide +kernel, by decide +kernel, by decide +kernel, by decide +kernel, by decide +kernel, by decide +kernel, by decide +kernel, by decide +kernel, by decide +kernel, by decide +kernel, by decide +kernel, by decide +kernel, by decide +kernel, by decide +kernel, by decide +kernel, by decide +kernel, by decide +kernel, by decide +kernel, by decide +kernel, by decide +kernel, by decide +kernel, by decide +kernel, by decide +kernel⟩
theorem dec_X10_recordByLots : decode cX10_recordByLots 0 = .ok (.aload_n 0, 1) ∧ decode cX10_recordByLots 1 = .ok (.getfield 73, 3) ∧ decode cX10_recordByLots 4 = .ok (.iconst 2, 1) ∧ decode cX10_recordByLots 5 = .ok (.invokevirtual 274, 3) ∧ decode cX10_recordByLots 8 = .ok (.istore_n 1, 1) ∧ decode cX10_recordByLots 9 = .ok (.aload_n 0, 1) ∧ decode cX10_recordByLots 10 = .ok (.getfield 73, 3) ∧ decode cX10_recordByLots 13 = .ok (.iconst 3, 1) ∧ decode cX10_recordByLots 14 = .ok (.invokevirtual 274, 3) ∧ decode cX10_recordByLots 17 = .ok (.iconst 2, 1) ∧ decode cX10_recordByLots 18 = .ok (.if_icmp .ne 7, 3) ∧ decode cX10_recordByLots 21 = .ok (.iconst 1, 1) ∧ decode cX10_recordByLots 22 = .ok (.goto 4, 3) ∧ decode cX10_recordByLots 25 = .ok (.iconst 0, 1) ∧ decode cX10_recordByLots 26 = .ok (.istore_n 2, 1) ∧ decode cX10_recordByLots 27 = .ok (.aload_n 0, 1) ∧ decode cX10_recordByLots 28 = .ok (.iload_n 1, 1) ∧ decode cX10_recordByLots 29 = .ok (.invokevirtual 108, 3) ∧ decode cX10_recordByLots 32 = .ok (.astore_n 3, 1) ∧ decode cX10_recordByLots 33 = .ok (.iload_n 2, 1) ∧ decode cX10_recordByLots 34 = .ok (.iconst 1, 1) ∧ decode cX10_recordByLots 35 = .ok (.if_icmp .ne 12, 3) ∧ decode cX10_recordByLots 38 = .ok (.aload_n 3, 1) ∧ decode cX10_recordByLots 39 = .ok (.getfield 81, 3) ∧ decode cX10_recordByLots 42 = .ok (.ifCond .ne 5, 3) ∧ decode cX10_recordByLots 45 = .ok (.iconst 0, 1) ∧ decode cX10_recordByLots 46 = .ok (.ireturn, 1) ∧ decode cX10_recordByLots 47 = .ok (.aload_n 0, 1) ∧ decode cX10_recordByLots 48 = .ok (.getfield 73, 3) ∧ decode cX10_recordByLots 51 = .ok (.iload_n 2, 1) ∧ decode cX10_recordByLots 52 = .ok (.iconst 1, 1) ∧ decode cX10_recordByLots 53 = .ok (.if_icmp .ne 10, 3) ∧ decode cX10_recordByLots 56 = .ok (.aload_n 3, 1) ∧ decode cX10_recordByLots 57 = .ok (.getfield 81, 3) ∧ decode cX10_recordByLots 60 = .ok (.goto 9, 3) ∧ decode cX10_recordByLots 63 = .ok (.aload_n 3, 1) ∧ decode cX10_recordByLots 64 = .ok (.getfield 81, 3) ∧ decode cX10_recordByLots 67 = .ok (.iconst 1, 1) ∧ decode cX10_recordByLots 68 = .ok (.iadd, 1) ∧ decode cX10_recordByLots 69 = .ok (.invokevirtual 274, 3) ∧ decode cX10_recordByLots 72 = .ok (.istore 4, 2) ∧ decode cX10_recordByLots 74 = .ok (.iload_n 2, 1) ∧ decode cX10_recordByLots 75 = .ok (.iconst 1, 1) ∧ decode cX10_recordByLots 76 = .ok (.if_icmp .ne 7, 3) ∧ decode cX10_recordByLots 79 = .ok (.iconst (-1), 1) ∧ decode cX10_recordByLots 80 = .ok (.goto 15, 3) ∧ decode cX10_recordByLots 83 = .ok (.bipush 97, 2) ∧ decode cX10_recordByLots 85 = .ok (.aload_n 0, 1) ∧ decode cX10_recordByLots 86 = .ok (.getfield 73, 3) ∧ decode cX10_recordByLots 89 = .ok (.bipush 26, 2) ∧ decode cX10_recordByLots 91 = .ok (.invokevirtual 274, 3) ∧ decode cX10_recordByLots 94 = .ok (.iadd, 1) ∧ decode cX10_recordByLots 95 = .ok (.istore 5, 2) ∧ decode cX10_recordByLots 97 = .ok (.aload_n 0, 1) ∧ decode cX10_recordByLots 98 = .ok (.iload_n 1, 1) ∧ decode cX10_recordByLots 99 = .ok (.iload_n 2, 1) ∧ decode cX10_recordByLots 100 = .ok (.invokevirtual 116, 3) ∧ decode cX10_recordByLots 103 = .ok (.ifCond .ne 5, 3) ∧ decode cX10_recordByLots 106 = .ok (.iconst 0, 1) ∧ decode cX10_recordByLots 107 = .ok (.ireturn, 1) ∧ decode cX10_recordByLots 108 = .ok (.aload_n 0, 1) ∧ decode cX10_recordByLots 109 = .ok (.iload_n 1, 1) ∧ decode cX10_recordByLots 110 = .ok (.iload_n 2, 1) ∧ decode cX10_recordByLots 111 = .ok (.iload 4, 2) ∧ decode cX10_recordByLots 113 = .ok (.iload 5, 2) ∧ decode cX10_recordByLots 115 = .ok (.invokevirtual 123, 3) ∧ decode cX10_recordByLots 118 = .ok (.pop, 1) ∧ decode cX10_recordByLots 119 = .ok (.iconst 1, 1) ∧ decode cX10_recordByLots 120 = .ok (.ireturn, 1) := ⟨by decide +kernel, by decide +kernel, by decide +kernel, by decide +kernel, by decide +kernel, by decide +kernel, by decide +kernel, by decide +kernel, by decide +kernel, by decide +kernel, by decide +kernel, by decide +kernel, by decide +kernel, by decide +kernel, by decide +kernel, by decide +kernel, by decide +kernel, by decide +kernel, by decide +kernel, by decide +kernel, by decide +kernel, by decide +kernel, by decide +kernel, by decide +kernel, by decide +kernel, by decide +kernel, by decide +kernel, by decide +kernel, by decide +kernel, by decide +kernel, by decide +kernel, by decide +kernel, by decide +kernel, by decide +kernel, by decide +kernel, by decide +kernel, by decide +kernel, by decide +kernel, by decide +kernel, by decide +kernel, by decide +kernel, by decide +kernel, by decide +kernel, by decide +kernel, by decide +kernel, by decide +kernel, by decide +kernel, by decide +kernel, by decide +kernel, by decide +kernel, by decide +kernel, by decide +kernel, by decide +kernel, by decide +kernel, by decide +kernel, by decide +kernel, by decide +kernel, by decide +kernel, by decide +kernel, by decide +kernel, by decide +kernel, by decide +kernel, by decide +kernel, by decide +kernel, by decide +kernel, by decide +kernel, by decide +kernel, by decide +kernel, by decide +kernel⟩
theorem dec_X10_round : decode cX10_round 0 = .ok (.iload_n 1, 1) ∧ decode cX10_round 1 = .ok (.invokestatic 105, 3) ∧ decode cX10_round 4 = .ok (.ifCond .eq 32, 3) ∧ decode cX10_round 7 = .ok (.iload_n 3, 1) ∧ decode cX10_round 8 = .ok (.invokestatic 105, 3) ∧ decode cX10_round 11 = .ok (.ifCond .eq 25, 3) ∧ decode cX10_round 14 = .ok (.iload_n 2, 1) ∧ decode cX10_round 15 = .ok (.ifCond .lt 21, 3) ∧ decode cX10_round 18 = .ok (.iload_n 2, 1) ∧ decode cX10_round 19 = .ok (.bipush 30, 2) ∧ decode cX10_round 21 = .ok (.if_icmp .gt 15, 3) ∧ decode cX10_round 24 = .ok (.iload 4, 2) ∧ decode cX10_round 26 = .ok (.ifCond .lt 10, 3) ∧ decode cX10_round 29 = .ok (.iload 4, 2) ∧ decode cX10_round 31 = .ok (.bipush 30, 2) ∧ decode cX10_round 33 = .ok (.if_icmp .le 6, 3) ∧ decode cX10_round 36 = .ok (.ldc 94, 2) ∧ decode cX10_round 38 = .ok (.ireturn, 1) ∧ decode cX10_round 39 = .ok (.iload_n 1, 1) ∧ decode cX10_round 40 = .ok (.iload_n 2, 1) ∧ decode cX10_round 41 = .ok (.iload_n 3, 1) ∧ decode cX10_round 42 = .ok (.iload 4, 2) ∧ decode cX10_round 44 = .ok (.invokestatic 223, 3) ∧ decode cX10_round 47 = .ok (.ireturn, 1) := ⟨by decide +kernel, by decide +kernel, by decide +kernel, by decide +kernel, by decide +kernel, by decide +kernel, by decide +kernel, by decide +kernel, by decide +kernel, by decide +kernel, by decide +kernel, by decide +kernel, by decide +kernel, by decide +kernel, by decide +kernel, by decide +kernel, by decide +kernel, by decide +kernel, by decide +kernel, by decide +kernel, by decide +kernel, by decide +kernel, by decide +kernel, by decide +kernel⟩
theorem dec_X10_shelve : decode cX10_shelve 0 = .ok (.iload_n 1, 1) ∧ decode cX10_shelve 1 = .ok (.invokestatic 226, 3) ∧ decode cX10_shelve 4 = .ok (.ifCond .eq 26, 3) ∧ decode cX10_shelve 7 = .ok (.iload_n 2, 1) ∧ decode cX10_shelve 8 = .ok (.invokestatic 101, 3) ∧ decode cX10_shelve 11 = .ok (.ifCond .eq 19, 3) ∧ decode cX10_shelve 14 = .ok (.aload_n 0, 1) ∧ decode cX10_shelve 15 = .ok (.getfield 19, 3) ∧ decode cX10_shelve 18 = .ok (.getfield 127, 3) ∧ decode cX10_shelve 21 = .ok (.iload_n 2, 1) ∧ decode cX10_shelve 22 = .ok (.aaload, 1) ∧ decode cX10_shelve 23 = .ok (.iload_n 3, 1) ∧ decode cX10_shelve 24 = .ok (.invokevirtual 205, 3) ∧ decode cX10_shelve 27 = .ok (.ifCond .ne 6, 3) ∧ decode cX10_shelve 30 = .ok (.ldc 104, 2) ∧ decode cX10_shelve 32 = .ok (.ireturn, 1) ∧ decode cX10_shelve 33 = .ok (.aload_n 0, 1) ∧ decode cX10_shelve 34 = .ok (.getfield 40, 3) ∧ decode cX10_shelve 37 = .ok (.iload_n 1, 1) ∧ decode cX10_shelve 38 = .ok (.aaload, 1) ∧ decode cX10_shelve 39 = .ok (.aload_n 0, 1) ∧ decode cX10_shelve 40 = .ok (.getfield 19, 3) ∧ decode cX10_shelve 43 = .ok (.getfield 127, 3) ∧ decode cX10_shelve 46 = .ok (.iload_n 2, 1) ∧ decode cX10_shelve 47 = .ok (.aaload, 1) ∧ decode cX10_shelve 48 = .ok (.iload_n 3, 1) ∧ decode cX10_shelve 49 = .ok (.invokevirtual 229, 3) ∧ decode cX10_shelve 52 = .ok (.ireturn, 1) := ⟨by decide +kernel, by decide +kernel, by decide +kernel, by decide +kernel, by decide +kernel, by decide +kernel, by decide +kernel, by decide +kernel, by decide +kernel, by decide +kernel, by decide +kernel, by decide +kernel, by decide +kernel, by decide +kernel, by decide +kernel, by decide +kernel, by decide +kernel, by decide +kernel, by decide +kernel, by decide +kernel, by decide +kernel, by decide +kernel, by decide +kernel, by decide +kernel, by decide +kernel, by decide +kernel, by decide +kernel, by decide +kernel⟩
theorem dec_X10_shelveText : decode cX10_shelveText 0 = .ok (.iload_n 1, 1) ∧ decode cX10_shelveText 1 = .ok (.invokestatic 226, 3) ∧ decode cX10_shelveText 4 = .ok (.ifCond .eq 10, 3) ∧ decode cX10_shelveText 7 = .ok (.iload_n 2, 1) ∧ decode cX10_shelveText 8 = .ok (.invokestatic 101, 3) ∧ decode cX10_shelveText 11 = .ok (.ifCond .ne 6, 3) ∧ decode cX10_shelveText 14 = .ok (.ldc 104, 2) ∧ decode cX10_shelveText 16 = .ok (.ireturn, 1) ∧ decode cX10_shelveText 17 = .ok (.aload_n 0, 1) ∧ decode cX10_shelveText 18 = .ok (.getfield 40, 3) ∧ decode cX10_shelveText 21 = .ok (.iload_n 1, 1) ∧ decode cX10_shelveText 22 = .ok (.aaload, 1) ∧ decode cX10_shelveText 23 = .ok (.aload_n 0, 1) ∧ decode cX10_shelveText 24 = .ok (.iload_n 2, 1) ∧ decode cX10_shelveText 25 = .ok (.invokevirtual 108, 3) ∧ decode cX10_shelveText 28 = .ok (.invokevirtual 232, 3) ∧ decode cX10_shelveText 31 = .ok (.ireturn, 1) := ⟨by decide +kernel, by decide +kernel, by decide +kernel, by decide +kernel, by decide +kernel, by decide +kernel, by decide +kernel, by decide +kernel, by decide +kernel, by decide +kernel, by decide +kernel, by decide +kernel, by decide +kernel, by decide +kernel, by decide +kernel, by decide +kernel, by decide +kernel⟩
theorem dec_X10_shelved : decode cX10_shelved 0 = .ok (.iload_n 1, 1) ∧ decode cX10_shelved 1 = .ok (.invokestatic 226, 3) ∧ decode cX10_shelved 4 = .ok (.ifCond .ne 6, 3) ∧ decode cX10_shelved 7 = .ok (.ldc 104, 2) ∧ decode cX10_shelved 9 = .ok (.ireturn, 1) ∧ decode cX10_shelved 10 = .ok (.iload_n 2, 1) ∧ decode cX10_shelved 11 = .ok (.ifCond .lt 8, 3) ∧ decode cX10_shelved 14 = .ok (.iload_n 2, 1) ∧ decode cX10_shelved 15 = .ok (.iconst 3, 1) ∧ decode cX10_shelved 16 = .ok (.if_icmp .le 6, 3) ∧ decode cX10_shelved 19 = .ok (.ldc 94, 2) ∧ decode cX10_shelved 21 = .ok (.ireturn, 1) ∧ decode cX10_shelved 22 = .ok (.aload_n 0, 1) ∧ decode cX10_shelved 23 = .ok (.getfield 40, 3) ∧ decode cX10_shelved 26 = .ok (.iload_n 1, 1) ∧ decode cX10_shelved 27 = .ok (.aaload, 1) ∧ decode cX10_shelved 28 = .ok (.getfield 236, 3) ∧ decode cX10_shelved 31 = .ok (.astore_n 3, 1) ∧ decode cX10_shelved 32 = .ok (.aload_n 3, 1) ∧ decode cX10_shelved 33 = .ok (.ifnonnull 6, 3) ∧ decode cX10_shelved 36 = .ok (.ldc 241, 2) ∧ decode cX10_shelved 38 = .ok (.ireturn, 1) ∧ decode cX10_shelved 39 = .ok (.aload_n 3, 1) ∧ decode cX10_shelved 40 = .ok (.instanceof 239, 3) ∧ decode cX10_shelved 43 = .ok (.ifCond .eq 12, 3) ∧ decode cX10_shelved 46 = .ok (.aload_n 3, 1) ∧ decode cX10_shelved 47 = .ok (.checkcast 239, 3) ∧ decode cX10_shelved 50 = .ok (.astore 4, 2) ∧ decode cX10_shelved 52 = .ok (.goto 6, 3) ∧ decode cX10_shelved 55 = .ok (.ldc 242, 2) ∧ decode cX10_shelved 57 = .ok (.ireturn, 1) ∧ decode cX10_shelved 58 = .ok (.iload_n 2, 1) ∧ decode cX10_shelved 59 = .ok (.tableswitch 43 0 2 #[25, 31, 37], 25) ∧ decode cX10_shelved 84 = .ok (.aload 4, 2) ∧ decode cX10_shelved 86 = .ok (.getfield 243, 3) ∧ decode cX10_shelved 89 = .ok (.ireturn, 1) ∧ decode cX10_shelved 90 = .ok (.aload 4, 2) ∧ decode cX10_shelved 92 = .ok (.getfield 246, 3) ∧ decode cX10_shelved 95 = .ok (.ireturn, 1) ∧ decode cX10_shelved 96 = .ok (.aload 4, 2) ∧ decode cX10_shelved 98 = .ok (.getfield 249, 3) ∧ decode cX10_shelved 101 = .ok (.ireturn, 1) ∧ decode cX10_shelved 102 = .ok (.aload 4, 2) ∧ decode cX10_shelved 104 = .ok (.getfield 252, 3) ∧ decode cX10_shelved 107 = .ok (.ireturn, 1) := ⟨by decide +kernel, by decide +kernel, by decide +kernel, by decide +kernel, by decide +kernel, by decide +kernel, by decide +kernel, by decide +kernel, by decide +kernel, by decide +kernel, by decide +kernel, by decide +kernel, by decide +kernel, by decide +kernel, by decide +kernel, by decide +kernel, by decide +kernel, by decide +kernel, by decide +kernel, by decide +kernel, by decide +kernel, by decide +kernel, by decide +kernel, by decide +kernel, by decide +kernel, by decide +kernel, by decide +kernel, by decide +kernel, by decide +kernel, by decide +kernel, by decide +kernel, by decide +kernel, by decide +kernel, by decide +kernel, by decide +kernel, by decide +kernel, by decide +kernel, by decide +kernel, by decide +kernel, by decide +kernel, by decide +kernel, by decide +kernel, by decide +kernel, by decide +kernel, by decide +kernel⟩
theorem dec_X10_takeOff : decode cX10_takeOff 0 = .ok (.iload_n 1, 1) ∧ decode cX10_takeOff 1 = .ok (.invokestatic 101, 3) ∧ decode cX10_takeOff 4 = .ok (.ifCond .ne 6, 3) ∧ decode cX10_takeOff 7 = .ok (.ldc 104, 2) ∧ decode cX10_takeOff 9 = .ok (.ireturn, 1) ∧ decode cX10_takeOff 10 = .ok (.aload_n 0, 1) ∧ decode cX10_takeOff 11 = .ok (.getfield 19, 3) ∧ decode cX10_takeOff 14 = .ok (.getfield 127, 3) ∧ decode cX10_takeOff 17 = .ok (.iload_n 1, 1) ∧ decode cX10_takeOff 18 = .ok (.aaload, 1) ∧ decode cX10_takeOff 19 = .ok (.astore_n 3, 1) ∧ decode cX10_takeOff 20 = .ok (.aload_n 3, 1) ∧ decode cX10_takeOff 21 = .ok (.iload_n 2, 1) ∧ decode cX10_takeOff 22 = .ok (.invokevirtual 131, 3) ∧ decode cX10_takeOff 25 = .ok (.istore 4, 2) ∧ decode cX10_takeOff 27 = .ok (.iload 4, 2) ∧ decode cX10_takeOff 29 = .ok (.iconst (-1), 1) ∧ decode cX10_takeOff 30 = .ok (.if_icmp .ne 6, 3) ∧ decode cX10_takeOff 33 = .ok (.ldc 104, 2) ∧ decode cX10_takeOff 35 = .ok (.ireturn, 1) ∧ decode cX10_takeOff 36 = .ok (.aload_n 3, 1) ∧ decode cX10_takeOff 37 = .ok (.iload 4, 2) ∧ decode cX10_takeOff 39 = .ok (.invokevirtual 135, 3) ∧ decode cX10_takeOff 42 = .ok (.ifCond .ne 6, 3) ∧ decode cX10_takeOff 45 = .ok (.ldc 95, 2) ∧ decode cX10_takeOff 47 = .ok (.ireturn, 1) ∧ decode cX10_takeOff 48 = .ok (.aload_n 0, 1) ∧ decode cX10_takeOff 49 = .ok (.getfield 26, 3) ∧ decode cX10_takeOff 52 = .ok (.aload_n 0, 1) ∧ decode cX10_takeOff 53 = .ok (.getfield 19, 3) ∧ decode cX10_takeOff 56 = .ok (.invokevirtual 119, 3) ∧ decode cX10_takeOff 59 = .ok (.aload_n 3, 1) ∧ decode cX10_takeOff 60 = .ok (.iload 4, 2) ∧ decode cX10_takeOff 62 = .ok (.aload_n 3, 1) ∧ decode cX10_takeOff 63 = .ok (.getfield 138, 3) ∧ decode cX10_takeOff 66 = .ok (.iconst 1, 1) ∧ decode cX10_takeOff 67 = .ok (.isub, 1) ∧ decode cX10_takeOff 68 = .ok (.invokevirtual 139, 3) ∧ decode cX10_takeOff 71 = .ok (.pop, 1) ∧ decode cX10_takeOff 72 = .ok (.aload_n 3, 1) ∧ decode cX10_takeOff 73 = .ok (.dup, 1) ∧ decode cX10_takeOff 74 = .ok (.getfield 138, 3) ∧ decode cX10_takeOff 77 = .ok (.iconst 1, 1) ∧ decode cX10_takeOff 78 = .ok (.isub, 1) ∧ decode cX10_takeOff 79 = .ok (.putfield 138, 3) ∧ decode cX10_takeOff 82 = .ok (.aload_n 3, 1) ∧ decode cX10_takeOff 83 = .ok (.getfield 138, 3) ∧ decode cX10_takeOff 86 = .ok (.ireturn, 1) := ⟨by decide +kernel, by decide +kernel, by decide +kernel, by decide +kernel, by decide +kernel, by decide +kernel, by decide +kernel, by decide +kernel, by decide +kernel, by decide +kernel, by decide +kernel, by decide +kernel, by decide +kernel, by decide +kernel, by decide +kernel, by decide +kernel, by decide +kernel, by decide +kernel, by decide +kernel, by decide +kernel, by decide +kernel, by decide +kernel, by decide +kernel, by decide +kernel, by decide +kernel, by decide +kernel, by decide +kernel, by decide +kernel, by decide +kernel, by decide +kernel, by decide +kernel, by decide +kernel, by decide +kernel, by decide +kernel, by decide +kernel, by decide +kernel, by decide +kernel, by decide +kernel, by decide +kernel, by decide +kernel, by decide +kernel, by decide +kernel, by decide +kernel, by decide +kernel, by decide +kernel, by decide +kernel, by decide +kernel, by decide +kernel⟩
theorem dec_X10_text : decode cX10_text 0 = .ok (.iload_n 1, 1) ∧ decode cX10_text 1 = .ok (.invokestatic 101, 3) ∧ decode cX10_text 4 = .ok (.ifCond .ne 6, 3) ∧ decode cX10_text 7 = .ok (.ldc 104, 2) ∧ decode cX10_text 9 = .ok (.ireturn, 1) ∧ decode cX10_text 10 = .ok (.iload_n 2, 1) ∧ decode cX10_text 11 = .ok (.ifCond .ge 8, 3) ∧ decode cX10_text 14 = .ok (.ldc 94, 2) ∧ decode cX10_text 16 = .ok (.goto 12, 3) ∧ decode cX10_text 19 = .ok (.aload_n 0, 1) ∧ decode cX10_text 20 = .ok (.iload_n 1, 1) ∧ decode cX10_text 21 = .ok (.invokevirtual 108, 3) ∧ decode cX10_text 24 = .ok (.iload_n 2, 1) ∧ decode cX10_text 25 = .ok (.invokevirtual 202, 3) ∧ decode cX10_text 28 = .ok (.ireturn, 1) := ⟨by decide +kernel, by decide +kernel, by decide +kernel, by decide +kernel, by decide +kernel, by decide +kernel, by decide +kernel, by decide +kernel, by decide +kernel, by decide +kernel, by decide +kernel, by decide +kernel, by decide +kernel, by decide +kernel, by decide +kernel⟩
theorem dec_X10_told : decode cX10_told 0 = .ok (.iload_n 1, 1) ∧ decode cX10_told 1 = .ok (.tableswitch 104 0 4 #[35, 43, 48, 70, 78], 35) ∧ decode cX10_told 36 = .ok (.aload_n 0, 1) ∧ decode cX10_told 37 = .ok (.getfield 12, 3) ∧ decode cX10_told 40 = .ok (.getfield 81, 3) ∧ decode cX10_told 43 = .ok (.ireturn, 1) ∧ decode cX10_told 44 = .ok (.aload_n 0, 1) ∧ decode cX10_told 45 = .ok (.getfield 77, 3) ∧ decode cX10_told 48 = .ok (.ireturn, 1) ∧ decode cX10_told 49 = .ok (.aload_n 0, 1) ∧ decode cX10_told 50 = .ok (.iconst 0, 1) ∧ decode cX10_told 51 = .ok (.invokevirtual 108, 3) ∧ decode cX10_told 54 = .ok (.aload_n 0, 1) ∧ decode cX10_told 55 = .ok (.iconst 1, 1) ∧ decode cX10_told 56 = .ok (.invokevirtual 108, 3) ∧ decode cX10_told 59 = .ok (.invokevirtual 193, 3) ∧ decode cX10_told 62 = .ok (.ifCond .eq 7, 3) ∧ decode cX10_told 65 = .ok (.iconst 1, 1) ∧ decode cX10_told 66 = .ok (.goto 4, 3) ∧ decode cX10_told 69 = .ok (.iconst 0, 1) ∧ decode cX10_told 70 = .ok (.ireturn, 1) ∧ decode cX10_told 71 = .ok (.aload_n 0, 1) ∧ decode cX10_told 72 = .ok (.getfield 26, 3) ∧ decode cX10_told 75 = .ok (.getfield 87, 3) ∧ decode cX10_told 78 = .ok (.ireturn, 1) ∧ decode cX10_told 79 = .ok (.aload_n 0, 1) ∧ decode cX10_told 80 = .ok (.getfield 19, 3) ∧ decode cX10_told 83 = .ok (.getfield 127, 3) ∧ decode cX10_told 86 = .ok (.iconst 0, 1) ∧ decode cX10_told 87 = .ok (.aaload, 1) ∧ decode cX10_told 88 = .ok (.invokevirtual 196, 3) ∧ decode cX10_told 91 = .ok (.aload_n 0, 1) ∧ decode cX10_told 92 = .ok (.getfield 19, 3) ∧ decode cX10_told 95 = .ok (.getfield 127, 3) ∧ decode cX10_told 98 = .ok (.iconst 1, 1) ∧ decode cX10_told 99 = .ok (.aaload, 1) ∧ decode cX10_told 100 = .ok (.invokevirtual 196, 3) ∧ decode cX10_told 103 = .ok (.iand, 1) ∧ decode cX10_told 104 = .ok (.ireturn, 1) ∧ decode cX10_told 105 = .ok (.ldc 94, 2) ∧ decode cX10_told 107 = .ok (.ireturn, 1) := ⟨by decide +kernel, by decide +kernel, by decide +kernel, by decide +kernel, by decide +kernel, by decide +kernel, by decide +kernel, by decide +kernel, by decide +kernel, by decide +kernel, by decide +kernel, by decide +kernel, by decide +kernel, by decide +kernel, by decide +kernel, by decide +kernel, by decide +kernel, by decide +kernel, by decide +kernel, by decide +kernel, by decide +kernel, by decide +kernel, by decide +kernel, by decide +kernel, by decide +kernel, by decide +kernel, by decide +kernel, by decide +kernel, by decide +kernel, by decide +kernel, by decide +kernel, by decide +kernel, by decide +kernel, by decide +kernel, by decide +kernel, by decide +kernel, by decide +kernel, by decide +kernel, by decide +kernel, by decide +kernel, by decide +kernel⟩
theorem dec_X10_turn : decode cX10_turn 0 = .ok (.iload_n 1, 1) ∧ decode cX10_turn 1 = .ok (.invokestatic 101, 3) ∧ decode cX10_turn 4 = .ok (.ifCond .eq 19, 3) ∧ decode cX10_turn 7 = .ok (.aload_n 0, 1) ∧ decode cX10_turn 8 = .ok (.getfield 19, 3) ∧ decode cX10_turn 11 = .ok (.getfield 127, 3) ∧ decode cX10_turn 14 = .ok (.iload_n 1, 1) ∧ decode cX10_turn 15 = .ok (.aaload, 1) ∧ decode cX10_turn 16 = .ok (.iload_n 2, 1) ∧ decode cX10_turn 17 = .ok (.invokevirtual 142, 3) ∧ decode cX10_turn 20 = .ok (.ifCond .ne 6, 3) ∧ decode cX10_turn 23 = .ok (.ldc 104, 2) ∧ decode cX10_turn 25 = .ok (.ireturn, 1) ∧ decode cX10_turn 26 = .ok (.aload_n 0, 1) ∧ decode cX10_turn 27 = .ok (.getfield 19, 3) ∧ decode cX10_turn 30 = .ok (.getfield 127, 3) ∧ decode cX10_turn 33 = .ok (.iload_n 1, 1) ∧ decode cX10_turn 34 = .ok (.aaload, 1) ∧ decode cX10_turn 35 = .ok (.astore_n 3, 1) ∧ decode cX10_turn 36 = .ok (.aload_n 3, 1) ∧ decode cX10_turn 37 = .ok (.iload_n 2, 1) ∧ decode cX10_turn 38 = .ok (.invokevirtual 145, 3) ∧ decode cX10_turn 41 = .ok (.iconst (-1), 1) ∧ decode cX10_turn 42 = .ok (.if_icmp .ne 6, 3) ∧ decode cX10_turn 45 = .ok (.ldc 95, 2) ∧ decode cX10_turn 47 = .ok (.ireturn, 1) ∧ decode cX10_turn 48 = .ok (.aload_n 0, 1) ∧ decode cX10_turn 49 = .ok (.getfield 26, 3) ∧ decode cX10_turn 52 = .ok (.aload_n 0, 1) ∧ decode cX10_turn 53 = .ok (.getfield 19, 3) ∧ decode cX10_turn 56 = .ok (.invokevirtual 119, 3) ∧ decode cX10_turn 59 = .ok (.aload_n 3, 1) ∧ decode cX10_turn 60 = .ok (.iload_n 2, 1) ∧ decode cX10_turn 61 = .ok (.invokevirtual 148, 3) ∧ decode cX10_turn 64 = .ok (.pop, 1) ∧ decode cX10_turn 65 = .ok (.aload_n 3, 1) ∧ decode cX10_turn 66 = .ok (.getfield 151, 3) ∧ decode cX10_turn 69 = .ok (.iload_n 2, 1) ∧ decode cX10_turn 70 = .ok (.iaload, 1) ∧ decode cX10_turn 71 = .ok (.ireturn, 1) := ⟨by decide +kernel, by decide +kernel, by decide +kernel, by decide +kernel, by decide +kernel, by decide +kernel, by decide +kernel, by decide +kernel, by decide +kernel, by decide +kernel, by decide +kernel, by decide +kernel, by decide +kernel, by decide +kernel, by decide +kernel, by decide +kernel, by decide +kernel, by decide +kernel, by decide +kernel, by decide +kernel, by decide +kernel, by decide +kernel, by decide +kernel, by decide +kernel, by decide +kernel, by decide +kernel, by decide +kernel, by decide +kernel, by decide +kernel, by decide +kernel, by decide +kernel, by decide +kernel, by decide +kernel, by decide +kernel, by decide +kernel, by decide +kernel, by decide +kernel, by decide +kernel, by decide +kernel, by decide +kernel⟩
theorem dec_X10_turned : decode cX10_turned 0 = .ok (.iload_n 0, 1) ∧ decode cX10_turned 1 = .ok (.ifCond .ne 32, 3) ∧ decode cX10_turned 4 = .ok (.iload_n 2, 1) ∧ decode cX10_turned 5 = .ok (.ifCond .ne 28, 3) ∧ decode cX10_turned 8 = .ok (.iload_n 3, 1) ∧ decode cX10_turned 9 = .ok (.iload_n 1, 1) ∧ decode cX10_turned 10 = .ok (.if_icmp .gt 14, 3) ∧ decode cX10_turned 13 = .ok (.bipush 100, 2) ∧ decode cX10_turned 15 = .ok (.iload_n 3, 1) ∧ decode cX10_turned 16 = .ok (.imul, 1) ∧ decode cX10_turned 17 = .ok (.iload_n 1, 1) ∧ decode cX10_turned 18 = .ok (.iadd, 1) ∧ decode cX10_turned 19 = .ok (.iconst 1, 1) ∧ decode cX10_turned 20 = .ok (.iadd, 1) ∧ decode cX10_turned 21 = .ok (.goto 11, 3) ∧ decode cX10_turned 24 = .ok (.bipush 100, 2) ∧ decode cX10_turned 26 = .ok (.iload_n 3, 1) ∧ decode cX10_turned 27 = .ok (.iconst 1, 1) ∧ decode cX10_turned 28 = .ok (.isub, 1) ∧ decode cX10_turned 29 = .ok (.imul, 1) ∧ decode cX10_turned 30 = .ok (.iload_n 1, 1) ∧ decode cX10_turned 31 = .ok (.iadd, 1) ∧ decode cX10_turned 32 = .ok (.ireturn, 1) ∧ decode cX10_turned 33 = .ok (.iload_n 0, 1) ∧ decode cX10_turned 34 = .ok (.ifCond .ne 39, 3) ∧ decode cX10_turned 37 = .ok (.iload_n 3, 1) ∧ decode cX10_turned 38 = .ok (.iload_n 1, 1) ∧ decode cX10_turned 39 = .ok (.iconst 1, 1) ∧ decode cX10_turned 40 = .ok (.isub, 1) ∧ decode cX10_turned 41 = .ok (.if_icmp .ge 12, 3) ∧ decode cX10_turned 44 = .ok (.bipush 100, 2) ∧ decode cX10_turned 46 = .ok (.iload_n 3, 1) ∧ decode cX10_turned 47 = .ok (.imul, 1) ∧ decode cX10_turned 48 = .ok (.iload_n 1, 1) ∧ decode cX10_turned 49 = .ok (.iadd, 1) ∧ decode cX10_turned 50 = .ok (.iconst 1, 1) ∧ decode cX10_turned 51 = .ok (.isub, 1) ∧ decode cX10_turned 52 = .ok (.ireturn, 1) ∧ decode cX10_turned 53 = .ok (.iload_n 3, 1) ∧ decode cX10_turned 54 = .ok (.iload_n 1, 1) ∧ decode cX10_turned 55 = .ok (.iconst 1, 1) ∧ decode cX10_turned 56 = .ok (.iadd, 1) ∧ decode cX10_turned 57 = .ok (.if_icmp .le 14, 3) ∧ decode cX10_turned 60 = .ok (.bipush 100, 2) ∧ decode cX10_turned 62 = .ok (.iload_n 3, 1) ∧ decode cX10_turned 63 = .ok (.iconst 1, 1) ∧ decode cX10_turned 64 = .ok (.isub, 1) ∧ decode cX10_turned 65 = .ok (.imul, 1) ∧ decode cX10_turned 66 = .ok (.iload_n 1, 1) ∧ decode cX10_turned 67 = .ok (.iadd, 1) ∧ decode cX10_turned 68 = .ok (.goto 4, 3) ∧ decode cX10_turned 71 = .ok (.iconst (-1), 1) ∧ decode cX10_turned 72 = .ok (.ireturn, 1) ∧ decode cX10_turned 73 = .ok (.iload_n 2, 1) ∧ decode cX10_turned 74 = .ok (.ifCond .ne 35, 3) ∧ decode cX10_turned 77 = .ok (.iload_n 3, 1) ∧ decode cX10_turned 78 = .ok (.iload_n 1, 1) ∧ decode cX10_turned 79 = .ok (.if_icmp .ge 12, 3) ∧ decode cX10_turned 82 = .ok (.bipush 100, 2) ∧ decode cX10_turned 84 = .ok (.iload_n 3, 1) ∧ decode cX10_turned 85 = .ok (.imul, 1) ∧ decode cX10_turned 86 = .ok (.iload_n 1, 1) ∧ decode cX10_turned 87 = .ok (.iadd, 1) ∧ decode cX10_turned 88 = .ok (.iconst 1, 1) ∧ decode cX10_turned 89 = .ok (.iadd, 1) ∧ decode cX10_turned 90 = .ok (.ireturn, 1) ∧ decode cX10_turned 91 = .ok (.iload_n 3, 1) ∧ decode cX10_turned 92 = .ok (.iload_n 1, 1) ∧ decode cX10_turned 93 = .ok (.if_icmp .le 14, 3) ∧ decode cX10_turned 96 = .ok (.bipush 100, 2) ∧ decode cX10_turned 98 = .ok (.iload_n 3, 1) ∧ decode cX10_turned 99 = .ok (.iconst 1, 1) ∧ decode cX10_turned 100 = .ok (.iadd, 1) ∧ decode cX10_turned 101 = .ok (.imul, 1) ∧ decode cX10_turned 102 = .ok (.iload_n 1, 1) ∧ decode cX10_turned 103 = .ok (.iadd, 1) ∧ decode cX10_turned 104 = .ok (.goto 4, 3) ∧ decode cX10_turned 107 = .ok (.iconst (-1), 1) ∧ decode cX10_turned 108 = .ok (.ireturn, 1) ∧ decode cX10_turned 109 = .ok (.iload_n 3, 1) ∧ decode cX10_turned 110 = .ok (.iload_n 1, 1) ∧ decode cX10_turned 111 = .ok (.if_icmp .ge 14, 3) ∧ decode cX10_turned 114 = .ok (.bipush 100, 2) ∧ decode cX10_turned 116 = .ok (.iload_n 3, 1) ∧ decode cX10_turned 117 = .ok (.imul, 1) ∧ decode cX10_turned 118 = .ok (.iload_n 1, 1) ∧ decode cX10_turned 119 = .ok (.iadd, 1) ∧ decode cX10_turned 120 = .ok (.iconst 1, 1) ∧ decode cX10_turned 121 = .ok (.isub, 1) ∧ decode cX10_turned 122 = .ok (.goto 11, 3) ∧ decode cX10_turned 125 = .ok (.bipush 100, 2) ∧ decode cX10_turned 127 = .ok (.iload_n 3, 1) ∧ decode cX10_turned 128 = .ok (.iconst 1, 1) ∧ decode cX10_turned 129 = .ok (.iadd, 1) ∧ decode cX10_turned 130 = .ok (.imul, 1) ∧ decode cX10_turned 131 = .ok (.iload_n 1, 1) ∧ decode cX10_turned 132 = .ok (.iadd, 1) ∧ decode cX10_turned 133 = .ok (.ireturn, 1) := ⟨by decide +kernel, by decide +kernel, by decide +kernel, by decide +kernel, by decide +kernel, by decide +kernel, by decide +kernel, by decide +kernel, by decide +kernel, by decide +kernel, by decide +kernel, by decide +kernel, by decide +kernel, by decide +kernel, by decide +kernel, by decide +kernel, by decide +kernel, by decide +kernel, by decide +kernel, by decide +kernel, by decide +kernel, by decide +kernel, by decide +kernel, by decide +kernel, by decide +kernel, by decide +kernel, by decide +kernel, by decide +kernel, by decide +kernel, by decide +kernel, by decide +kernel, by decide +kernel, by decide +kernel, by decide +kernel, by decide +kernel, by decide +kernel, by decide +kernel, by decide +kernel, by decide +kernel, by decide +kernel, by decide +kernel, by decide +kernel, by decide +kernel, by decide +kernel, by decide +kernel, by decide +kernel, by decide +kernel, by decide +kernel, by decide +kernel, by decide +kernel, by decide +kernel, by decide +kernel, by decide +kernel, by decide +kernel, by decide +kernel, by decide +kernel, by decide +kernel, by decide +kernel, by decide +kernel, by decide +kernel, by decide +kernel, by decide +kernel, by decide +kernel, by decide +kernel, by decide +kernel, by decide +kernel, by decide +kernel, by decide +kernel, by decide +kernel, by decide +kernel, by decide +kernel, by decide +kernel, by decide +kernel, by decide +kernel, by decide +kernel, by decide +kernel, by decide +kernel, by decide +kernel, by decide +kernel, by decide +kernel, by decide +kernel, by decide +kernel, by decide +kernel, by decide +kernel, by decide +kernel, by decide +kernel, by decide +kernel, by decide +kernel, by decide +kernel, by decide +kernel, by decide +kernel, by decide +kernel, by decide +kernel, by decide +kernel, by decide +kernel, by decide +kernel, by decide +kernel, by decide +kernel⟩
theorem dec_X10_undo : decode cX10_undo 0 = .ok (.aload_n 0, 1) ∧ decode cX10_undo 1 = .ok (.getfield 26, 3) ∧ decode cX10_undo 4 = .ok (.getfield 87, 3) ∧ decode cX10_undo 7 = .ok (.ifCond .ne 6, 3) ∧ decode cX10_undo 10 = .ok (.ldc 95, 2) ∧ decode cX10_undo 12 = .ok (.ireturn, 1) ∧ decode cX10_undo 13 = .ok (.aload_n 0, 1) ∧ decode cX10_undo 14 = .ok (.getfield 26, 3) ∧ decode cX10_undo 17 = .ok (.aload_n 0, 1) ∧ decode cX10_undo 18 = .ok (.getfield 19, 3) ∧ decode cX10_undo 21 = .ok (.invokevirtual 190, 3) ∧ decode cX10_undo 24 = .ok (.aload_n 0, 1) ∧ decode cX10_undo 25 = .ok (.getfield 26, 3) ∧ decode cX10_undo 28 = .ok (.getfield 87, 3) ∧ decode cX10_undo 31 = .ok (.ireturn, 1) := ⟨by decide +kernel, by decide +kernel, by decide +kernel, by decide +kernel, by decide +kernel, by decide +kernel, by decide +kernel, by decide +kernel, by decide +kernel, by decide +kernel, by decide +kernel, by decide +kernel, by decide +kernel, by decide +kernel, by decide +kernel⟩
theorem dec_X11_anew : decode cX11_anew 0 = .ok (.aload_n 0, 1) ∧ decode cX11_anew 1 = .ok (.getfield 116, 3) ∧ decode cX11_anew 4 = .ok (.istore_n 1, 1) ∧ decode cX11_anew 5 = .ok (.aload_n 0, 1) ∧ decode cX11_anew 6 = .ok (.iconst 0, 1) ∧ decode cX11_anew 7 = .ok (.putfield 109, 3) ∧ decode cX11_anew 10 = .ok (.aload_n 0, 1) ∧ decode cX11_anew 11 = .ok (.iconst 0, 1) ∧ decode cX11_anew 12 = .ok (.putfield 116, 3) ∧ decode cX11_anew 15 = .ok (.aload_n 0, 1) ∧ decode cX11_anew 16 = .ok (.iconst 0, 1) ∧ decode cX11_anew 17 = .ok (.putfield 119, 3) ∧ decode cX11_anew 20 = .ok (.aload_n 0, 1) ∧ decode cX11_anew 21 = .ok (.getfield 22, 3) ∧ decode cX11_anew 24 = .ok (.iconst 0, 1) ∧ decode cX11_anew 25 = .ok (.iconst 0, 1) ∧ decode cX11_anew 26 = .ok (.bastore, 1) ∧ decode cX11_anew 27 = .ok (.aload_n 0, 1) ∧ decode cX11_anew 28 = .ok (.getfield 22, 3) ∧ decode cX11_anew 31 = .ok (.iconst 1, 1) ∧ decode cX11_anew 32 = .ok (.iconst 0, 1) ∧ decode cX11_anew 33 = .ok (.bastore, 1) ∧ decode cX11_anew 34 = .ok (.aload_n 0, 1) ∧ decode cX11_anew 35 = .ok (.invokevirtual 56, 3) ∧ decode cX11_anew 38 = .ok (.iload_n 1, 1) ∧ decode cX11_anew 39 = .ok (.ireturn, 1) := ⟨by decide +kernel, by decide +kernel, by decide +kernel, by decide +kernel, by decide +kernel, by decide +kernel, by decide +kernel, by decide +kernel, by decide +kernel, by decide +kernel, by decide +kernel, by decide +kernel, by decide +kernel, by decide +kernel, by decide +kernel, by decide +kernel, by decide +kernel, by decide +kernel, by decide +kernel, by decide +kernel, by decide +kernel, by decide +kernel, by decide +kernel, by decide +kernel, by decide +kernel, by decide +kernel⟩
theorem dec_X11_areAlike : decode cX11_areAlike 0 = .ok (.aload_n 0, 1) ∧ decode cX11_areAlike 1 = .ok (.iconst 0, 1) ∧ decode cX11_areAlike 2 = .ok (.invokevirtual 133, 3) ∧ decode cX11_areAlike 5 = .ok (.istore_n 1, 1) ∧ decode cX11_areAlike 6 = .ok (.aload_n 0, 1) ∧ decode cX11_areAlike 7 = .ok (.iconst 1, 1) ∧ decode cX11_areAlike 8 = .ok (.invokevirtual 133, 3) ∧ decode cX11_areAlike 11 = .ok (.istore_n 2, 1) ∧ decode cX11_areAlike 12 = .ok (.iload_n 1, 1) ∧ decode cX11_areAlike 13 = .ok (.iload_n 2, 1) ∧ decode cX11_areAlike 14 = .ok (.if_icmp .ne 7, 3) ∧ decode cX11_areAlike 17 = .ok (.iconst 1, 1) ∧ decode cX11_areAlike 18 = .ok (.goto 4, 3) ∧ decode cX11_areAlike 21 = .ok (.iconst 0, 1) ∧ decode cX11_areAlike 22 = .ok (.istore_n 3, 1) ∧ decode cX11_areAlike 23 = .ok (.iconst 0, 1) ∧ decode cX11_areAlike 24 = .ok (.istore 4, 2) ∧ decode cX11_areAlike 26 = .ok (.iload 4, 2) ∧ decode cX11_areAlike 28 = .ok (.iload_n 1, 1) ∧ decode cX11_areAlike 29 = .ok (.if_icmp .ge 39, 3) ∧ decode cX11_areAlike 32 = .ok (.iload_n 3, 1) ∧ decode cX11_areAlike 33 = .ok (.ifCond .eq 35, 3) ∧ decode cX11_areAlike 36 = .ok (.aload_n 0, 1) ∧ decode cX11_areAlike 37 = .ok (.getfield 50, 3) ∧ decode cX11_areAlike 40 = .ok (.iload 4, 2) ∧ decode cX11_areAlike 42 = .ok (.iaload, 1) ∧ decode cX11_areAlike 43 = .ok (.aload_n 0, 1) ∧ decode cX11_areAlike 44 = .ok (.getfield 50, 3) ∧ decode cX11_areAlike 47 = .ok (.bipush 32, 2) ∧ decode cX11_areAlike 49 = .ok (.iload 4, 2) ∧ decode cX11_areAlike 51 = .ok (.iadd, 1) ∧ decode cX11_areAlike 52 = .ok (.iaload, 1) ∧ decode cX11_areAlike 53 = .ok (.if_icmp .ne 7, 3) ∧ decode cX11_areAlike 56 = .ok (.iconst 1, 1) ∧ decode cX11_areAlike 57 = .ok (.goto 4, 3) ∧ decode cX11_areAlike 60 = .ok (.iconst 0, 1) ∧ decode cX11_areAlike 61 = .ok (.istore_n 3, 1) ∧ decode cX11_areAlike 62 = .ok (.iinc 4 1, 3) ∧ decode cX11_areAlike 65 = .ok (.goto (-39), 3) ∧ decode cX11_areAlike 68 = .ok (.iload_n 3, 1) ∧ decode cX11_areAlike 69 = .ok (.ireturn, 1) := ⟨by decide +kernel, by decide +kernel, by decide +kernel, by decide +kernel, by decide +kernel, by decide +kernel, by decide +kernel, by decide +kernel, by decide +kernel, by decide +kernel, by decide +kernel, by decide +kernel, by decide +kernel, by decide +kernel, by decide +kernel, by decide +kernel, by decide +kernel, by decide +kernel, by decide +kernel, by decide +kernel, by decide +kernel, by decide +kernel, by decide +kernel, by decide +kernel, by decide +kernel, by decide +kernel, by decide +kernel, by decide +kernel, by decide +kernel, by decide +kernel, by decide +kernel, by decide +kernel, by decide +kernel, by decide +kernel, by decide +kernel, by decide +kernel, by decide +kernel, by decide +kernel, by decide +kernel, by decide +kernel, by decide +kernel⟩
theorem dec_X11_at : decode cX11_at 0 = .ok (.aload_n 0, 1) ∧ decode cX11_at 1 = .ok (.getfield 13, 3) ∧ decode cX11_at 4 = .ok (.bipush 19, 2) ∧ decode cX11_at 6 = .ok (.iload_n 1, 1) ∧ decode cX11_at 7 = .ok (.imul, 1) ∧ decode cX11_at 8 = .ok (.iconst 3, 1) ∧ decode cX11_at 9 = .ok (.iadd, 1) ∧ decode cX11_at 10 = .ok (.iload_n 2, 1) ∧ decode cX11_at 11 = .ok (.iadd, 1) ∧ decode cX11_at 12 = .ok (.iaload, 1) ∧ decode cX11_at 13 = .ok (.ireturn, 1) := ⟨by decide +kernel, by decide +kernel, by decide +kernel, by decide +kernel, by decide +kernel, by decide +kernel, by decide +kernel, by decide +kernel, by decide +kernel, by decide +kernel, by decide +kernel⟩
theorem dec_X11_begin : decode cX11_begin 0 = .ok (.iload_n 1, 1) ∧ decode cX11_begin 1 = .ok (.bipush 97, 2) ∧ decode cX11_begin 3 = .ok (.bipush 122, 2) ∧ decode cX11_begin 5 = .ok (.invokestatic 59, 3) ∧ decode cX11_begin 8 = .ok (.ifCond .ne 6, 3) ∧ decode cX11_begin 11 = .ok (.ldc 122, 2) ∧ decode cX11_begin 13 = .ok (.ireturn, 1) ∧ decode cX11_begin 14 = .ok (.aload_n 0, 1) ∧ decode cX11_begin 15 = .ok (.getfield 116, 3) ∧ decode cX11_begin 18 = .ok (.ifCond .le 6, 3) ∧ decode cX11_begin 21 = .ok (.ldc 123, 2) ∧ decode cX11_begin 23 = .ok (.ireturn, 1) ∧ decode cX11_begin 24 = .ok (.aload_n 0, 1) ∧ decode cX11_begin 25 = .ok (.getfield 109, 3) ∧ decode cX11_begin 28 = .ok (.bipush 12, 2) ∧ decode cX11_begin 30 = .ok (.if_icmp .ne 6, 3) ∧ decode cX11_begin 33 = .ok (.ldc 124, 2) ∧ decode cX11_begin 35 = .ok (.ireturn, 1) ∧ decode cX11_begin 36 = .ok (.aload_n 0, 1) ∧ decode cX11_begin 37 = .ok (.getfield 7, 3) ∧ decode cX11_begin 40 = .ok (.aload_n 0, 1) ∧ decode cX11_begin 41 = .ok (.getfield 109, 3) ∧ decode cX11_begin 44 = .ok (.iload_n 1, 1) ∧ decode cX11_begin 45 = .ok (.iastore, 1) ∧ decode cX11_begin 46 = .ok (.aload_n 0, 1) ∧ decode cX11_begin 47 = .ok (.dup, 1) ∧ decode cX11_begin 48 = .ok (.getfield 109, 3) ∧ decode cX11_begin 51 = .ok (.iconst 1, 1) ∧ decode cX11_begin 52 = .ok (.iadd, 1) ∧ decode cX11_begin 53 = .ok (.putfield 109, 3) ∧ decode cX11_begin 56 = .ok (.aload_n 0, 1) ∧ decode cX11_begin 57 = .ok (.getfield 109, 3) ∧ decode cX11_begin 60 = .ok (.ireturn, 1) := ⟨by decide +kernel, by decide +kernel, by decide +kernel, by decide +kernel, by decide +kernel, by decide +kernel, by decide +kernel, by decide +kernel, by decide +kernel, by decide +kernel, by decide +kernel, by decide +kernel, by decide +kernel, by decide +kernel, by decide +kernel, by decide +kernel, by decide +kernel, by decide +kernel, by decide +kernel, by decide +kernel, by decide +kernel, by decide +kernel, by decide +kernel, by decide +kernel, by decide +kernel, by decide +kernel, by decide +kernel, by decide +kernel, by decide +kernel, by decide +kernel, by decide +kernel, by decide +kernel, by decide +kernel⟩
theorem dec_X11_bring : decode cX11_bring 0 = .ok (.iconst 0, 1) ∧ decode cX11_bring 1 = .ok (.istore 5, 2) ∧ decode cX11_bring 3 = .ok (.iload 5, 2) ∧ decode cX11_bring 5 = .ok (.iload 4, 2) ∧ decode cX11_bring 7 = .ok (.if_icmp .ge 21, 3) ∧ decode cX11_bring 10 = .ok (.aload_n 2, 1) ∧ decode cX11_bring 11 = .ok (.iload_n 3, 1) ∧ decode cX11_bring 12 = .ok (.iload 5, 2) ∧ decode cX11_bring 14 = .ok (.iadd, 1) ∧ decode cX11_bring 15 = .ok (.aload_n 0, 1) ∧ decode cX11_bring 16 = .ok (.iload_n 1, 1) ∧ decode cX11_bring 17 = .ok (.iload 5, 2) ∧ decode cX11_bring 19 = .ok (.iadd, 1) ∧ decode cX11_bring 20 = .ok (.iaload, 1) ∧ decode cX11_bring 21 = .ok (.iastore, 1) ∧ decode cX11_bring 22 = .ok (.iinc 5 1, 3) ∧ decode cX11_bring 25 = .ok (.goto (-22), 3) ∧ decode cX11_bring 28 = .ok (.return_, 1) := ⟨by decide +kernel, by decide +kernel, by decide +kernel, by decide +kernel, by decide +kernel, by decide +kernel, by decide +kernel, by decide +kernel, by decide +kernel, by decide +kernel, by decide +kernel, by decide +kernel, by decide +kernel, by decide +kernel, by decide +kernel, by decide +kernel, by decide +kernel, by decide +kernel⟩
theorem dec_X11_change : decode cX11_change 0 = .ok (.iload_n 1, 1) ∧ decode cX11_change 1 = .ok (.invokestatic 128, 3) ∧ decode cX11_change 4 = .ok (.ifCond .eq 13, 3) ∧ decode cX11_change 7 = .ok (.aload_n 0, 1) ∧ decode cX11_change 8 = .ok (.iload_n 1, 1) ∧ decode cX11_change 9 = .ok (.iload_n 2, 1) ∧ decode cX11_change 10 = .ok (.invokevirtual 148, 3) ∧ decode cX11_change 13 = .ok (.iconst (-1), 1) ∧ decode cX11_change 14 = .ok (.if_icmp .ne 6, 3) ∧ decode cX11_change 17 = .ok (.ldc 132, 2) ∧ decode cX11_change 19 = .ok (.ireturn, 1) ∧ decode cX11_change 20 = .ok (.iload_n 3, 1) ∧ decode cX11_change 21 = .ok (.iconst 0, 1) ∧ decode cX11_change 22 = .ok (.iconst 3, 1) ∧ decode cX11_change 23 = .ok (.invokestatic 59, 3) ∧ decode cX11_change 26 = .ok (.ifCond .ne 6, 3) ∧ decode cX11_change 29 = .ok (.ldc 122, 2) ∧ decode cX11_change 31 = .ok (.ireturn, 1) ∧ decode cX11_change 32 = .ok (.aload_n 0, 1) ∧ decode cX11_change 33 = .ok (.iload_n 1, 1) ∧ decode cX11_change 34 = .ok (.invokevirtual 151, 3) ∧ decode cX11_change 37 = .ok (.istore 4, 2) ∧ decode cX11_change 39 = .ok (.aload_n 0, 1) ∧ decode cX11_change 40 = .ok (.iload_n 1, 1) ∧ decode cX11_change 41 = .ok (.iload_n 2, 1) ∧ decode cX11_change 42 = .ok (.invokevirtual 148, 3) ∧ decode cX11_change 45 = .ok (.istore 5, 2) ∧ decode cX11_change 47 = .ok (.iload_n 3, 1) ∧ decode cX11_change 48 = .ok (.ifCond .ne 6, 3) ∧ decode cX11_change 51 = .ok (.iload 5, 2) ∧ decode cX11_change 53 = .ok (.ireturn, 1) ∧ decode cX11_change 54 = .ok (.iload_n 3, 1) ∧ decode cX11_change 55 = .ok (.iconst 1, 1) ∧ decode cX11_change 56 = .ok (.if_icmp .ne 15, 3) ∧ decode cX11_change 59 = .ok (.aload_n 0, 1) ∧ decode cX11_change 60 = .ok (.aload_n 0, 1) ∧ decode cX11_change 61 = .ok (.getfield 38, 3) ∧ decode cX11_change 64 = .ok (.iload 5, 2) ∧ decode cX11_change 66 = .ok (.iconst 0, 1) ∧ decode cX11_change 67 = .ok (.invokevirtual 167, 3) ∧ decode cX11_change 70 = .ok (.ireturn, 1) ∧ decode cX11_change 71 = .ok (.iload_n 3, 1) ∧ decode cX11_change 72 = .ok (.iconst 3, 1) ∧ decode cX11_change 73 = .ok (.if_icmp .ne 25, 3) ∧ decode cX11_change 76 = .ok (.aload_n 0, 1) ∧ decode cX11_change 77 = .ok (.getfield 38, 3) ∧ decode cX11_change 80 = .ok (.iload 5, 2) ∧ decode cX11_change 82 = .ok (.iload 4, 2) ∧ decode cX11_change 84 = .ok (.iconst 1, 1) ∧ decode cX11_change 85 = .ok (.isub, 1) ∧ decode cX11_change 86 = .ok (.invokestatic 96, 3) ∧ decode cX11_change 89 = .ok (.ifCond .eq 7, 3) ∧ decode cX11_change 92 = .ok (.iconst 1, 1) ∧ decode cX11_change 93 = .ok (.goto 4, 3) ∧ decode cX11_change 96 = .ok (.iconst 0, 1) ∧ decode cX11_change 97 = .ok (.ireturn, 1) ∧ decode cX11_change 98 = .ok (.iconst 0, 1) ∧ decode cX11_change 99 = .ok (.istore 6, 2) ∧ decode cX11_change 101 = .ok (.iload 5, 2) ∧ decode cX11_change 103 = .ok (.iconst 1, 1) ∧ decode cX11_change 104 = .ok (.iadd, 1) ∧ decode cX11_change 105 = .ok (.istore 7, 2) ∧ decode cX11_change 107 = .ok (.iload 7, 2) ∧ decode cX11_change 109 = .ok (.iload 4, 2) ∧ decode cX11_change 111 = .ok (.if_icmp .ge 49, 3) ∧ decode cX11_change 114 = .ok (.iload 6, 2) ∧ decode cX11_change 116 = .ok (.aload_n 0, 1) ∧ decode cX11_change 117 = .ok (.aload_n 0, 1) ∧ decode cX11_change 118 = .ok (.getfield 38, 3) ∧ decode cX11_change 121 = .ok (.iload 7, 2) ∧ decode cX11_change 123 = .ok (.iconst 0, 1) ∧ decode cX11_change 124 = .ok (.invokevirtual 167, 3) ∧ decode cX11_change 127 = .ok (.iload_n 2, 1) ∧ decode cX11_change 128 = .ok (.ishr, 1) ∧ decode cX11_change 129 = .ok (.iconst 1, 1) ∧ decode cX11_change 130 = .ok (.iand, 1) ∧ decode cX11_change 131 = .ok (.iconst 1, 1) ∧ decode cX11_change 132 = .ok (.if_icmp .ne 18, 3) ∧ decode cX11_change 135 = .ok (.iconst 1, 1) ∧ decode cX11_change 136 = .ok (.aload_n 0, 1) ∧ decode cX11_change 137 = .ok (.getfield 38, 3) ∧ decode cX11_change 140 = .ok (.iload 7, 2) ∧ decode cX11_change 142 = .ok (.iaload, 1) ∧ decode cX11_change 143 = .ok (.invokestatic 85, 3) ∧ decode cX11_change 146 = .ok (.ishl, 1) ∧ decode cX11_change 147 = .ok (.goto 4, 3) ∧ decode cX11_change 150 = .ok (.iconst 0, 1) ∧ decode cX11_change 151 = .ok (.ior, 1) ∧ decode cX11_change 152 = .ok (.istore 6, 2) ∧ decode cX11_change 154 = .ok (.iinc 7 1, 3) ∧ decode cX11_change 157 = .ok (.goto (-50), 3) ∧ decode cX11_change 160 = .ok (.iload 6, 2) ∧ decode cX11_change 162 = .ok (.ireturn, 1) := ⟨by decide +kernel, by decide +kernel, by decide +kernel, by decide +kernel, by decide +kernel, by decide +kernel, by decide +kernel, by decide +kernel, by decide +kernel, by decide +kernel, by decide +kernel, by decide +kernel, by decide +kernel, by decide +kernel, by decide +kernel, by decide +kernel, by decide +kernel, by decide +kernel, by decide +kernel, by decide +kernel, by decide +kernel, by decide +kernel, by decide +kernel, by decide +kernel, by decide +kernel, by decide +kernel, by decide +kernel, by decide +kernel, by decide +kernel, by decide +kernel, by decide +kernel, by decide +kernel, by decide +kernel, by decide +kernel, by decide +kernel, by decide +kernel, by decide +kernel, by decide +kernel, by decide +kernel, by decide +kernel, by decide +kernel, by decide +kernel, by decide +kernel, by decide +kernel, by decide +kernel, by decide +kernel, by decide +kernel, by decide +kernel, by decide +kernel, by decide +kernel, by decide +kernel, by decide +kernel, by decide +kernel, by decide +kernel, by decide +kernel, by decide +kernel, by decide +kernel, by decide +kernel, by decide +kernel, by decide +kernel, by decide +kernel, by decide +kernel, by decide +kernel, by decide +kernel, by decide +kernel, by decide +kernel, by decide +kernel, by decide +kernel, by decide +kernel, by decide +kernel, by decide +kernel, by decide +kernel, by decide +kernel, by decide +kernel, by decide +kernel, by decide +kernel, by decide +kernel, by decide +kernel, by decide +kernel, by decide +kernel, by decide +kernel, by decide +kernel, by decide +kernel, by decide +kernel, by decide +kernel, by decide +kernel, by decide +kernel, by decide +kernel, by decide +kernel, by decide +kernel, by decide +kernel, by decide +kernel, by decide +kernel⟩
theorem dec_X11_clear : decode cX11_clear 0 = .ok (.iconst 0, 1) ∧ decode cX11_clear 1 = .ok (.istore_n 1, 1) ∧ decode cX11_clear 2 = .ok (.iload_n 1, 1) ∧ decode cX11_clear 3 = .ok (.iconst 2, 1) ∧ decode cX11_clear 4 = .ok (.if_icmp .ge 43, 3) ∧ decode cX11_clear 7 = .ok (.aload_n 0, 1) ∧ decode cX11_clear 8 = .ok (.getfield 13, 3) ∧ decode cX11_clear 11 = .ok (.bipush 19, 2) ∧ decode cX11_clear 13 = .ok (.iload_n 1, 1) ∧ decode cX11_clear 14 = .ok (.imul, 1) ∧ decode cX11_clear 15 = .ok (.iconst 0, 1) ∧ decode cX11_clear 16 = .ok (.iastore, 1) ∧ decode cX11_clear 17 = .ok (.aload_n 0, 1) ∧ decode cX11_clear 18 = .ok (.getfield 13, 3) ∧ decode cX11_clear 21 = .ok (.bipush 19, 2) ∧ decode cX11_clear 23 = .ok (.iload_n 1, 1) ∧ decode cX11_clear 24 = .ok (.imul, 1) ∧ decode cX11_clear 25 = .ok (.iconst 1, 1) ∧ decode cX11_clear 26 = .ok (.iadd, 1) ∧ decode cX11_clear 27 = .ok (.iconst (-1), 1) ∧ decode cX11_clear 28 = .ok (.iastore, 1) ∧ decode cX11_clear 29 = .ok (.aload_n 0, 1) ∧ decode cX11_clear 30 = .ok (.getfield 13, 3) ∧ decode cX11_clear 33 = .ok (.bipush 19, 2) ∧ decode cX11_clear 35 = .ok (.iload_n 1, 1) ∧ decode cX11_clear 36 = .ok (.imul, 1) ∧ decode cX11_clear 37 = .ok (.iconst 2, 1) ∧ decode cX11_clear 38 = .ok (.iadd, 1) ∧ decode cX11_clear 39 = .ok (.iconst (-1), 1) ∧ decode cX11_clear 40 = .ok (.iastore, 1) ∧ decode cX11_clear 41 = .ok (.iinc 1 1, 3) ∧ decode cX11_clear 44 = .ok (.goto (-42), 3) ∧ decode cX11_clear 47 = .ok (.return_, 1) := ⟨by decide +kernel, by decide +kernel, by decide +kernel, by decide +kernel, by decide +kernel, by decide +kernel, by decide +kernel, by decide +kernel, by decide +kernel, by decide +kernel, by decide +kernel, by decide +kernel, by decide +kernel, by decide +kernel, by decide +kernel, by decide +kernel, by decide +kernel, by decide +kernel, by decide +kernel, by decide +kernel, by decide +kernel, by decide +kernel, by decide +kernel, by decide +kernel, by decide +kernel, by decide +kernel, by decide +kernel, by decide +kernel, by decide +kernel, by decide +kernel, by decide +kernel, by decide +kernel, by decide +kernel⟩
theorem dec_X11_come : decode cX11_come 0 = .ok (.aload_n 0, 1) ∧ decode cX11_come 1 = .ok (.iload_n 1, 1) ∧ decode cX11_come 2 = .ok (.iload_n 3, 1) ∧ decode cX11_come 3 = .ok (.invokevirtual 176, 3) ∧ decode cX11_come 6 = .ok (.ifCond .eq 6, 3) ∧ decode cX11_come 9 = .ok (.ldc 124, 2) ∧ decode cX11_come 11 = .ok (.ireturn, 1) ∧ decode cX11_come 12 = .ok (.aload_n 0, 1) ∧ decode cX11_come 13 = .ok (.iload_n 3, 1) ∧ decode cX11_come 14 = .ok (.iload 4, 2) ∧ decode cX11_come 16 = .ok (.invokevirtual 180, 3) ∧ decode cX11_come 19 = .ok (.istore 5, 2) ∧ decode cX11_come 21 = .ok (.iload 5, 2) ∧ decode cX11_come 23 = .ok (.iconst (-1), 1) ∧ decode cX11_come 24 = .ok (.if_icmp .eq 34, 3) ∧ decode cX11_come 27 = .ok (.aload_n 0, 1) ∧ decode cX11_come 28 = .ok (.invokevirtual 139, 3) ∧ decode cX11_come 31 = .ok (.aload_n 0, 1) ∧ decode cX11_come 32 = .ok (.getfield 13, 3) ∧ decode cX11_come 35 = .ok (.bipush 19, 2) ∧ decode cX11_come 37 = .ok (.iload_n 1, 1) ∧ decode cX11_come 38 = .ok (.imul, 1) ∧ decode cX11_come 39 = .ok (.iconst 1, 1) ∧ decode cX11_come 40 = .ok (.iadd, 1) ∧ decode cX11_come 41 = .ok (.iload_n 2, 1) ∧ decode cX11_come 42 = .ok (.iastore, 1) ∧ decode cX11_come 43 = .ok (.aload_n 0, 1) ∧ decode cX11_come 44 = .ok (.getfield 13, 3) ∧ decode cX11_come 47 = .ok (.bipush 19, 2) ∧ decode cX11_come 49 = .ok (.iload_n 1, 1) ∧ decode cX11_come 50 = .ok (.imul, 1) ∧ decode cX11_come 51 = .ok (.iconst 2, 1) ∧ decode cX11_come 52 = .ok (.iadd, 1) ∧ decode cX11_come 53 = .ok (.iload 5, 2) ∧ decode cX11_come 55 = .ok (.iastore, 1) ∧ decode cX11_come 56 = .ok (.iconst 0, 1) ∧ decode cX11_come 57 = .ok (.ireturn, 1) ∧ decode cX11_come 58 = .ok (.aload_n 0, 1) ∧ decode cX11_come 59 = .ok (.iload_n 1, 1) ∧ decode cX11_come 60 = .ok (.invokevirtual 133, 3) ∧ decode cX11_come 63 = .ok (.istore 6, 2) ∧ decode cX11_come 65 = .ok (.iconst 0, 1) ∧ decode cX11_come 66 = .ok (.istore 7, 2) ∧ decode cX11_come 68 = .ok (.iload 7, 2) ∧ decode cX11_come 70 = .ok (.iload_n 3, 1) ∧ decode cX11_come 71 = .ok (.if_icmp .ge 34, 3) ∧ decode cX11_come 74 = .ok (.iload 6, 2) ∧ decode cX11_come 76 = .ok (.iconst (-1), 1) ∧ decode cX11_come 77 = .ok (.if_icmp .eq 28, 3) ∧ decode cX11_come 80 = .ok (.aload_n 0, 1) ∧ decode cX11_come 81 = .ok (.bipush 32, 2) ∧ decode cX11_come 83 = .ok (.iload_n 1, 1) ∧ decode cX11_come 84 = .ok (.imul, 1) ∧ decode cX11_come 85 = .ok (.iload 6, 2) ∧ decode cX11_come 87 = .ok (.aload_n 0, 1) ∧ decode cX11_come 88 = .ok (.getfield 47, 3) ∧ decode cX11_come 91 = .ok (.iload 7, 2) ∧ decode cX11_come 93 = .ok (.iaload, 1) ∧ decode cX11_come 94 = .ok (.invokevirtual 112, 3) ∧ decode cX11_come 97 = .ok (.istore 6, 2) ∧ decode cX11_come 99 = .ok (.iinc 7 1, 3) ∧ decode cX11_come 102 = .ok (.goto (-34), 3) ∧ decode cX11_come 105 = .ok (.iload 6, 2) ∧ decode cX11_come 107 = .ok (.iconst (-1), 1) ∧ decode cX11_come 108 = .ok (.if_icmp .ne 6, 3) ∧ decode cX11_come 111 = .ok (.ldc 123, 2) ∧ decode cX11_come 113 = .ok (.ireturn, 1) ∧ decode cX11_come 114 = .ok (.aload_n 0, 1) ∧ decode cX11_come 115 = .ok (.invokevirtual 139, 3) ∧ decode cX11_come 118 = .ok (.aload_n 0, 1) ∧ decode cX11_come 119 = .ok (.getfield 38, 3) ∧ decode cX11_come 122 = .ok (.iconst 0, 1) ∧ decode cX11_come 123 = .ok (.aload_n 0, 1) ∧ decode cX11_come 124 = .ok (.getfield 13, 3) ∧ decode cX11_come 127 = .ok (.bipush 19, 2) ∧ decode cX11_come 129 = .ok (.iload_n 1, 1) ∧ decode cX11_come 130 = .ok (.imul, 1) ∧ decode cX11_come 131 = .ok (.iconst 3, 1) ∧ decode cX11_come 132 = .ok (.iadd, 1) ∧ decode cX11_come 133 = .ok (.aload_n 0, 1) ∧ decode cX11_come 134 = .ok (.getfield 145, 3) ∧ decode cX11_come 137 = .ok (.invokestatic 92, 3) ∧ decode cX11_come 140 = .ok (.aload_n 0, 1) ∧ decode cX11_come 141 = .ok (.getfield 47, 3) ∧ decode cX11_come 144 = .ok (.iconst 0, 1) ∧ decode cX11_come 145 = .ok (.aload_n 0, 1) ∧ decode cX11_come 146 = .ok (.getfield 13, 3) ∧ decode cX11_come 149 = .ok (.bipush 19, 2) ∧ decode cX11_come 151 = .ok (.iload_n 1, 1) ∧ decode cX11_come 152 = .ok (.imul, 1) ∧ decode cX11_come 153 = .ok (.iconst 3, 1) ∧ decode cX11_come 154 = .ok (.iadd, 1) ∧ decode cX11_come 155 = .ok (.aload_n 0, 1) ∧ decode cX11_come 156 = .ok (.getfield 145, 3) ∧ decode cX11_come 159 = .ok (.iadd, 1) ∧ decode cX11_come 160 = .ok (.iload_n 3, 1) ∧ decode cX11_come 161 = .ok (.invokestatic 92, 3) ∧ decode cX11_come 164 = .ok (.aload_n 0, 1) ∧ decode cX11_come 165 = .ok (.getfield 13, 3) ∧ decode cX11_come 168 = .ok (.bipush 19, 2) ∧ decode cX11_come 170 = .ok (.iload_n 1, 1) ∧ decode cX11_come 171 = .ok (.imul, 1) ∧ decode cX11_come 172 = .ok (.aload_n 0, 1) ∧ decode cX11_come 173 = .ok (.getfield 145, 3) ∧ decode cX11_come 176 = .ok (.iload_n 3, 1) ∧ decode cX11_come 177 = .ok (.iadd, 1) ∧ decode cX11_come 178 = .ok (.iastore, 1) ∧ decode cX11_come 179 = .ok (.iload_n 3, 1) ∧ decode cX11_come 180 = .ok (.ireturn, 1) := ⟨by decide +kernel, by decide +kernel, by decide +kernel, by decide +kernel, by decide +kernel, by decide +kernel, by decide +kernel, by decide +kernel, by decide +kernel, by decide +kernel, by decide +kernel, by decide +kernel, by decide +kernel, by decide +kernel, by decide +kernel, by decide +kernel, by decide +kernel, by decide +kernel, by decide +kernel, by decide +kernel, by decide +kernel, by decide +kernel, by decide +kernel, by decide +kernel, by decide +kernel, by decide +kernel, by decide +kernel, by decide +kernel, by decide +kernel, by decide +kernel, by decide +kernel, by decide +kernel, by decide +kernel, by decide +kernel, by decide +kernel, by decide +kernel, by decide +kernel, by decide +kernel, by decide +kernel, by decide +kernel, by decide +kernel, by decide +kernel, by decide +kernel, by decide +kernel, by decide +kernel, by decide +kernel, by decide +kernel, by decide +kernel, by decide +kernel, by decide +kernel, by decide +kernel, by decide +kernel, by decide +kernel, by decide +kernel, by decide +kernel, by decide +kernel, by decide +kernel, by decide +kernel, by decide +kernel, by decide +kernel, by decide +kernel, by decide +kernel, by decide +kernel, by decide +kernel, by decide +kernel, by decide +kernel, by decide +kernel, by decide +kernel, by decide +kernel, by decide +kernel, by decide +kernel, by decide +kernel, by decide +kernel, by decide +kernel, by decide +kernel, by decide +kernel, by decide +kernel, by decide +kernel, by decide +kernel, by decide +kernel, by decide +kernel, by decide +kernel, by decide +kernel, by decide +kernel, by decide +kernel, by decide +kernel, by decide +kernel, by decide +kernel, by decide +kernel, by decide +kernel, by decide +kernel, by decide +kernel, by decide +kernel, by decide +kernel, by decide +kernel, by decide +kernel, by decide +kernel, by decide +kernel, by decide +kernel, by decide +kernel, by decide +kernel, by decide +kernel, by decide +kernel, by decide +kernel, by decide +kernel, by decide +kernel, by decide +kernel, by decide +kernel, by decide +kernel⟩
theorem dec_X11_done : decode cX11_done 0 = .ok (.iload_n 3, 1) ∧ decode cX11_done 1 = .ok (.invokestatic 63, 3) ∧ decode cX11_done 4 = .ok (.istore 4, 2) ∧ decode cX11_done 6 = .ok (.iload_n 3, 1) ∧ decode cX11_done 7 = .ok (.invokestatic 67, 3) ∧ decode cX11_done 10 = .ok (.ifCond .ne 64, 3) ∧ decode cX11_done 13 = .ok (.iload 4, 2) ∧ decode cX11_done 15 = .ok (.iload_n 2, 1) ∧ decode cX11_done 16 = .ok (.if_icmp .le 5, 3) ∧ decode cX11_done 19 = .ok (.iconst (-1), 1) ∧ decode cX11_done 20 = .ok (.ireturn, 1) ∧ decode cX11_done 21 = .ok (.iload_n 2, 1) ∧ decode cX11_done 22 = .ok (.istore 5, 2) ∧ decode cX11_done 24 = .ok (.iload 5, 2) ∧ decode cX11_done 26 = .ok (.iload 4, 2) ∧ decode cX11_done 28 = .ok (.if_icmp .le 29, 3) ∧ decode cX11_done 31 = .ok (.aload_n 0, 1) ∧ decode cX11_done 32 = .ok (.getfield 50, 3) ∧ decode cX11_done 35 = .ok (.iload_n 1, 1) ∧ decode cX11_done 36 = .ok (.iload 5, 2) ∧ decode cX11_done 38 = .ok (.iadd, 1) ∧ decode cX11_done 39 = .ok (.aload_n 0, 1) ∧ decode cX11_done 40 = .ok (.getfield 50, 3) ∧ decode cX11_done 43 = .ok (.iload_n 1, 1) ∧ decode cX11_done 44 = .ok (.iload 5, 2) ∧ decode cX11_done 46 = .ok (.iadd, 1) ∧ decode cX11_done 47 = .ok (.iconst 1, 1) ∧ decode cX11_done 48 = .ok (.isub, 1) ∧ decode cX11_done 49 = .ok (.iaload, 1) ∧ decode cX11_done 50 = .ok (.iastore, 1) ∧ decode cX11_done 51 = .ok (.iinc 5 (-1), 3) ∧ decode cX11_done 54 = .ok (.goto (-30), 3) ∧ decode cX11_done 57 = .ok (.aload_n 0, 1) ∧ decode cX11_done 58 = .ok (.getfield 50, 3) ∧ decode cX11_done 61 = .ok (.iload_n 1, 1) ∧ decode cX11_done 62 = .ok (.iload 4, 2) ∧ decode cX11_done 64 = .ok (.iadd, 1) ∧ decode cX11_done 65 = .ok (.iload_n 3, 1) ∧ decode cX11_done 66 = .ok (.invokestatic 106, 3) ∧ decode cX11_done 69 = .ok (.iastore, 1) ∧ decode cX11_done 70 = .ok (.iload_n 2, 1) ∧ decode cX11_done 71 = .ok (.iconst 1, 1) ∧ decode cX11_done 72 = .ok (.iadd, 1) ∧ decode cX11_done 73 = .ok (.ireturn, 1) ∧ decode cX11_done 74 = .ok (.iload 4, 2) ∧ decode cX11_done 76 = .ok (.iload_n 2, 1) ∧ decode cX11_done 77 = .ok (.if_icmp .ge 19, 3) ∧ decode cX11_done 80 = .ok (.aload_n 0, 1) ∧ decode cX11_done 81 = .ok (.getfield 50, 3) ∧ decode cX11_done 84 = .ok (.iload_n 1, 1) ∧ decode cX11_done 85 = .ok (.iload 4, 2) ∧ decode cX11_done 87 = .ok (.iadd, 1) ∧ decode cX11_done 88 = .ok (.iaload, 1) ∧ decode cX11_done 89 = .ok (.iload_n 3, 1) ∧ decode cX11_done 90 = .ok (.invokestatic 106, 3) ∧ decode cX11_done 93 = .ok (.if_icmp .eq 5, 3) ∧ decode cX11_done 96 = .ok (.iconst (-1), 1) ∧ decode cX11_done 97 = .ok (.ireturn, 1) ∧ decode cX11_done 98 = .ok (.iload 4, 2) ∧ decode cX11_done 100 = .ok (.istore 5, 2) ∧ decode cX11_done 102 = .ok (.iload 5, 2) ∧ decode cX11_done 104 = .ok (.iload_n 2, 1) ∧ decode cX11_done 105 = .ok (.iconst 1, 1) ∧ decode cX11_done 106 = .ok (.isub, 1) ∧ decode cX11_done 107 = .ok (.if_icmp .ge 29, 3) ∧ decode cX11_done 110 = .ok (.aload_n 0, 1) ∧ decode cX11_done 111 = .ok (.getfield 50, 3) ∧ decode cX11_done 114 = .ok (.iload_n 1, 1) ∧ decode cX11_done 115 = .ok (.iload 5, 2) ∧ decode cX11_done 117 = .ok (.iadd, 1) ∧ decode cX11_done 118 = .ok (.aload_n 0, 1) ∧ decode cX11_done 119 = .ok (.getfield 50, 3) ∧ decode cX11_done 122 = .ok (.iload_n 1, 1) ∧ decode cX11_done 123 = .ok (.iload 5, 2) ∧ decode cX11_done 125 = .ok (.iadd, 1) ∧ decode cX11_done 126 = .ok (.iconst 1, 1) ∧ decode cX11_done 127 = .ok (.iadd, 1) ∧ decode cX11_done 128 = .ok (.iaload, 1) ∧ decode cX11_done 129 = .ok (.iastore, 1) ∧ decode cX11_done 130 = .ok (.iinc 5 1, 3) ∧ decode cX11_done 133 = .ok (.goto (-31), 3) ∧ decode cX11_done 136 = .ok (.iload_n 2, 1) ∧ decode cX11_done 137 = .ok (.iconst 1, 1) ∧ decode cX11_done 138 = .ok (.isub, 1) ∧ decode cX11_done 139 = .ok (.ireturn, 1) := ⟨by decide +kernel, by decide +kernel, by decide +kernel, by decide +kernel, by decide +kernel, by decide +kernel, by decide +kernel, by decide +kernel, by decide +kernel, by decide +kernel, by decide +kernel, by decide +kernel, by decide +kernel, by decide +kernel, by decide +kernel, by decide +kernel, by decide +kernel, by decide +kernel, by decide +kernel, by decide +kernel, by decide +kernel, by decide +kernel, by decide +kernel, by decide +kernel, by decide +kernel, by decide +kernel, by decide +kernel, by decide +kernel, by decide +kernel, by decide +kernel, by decide +kernel, by decide +kernel, by decide +kernel, by decide +kernel, by decide +kernel, by decide +kernel, by decide +kernel, by decide +kernel, by decide +kernel, by decide +kernel, by decide +kernel, by decide +kernel, by decide +kernel, by decide +kernel, by decide +kernel, by decide +kernel, by decide +kernel, by decide +kernel, by decide +kernel, by decide +kernel, by decide +kernel, by decide +kernel, by decide +kernel, by decide +kernel, by decide +kernel, by decide +kernel, by decide +kernel, by decide +kernel, by decide +kernel, by decide +kernel, by decide +kernel, by decide +kernel, by decide +kernel, by decide +kernel, by decide +kernel, by decide +kernel, by decide +kernel, by decide +kernel, by decide +kernel, by decide +kernel, by decide +kernel, by decide +kernel, by decide +kernel, by decide +kernel, by decide +kernel, by decide +kernel, by decide +kernel, by decide +kernel, by decide +kernel, by decide +kernel, by decide +kernel, by decide +kernel, by decide +kernel, by decide +kernel, by decide +kernel⟩
theorem dec_X11_drawn : decode cX11_drawn 0 = .ok (.aload_n 0, 1) ∧ decode cX11_drawn 1 = .ok (.aload_n 0, 1) ∧ decode cX11_drawn 2 = .ok (.getfield 183, 3) ∧ decode cX11_drawn 5 = .ok (.ldc2_w 187, 3) ∧ decode cX11_drawn 8 = .ok (.lmul, 1) ∧ decode cX11_drawn 9 = .ok (.ldc2_w 189, 3) ∧ decode cX11_drawn 12 = .ok (.lrem, 1) ∧ decode cX11_drawn 13 = .ok (.putfield 183, 3) ∧ decode cX11_drawn 16 = .ok (.aload_n 0, 1) ∧ decode cX11_drawn 17 = .ok (.getfield 183, 3) ∧ decode cX11_drawn 20 = .ok (.iload_n 1, 1) ∧ decode cX11_drawn 21 = .ok (.i2l, 1) ∧ decode cX11_drawn 22 = .ok (.lrem, 1) ∧ decode cX11_drawn 23 = .ok (.l2i, 1) ∧ decode cX11_drawn 24 = .ok (.ireturn, 1) := ⟨by decide +kernel, by decide +kernel, by decide +kernel, by decide +kernel, by decide +kernel, by decide +kernel, by decide +kernel, by decide +kernel, by decide +kernel, by decide +kernel, by decide +kernel, by decide +kernel, by decide +kernel, by decide +kernel, by decide +kernel⟩
theorem dec_X11_drift : decode cX11_drift 0 = .ok (.iload_n 1, 1) ∧ decode cX11_drift 1 = .ok (.iconst 1, 1) ∧ decode cX11_drift 2 = .ok (.bipush 20, 2) ∧ decode cX11_drift 4 = .ok (.invokestatic 59, 3) ∧ decode cX11_drift 7 = .ok (.ifCond .eq 13, 3) ∧ decode cX11_drift 10 = .ok (.iload_n 2, 1) ∧ decode cX11_drift 11 = .ok (.iconst 1, 1) ∧ decode cX11_drift 12 = .ok (.ldc 194, 2) ∧ decode cX11_drift 14 = .ok (.invokestatic 59, 3) ∧ decode cX11_drift 17 = .ok (.ifCond .ne 6, 3) ∧ decode cX11_drift 20 = .ok (.ldc 122, 2) ∧ decode cX11_drift 22 = .ok (.ireturn, 1) ∧ decode cX11_drift 23 = .ok (.aload_n 0, 1) ∧ decode cX11_drift 24 = .ok (.invokevirtual 139, 3) ∧ decode cX11_drift 27 = .ok (.aload_n 0, 1) ∧ decode cX11_drift 28 = .ok (.iload_n 2, 1) ∧ decode cX11_drift 29 = .ok (.i2l, 1) ∧ decode cX11_drift 30 = .ok (.putfield 183, 3) ∧ decode cX11_drift 33 = .ok (.iconst 0, 1) ∧ decode cX11_drift 34 = .ok (.istore_n 3, 1) ∧ decode cX11_drift 35 = .ok (.iconst 0, 1) ∧ decode cX11_drift 36 = .ok (.istore 4, 2) ∧ decode cX11_drift 38 = .ok (.iload 4, 2) ∧ decode cX11_drift 40 = .ok (.iload_n 1, 1) ∧ decode cX11_drift 41 = .ok (.if_icmp .ge 24, 3) ∧ decode cX11_drift 44 = .ok (.iload_n 3, 1) ∧ decode cX11_drift 45 = .ok (.aload_n 0, 1) ∧ decode cX11_drift 46 = .ok (.invokevirtual 195, 3) ∧ decode cX11_drift 49 = .ok (.ifCond .eq 7, 3) ∧ decode cX11_drift 52 = .ok (.iconst 1, 1) ∧ decode cX11_drift 53 = .ok (.goto 4, 3) ∧ decode cX11_drift 56 = .ok (.iconst 0, 1) ∧ decode cX11_drift 57 = .ok (.iadd, 1) ∧ decode cX11_drift 58 = .ok (.istore_n 3, 1) ∧ decode cX11_drift 59 = .ok (.iinc 4 1, 3) ∧ decode cX11_drift 62 = .ok (.goto (-24), 3) ∧ decode cX11_drift 65 = .ok (.iload_n 3, 1) ∧ decode cX11_drift 66 = .ok (.ireturn, 1) := ⟨by decide +kernel, by decide +kernel, by decide +kernel, by decide +kernel, by decide +kernel, by decide +kernel, by decide +kernel, by decide +kernel, by decide +kernel, by decide +kernel, by decide +kernel, by decide +kernel, by decide +kernel, by decide +kernel, by decide +kernel, by decide +kernel, by decide +kernel, by decide +kernel, by decide +kernel, by decide +kernel, by decide +kernel, by decide +kernel, by decide +kernel, by decide +kernel, by decide +kernel, by decide +kernel, by decide +kernel, by decide +kernel, by decide +kernel, by decide +kernel, by decide +kernel, by decide +kernel, by decide +kernel, by decide +kernel, by decide +kernel, by decide +kernel, by decide +kernel, by decide +kernel⟩
theorem dec_X11_empty : decode cX11_empty 0 = .ok (.iload_n 1, 1) ∧ decode cX11_empty 1 = .ok (.invokestatic 214, 3) ∧ decode cX11_empty 4 = .ok (.ifCond .ne 6, 3) ∧ decode cX11_empty 7 = .ok (.ldc 132, 2) ∧ decode cX11_empty 9 = .ok (.ireturn, 1) ∧ decode cX11_empty 10 = .ok (.aload_n 0, 1) ∧ decode cX11_empty 11 = .ok (.getfield 26, 3) ∧ decode cX11_empty 14 = .ok (.iload_n 1, 1) ∧ decode cX11_empty 15 = .ok (.iaload, 1) ∧ decode cX11_empty 16 = .ok (.istore_n 2, 1) ∧ decode cX11_empty 17 = .ok (.aload_n 0, 1) ∧ decode cX11_empty 18 = .ok (.getfield 26, 3) ∧ decode cX11_empty 21 = .ok (.iload_n 1, 1) ∧ decode cX11_empty 22 = .ok (.iconst 0, 1) ∧ decode cX11_empty 23 = .ok (.iastore, 1) ∧ decode cX11_empty 24 = .ok (.iload_n 2, 1) ∧ decode cX11_empty 25 = .ok (.ireturn, 1) := ⟨by decide +kernel, by decide +kernel, by decide +kernel, by decide +kernel, by decide +kernel, by decide +kernel, by decide +kernel, by decide +kernel, by decide +kernel, by decide +kernel, by decide +kernel, by decide +kernel, by decide +kernel, by decide +kernel, by decide +kernel, by decide +kernel, by decide +kernel⟩
theorem dec_X11_fronted : decode cX11_fronted 0 = .ok (.iconst 0, 1) ∧ decode cX11_fronted 1 = .ok (.istore 4, 2) ∧ decode cX11_fronted 3 = .ok (.iconst 0, 1) ∧ decode cX11_fronted 4 = .ok (.istore 5, 2) ∧ decode cX11_fronted 6 = .ok (.iload 5, 2) ∧ decode cX11_fronted 8 = .ok (.iload_n 2, 1) ∧ decode cX11_fronted 9 = .ok (.if_icmp .ge 40, 3) ∧ decode cX11_fronted 12 = .ok (.iload_n 3, 1) ∧ decode cX11_fronted 13 = .ok (.aload_n 1, 1) ∧ decode cX11_fronted 14 = .ok (.iload 5, 2) ∧ decode cX11_fronted 16 = .ok (.iaload, 1) ∧ decode cX11_fronted 17 = .ok (.invokestatic 85, 3) ∧ decode cX11_fronted 20 = .ok (.ishr, 1) ∧ decode cX11_fronted 21 = .ok (.iconst 1, 1) ∧ decode cX11_fronted 22 = .ok (.iand, 1) ∧ decode cX11_fronted 23 = .ok (.iconst 1, 1) ∧ decode cX11_fronted 24 = .ok (.if_icmp .ne 19, 3) ∧ decode cX11_fronted 27 = .ok (.aload_n 1, 1) ∧ decode cX11_fronted 28 = .ok (.iload 5, 2) ∧ decode cX11_fronted 30 = .ok (.iload 4, 2) ∧ decode cX11_fronted 32 = .ok (.invokestatic 96, 3) ∧ decode cX11_fronted 35 = .ok (.ifCond .ne 5, 3) ∧ decode cX11_fronted 38 = .ok (.iconst (-1), 1) ∧ decode cX11_fronted 39 = .ok (.ireturn, 1) ∧ decode cX11_fronted 40 = .ok (.iinc 4 1, 3) ∧ decode cX11_fronted 43 = .ok (.iinc 5 1, 3) ∧ decode cX11_fronted 46 = .ok (.goto (-40), 3) ∧ decode cX11_fronted 49 = .ok (.iload 4, 2) ∧ decode cX11_fronted 51 = .ok (.ireturn, 1) := ⟨by decide +kernel, by decide +kernel, by decide +kernel, by decide +kernel, by decide +kernel, by decide +kernel, by decide +kernel, by decide +kernel, by decide +kernel, by decide +kernel, by decide +kernel, by decide +kernel, by decide +kernel, by decide +kernel, by decide +kernel, by decide +kernel, by decide +kernel, by decide +kernel, by decide +kernel, by decide +kernel, by decide +kernel, by decide +kernel, by decide +kernel, by decide +kernel, by decide +kernel, by decide +kernel, by decide +kernel, by decide +kernel, by decide +kernel⟩
theorem dec_X11_goBack : decode cX11_goBack 0 = .ok (.iload_n 1, 1) ∧ decode cX11_goBack 1 = .ok (.iconst 0, 1) ∧ decode cX11_goBack 2 = .ok (.iconst 1, 1) ∧ decode cX11_goBack 3 = .ok (.invokestatic 59, 3) ∧ decode cX11_goBack 6 = .ok (.ifCond .ne 6, 3) ∧ decode cX11_goBack 9 = .ok (.ldc 132, 2) ∧ decode cX11_goBack 11 = .ok (.ireturn, 1) ∧ decode cX11_goBack 12 = .ok (.aload_n 0, 1) ∧ decode cX11_goBack 13 = .ok (.getfield 22, 3) ∧ decode cX11_goBack 16 = .ok (.iload_n 1, 1) ∧ decode cX11_goBack 17 = .ok (.baload, 1) ∧ decode cX11_goBack 18 = .ok (.ifCond .ne 6, 3) ∧ decode cX11_goBack 21 = .ok (.ldc 123, 2) ∧ decode cX11_goBack 23 = .ok (.ireturn, 1) ∧ decode cX11_goBack 24 = .ok (.aload_n 0, 1) ∧ decode cX11_goBack 25 = .ok (.getfield 19, 3) ∧ decode cX11_goBack 28 = .ok (.bipush 38, 2) ∧ decode cX11_goBack 30 = .ok (.iload_n 1, 1) ∧ decode cX11_goBack 31 = .ok (.imul, 1) ∧ decode cX11_goBack 32 = .ok (.aload_n 0, 1) ∧ decode cX11_goBack 33 = .ok (.getfield 13, 3) ∧ decode cX11_goBack 36 = .ok (.iconst 0, 1) ∧ decode cX11_goBack 37 = .ok (.bipush 38, 2) ∧ decode cX11_goBack 39 = .ok (.invokestatic 92, 3) ∧ decode cX11_goBack 42 = .ok (.aload_n 0, 1) ∧ decode cX11_goBack 43 = .ok (.iconst 0, 1) ∧ decode cX11_goBack 44 = .ok (.putfield 119, 3) ∧ decode cX11_goBack 47 = .ok (.iconst 1, 1) ∧ decode cX11_goBack 48 = .ok (.ireturn, 1) := ⟨by decide +kernel, by decide +kernel, by decide +kernel, by decide +kernel, by decide +kernel, by decide +kernel, by decide +kernel, by decide +kernel, by decide +kernel, by decide +kernel, by decide +kernel, by decide +kernel, by decide +kernel, by decide +kernel, by decide +kernel, by decide +kernel, by decide +kernel, by decide +kernel, by decide +kernel, by decide +kernel, by decide +kernel, by decide +kernel, by decide +kernel, by decide +kernel, by decide +kernel, by decide +kernel, by decide +kernel, by decide +kernel, by decide +kernel⟩
theorem dec_X11_history : decode cX11_history 0 = .ok (.aload_n 0, 1) ∧ decode cX11_history 1 = .ok (.iload_n 1, 1) ∧ decode cX11_history 2 = .ok (.iload_n 2, 1) ∧ decode cX11_history 3 = .ok (.invokevirtual 208, 3) ∧ decode cX11_history 6 = .ok (.ifCond .ne 6, 3) ∧ decode cX11_history 9 = .ok (.ldc 132, 2) ∧ decode cX11_history 11 = .ok (.ireturn, 1) ∧ decode cX11_history 12 = .ok (.iload_n 3, 1) ∧ decode cX11_history 13 = .ok (.iconst 0, 1) ∧ decode cX11_history 14 = .ok (.iconst 4, 1) ∧ decode cX11_history 15 = .ok (.invokestatic 59, 3) ∧ decode cX11_history 18 = .ok (.ifCond .ne 6, 3) ∧ decode cX11_history 21 = .ok (.ldc 122, 2) ∧ decode cX11_history 23 = .ok (.ireturn, 1) ∧ decode cX11_history 24 = .ok (.iload_n 3, 1) ∧ decode cX11_history 25 = .ok (.iconst 4, 1) ∧ decode cX11_history 26 = .ok (.if_icmp .ge 14, 3) ∧ decode cX11_history 29 = .ok (.aload_n 0, 1) ∧ decode cX11_history 30 = .ok (.iload_n 1, 1) ∧ decode cX11_history 31 = .ok (.iload_n 2, 1) ∧ decode cX11_history 32 = .ok (.invokevirtual 103, 3) ∧ decode cX11_history 35 = .ok (.iload_n 3, 1) ∧ decode cX11_history 36 = .ok (.invokestatic 211, 3) ∧ decode cX11_history 39 = .ok (.ireturn, 1) ∧ decode cX11_history 40 = .ok (.iload_n 2, 1) ∧ decode cX11_history 41 = .ok (.iconst 1, 1) ∧ decode cX11_history 42 = .ok (.iadd, 1) ∧ decode cX11_history 43 = .ok (.aload_n 0, 1) ∧ decode cX11_history 44 = .ok (.iload_n 1, 1) ∧ decode cX11_history 45 = .ok (.invokevirtual 100, 3) ∧ decode cX11_history 48 = .ok (.if_icmp .ge 28, 3) ∧ decode cX11_history 51 = .ok (.aload_n 0, 1) ∧ decode cX11_history 52 = .ok (.iload_n 1, 1) ∧ decode cX11_history 53 = .ok (.iload_n 2, 1) ∧ decode cX11_history 54 = .ok (.invokevirtual 103, 3) ∧ decode cX11_history 57 = .ok (.aload_n 0, 1) ∧ decode cX11_history 58 = .ok (.iload_n 1, 1) ∧ decode cX11_history 59 = .ok (.iload_n 2, 1) ∧ decode cX11_history 60 = .ok (.iconst 1, 1) ∧ decode cX11_history 61 = .ok (.iadd, 1) ∧ decode cX11_history 62 = .ok (.invokevirtual 103, 3) ∧ decode cX11_history 65 = .ok (.invokestatic 74, 3) ∧ decode cX11_history 68 = .ok (.iconst (-1), 1) ∧ decode cX11_history 69 = .ok (.if_icmp .eq 7, 3) ∧ decode cX11_history 72 = .ok (.iconst 1, 1) ∧ decode cX11_history 73 = .ok (.goto 4, 3) ∧ decode cX11_history 76 = .ok (.iconst 0, 1) ∧ decode cX11_history 77 = .ok (.ireturn, 1) := ⟨by decide +kernel, by decide +kernel, by decide +kernel, by decide +kernel, by decide +kernel, by decide +kernel, by decide +kernel, by decide +kernel, by decide +kernel, by decide +kernel, by decide +kernel, by decide +kernel, by decide +kernel, by decide +kernel, by decide +kernel, by decide +kernel, by decide +kernel, by decide +kernel, by decide +kernel, by decide +kernel, by decide +kernel, by decide +kernel, by decide +kernel, by decide +kernel, by decide +kernel, by decide +kernel, by decide +kernel, by decide +kernel, by decide +kernel, by decide +kernel, by decide +kernel, by decide +kernel, by decide +kernel, by decide +kernel, by decide +kernel, by decide +kernel, by decide +kernel, by decide +kernel, by decide +kernel, by decide +kernel, by decide +kernel, by decide +kernel, by decide +kernel, by decide +kernel, by decide +kernel, by decide +kernel, by decide +kernel, by decide +kernel⟩
theorem dec_X11_house : decode cX11_house 0 = .ok (.iload_n 1, 1) ∧ decode cX11_house 1 = .ok (.invokestatic 128, 3) ∧ decode cX11_house 4 = .ok (.ifCond .ne 6, 3) ∧ decode cX11_house 7 = .ok (.ldc 132, 2) ∧ decode cX11_house 9 = .ok (.ireturn, 1) ∧ decode cX11_house 10 = .ok (.iload_n 2, 1) ∧ decode cX11_house 11 = .ok (.tableswitch 95 0 6 #[41, 47, 53, 59, 75, 81, 81], 41) ∧ decode cX11_house 52 = .ok (.aload_n 0, 1) ∧ decode cX11_house 53 = .ok (.iload_n 1, 1) ∧ decode cX11_house 54 = .ok (.invokevirtual 133, 3) ∧ decode cX11_house 57 = .ok (.ireturn, 1) ∧ decode cX11_house 58 = .ok (.aload_n 0, 1) ∧ decode cX11_house 59 = .ok (.iload_n 1, 1) ∧ decode cX11_house 60 = .ok (.invokevirtual 100, 3) ∧ decode cX11_house 63 = .ok (.ireturn, 1) ∧ decode cX11_house 64 = .ok (.aload_n 0, 1) ∧ decode cX11_house 65 = .ok (.iload_n 1, 1) ∧ decode cX11_house 66 = .ok (.invokevirtual 154, 3) ∧ decode cX11_house 69 = .ok (.ireturn, 1) ∧ decode cX11_house 70 = .ok (.aload_n 0, 1) ∧ decode cX11_house 71 = .ok (.iload_n 1, 1) ∧ decode cX11_house 72 = .ok (.invokevirtual 154, 3) ∧ decode cX11_house 75 = .ok (.aload_n 0, 1) ∧ decode cX11_house 76 = .ok (.iconst 1, 1) ∧ decode cX11_house 77 = .ok (.iload_n 1, 1) ∧ decode cX11_house 78 = .ok (.isub, 1) ∧ decode cX11_house 79 = .ok (.invokevirtual 154, 3) ∧ decode cX11_house 82 = .ok (.iconst (-1), 1) ∧ decode cX11_house 83 = .ok (.ixor, 1) ∧ decode cX11_house 84 = .ok (.iand, 1) ∧ decode cX11_house 85 = .ok (.ireturn, 1) ∧ decode cX11_house 86 = .ok (.aload_n 0, 1) ∧ decode cX11_house 87 = .ok (.iload_n 1, 1) ∧ decode cX11_house 88 = .ok (.invokevirtual 205, 3) ∧ decode cX11_house 91 = .ok (.ireturn, 1) ∧ decode cX11_house 92 = .ok (.aload_n 0, 1) ∧ decode cX11_house 93 = .ok (.getfield 13, 3) ∧ decode cX11_house 96 = .ok (.bipush 19, 2) ∧ decode cX11_house 98 = .ok (.iload_n 1, 1) ∧ decode cX11_house 99 = .ok (.imul, 1) ∧ decode cX11_house 100 = .ok (.iload_n 2, 1) ∧ decode cX11_house 101 = .ok (.iadd, 1) ∧ decode cX11_house 102 = .ok (.iconst 4, 1) ∧ decode cX11_house 103 = .ok (.isub, 1) ∧ decode cX11_house 104 = .ok (.iaload, 1) ∧ decode cX11_house 105 = .ok (.ireturn, 1) ∧ decode cX11_house 106 = .ok (.ldc 122, 2) ∧ decode cX11_house 108 = .ok (.ireturn, 1) := ⟨by decide +kernel, by decide +kernel, by decide +kernel, by decide +kernel, by decide +kernel, by decide +kernel, by decide +kernel, by decide +kernel, by decide +kernel, by decide +kernel, by decide +kernel, by decide +kernel, by decide +kernel, by decide +kernel, by decide +kernel, by decide +kernel, by decide +kernel, by decide +kernel, by decide +kernel, by decide +kernel, by decide +kernel, by decide +kernel, by decide +kernel, by decide +kernel, by decide +kernel, by decide +kernel, by decide +kernel, by decide +kernel, by decide +kernel, by decide +kernel, by decide +kernel, by decide +kernel, by decide +kernel, by decide +kernel, by decide +kernel, by decide +kernel, by decide +kernel, by decide +kernel, by decide +kernel, by decide +kernel, by decide +kernel, by decide +kernel, by decide +kernel, by decide +kernel, by decide +kernel, by decide +kernel, by decide +kernel, by decide +kernel⟩
theorem dec_X11_in : decode cX11_in 0 = .ok (.iload_n 0, 1) ∧ decode cX11_in 1 = .ok (.iload_n 1, 1) ∧ decode cX11_in 2 = .ok (.if_icmp .lt 12, 3) ∧ decode cX11_in 5 = .ok (.iload_n 0, 1) ∧ decode cX11_in 6 = .ok (.iload_n 2, 1) ∧ decode cX11_in 7 = .ok (.if_icmp .gt 7, 3) ∧ decode cX11_in 10 = .ok (.iconst 1, 1) ∧ decode cX11_in 11 = .ok (.goto 4, 3) ∧ decode cX11_in 14 = .ok (.iconst 0, 1) ∧ decode cX11_in 15 = .ok (.ireturn, 1) := ⟨by decide +kernel, by decide +kernel, by decide +kernel, by decide +kernel, by decide +kernel, by decide +kernel, by decide +kernel, by decide +kernel, by decide +kernel, by decide +kernel⟩
theorem dec_X11_init : decode cX11_init 0 = .ok (.aload_n 0, 1) ∧ decode cX11_init 1 = .ok (.invokespecial 1, 3) ∧ decode cX11_init 4 = .ok (.aload_n 0, 1) ∧ decode cX11_init 5 = .ok (.bipush 12, 2) ∧ decode cX11_init 7 = .ok (.newarray .int, 2) ∧ decode cX11_init 9 = .ok (.putfield 7, 3) ∧ decode cX11_init 12 = .ok (.aload_n 0, 1) ∧ decode cX11_init 13 = .ok (.bipush 38, 2) ∧ decode cX11_init 15 = .ok (.newarray .int, 2) ∧ decode cX11_init 17 = .ok (.putfield 13, 3) ∧ decode cX11_init 20 = .ok (.aload_n 0, 1) ∧ decode cX11_init 21 = .ok (.sipush 304, 3) ∧ decode cX11_init 24 = .ok (.newarray .int, 2) ∧ decode cX11_init 26 = .ok (.putfield 16, 3) ∧ decode cX11_init 29 = .ok (.aload_n 0, 1) ∧ decode cX11_init 30 = .ok (.bipush 76, 2) ∧ decode cX11_init 32 = .ok (.newarray .int, 2) ∧ decode cX11_init 34 = .ok (.putfield 19, 3) ∧ decode cX11_init 37 = .ok (.aload_n 0, 1) ∧ decode cX11_init 38 = .ok (.iconst 2, 1) ∧ decode cX11_init 39 = .ok (.newarray .boolean, 2) ∧ decode cX11_init 41 = .ok (.putfield 22, 3) ∧ decode cX11_init 44 = .ok (.aload_n 0, 1) ∧ decode cX11_init 45 = .ok (.iconst 4, 1) ∧ decode cX11_init 46 = .ok (.newarray .int, 2) ∧ decode cX11_init 48 = .ok (.putfield 26, 3) ∧ decode cX11_init 51 = .ok (.aload_n 0, 1) ∧ decode cX11_init 52 = .ok (.iconst 4, 1) ∧ decode cX11_init 53 = .ok (.newarray .int, 2) ∧ decode cX11_init 55 = .ok (.putfield 29, 3) ∧ decode cX11_init 58 = .ok (.aload_n 0, 1) ∧ decode cX11_init 59 = .ok (.sipush 128, 3) ∧ decode cX11_init 62 = .ok (.newarray .int, 2) ∧ decode cX11_init 64 = .ok (.putfield 32, 3) ∧ decode cX11_init 67 = .ok (.aload_n 0, 1) ∧ decode cX11_init 68 = .ok (.bipush 16, 2) ∧ decode cX11_init 70 = .ok (.newarray .int, 2) ∧ decode cX11_init 72 = .ok (.putfield 35, 3) ∧ decode cX11_init 75 = .ok (.aload_n 0, 1) ∧ decode cX11_init 76 = .ok (.bipush 16, 2) ∧ decode cX11_init 78 = .ok (.newarray .int, 2) ∧ decode cX11_init 80 = .ok (.putfield 38, 3) ∧ decode cX11_init 83 = .ok (.aload_n 0, 1) ∧ decode cX11_init 84 = .ok (.bipush 17, 2) ∧ decode cX11_init 86 = .ok (.newarray .int, 2) ∧ decode cX11_init 88 = .ok (.putfield 41, 3) ∧ decode cX11_init 91 = .ok (.aload_n 0, 1) ∧ decode cX11_init 92 = .ok (.bipush 17, 2) ∧ decode cX11_init 94 = .ok (.newarray .int, 2) ∧ decode cX11_init 96 = .ok (.putfield 44, 3) ∧ decode cX11_init 99 = .ok (.aload_n 0, 1) ∧ decode cX11_init 100 = .ok (.bipush 16, 2) ∧ decode cX11_init 102 = .ok (.newarray .int, 2) ∧ decode cX11_init 104 = .ok (.putfield 47, 3) ∧ decode cX11_init 107 = .ok (.aload_n 0, 1) ∧ decode cX11_init 108 = .ok (.bipush 64, 2) ∧ decode cX11_init 110 = .ok (.newarray .int, 2) ∧ decode cX11_init 112 = .ok (.putfield 50, 3) ∧ decode cX11_init 115 = .ok (.aload_n 0, 1) ∧ decode cX11_init 116 = .ok (.sipush 4320, 3) ∧ decode cX11_init 119 = .ok (.newarray .int, 2) ∧ decode cX11_init 121 = .ok (.putfield 53, 3) ∧ decode cX11_init 124 = .ok (.aload_n 0, 1) ∧ decode cX11_init 125 = .ok (.invokevirtual 56, 3) ∧ decode cX11_init 128 = .ok (.return_, 1) := ⟨by decide +kernel, by decide +kernel, by decide +kernel, by decide +kernel, by decide +kernel, by decide +kernel, by decide +kernel, by decide +kernel, by decide +kernel, by decide +kernel, by decide +kernel, by decide +kernel, by decide +kernel, by decide +kernel, by decide +kernel, by decide +kernel, by decide +kernel, by decide +kernel, by decide +kernel, by decide +kernel, by decide +kernel, by decide +kernel, by decide +kernel, by decide +kernel, by decide +kernel, by decide +kernel, by decide +kernel, by decide +kernel, by decide +kernel, by decide +kernel, by decide +kernel, by decide +kernel, by decide +kernel, by decide +kernel, by decide +kernel, by decide +kernel, by decide +kernel, by decide +kernel, by decide +kernel, by decide +kernel, by decide +kernel, by decide +kernel, by decide +kernel, by decide +kernel, by decide +kernel, by decide +kernel, by decide +kernel, by decide +kernel, by decide +kernel, by decide +kernel, by decide +kernel, by decide +kernel, by decide +kernel, by decide +kernel, by decide +kernel, by decide +kernel, by decide +kernel, by decide +kernel, by decide +kernel, by decide +kernel, by decide +kernel, by decide +kernel, by decide +kernel, by decide +kernel, by decide +kernel⟩
theorem dec_X11_isBrought : decode cX11_isBrought 0 = .ok (.iload_n 1, 1) ∧ decode cX11_isBrought 1 = .ok (.istore_n 3, 1) ∧ decode cX11_isBrought 2 = .ok (.iload_n 3, 1) ∧ decode cX11_isBrought 3 = .ok (.iload_n 2, 1) ∧ decode cX11_isBrought 4 = .ok (.if_icmp .le 21, 3) ∧ decode cX11_isBrought 7 = .ok (.aload_n 0, 1) ∧ decode cX11_isBrought 8 = .ok (.iload_n 3, 1) ∧ decode cX11_isBrought 9 = .ok (.iconst 1, 1) ∧ decode cX11_isBrought 10 = .ok (.isub, 1) ∧ decode cX11_isBrought 11 = .ok (.invokestatic 81, 3) ∧ decode cX11_isBrought 14 = .ok (.ifCond .ne 5, 3) ∧ decode cX11_isBrought 17 = .ok (.iconst 0, 1) ∧ decode cX11_isBrought 18 = .ok (.ireturn, 1) ∧ decode cX11_isBrought 19 = .ok (.iinc 3 (-1), 3) ∧ decode cX11_isBrought 22 = .ok (.goto (-20), 3) ∧ decode cX11_isBrought 25 = .ok (.iload_n 3, 1) ∧ decode cX11_isBrought 26 = .ok (.iload_n 2, 1) ∧ decode cX11_isBrought 27 = .ok (.if_icmp .ge 19, 3) ∧ decode cX11_isBrought 30 = .ok (.aload_n 0, 1) ∧ decode cX11_isBrought 31 = .ok (.iload_n 3, 1) ∧ decode cX11_isBrought 32 = .ok (.invokestatic 81, 3) ∧ decode cX11_isBrought 35 = .ok (.ifCond .ne 5, 3) ∧ decode cX11_isBrought 38 = .ok (.iconst 0, 1) ∧ decode cX11_isBrought 39 = .ok (.ireturn, 1) ∧ decode cX11_isBrought 40 = .ok (.iinc 3 1, 3) ∧ decode cX11_isBrought 43 = .ok (.goto (-18), 3) ∧ decode cX11_isBrought 46 = .ok (.iconst 1, 1) ∧ decode cX11_isBrought 47 = .ok (.ireturn, 1) := ⟨by decide +kernel, by decide +kernel, by decide +kernel, by decide +kernel, by decide +kernel, by decide +kernel, by decide +kernel, by decide +kernel, by decide +kernel, by decide +kernel, by decide +kernel, by decide +kernel, by decide +kernel, by decide +kernel, by decide +kernel, by decide +kernel, by decide +kernel, by decide +kernel, by decide +kernel, by decide +kernel, by decide +kernel, by decide +kernel, by decide +kernel, by decide +kernel, by decide +kernel, by decide +kernel, by decide +kernel, by decide +kernel⟩
theorem dec_X11_isFull : decode cX11_isFull 0 = .ok (.aload_n 0, 1) ∧ decode cX11_isFull 1 = .ok (.getfield 116, 3) ∧ decode cX11_isFull 4 = .ok (.bipush 24, 2) ∧ decode cX11_isFull 6 = .ok (.if_icmp .eq 23, 3) ∧ decode cX11_isFull 9 = .ok (.aload_n 0, 1) ∧ decode cX11_isFull 10 = .ok (.iload_n 1, 1) ∧ decode cX11_isFull 11 = .ok (.invokevirtual 100, 3) ∧ decode cX11_isFull 14 = .ok (.bipush 16, 2) ∧ decode cX11_isFull 16 = .ok (.if_icmp .eq 13, 3) ∧ decode cX11_isFull 19 = .ok (.iload_n 2, 1) ∧ decode cX11_isFull 20 = .ok (.ifCond .ne 13, 3) ∧ decode cX11_isFull 23 = .ok (.iload_n 3, 1) ∧ decode cX11_isFull 24 = .ok (.bipush 24, 2) ∧ decode cX11_isFull 26 = .ok (.if_icmp .lt 7, 3) ∧ decode cX11_isFull 29 = .ok (.iconst 1, 1) ∧ decode cX11_isFull 30 = .ok (.goto 4, 3) ∧ decode cX11_isFull 33 = .ok (.iconst 0, 1) ∧ decode cX11_isFull 34 = .ok (.ireturn, 1) := ⟨by decide +kernel, by decide +kernel, by decide +kernel, by decide +kernel, by decide +kernel, by decide +kernel, by decide +kernel, by decide +kernel, by decide +kernel, by decide +kernel, by decide +kernel, by decide +kernel, by decide +kernel, by decide +kernel, by decide +kernel, by decide +kernel, by decide +kernel, by decide +kernel⟩
theorem dec_X11_isHouse : decode cX11_isHouse 0 = .ok (.iload_n 0, 1) ∧ decode cX11_isHouse 1 = .ok (.iconst 0, 1) ∧ decode cX11_isHouse 2 = .ok (.iconst 1, 1) ∧ decode cX11_isHouse 3 = .ok (.invokestatic 59, 3) ∧ decode cX11_isHouse 6 = .ok (.ireturn, 1) := ⟨by decide +kernel, by decide +kernel, by decide +kernel, by decide +kernel, by decide +kernel⟩
theorem dec_X11_isLaid : decode cX11_isLaid 0 = .ok (.iconst 0, 1) ∧ decode cX11_isLaid 1 = .ok (.istore_n 3, 1) ∧ decode cX11_isLaid 2 = .ok (.iconst 0, 1) ∧ decode cX11_isLaid 3 = .ok (.istore 4, 2) ∧ decode cX11_isLaid 5 = .ok (.iload 4, 2) ∧ decode cX11_isLaid 7 = .ok (.iload_n 1, 1) ∧ decode cX11_isLaid 8 = .ok (.if_icmp .ge 75, 3) ∧ decode cX11_isLaid 11 = .ok (.iload_n 3, 1) ∧ decode cX11_isLaid 12 = .ok (.ifCond .ne 71, 3) ∧ decode cX11_isLaid 15 = .ok (.iconst 1, 1) ∧ decode cX11_isLaid 16 = .ok (.istore 5, 2) ∧ decode cX11_isLaid 18 = .ok (.iconst 0, 1) ∧ decode cX11_isLaid 19 = .ok (.istore 6, 2) ∧ decode cX11_isLaid 21 = .ok (.iload 6, 2) ∧ decode cX11_isLaid 23 = .ok (.iload_n 2, 1) ∧ decode cX11_isLaid 24 = .ok (.if_icmp .ge 50, 3) ∧ decode cX11_isLaid 27 = .ok (.iload 5, 2) ∧ decode cX11_isLaid 29 = .ok (.ifCond .eq 45, 3) ∧ decode cX11_isLaid 32 = .ok (.aload_n 0, 1) ∧ decode cX11_isLaid 33 = .ok (.getfield 53, 3) ∧ decode cX11_isLaid 36 = .ok (.bipush 6, 2) ∧ decode cX11_isLaid 38 = .ok (.iload 4, 2) ∧ decode cX11_isLaid 40 = .ok (.imul, 1) ∧ decode cX11_isLaid 41 = .ok (.iload 6, 2) ∧ decode cX11_isLaid 43 = .ok (.iadd, 1) ∧ decode cX11_isLaid 44 = .ok (.iaload, 1) ∧ decode cX11_isLaid 45 = .ok (.invokestatic 85, 3) ∧ decode cX11_isLaid 48 = .ok (.aload_n 0, 1) ∧ decode cX11_isLaid 49 = .ok (.getfield 38, 3) ∧ decode cX11_isLaid 52 = .ok (.iload 6, 2) ∧ decode cX11_isLaid 54 = .ok (.iaload, 1) ∧ decode cX11_isLaid 55 = .ok (.invokestatic 85, 3) ∧ decode cX11_isLaid 58 = .ok (.if_icmp .ne 7, 3) ∧ decode cX11_isLaid 61 = .ok (.iconst 1, 1) ∧ decode cX11_isLaid 62 = .ok (.goto 4, 3) ∧ decode cX11_isLaid 65 = .ok (.iconst 0, 1) ∧ decode cX11_isLaid 66 = .ok (.istore 5, 2) ∧ decode cX11_isLaid 68 = .ok (.iinc 6 1, 3) ∧ decode cX11_isLaid 71 = .ok (.goto (-50), 3) ∧ decode cX11_isLaid 74 = .ok (.iload 5, 2) ∧ decode cX11_isLaid 76 = .ok (.istore_n 3, 1) ∧ decode cX11_isLaid 77 = .ok (.iinc 4 1, 3) ∧ decode cX11_isLaid 80 = .ok (.goto (-75), 3) ∧ decode cX11_isLaid 83 = .ok (.iload_n 3, 1) ∧ decode cX11_isLaid 84 = .ok (.ireturn, 1) := ⟨by decide +kernel, by decide +kernel, by decide +kernel, by decide +kernel, by decide +kernel, by decide +kernel, by decide +kernel, by decide +kernel, by decide +kernel, by decide +kernel, by decide +kernel, by decide +kernel, by decide +kernel, by decide +kernel, by decide +kernel, by decide +kernel, by decide +kernel, by decide +kernel, by decide +kernel, by decide +kernel, by decide +kernel, by decide +kernel, by decide +kernel, by decide +kernel, by decide +kernel, by decide +kernel, by decide +kernel, by decide +kernel, by decide +kernel, by decide +kernel, by decide +kernel, by decide +kernel, by decide +kernel, by decide +kernel, by decide +kernel, by decide +kernel, by decide +kernel, by decide +kernel, by decide +kernel, by decide +kernel, by decide +kernel, by decide +kernel, by decide +kernel, by decide +kernel, by decide +kernel⟩
theorem dec_X11_isLot : decode cX11_isLot 0 = .ok (.aload_n 0, 1) ∧ decode cX11_isLot 1 = .ok (.iconst 2, 1) ∧ decode cX11_isLot 2 = .ok (.invokevirtual 191, 3) ∧ decode cX11_isLot 5 = .ok (.istore_n 1, 1) ∧ decode cX11_isLot 6 = .ok (.aload_n 0, 1) ∧ decode cX11_isLot 7 = .ok (.iconst 3, 1) ∧ decode cX11_isLot 8 = .ok (.invokevirtual 191, 3) ∧ decode cX11_isLot 11 = .ok (.iconst 2, 1) ∧ decode cX11_isLot 12 = .ok (.idiv, 1) ∧ decode cX11_isLot 13 = .ok (.istore_n 2, 1) ∧ decode cX11_isLot 14 = .ok (.aload_n 0, 1) ∧ decode cX11_isLot 15 = .ok (.iload_n 1, 1) ∧ decode cX11_isLot 16 = .ok (.invokevirtual 133, 3) ∧ decode cX11_isLot 19 = .ok (.istore_n 3, 1) ∧ decode cX11_isLot 20 = .ok (.iload_n 2, 1) ∧ decode cX11_isLot 21 = .ok (.iconst 1, 1) ∧ decode cX11_isLot 22 = .ok (.if_icmp .ne 9, 3) ∧ decode cX11_isLot 25 = .ok (.iload_n 3, 1) ∧ decode cX11_isLot 26 = .ok (.ifCond .ne 5, 3) ∧ decode cX11_isLot 29 = .ok (.iconst 0, 1) ∧ decode cX11_isLot 30 = .ok (.ireturn, 1) ∧ decode cX11_isLot 31 = .ok (.aload_n 0, 1) ∧ decode cX11_isLot 32 = .ok (.iload_n 2, 1) ∧ decode cX11_isLot 33 = .ok (.ifCond .ne 9, 3) ∧ decode cX11_isLot 36 = .ok (.iload_n 3, 1) ∧ decode cX11_isLot 37 = .ok (.iconst 1, 1) ∧ decode cX11_isLot 38 = .ok (.iadd, 1) ∧ decode cX11_isLot 39 = .ok (.goto 4, 3) ∧ decode cX11_isLot 42 = .ok (.iload_n 3, 1) ∧ decode cX11_isLot 43 = .ok (.invokevirtual 191, 3) ∧ decode cX11_isLot 46 = .ok (.istore 4, 2) ∧ decode cX11_isLot 48 = .ok (.iload_n 2, 1) ∧ decode cX11_isLot 49 = .ok (.ifCond .ne 15, 3) ∧ decode cX11_isLot 52 = .ok (.bipush 97, 2) ∧ decode cX11_isLot 54 = .ok (.aload_n 0, 1) ∧ decode cX11_isLot 55 = .ok (.bipush 26, 2) ∧ decode cX11_isLot 57 = .ok (.invokevirtual 191, 3) ∧ decode cX11_isLot 60 = .ok (.iadd, 1) ∧ decode cX11_isLot 61 = .ok (.goto 15, 3) ∧ decode cX11_isLot 64 = .ok (.aload_n 0, 1) ∧ decode cX11_isLot 65 = .ok (.getfield 50, 3) ∧ decode cX11_isLot 68 = .ok (.bipush 32, 2) ∧ decode cX11_isLot 70 = .ok (.iload_n 1, 1) ∧ decode cX11_isLot 71 = .ok (.imul, 1) ∧ decode cX11_isLot 72 = .ok (.iload 4, 2) ∧ decode cX11_isLot 74 = .ok (.iadd, 1) ∧ decode cX11_isLot 75 = .ok (.iaload, 1) ∧ decode cX11_isLot 76 = .ok (.istore 5, 2) ∧ decode cX11_isLot 78 = .ok (.aload_n 0, 1) ∧ decode cX11_isLot 79 = .ok (.iload_n 1, 1) ∧ decode cX11_isLot 80 = .ok (.iload_n 2, 1) ∧ decode cX11_isLot 81 = .ok (.iload_n 3, 1) ∧ decode cX11_isLot 82 = .ok (.invokevirtual 136, 3) ∧ decode cX11_isLot 85 = .ok (.ifCond .eq 5, 3) ∧ decode cX11_isLot 88 = .ok (.iconst 0, 1) ∧ decode cX11_isLot 89 = .ok (.ireturn, 1) ∧ decode cX11_isLot 90 = .ok (.aload_n 0, 1) ∧ decode cX11_isLot 91 = .ok (.iload_n 1, 1) ∧ decode cX11_isLot 92 = .ok (.iload_n 2, 1) ∧ decode cX11_isLot 93 = .ok (.iload 4, 2) ∧ decode cX11_isLot 95 = .ok (.iload 5, 2) ∧ decode cX11_isLot 97 = .ok (.invokevirtual 142, 3) ∧ decode cX11_isLot 100 = .ok (.pop, 1) ∧ decode cX11_isLot 101 = .ok (.iconst 1, 1) ∧ decode cX11_isLot 102 = .ok (.ireturn, 1) := ⟨by decide +kernel, by decide +kernel, by decide +kernel, by decide +kernel, by decide +kernel, by decide +kernel, by decide +kernel, by decide +kernel, by decide +kernel, by decide +kernel, by decide +kernel, by decide +kernel, by decide +kernel, by decide +kernel, by decide +kernel, by decide +kernel, by decide +kernel, by decide +kernel, by decide +kernel, by decide +kernel, by decide +kernel, by decide +kernel, by decide +kernel, by decide +kernel, by decide +kernel, by decide +kernel, by decide +kernel, by decide +kernel, by decide +kernel, by decide +kernel, by decide +kernel, by decide +kernel, by decide +kernel, by decide +kernel, by decide +kernel, by decide +kernel, by decide +kernel, by decide +kernel, by decide +kernel, by decide +kernel, by decide +kernel, by decide +kernel, by decide +kernel, by decide +kernel, by decide +kernel, by decide +kernel, by decide +kernel, by decide +kernel, by decide +kernel, by decide +kernel, by decide +kernel, by decide +kernel, by decide +kernel, by decide +kernel, by decide +kernel, by decide +kernel, by decide +kernel, by decide +kernel, by decide +kernel, by decide +kernel, by decide +kernel, by decide +kernel, by decide +kernel, by decide +kernel, by decide +kernel⟩
theorem dec_X11_isPlace : decode cX11_isPlace 0 = .ok (.iload_n 1, 1) ∧ decode cX11_isPlace 1 = .ok (.invokestatic 128, 3) ∧ decode cX11_isPlace 4 = .ok (.ifCond .eq 22, 3) ∧ decode cX11_isPlace 7 = .ok (.iload_n 2, 1) ∧ decode cX11_isPlace 8 = .ok (.iconst 0, 1) ∧ decode cX11_isPlace 9 = .ok (.aload_n 0, 1) ∧ decode cX11_isPlace 10 = .ok (.iload_n 1, 1) ∧ decode cX11_isPlace 11 = .ok (.invokevirtual 100, 3) ∧ decode cX11_isPlace 14 = .ok (.iconst 1, 1) ∧ decode cX11_isPlace 15 = .ok (.isub, 1) ∧ decode cX11_isPlace 16 = .ok (.invokestatic 59, 3) ∧ decode cX11_isPlace 19 = .ok (.ifCond .eq 7, 3) ∧ decode cX11_isPlace 22 = .ok (.iconst 1, 1) ∧ decode cX11_isPlace 23 = .ok (.goto 4, 3) ∧ decode cX11_isPlace 26 = .ok (.iconst 0, 1) ∧ decode cX11_isPlace 27 = .ok (.ireturn, 1) := ⟨by decide +kernel, by decide +kernel, by decide +kernel, by decide +kernel, by decide +kernel, by decide +kernel, by decide +kernel, by decide +kernel, by decide +kernel, by decide +kernel, by decide +kernel, by decide +kernel, by decide +kernel, by decide +kernel, by decide +kernel, by decide +kernel⟩
theorem dec_X11_isShelf : decode cX11_isShelf 0 = .ok (.iload_n 0, 1) ∧ decode cX11_isShelf 1 = .ok (.iconst 0, 1) ∧ decode cX11_isShelf 2 = .ok (.iconst 3, 1) ∧ decode cX11_isShelf 3 = .ok (.invokestatic 59, 3) ∧ decode cX11_isShelf 6 = .ok (.ireturn, 1) := ⟨by decide +kernel, by decide +kernel, by decide +kernel, by decide +kernel, by decide +kernel⟩
theorem dec_X11_isText : decode cX11_isText 0 = .ok (.iload_n 1, 1) ∧ decode cX11_isText 1 = .ok (.invokestatic 214, 3) ∧ decode cX11_isText 4 = .ok (.ifCond .eq 10, 3) ∧ decode cX11_isText 7 = .ok (.iload_n 2, 1) ∧ decode cX11_isText 8 = .ok (.invokestatic 128, 3) ∧ decode cX11_isText 11 = .ok (.ifCond .ne 6, 3) ∧ decode cX11_isText 14 = .ok (.ldc 132, 2) ∧ decode cX11_isText 16 = .ok (.ireturn, 1) ∧ decode cX11_isText 17 = .ok (.aload_n 0, 1) ∧ decode cX11_isText 18 = .ok (.iload_n 1, 1) ∧ decode cX11_isText 19 = .ok (.iconst 2, 1) ∧ decode cX11_isText 20 = .ok (.invokevirtual 219, 3) ∧ decode cX11_isText 23 = .ok (.istore_n 3, 1) ∧ decode cX11_isText 24 = .ok (.iload_n 3, 1) ∧ decode cX11_isText 25 = .ok (.ifCond .eq 5, 3) ∧ decode cX11_isText 28 = .ok (.iload_n 3, 1) ∧ decode cX11_isText 29 = .ok (.ireturn, 1) ∧ decode cX11_isText 30 = .ok (.aload_n 0, 1) ∧ decode cX11_isText 31 = .ok (.iload_n 2, 1) ∧ decode cX11_isText 32 = .ok (.invokevirtual 133, 3) ∧ decode cX11_isText 35 = .ok (.aload_n 0, 1) ∧ decode cX11_isText 36 = .ok (.getfield 29, 3) ∧ decode cX11_isText 39 = .ok (.iload_n 1, 1) ∧ decode cX11_isText 40 = .ok (.iaload, 1) ∧ decode cX11_isText 41 = .ok (.if_icmp .ne 7, 3) ∧ decode cX11_isText 44 = .ok (.iconst 1, 1) ∧ decode cX11_isText 45 = .ok (.goto 4, 3) ∧ decode cX11_isText 48 = .ok (.iconst 0, 1) ∧ decode cX11_isText 49 = .ok (.istore 4, 2) ∧ decode cX11_isText 51 = .ok (.iconst 0, 1) ∧ decode cX11_isText 52 = .ok (.istore 5, 2) ∧ decode cX11_isText 54 = .ok (.iload 5, 2) ∧ decode cX11_isText 56 = .ok (.aload_n 0, 1) ∧ decode cX11_isText 57 = .ok (.getfield 29, 3) ∧ decode cX11_isText 60 = .ok (.iload_n 1, 1) ∧ decode cX11_isText 61 = .ok (.iaload, 1) ∧ decode cX11_isText 62 = .ok (.if_icmp .ge 48, 3) ∧ decode cX11_isText 65 = .ok (.iload 4, 2) ∧ decode cX11_isText 67 = .ok (.ifCond .eq 43, 3) ∧ decode cX11_isText 70 = .ok (.aload_n 0, 1) ∧ decode cX11_isText 71 = .ok (.getfield 50, 3) ∧ decode cX11_isText 74 = .ok (.bipush 32, 2) ∧ decode cX11_isText 76 = .ok (.iload_n 2, 1) ∧ decode cX11_isText 77 = .ok (.imul, 1) ∧ decode cX11_isText 78 = .ok (.iload 5, 2) ∧ decode cX11_isText 80 = .ok (.iadd, 1) ∧ decode cX11_isText 81 = .ok (.iaload, 1) ∧ decode cX11_isText 82 = .ok (.aload_n 0, 1) ∧ decode cX11_isText 83 = .ok (.getfield 32, 3) ∧ decode cX11_isText 86 = .ok (.bipush 32, 2) ∧ decode cX11_isText 88 = .ok (.iload_n 1, 1) ∧ decode cX11_isText 89 = .ok (.imul, 1) ∧ decode cX11_isText 90 = .ok (.iload 5, 2) ∧ decode cX11_isText 92 = .ok (.iadd, 1) ∧ decode cX11_isText 93 = .ok (.iaload, 1) ∧ decode cX11_isText 94 = .ok (.if_icmp .ne 7, 3) ∧ decode cX11_isText 97 = .ok (.iconst 1, 1) ∧ decode cX11_isText 98 = .ok (.goto 4, 3) ∧ decode cX11_isText 101 = .ok (.iconst 0, 1) ∧ decode cX11_isText 102 = .ok (.istore 4, 2) ∧ decode cX11_isText 104 = .ok (.iinc 5 1, 3) ∧ decode cX11_isText 107 = .ok (.goto (-53), 3) ∧ decode cX11_isText 110 = .ok (.iload 4, 2) ∧ decode cX11_isText 112 = .ok (.ifCond .eq 7, 3) ∧ decode cX11_isText 115 = .ok (.iconst 1, 1) ∧ decode cX11_isText 116 = .ok (.goto 4, 3) ∧ decode cX11_isText 119 = .ok (.iconst 0, 1) ∧ decode cX11_isText 120 = .ok (.ireturn, 1) := ⟨by decide +kernel, by decide +kernel, by decide +kernel, by decide +kernel, by decide +kernel, by decide +kernel, by decide +kernel, by decide +kernel, by decide +kernel, by decide +kernel, by decide +kernel, by decide +kernel, by decide +kernel, by decide +kernel, by decide +kernel, by decide +kernel, by decide +kernel, by decide +kernel, by decide +kernel, by decide +kernel, by decide +kernel, by decide +kernel, by decide +kernel, by decide +kernel, by decide +kernel, by decide +kernel, by decide +kernel, by decide +kernel, by decide +kernel, by decide +kernel, by decide +kernel, by decide +kernel, by decide +kernel, by decide +kernel, by decide +kernel, by decide +kernel, by decide +kernel, by decide +kernel, by decide +kernel, by decide +kernel, by decide +kernel, by decide +kernel, by decide +kernel, by decide +kernel, by decide +kernel, by decide +kernel, by decide +kernel, by decide +kernel, by decide +kernel, by decide +kernel, by decide +kernel, by decide +kernel, by decide +kernel, by decide +kernel, by decide +kernel, by decide +kernel, by decide +kernel, by decide +kernel, by decide +kernel, by decide +kernel, by decide +kernel, by decide +kernel, by decide +kernel, by decide +kernel, by decide +kernel, by decide +kernel, by decide +kernel, by decide +kernel⟩
theorem dec_X11_isTooMuch : decode cX11_isTooMuch 0 = .ok (.aload_n 0, 1) ∧ decode cX11_isTooMuch 1 = .ok (.iload_n 1, 1) ∧ decode cX11_isTooMuch 2 = .ok (.invokevirtual 133, 3) ∧ decode cX11_isTooMuch 5 = .ok (.istore_n 3, 1) ∧ decode cX11_isTooMuch 6 = .ok (.aload_n 0, 1) ∧ decode cX11_isTooMuch 7 = .ok (.getfield 145, 3) ∧ decode cX11_isTooMuch 10 = .ok (.iload_n 2, 1) ∧ decode cX11_isTooMuch 11 = .ok (.iadd, 1) ∧ decode cX11_isTooMuch 12 = .ok (.bipush 16, 2) ∧ decode cX11_isTooMuch 14 = .ok (.if_icmp .le 7, 3) ∧ decode cX11_isTooMuch 17 = .ok (.iconst 1, 1) ∧ decode cX11_isTooMuch 18 = .ok (.goto 4, 3) ∧ decode cX11_isTooMuch 21 = .ok (.iconst 0, 1) ∧ decode cX11_isTooMuch 22 = .ok (.istore 4, 2) ∧ decode cX11_isTooMuch 24 = .ok (.iconst 0, 1) ∧ decode cX11_isTooMuch 25 = .ok (.istore 5, 2) ∧ decode cX11_isTooMuch 27 = .ok (.iload 5, 2) ∧ decode cX11_isTooMuch 29 = .ok (.iload_n 2, 1) ∧ decode cX11_isTooMuch 30 = .ok (.if_icmp .ge 48, 3) ∧ decode cX11_isTooMuch 33 = .ok (.iload_n 3, 1) ∧ decode cX11_isTooMuch 34 = .ok (.aload_n 0, 1) ∧ decode cX11_isTooMuch 35 = .ok (.getfield 47, 3) ∧ decode cX11_isTooMuch 38 = .ok (.iload 5, 2) ∧ decode cX11_isTooMuch 40 = .ok (.iaload, 1) ∧ decode cX11_isTooMuch 41 = .ok (.invokestatic 67, 3) ∧ decode cX11_isTooMuch 44 = .ok (.ifCond .ne 7, 3) ∧ decode cX11_isTooMuch 47 = .ok (.iconst 1, 1) ∧ decode cX11_isTooMuch 48 = .ok (.goto 4, 3) ∧ decode cX11_isTooMuch 51 = .ok (.iconst (-1), 1) ∧ decode cX11_isTooMuch 52 = .ok (.iadd, 1) ∧ decode cX11_isTooMuch 53 = .ok (.istore_n 3, 1) ∧ decode cX11_isTooMuch 54 = .ok (.iload 4, 2) ∧ decode cX11_isTooMuch 56 = .ok (.ifCond .ne 9, 3) ∧ decode cX11_isTooMuch 59 = .ok (.iload_n 3, 1) ∧ decode cX11_isTooMuch 60 = .ok (.bipush 24, 2) ∧ decode cX11_isTooMuch 62 = .ok (.if_icmp .le 7, 3) ∧ decode cX11_isTooMuch 65 = .ok (.iconst 1, 1) ∧ decode cX11_isTooMuch 66 = .ok (.goto 4, 3) ∧ decode cX11_isTooMuch 69 = .ok (.iconst 0, 1) ∧ decode cX11_isTooMuch 70 = .ok (.istore 4, 2) ∧ decode cX11_isTooMuch 72 = .ok (.iinc 5 1, 3) ∧ decode cX11_isTooMuch 75 = .ok (.goto (-48), 3) ∧ decode cX11_isTooMuch 78 = .ok (.iload 4, 2) ∧ decode cX11_isTooMuch 80 = .ok (.ireturn, 1) := ⟨by decide +kernel, by decide +kernel, by decide +kernel, by decide +kernel, by decide +kernel, by decide +kernel, by decide +kernel, by decide +kernel, by decide +kernel, by decide +kernel, by decide +kernel, by decide +kernel, by decide +kernel, by decide +kernel, by decide +kernel, by decide +kernel, by decide +kernel, by decide +kernel, by decide +kernel, by decide +kernel, by decide +kernel, by decide +kernel, by decide +kernel, by decide +kernel, by decide +kernel, by decide +kernel, by decide +kernel, by decide +kernel, by decide +kernel, by decide +kernel, by decide +kernel, by decide +kernel, by decide +kernel, by decide +kernel, by decide +kernel, by decide +kernel, by decide +kernel, by decide +kernel, by decide +kernel, by decide +kernel, by decide +kernel, by decide +kernel, by decide +kernel, by decide +kernel⟩
theorem dec_X11_isTurned : decode cX11_isTurned 0 = .ok (.aload_n 0, 1) ∧ decode cX11_isTurned 1 = .ok (.iload_n 1, 1) ∧ decode cX11_isTurned 2 = .ok (.iaload, 1) ∧ decode cX11_isTurned 3 = .ok (.aload_n 0, 1) ∧ decode cX11_isTurned 4 = .ok (.iload_n 1, 1) ∧ decode cX11_isTurned 5 = .ok (.iconst 1, 1) ∧ decode cX11_isTurned 6 = .ok (.iadd, 1) ∧ decode cX11_isTurned 7 = .ok (.iaload, 1) ∧ decode cX11_isTurned 8 = .ok (.invokestatic 74, 3) ∧ decode cX11_isTurned 11 = .ok (.istore_n 2, 1) ∧ decode cX11_isTurned 12 = .ok (.iload_n 2, 1) ∧ decode cX11_isTurned 13 = .ok (.iconst (-1), 1) ∧ decode cX11_isTurned 14 = .ok (.if_icmp .ne 5, 3) ∧ decode cX11_isTurned 17 = .ok (.iconst 0, 1) ∧ decode cX11_isTurned 18 = .ok (.ireturn, 1) ∧ decode cX11_isTurned 19 = .ok (.aload_n 0, 1) ∧ decode cX11_isTurned 20 = .ok (.iload_n 1, 1) ∧ decode cX11_isTurned 21 = .ok (.iaload, 1) ∧ decode cX11_isTurned 22 = .ok (.istore_n 3, 1) ∧ decode cX11_isTurned 23 = .ok (.aload_n 0, 1) ∧ decode cX11_isTurned 24 = .ok (.iload_n 1, 1) ∧ decode cX11_isTurned 25 = .ok (.aload_n 0, 1) ∧ decode cX11_isTurned 26 = .ok (.iload_n 1, 1) ∧ decode cX11_isTurned 27 = .ok (.iconst 1, 1) ∧ decode cX11_isTurned 28 = .ok (.iadd, 1) ∧ decode cX11_isTurned 29 = .ok (.iaload, 1) ∧ decode cX11_isTurned 30 = .ok (.iload_n 2, 1) ∧ decode cX11_isTurned 31 = .ok (.bipush 100, 2) ∧ decode cX11_isTurned 33 = .ok (.idiv, 1) ∧ decode cX11_isTurned 34 = .ok (.invokestatic 78, 3) ∧ decode cX11_isTurned 37 = .ok (.iastore, 1) ∧ decode cX11_isTurned 38 = .ok (.aload_n 0, 1) ∧ decode cX11_isTurned 39 = .ok (.iload_n 1, 1) ∧ decode cX11_isTurned 40 = .ok (.iconst 1, 1) ∧ decode cX11_isTurned 41 = .ok (.iadd, 1) ∧ decode cX11_isTurned 42 = .ok (.iload_n 3, 1) ∧ decode cX11_isTurned 43 = .ok (.iload_n 2, 1) ∧ decode cX11_isTurned 44 = .ok (.bipush 100, 2) ∧ decode cX11_isTurned 46 = .ok (.irem, 1) ∧ decode cX11_isTurned 47 = .ok (.invokestatic 78, 3) ∧ decode cX11_isTurned 50 = .ok (.iastore, 1) ∧ decode cX11_isTurned 51 = .ok (.iconst 1, 1) ∧ decode cX11_isTurned 52 = .ok (.ireturn, 1) := ⟨by decide +kernel, by decide +kernel, by decide +kernel, by decide +kernel, by decide +kernel, by decide +kernel, by decide +kernel, by decide +kernel, by decide +kernel, by decide +kernel, by decide +kernel, by decide +kernel, by decide +kernel, by decide +kernel, by decide +kernel, by decide +kernel, by decide +kernel, by decide +kernel, by decide +kernel, by decide +kernel, by decide +kernel, by decide +kernel, by decide +kernel, by decide +kernel, by decide +kernel, by decide +kernel, by decide +kernel, by decide +kernel, by decide +kernel, by decide +kernel, by decide +kernel, by decide +kernel, by decide +kernel, by decide +kernel, by decide +kernel, by decide +kernel, by decide +kernel, by decide +kernel, by decide +kernel, by decide +kernel, by decide +kernel, by decide +kernel, by decide +kernel⟩
theorem dec_X11_keep : decode cX11_keep 0 = .ok (.iload_n 1, 1) ∧ decode cX11_keep 1 = .ok (.iconst 0, 1) ∧ decode cX11_keep 2 = .ok (.iconst 1, 1) ∧ decode cX11_keep 3 = .ok (.invokestatic 59, 3) ∧ decode cX11_keep 6 = .ok (.ifCond .ne 6, 3) ∧ decode cX11_keep 9 = .ok (.ldc 132, 2) ∧ decode cX11_keep 11 = .ok (.ireturn, 1) ∧ decode cX11_keep 12 = .ok (.aload_n 0, 1) ∧ decode cX11_keep 13 = .ok (.getfield 13, 3) ∧ decode cX11_keep 16 = .ok (.iconst 0, 1) ∧ decode cX11_keep 17 = .ok (.aload_n 0, 1) ∧ decode cX11_keep 18 = .ok (.getfield 19, 3) ∧ decode cX11_keep 21 = .ok (.bipush 38, 2) ∧ decode cX11_keep 23 = .ok (.iload_n 1, 1) ∧ decode cX11_keep 24 = .ok (.imul, 1) ∧ decode cX11_keep 25 = .ok (.bipush 38, 2) ∧ decode cX11_keep 27 = .ok (.invokestatic 92, 3) ∧ decode cX11_keep 30 = .ok (.aload_n 0, 1) ∧ decode cX11_keep 31 = .ok (.getfield 22, 3) ∧ decode cX11_keep 34 = .ok (.iload_n 1, 1) ∧ decode cX11_keep 35 = .ok (.iconst 1, 1) ∧ decode cX11_keep 36 = .ok (.bastore, 1) ∧ decode cX11_keep 37 = .ok (.aload_n 0, 1) ∧ decode cX11_keep 38 = .ok (.iconst 0, 1) ∧ decode cX11_keep 39 = .ok (.putfield 119, 3) ∧ decode cX11_keep 42 = .ok (.iconst 1, 1) ∧ decode cX11_keep 43 = .ok (.ireturn, 1) := ⟨by decide +kernel, by decide +kernel, by decide +kernel, by decide +kernel, by decide +kernel, by decide +kernel, by decide +kernel, by decide +kernel, by decide +kernel, by decide +kernel, by decide +kernel, by decide +kernel, by decide +kernel, by decide +kernel, by decide +kernel, by decide +kernel, by decide +kernel, by decide +kernel, by decide +kernel, by decide +kernel, by decide +kernel, by decide +kernel, by decide +kernel, by decide +kernel, by decide +kernel, by decide +kernel, by decide +kernel⟩
theorem dec_X11_lawful : decode cX11_lawful 0 = .ok (.aload_n 0, 1) ∧ decode cX11_lawful 1 = .ok (.iload_n 1, 1) ∧ decode cX11_lawful 2 = .ok (.invokevirtual 100, 3) ∧ decode cX11_lawful 5 = .ok (.istore_n 2, 1) ∧ decode cX11_lawful 6 = .ok (.iload_n 2, 1) ∧ decode cX11_lawful 7 = .ok (.bipush 6, 2) ∧ decode cX11_lawful 9 = .ok (.if_icmp .le 5, 3) ∧ decode cX11_lawful 12 = .ok (.iconst (-1), 1) ∧ decode cX11_lawful 13 = .ok (.ireturn, 1) ∧ decode cX11_lawful 14 = .ok (.aload_n 0, 1) ∧ decode cX11_lawful 15 = .ok (.getfield 13, 3) ∧ decode cX11_lawful 18 = .ok (.bipush 19, 2) ∧ decode cX11_lawful 20 = .ok (.iload_n 1, 1) ∧ decode cX11_lawful 21 = .ok (.imul, 1) ∧ decode cX11_lawful 22 = .ok (.iconst 3, 1) ∧ decode cX11_lawful 23 = .ok (.iadd, 1) ∧ decode cX11_lawful 24 = .ok (.aload_n 0, 1) ∧ decode cX11_lawful 25 = .ok (.getfield 53, 3) ∧ decode cX11_lawful 28 = .ok (.iconst 0, 1) ∧ decode cX11_lawful 29 = .ok (.iload_n 2, 1) ∧ decode cX11_lawful 30 = .ok (.invokestatic 92, 3) ∧ decode cX11_lawful 33 = .ok (.iconst 1, 1) ∧ decode cX11_lawful 34 = .ok (.istore_n 3, 1) ∧ decode cX11_lawful 35 = .ok (.iconst 0, 1) ∧ decode cX11_lawful 36 = .ok (.istore 4, 2) ∧ decode cX11_lawful 38 = .ok (.iload 4, 2) ∧ decode cX11_lawful 40 = .ok (.iload_n 3, 1) ∧ decode cX11_lawful 41 = .ok (.if_icmp .ge 85, 3) ∧ decode cX11_lawful 44 = .ok (.iconst 0, 1) ∧ decode cX11_lawful 45 = .ok (.istore 5, 2) ∧ decode cX11_lawful 47 = .ok (.iload 5, 2) ∧ decode cX11_lawful 49 = .ok (.iload_n 2, 1) ∧ decode cX11_lawful 50 = .ok (.iconst 1, 1) ∧ decode cX11_lawful 51 = .ok (.isub, 1) ∧ decode cX11_lawful 52 = .ok (.if_icmp .ge 68, 3) ∧ decode cX11_lawful 55 = .ok (.aload_n 0, 1) ∧ decode cX11_lawful 56 = .ok (.getfield 53, 3) ∧ decode cX11_lawful 59 = .ok (.bipush 6, 2) ∧ decode cX11_lawful 61 = .ok (.iload 4, 2) ∧ decode cX11_lawful 63 = .ok (.imul, 1) ∧ decode cX11_lawful 64 = .ok (.aload_n 0, 1) ∧ decode cX11_lawful 65 = .ok (.getfield 38, 3) ∧ decode cX11_lawful 68 = .ok (.iconst 0, 1) ∧ decode cX11_lawful 69 = .ok (.iload_n 2, 1) ∧ decode cX11_lawful 70 = .ok (.invokestatic 92, 3) ∧ decode cX11_lawful 73 = .ok (.aload_n 0, 1) ∧ decode cX11_lawful 74 = .ok (.getfield 38, 3) ∧ decode cX11_lawful 77 = .ok (.iload 5, 2) ∧ decode cX11_lawful 79 = .ok (.invokestatic 81, 3) ∧ decode cX11_lawful 82 = .ok (.ifCond .eq 32, 3) ∧ decode cX11_lawful 85 = .ok (.aload_n 0, 1) ∧ decode cX11_lawful 86 = .ok (.iload_n 3, 1) ∧ decode cX11_lawful 87 = .ok (.iload_n 2, 1) ∧ decode cX11_lawful 88 = .ok (.invokevirtual 202, 3) ∧ decode cX11_lawful 91 = .ok (.ifCond .ne 23, 3) ∧ decode cX11_lawful 94 = .ok (.aload_n 0, 1) ∧ decode cX11_lawful 95 = .ok (.getfield 38, 3) ∧ decode cX11_lawful 98 = .ok (.iconst 0, 1) ∧ decode cX11_lawful 99 = .ok (.aload_n 0, 1) ∧ decode cX11_lawful 100 = .ok (.getfield 53, 3) ∧ decode cX11_lawful 103 = .ok (.bipush 6, 2) ∧ decode cX11_lawful 105 = .ok (.iload_n 3, 1) ∧ decode cX11_lawful 106 = .ok (.imul, 1) ∧ decode cX11_lawful 107 = .ok (.iload_n 2, 1) ∧ decode cX11_lawful 108 = .ok (.invokestatic 92, 3) ∧ decode cX11_lawful 111 = .ok (.iinc 3 1, 3) ∧ decode cX11_lawful 114 = .ok (.iinc 5 1, 3) ∧ decode cX11_lawful 117 = .ok (.goto (-70), 3) ∧ decode cX11_lawful 120 = .ok (.iinc 4 1, 3) ∧ decode cX11_lawful 123 = .ok (.goto (-85), 3) ∧ decode cX11_lawful 126 = .ok (.iload_n 3, 1) ∧ decode cX11_lawful 127 = .ok (.ireturn, 1) := ⟨by decide +kernel, by decide +kernel, by decide +kernel, by decide +kernel, by decide +kernel, by decide +kernel, by decide +kernel, by decide +kernel, by decide +kernel, by decide +kernel, by decide +kernel, by decide +kernel, by decide +kernel, by decide +kernel, by decide +kernel, by decide +kernel, by decide +kernel, by decide +kernel, by decide +kernel, by decide +kernel, by decide +kernel, by decide +kernel, by decide +kernel, by decide +kernel, by decide +kernel, by decide +kernel, by decide +kernel, by decide +kernel, by decide +kernel, by decide +kernel, by decide +kernel, by decide +kernel, by decide +kernel, by decide +kernel, by decide +kernel, by decide +kernel, by decide +kernel, by decide +kernel, by decide +kernel, by decide +kernel, by decide +kernel, by decide +kernel, by decide +kernel, by decide +kernel, by decide +kernel, by decide +kernel, by decide +kernel, by decide +kernel, by decide +kernel, by decide +kernel, by decide +kernel, by decide +kernel, by decide +kernel, by decide +kernel, by decide +kernel, by decide +kernel, by decide +kernel, by decide +kernel, by decide +kernel, by decide +kernel, by decide +kernel, by decide +kernel, by decide +kernel, by decide +kernel, by decide +kernel, by decide +kernel, by decide +kernel, by decide +kernel, by decide +kernel, by decide +kernel, by decide +kernel, by decide +kernel⟩
theorem dec_X11_layOwn : decode cX11_layOwn 0 = .ok (.aload_n 0, 1) ∧ decode cX11_layOwn 1 = .ok (.getfield 13, 3) ∧ decode cX11_layOwn 4 = .ok (.bipush 19, 2) ∧ decode cX11_layOwn 6 = .ok (.iload_n 1, 1) ∧ decode cX11_layOwn 7 = .ok (.imul, 1) ∧ decode cX11_layOwn 8 = .ok (.iconst 3, 1) ∧ decode cX11_layOwn 9 = .ok (.iadd, 1) ∧ decode cX11_layOwn 10 = .ok (.aload_n 0, 1) ∧ decode cX11_layOwn 11 = .ok (.getfield 38, 3) ∧ decode cX11_layOwn 14 = .ok (.iconst 0, 1) ∧ decode cX11_layOwn 15 = .ok (.aload_n 0, 1) ∧ decode cX11_layOwn 16 = .ok (.iload_n 1, 1) ∧ decode cX11_layOwn 17 = .ok (.invokevirtual 100, 3) ∧ decode cX11_layOwn 20 = .ok (.invokestatic 92, 3) ∧ decode cX11_layOwn 23 = .ok (.aload_n 0, 1) ∧ decode cX11_layOwn 24 = .ok (.aload_n 0, 1) ∧ decode cX11_layOwn 25 = .ok (.iload_n 1, 1) ∧ decode cX11_layOwn 26 = .ok (.invokevirtual 100, 3) ∧ decode cX11_layOwn 29 = .ok (.putfield 145, 3) ∧ decode cX11_layOwn 32 = .ok (.aload_n 0, 1) ∧ decode cX11_layOwn 33 = .ok (.getfield 145, 3) ∧ decode cX11_layOwn 36 = .ok (.ireturn, 1) := ⟨by decide +kernel, by decide +kernel, by decide +kernel, by decide +kernel, by decide +kernel, by decide +kernel, by decide +kernel, by decide +kernel, by decide +kernel, by decide +kernel, by decide +kernel, by decide +kernel, by decide +kernel, by decide +kernel, by decide +kernel, by decide +kernel, by decide +kernel, by decide +kernel, by decide +kernel, by decide +kernel, by decide +kernel, by decide +kernel⟩
theorem dec_X11_layText : decode cX11_layText 0 = .ok (.bipush 32, 2) ∧ decode cX11_layText 2 = .ok (.iload_n 1, 1) ∧ decode cX11_layText 3 = .ok (.imul, 1) ∧ decode cX11_layText 4 = .ok (.istore_n 2, 1) ∧ decode cX11_layText 5 = .ok (.aload_n 0, 1) ∧ decode cX11_layText 6 = .ok (.getfield 7, 3) ∧ decode cX11_layText 9 = .ok (.iconst 0, 1) ∧ decode cX11_layText 10 = .ok (.aload_n 0, 1) ∧ decode cX11_layText 11 = .ok (.getfield 50, 3) ∧ decode cX11_layText 14 = .ok (.iload_n 2, 1) ∧ decode cX11_layText 15 = .ok (.aload_n 0, 1) ∧ decode cX11_layText 16 = .ok (.getfield 109, 3) ∧ decode cX11_layText 19 = .ok (.invokestatic 92, 3) ∧ decode cX11_layText 22 = .ok (.aload_n 0, 1) ∧ decode cX11_layText 23 = .ok (.getfield 109, 3) ∧ decode cX11_layText 26 = .ok (.istore_n 3, 1) ∧ decode cX11_layText 27 = .ok (.iconst 0, 1) ∧ decode cX11_layText 28 = .ok (.istore 4, 2) ∧ decode cX11_layText 30 = .ok (.iload 4, 2) ∧ decode cX11_layText 32 = .ok (.aload_n 0, 1) ∧ decode cX11_layText 33 = .ok (.iload_n 1, 1) ∧ decode cX11_layText 34 = .ok (.invokevirtual 100, 3) ∧ decode cX11_layText 37 = .ok (.if_icmp .ge 23, 3) ∧ decode cX11_layText 40 = .ok (.aload_n 0, 1) ∧ decode cX11_layText 41 = .ok (.iload_n 2, 1) ∧ decode cX11_layText 42 = .ok (.iload_n 3, 1) ∧ decode cX11_layText 43 = .ok (.aload_n 0, 1) ∧ decode cX11_layText 44 = .ok (.iload_n 1, 1) ∧ decode cX11_layText 45 = .ok (.iload 4, 2) ∧ decode cX11_layText 47 = .ok (.invokevirtual 103, 3) ∧ decode cX11_layText 50 = .ok (.invokevirtual 112, 3) ∧ decode cX11_layText 53 = .ok (.istore_n 3, 1) ∧ decode cX11_layText 54 = .ok (.iinc 4 1, 3) ∧ decode cX11_layText 57 = .ok (.goto (-27), 3) ∧ decode cX11_layText 60 = .ok (.iload_n 3, 1) ∧ decode cX11_layText 61 = .ok (.ireturn, 1) := ⟨by decide +kernel, by decide +kernel, by decide +kernel, by decide +kernel, by decide +kernel, by decide +kernel, by decide +kernel, by decide +kernel, by decide +kernel, by decide +kernel, by decide +kernel, by decide +kernel, by decide +kernel, by decide +kernel, by decide +kernel, by decide +kernel, by decide +kernel, by decide +kernel, by decide +kernel, by decide +kernel, by decide +kernel, by decide +kernel, by decide +kernel, by decide +kernel, by decide +kernel, by decide +kernel, by decide +kernel, by decide +kernel, by decide +kernel, by decide +kernel, by decide +kernel, by decide +kernel, by decide +kernel, by decide +kernel, by decide +kernel, by decide +kernel⟩
theorem dec_X11_letter : decode cX11_letter 0 = .ok (.iload_n 1, 1) ∧ decode cX11_letter 1 = .ok (.invokestatic 214, 3) ∧ decode cX11_letter 4 = .ok (.ifCond .ne 6, 3) ∧ decode cX11_letter 7 = .ok (.ldc 132, 2) ∧ decode cX11_letter 9 = .ok (.ireturn, 1) ∧ decode cX11_letter 10 = .ok (.iload_n 2, 1) ∧ decode cX11_letter 11 = .ok (.ifCond .ge 6, 3) ∧ decode cX11_letter 14 = .ok (.ldc 122, 2) ∧ decode cX11_letter 16 = .ok (.ireturn, 1) ∧ decode cX11_letter 17 = .ok (.aload_n 0, 1) ∧ decode cX11_letter 18 = .ok (.iload_n 1, 1) ∧ decode cX11_letter 19 = .ok (.iconst 2, 1) ∧ decode cX11_letter 20 = .ok (.invokevirtual 219, 3) ∧ decode cX11_letter 23 = .ok (.istore_n 3, 1) ∧ decode cX11_letter 24 = .ok (.iload_n 3, 1) ∧ decode cX11_letter 25 = .ok (.ifCond .eq 7, 3) ∧ decode cX11_letter 28 = .ok (.iload_n 3, 1) ∧ decode cX11_letter 29 = .ok (.goto 28, 3) ∧ decode cX11_letter 32 = .ok (.iload_n 2, 1) ∧ decode cX11_letter 33 = .ok (.aload_n 0, 1) ∧ decode cX11_letter 34 = .ok (.getfield 29, 3) ∧ decode cX11_letter 37 = .ok (.iload_n 1, 1) ∧ decode cX11_letter 38 = .ok (.iaload, 1) ∧ decode cX11_letter 39 = .ok (.if_icmp .ge 17, 3) ∧ decode cX11_letter 42 = .ok (.aload_n 0, 1) ∧ decode cX11_letter 43 = .ok (.getfield 32, 3) ∧ decode cX11_letter 46 = .ok (.bipush 32, 2) ∧ decode cX11_letter 48 = .ok (.iload_n 1, 1) ∧ decode cX11_letter 49 = .ok (.imul, 1) ∧ decode cX11_letter 50 = .ok (.iload_n 2, 1) ∧ decode cX11_letter 51 = .ok (.iadd, 1) ∧ decode cX11_letter 52 = .ok (.iaload, 1) ∧ decode cX11_letter 53 = .ok (.goto 4, 3) ∧ decode cX11_letter 56 = .ok (.iconst (-1), 1) ∧ decode cX11_letter 57 = .ok (.ireturn, 1) := ⟨by decide +kernel, by decide +kernel, by decide +kernel, by decide +kernel, by decide +kernel, by decide +kernel, by decide +kernel, by decide +kernel, by decide +kernel, by decide +kernel, by decide +kernel, by decide +kernel, by decide +kernel, by decide +kernel, by decide +kernel, by decide +kernel, by decide +kernel, by decide +kernel, by decide +kernel, by decide +kernel, by decide +kernel, by decide +kernel, by decide +kernel, by decide +kernel, by decide +kernel, by decide +kernel, by decide +kernel, by decide +kernel, by decide +kernel, by decide +kernel, by decide +kernel, by decide +kernel, by decide +kernel, by decide +kernel, by decide +kernel⟩
theorem dec_X11_letterOf : decode cX11_letterOf 0 = .ok (.iload_n 0, 1) ∧ decode cX11_letterOf 1 = .ok (.sipush 128, 3) ∧ decode cX11_letterOf 4 = .ok (.irem, 1) ∧ decode cX11_letterOf 5 = .ok (.ireturn, 1) := ⟨by decide +kernel, by decide +kernel, by decide +kernel, by decide +kernel⟩
theorem dec_X11_made : decode cX11_made 0 = .ok (.iload_n 0, 1) ∧ decode cX11_made 1 = .ok (.iconst 2, 1) ∧ decode cX11_made 2 = .ok (.imul, 1) ∧ decode cX11_made 3 = .ok (.iload_n 1, 1) ∧ decode cX11_made 4 = .ok (.iadd, 1) ∧ decode cX11_made 5 = .ok (.bipush 64, 2) ∧ decode cX11_made 7 = .ok (.imul, 1) ∧ decode cX11_made 8 = .ok (.iload_n 2, 1) ∧ decode cX11_made 9 = .ok (.iadd, 1) ∧ decode cX11_made 10 = .ok (.sipush 128, 3) ∧ decode cX11_made 13 = .ok (.imul, 1) ∧ decode cX11_made 14 = .ok (.iload_n 3, 1) ∧ decode cX11_made 15 = .ok (.iadd, 1) ∧ decode cX11_made 16 = .ok (.ireturn, 1) := ⟨by decide +kernel, by decide +kernel, by decide +kernel, by decide +kernel, by decide +kernel, by decide +kernel, by decide +kernel, by decide +kernel, by decide +kernel, by decide +kernel, by decide +kernel, by decide +kernel, by decide +kernel, by decide +kernel⟩
theorem dec_X11_many : decode cX11_many 0 = .ok (.aload_n 0, 1) ∧ decode cX11_many 1 = .ok (.getfield 13, 3) ∧ decode cX11_many 4 = .ok (.bipush 19, 2) ∧ decode cX11_many 6 = .ok (.iload_n 1, 1) ∧ decode cX11_many 7 = .ok (.imul, 1) ∧ decode cX11_many 8 = .ok (.iaload, 1) ∧ decode cX11_many 9 = .ok (.ireturn, 1) := ⟨by decide +kernel, by decide +kernel, by decide +kernel, by decide +kernel, by decide +kernel, by decide +kernel, by decide +kernel⟩
theorem dec_X11_moved : decode cX11_moved 0 = .ok (.iload_n 0, 1) ∧ decode cX11_moved 1 = .ok (.sipush 128, 3) ∧ decode cX11_moved 4 = .ok (.iload_n 1, 1) ∧ decode cX11_moved 5 = .ok (.iload_n 0, 1) ∧ decode cX11_moved 6 = .ok (.invokestatic 63, 3) ∧ decode cX11_moved 9 = .ok (.isub, 1) ∧ decode cX11_moved 10 = .ok (.imul, 1) ∧ decode cX11_moved 11 = .ok (.iadd, 1) ∧ decode cX11_moved 12 = .ok (.ireturn, 1) := ⟨by decide +kernel, by decide +kernel, by decide +kernel, by decide +kernel, by decide +kernel, by decide +kernel, by decide +kernel, by decide +kernel, by decide +kernel⟩
theorem dec_X11_needed : decode cX11_needed 0 = .ok (.aload_n 0, 1) ∧ decode cX11_needed 1 = .ok (.getfield 41, 3) ∧ decode cX11_needed 4 = .ok (.iconst 0, 1) ∧ decode cX11_needed 5 = .ok (.aload_n 1, 1) ∧ decode cX11_needed 6 = .ok (.iload_n 2, 1) ∧ decode cX11_needed 7 = .ok (.iaload, 1) ∧ decode cX11_needed 8 = .ok (.iastore, 1) ∧ decode cX11_needed 9 = .ok (.aload_n 0, 1) ∧ decode cX11_needed 10 = .ok (.iconst 1, 1) ∧ decode cX11_needed 11 = .ok (.putfield 88, 3) ∧ decode cX11_needed 14 = .ok (.iconst 0, 1) ∧ decode cX11_needed 15 = .ok (.istore 4, 2) ∧ decode cX11_needed 17 = .ok (.iload_n 2, 1) ∧ decode cX11_needed 18 = .ok (.iconst 1, 1) ∧ decode cX11_needed 19 = .ok (.isub, 1) ∧ decode cX11_needed 20 = .ok (.istore 5, 2) ∧ decode cX11_needed 22 = .ok (.iload 5, 2) ∧ decode cX11_needed 24 = .ok (.iload_n 3, 1) ∧ decode cX11_needed 25 = .ok (.if_icmp .lt 139, 3) ∧ decode cX11_needed 28 = .ok (.aload_n 0, 1) ∧ decode cX11_needed 29 = .ok (.getfield 44, 3) ∧ decode cX11_needed 32 = .ok (.iconst 0, 1) ∧ decode cX11_needed 33 = .ok (.aload_n 1, 1) ∧ decode cX11_needed 34 = .ok (.iload 5, 2) ∧ decode cX11_needed 36 = .ok (.iaload, 1) ∧ decode cX11_needed 37 = .ok (.iastore, 1) ∧ decode cX11_needed 38 = .ok (.aload_n 0, 1) ∧ decode cX11_needed 39 = .ok (.getfield 41, 3) ∧ decode cX11_needed 42 = .ok (.iconst 0, 1) ∧ decode cX11_needed 43 = .ok (.aload_n 0, 1) ∧ decode cX11_needed 44 = .ok (.getfield 44, 3) ∧ decode cX11_needed 47 = .ok (.iconst 1, 1) ∧ decode cX11_needed 48 = .ok (.aload_n 0, 1) ∧ decode cX11_needed 49 = .ok (.getfield 88, 3) ∧ decode cX11_needed 52 = .ok (.invokestatic 92, 3) ∧ decode cX11_needed 55 = .ok (.aload_n 0, 1) ∧ decode cX11_needed 56 = .ok (.getfield 44, 3) ∧ decode cX11_needed 59 = .ok (.iconst 0, 1) ∧ decode cX11_needed 60 = .ok (.aload_n 0, 1) ∧ decode cX11_needed 61 = .ok (.getfield 88, 3) ∧ decode cX11_needed 64 = .ok (.invokestatic 96, 3) ∧ decode cX11_needed 67 = .ok (.ifCond .eq 23, 3) ∧ decode cX11_needed 70 = .ok (.aload_n 0, 1) ∧ decode cX11_needed 71 = .ok (.getfield 44, 3) ∧ decode cX11_needed 74 = .ok (.iconst 0, 1) ∧ decode cX11_needed 75 = .ok (.aload_n 0, 1) ∧ decode cX11_needed 76 = .ok (.getfield 41, 3) ∧ decode cX11_needed 79 = .ok (.iconst 0, 1) ∧ decode cX11_needed 80 = .ok (.aload_n 0, 1) ∧ decode cX11_needed 81 = .ok (.getfield 88, 3) ∧ decode cX11_needed 84 = .ok (.invokestatic 92, 3) ∧ decode cX11_needed 87 = .ok (.goto 71, 3) ∧ decode cX11_needed 90 = .ok (.iload 4, 2) ∧ decode cX11_needed 92 = .ok (.iconst 1, 1) ∧ decode cX11_needed 93 = .ok (.aload_n 1, 1) ∧ decode cX11_needed 94 = .ok (.iload 5, 2) ∧ decode cX11_needed 96 = .ok (.iaload, 1) ∧ decode cX11_needed 97 = .ok (.invokestatic 85, 3) ∧ decode cX11_needed 100 = .ok (.ishl, 1) ∧ decode cX11_needed 101 = .ok (.ior, 1) ∧ decode cX11_needed 102 = .ok (.istore 4, 2) ∧ decode cX11_needed 104 = .ok (.aload_n 0, 1) ∧ decode cX11_needed 105 = .ok (.getfield 41, 3) ∧ decode cX11_needed 108 = .ok (.iconst 0, 1) ∧ decode cX11_needed 109 = .ok (.aload_n 0, 1) ∧ decode cX11_needed 110 = .ok (.getfield 44, 3) ∧ decode cX11_needed 113 = .ok (.iconst 1, 1) ∧ decode cX11_needed 114 = .ok (.aload_n 0, 1) ∧ decode cX11_needed 115 = .ok (.getfield 88, 3) ∧ decode cX11_needed 118 = .ok (.invokestatic 92, 3) ∧ decode cX11_needed 121 = .ok (.aload_n 0, 1) ∧ decode cX11_needed 122 = .ok (.getfield 44, 3) ∧ decode cX11_needed 125 = .ok (.iconst 0, 1) ∧ decode cX11_needed 126 = .ok (.aload_n 1, 1) ∧ decode cX11_needed 127 = .ok (.iload 5, 2) ∧ decode cX11_needed 129 = .ok (.iaload, 1) ∧ decode cX11_needed 130 = .ok (.iastore, 1) ∧ decode cX11_needed 131 = .ok (.aload_n 0, 1) ∧ decode cX11_needed 132 = .ok (.dup, 1) ∧ decode cX11_needed 133 = .ok (.getfield 88, 3) ∧ decode cX11_needed 136 = .ok (.iconst 1, 1) ∧ decode cX11_needed 137 = .ok (.iadd, 1) ∧ decode cX11_needed 138 = .ok (.putfield 88, 3) ∧ decode cX11_needed 141 = .ok (.aload_n 0, 1) ∧ decode cX11_needed 142 = .ok (.getfield 44, 3) ∧ decode cX11_needed 145 = .ok (.iconst 0, 1) ∧ decode cX11_needed 146 = .ok (.aload_n 0, 1) ∧ decode cX11_needed 147 = .ok (.getfield 41, 3) ∧ decode cX11_needed 150 = .ok (.iconst 0, 1) ∧ decode cX11_needed 151 = .ok (.aload_n 0, 1) ∧ decode cX11_needed 152 = .ok (.getfield 88, 3) ∧ decode cX11_needed 155 = .ok (.invokestatic 92, 3) ∧ decode cX11_needed 158 = .ok (.iinc 5 (-1), 3) ∧ decode cX11_needed 161 = .ok (.goto (-139), 3) ∧ decode cX11_needed 164 = .ok (.iload 4, 2) ∧ decode cX11_needed 166 = .ok (.ireturn, 1) := ⟨by decide +kernel, by decide +kernel, by decide +kernel, by decide +kernel, by decide +kernel, by decide +kernel, by decide +kernel, by decide +kernel, by decide +kernel, by decide +kernel, by decide +kernel, by decide +kernel, by decide +kernel, by decide +kernel, by decide +kernel, by decide +kernel, by decide +kernel, by decide +kernel, by decide +kernel, by decide +kernel, by decide +kernel, by decide +kernel, by decide +kernel, by decide +kernel, by decide +kernel, by decide +kernel, by decide +kernel, by decide +kernel, by decide +kernel, by decide +kernel, by decide +kernel, by decide +kernel, by decide +kernel, by decide +kernel, by decide +kernel, by decide +kernel, by decide +kernel, by decide +kernel, by decide +kernel, by decide +kernel, by decide +kernel, by decide +kernel, by decide +kernel, by decide +kernel, by decide +kernel, by decide +kernel, by decide +kernel, by decide +kernel, by decide +kernel, by decide +kernel, by decide +kernel, by decide +kernel, by decide +kernel, by decide +kernel, by decide +kernel, by decide +kernel, by decide +kernel, by decide +kernel, by decide +kernel, by decide +kernel, by decide +kernel, by decide +kernel, by decide +kernel, by decide +kernel, by decide +kernel, by decide +kernel, by decide +kernel, by decide +kernel, by decide +kernel, by decide +kernel, by decide +kernel, by decide +kernel, by decide +kernel, by decide +kernel, by decide +kernel, by decide +kernel, by decide +kernel, by decide +kernel, by decide +kernel, by decide +kernel, by decide +kernel, by decide +kernel, by decide +kernel, by decide +kernel, by decide +kernel, by decide +kernel, by decide +kernel, by decide +kernel, by decide +kernel, by decide +kernel, by decide +kernel, by decide +kernel, by decide +kernel, by decide +kernel, by decide +kernel, by decide +kernel⟩
theorem dec_X11_note : decode cX11_note 0 = .ok (.aload_n 0, 1) ∧ decode cX11_note 1 = .ok (.getfield 119, 3) ∧ decode cX11_note 4 = .ok (.bipush 8, 2) ∧ decode cX11_note 6 = .ok (.if_icmp .ne 30, 3) ∧ decode cX11_note 9 = .ok (.aload_n 0, 1) ∧ decode cX11_note 10 = .ok (.getfield 16, 3) ∧ decode cX11_note 13 = .ok (.bipush 38, 2) ∧ decode cX11_note 15 = .ok (.aload_n 0, 1) ∧ decode cX11_note 16 = .ok (.getfield 16, 3) ∧ decode cX11_note 19 = .ok (.iconst 0, 1) ∧ decode cX11_note 20 = .ok (.sipush 266, 3) ∧ decode cX11_note 23 = .ok (.invokestatic 92, 3) ∧ decode cX11_note 26 = .ok (.aload_n 0, 1) ∧ decode cX11_note 27 = .ok (.dup, 1) ∧ decode cX11_note 28 = .ok (.getfield 119, 3) ∧ decode cX11_note 31 = .ok (.iconst 1, 1) ∧ decode cX11_note 32 = .ok (.isub, 1) ∧ decode cX11_note 33 = .ok (.putfield 119, 3) ∧ decode cX11_note 36 = .ok (.aload_n 0, 1) ∧ decode cX11_note 37 = .ok (.getfield 13, 3) ∧ decode cX11_note 40 = .ok (.iconst 0, 1) ∧ decode cX11_note 41 = .ok (.aload_n 0, 1) ∧ decode cX11_note 42 = .ok (.getfield 16, 3) ∧ decode cX11_note 45 = .ok (.bipush 38, 2) ∧ decode cX11_note 47 = .ok (.aload_n 0, 1) ∧ decode cX11_note 48 = .ok (.getfield 119, 3) ∧ decode cX11_note 51 = .ok (.imul, 1) ∧ decode cX11_note 52 = .ok (.bipush 38, 2) ∧ decode cX11_note 54 = .ok (.invokestatic 92, 3) ∧ decode cX11_note 57 = .ok (.aload_n 0, 1) ∧ decode cX11_note 58 = .ok (.dup, 1) ∧ decode cX11_note 59 = .ok (.getfield 119, 3) ∧ decode cX11_note 62 = .ok (.iconst 1, 1) ∧ decode cX11_note 63 = .ok (.iadd, 1) ∧ decode cX11_note 64 = .ok (.putfield 119, 3) ∧ decode cX11_note 67 = .ok (.return_, 1) := ⟨by decide +kernel, by decide +kernel, by decide +kernel, by decide +kernel, by decide +kernel, by decide +kernel, by decide +kernel, by decide +kernel, by decide +kernel, by decide +kernel, by decide +kernel, by decide +kernel, by decide +kernel, by decide +kernel, by decide +kernel, by decide +kernel, by decide +kernel, by decide +kernel, by decide +kernel, by decide +kernel, by decide +kernel, by decide +kernel, by decide +kernel, by decide +kernel, by decide +kernel, by decide +kernel, by decide +kernel, by decide +kernel, by decide +kernel, by decide +kernel, by decide +kernel, by decide +kernel, by decide +kernel, by decide +kernel, by decide +kernel, by decide +kernel⟩
theorem dec_X11_number : decode cX11_number 0 = .ok (.iload_n 0, 1) ∧ decode cX11_number 1 = .ok (.sipush 16384, 3) ∧ decode cX11_number 4 = .ok (.idiv, 1) ∧ decode cX11_number 5 = .ok (.ireturn, 1) := ⟨by decide +kernel, by decide +kernel, by decide +kernel, by decide +kernel⟩
theorem dec_X11_oppose : decode cX11_oppose 0 = .ok (.iload_n 1, 1) ∧ decode cX11_oppose 1 = .ok (.invokestatic 214, 3) ∧ decode cX11_oppose 4 = .ok (.ifCond .eq 10, 3) ∧ decode cX11_oppose 7 = .ok (.iload_n 2, 1) ∧ decode cX11_oppose 8 = .ok (.invokestatic 128, 3) ∧ decode cX11_oppose 11 = .ok (.ifCond .ne 6, 3) ∧ decode cX11_oppose 14 = .ok (.ldc 132, 2) ∧ decode cX11_oppose 16 = .ok (.ireturn, 1) ∧ decode cX11_oppose 17 = .ok (.aload_n 0, 1) ∧ decode cX11_oppose 18 = .ok (.iload_n 1, 1) ∧ decode cX11_oppose 19 = .ok (.iconst 1, 1) ∧ decode cX11_oppose 20 = .ok (.invokevirtual 219, 3) ∧ decode cX11_oppose 23 = .ok (.istore_n 3, 1) ∧ decode cX11_oppose 24 = .ok (.iload_n 3, 1) ∧ decode cX11_oppose 25 = .ok (.ifCond .eq 5, 3) ∧ decode cX11_oppose 28 = .ok (.iload_n 3, 1) ∧ decode cX11_oppose 29 = .ok (.ireturn, 1) ∧ decode cX11_oppose 30 = .ok (.aload_n 0, 1) ∧ decode cX11_oppose 31 = .ok (.getfield 29, 3) ∧ decode cX11_oppose 34 = .ok (.iload_n 1, 1) ∧ decode cX11_oppose 35 = .ok (.iaload, 1) ∧ decode cX11_oppose 36 = .ok (.invokestatic 173, 3) ∧ decode cX11_oppose 39 = .ok (.istore 4, 2) ∧ decode cX11_oppose 41 = .ok (.aload_n 0, 1) ∧ decode cX11_oppose 42 = .ok (.iload_n 2, 1) ∧ decode cX11_oppose 43 = .ok (.invokevirtual 133, 3) ∧ decode cX11_oppose 46 = .ok (.istore 5, 2) ∧ decode cX11_oppose 48 = .ok (.iload 4, 2) ∧ decode cX11_oppose 50 = .ok (.invokestatic 67, 3) ∧ decode cX11_oppose 53 = .ok (.ifCond .ne 21, 3) ∧ decode cX11_oppose 56 = .ok (.iload 4, 2) ∧ decode cX11_oppose 58 = .ok (.invokestatic 63, 3) ∧ decode cX11_oppose 61 = .ok (.iload 5, 2) ∧ decode cX11_oppose 63 = .ok (.if_icmp .gt 7, 3) ∧ decode cX11_oppose 66 = .ok (.iconst 1, 1) ∧ decode cX11_oppose 67 = .ok (.goto 45, 3) ∧ decode cX11_oppose 70 = .ok (.iconst 0, 1) ∧ decode cX11_oppose 71 = .ok (.goto 41, 3) ∧ decode cX11_oppose 74 = .ok (.iload 4, 2) ∧ decode cX11_oppose 76 = .ok (.invokestatic 63, 3) ∧ decode cX11_oppose 79 = .ok (.iload 5, 2) ∧ decode cX11_oppose 81 = .ok (.if_icmp .ge 30, 3) ∧ decode cX11_oppose 84 = .ok (.aload_n 0, 1) ∧ decode cX11_oppose 85 = .ok (.getfield 50, 3) ∧ decode cX11_oppose 88 = .ok (.bipush 32, 2) ∧ decode cX11_oppose 90 = .ok (.iload_n 2, 1) ∧ decode cX11_oppose 91 = .ok (.imul, 1) ∧ decode cX11_oppose 92 = .ok (.iload 4, 2) ∧ decode cX11_oppose 94 = .ok (.invokestatic 63, 3) ∧ decode cX11_oppose 97 = .ok (.iadd, 1) ∧ decode cX11_oppose 98 = .ok (.iaload, 1) ∧ decode cX11_oppose 99 = .ok (.iload 4, 2) ∧ decode cX11_oppose 101 = .ok (.invokestatic 106, 3) ∧ decode cX11_oppose 104 = .ok (.if_icmp .ne 7, 3) ∧ decode cX11_oppose 107 = .ok (.iconst 1, 1) ∧ decode cX11_oppose 108 = .ok (.goto 4, 3) ∧ decode cX11_oppose 111 = .ok (.iconst 0, 1) ∧ decode cX11_oppose 112 = .ok (.istore 6, 2) ∧ decode cX11_oppose 114 = .ok (.iload 6, 2) ∧ decode cX11_oppose 116 = .ok (.ifCond .ne 6, 3) ∧ decode cX11_oppose 119 = .ok (.ldc 123, 2) ∧ decode cX11_oppose 121 = .ok (.ireturn, 1) ∧ decode cX11_oppose 122 = .ok (.aload_n 0, 1) ∧ decode cX11_oppose 123 = .ok (.iload_n 2, 1) ∧ decode cX11_oppose 124 = .ok (.iload 4, 2) ∧ decode cX11_oppose 126 = .ok (.invokestatic 67, 3) ∧ decode cX11_oppose 129 = .ok (.iload 5, 2) ∧ decode cX11_oppose 131 = .ok (.invokevirtual 136, 3) ∧ decode cX11_oppose 134 = .ok (.ifCond .eq 6, 3) ∧ decode cX11_oppose 137 = .ok (.ldc 124, 2) ∧ decode cX11_oppose 139 = .ok (.ireturn, 1) ∧ decode cX11_oppose 140 = .ok (.aload_n 0, 1) ∧ decode cX11_oppose 141 = .ok (.invokevirtual 139, 3) ∧ decode cX11_oppose 144 = .ok (.aload_n 0, 1) ∧ decode cX11_oppose 145 = .ok (.iload_n 2, 1) ∧ decode cX11_oppose 146 = .ok (.iload 4, 2) ∧ decode cX11_oppose 148 = .ok (.invokestatic 67, 3) ∧ decode cX11_oppose 151 = .ok (.iload 4, 2) ∧ decode cX11_oppose 153 = .ok (.invokestatic 63, 3) ∧ decode cX11_oppose 156 = .ok (.iload 4, 2) ∧ decode cX11_oppose 158 = .ok (.invokestatic 106, 3) ∧ decode cX11_oppose 161 = .ok (.invokevirtual 142, 3) ∧ decode cX11_oppose 164 = .ok (.ireturn, 1) := ⟨by decide +kernel, by decide +kernel, by decide +kernel, by decide +kernel, by decide +kernel, by decide +kernel, by decide +kernel, by decide +kernel, by decide +kernel, by decide +kernel, by decide +kernel, by decide +kernel, by decide +kernel, by decide +kernel, by decide +kernel, by decide +kernel, by decide +kernel, by decide +kernel, by decide +kernel, by decide +kernel, by decide +kernel, by decide +kernel, by decide +kernel, by decide +kernel, by decide +kernel, by decide +kernel, by decide +kernel, by decide +kernel, by decide +kernel, by decide +kernel, by decide +kernel, by decide +kernel, by decide +kernel, by decide +kernel, by decide +kernel, by decide +kernel, by decide +kernel, by decide +kernel, by decide +kernel, by decide +kernel, by decide +kernel, by decide +kernel, by decide +kernel, by decide +kernel, by decide +kernel, by decide +kernel, by decide +kernel, by decide +kernel, by decide +kernel, by decide +kernel, by decide +kernel, by decide +kernel, by decide +kernel, by decide +kernel, by decide +kernel, by decide +kernel, by decide +kernel, by decide +kernel, by decide +kernel, by decide +kernel, by decide +kernel, by decide +kernel, by decide +kernel, by decide +kernel, by decide +kernel, by decide +kernel, by decide +kernel, by decide +kernel, by decide +kernel, by decide +kernel, by decide +kernel, by decide +kernel, by decide +kernel, by decide +kernel, by decide +kernel, by decide +kernel, by decide +kernel, by decide +kernel, by decide +kernel, by decide +kernel, by decide +kernel, by decide +kernel, by decide +kernel⟩
theorem dec_X11_opposite : decode cX11_opposite 0 = .ok (.iload_n 0, 1) ∧ decode cX11_opposite 1 = .ok (.iload_n 0, 1) ∧ decode cX11_opposite 2 = .ok (.invokestatic 67, 3) ∧ decode cX11_opposite 5 = .ok (.ifCond .ne 9, 3) ∧ decode cX11_opposite 8 = .ok (.sipush 8192, 3) ∧ decode cX11_opposite 11 = .ok (.goto 6, 3) ∧ decode cX11_opposite 14 = .ok (.sipush (-8192), 3) ∧ decode cX11_opposite 17 = .ok (.iadd, 1) ∧ decode cX11_opposite 18 = .ok (.ireturn, 1) := ⟨by decide +kernel, by decide +kernel, by decide +kernel, by decide +kernel, by decide +kernel, by decide +kernel, by decide +kernel, by decide +kernel, by decide +kernel⟩
theorem dec_X11_past : decode cX11_past 0 = .ok (.aload_n 0, 1) ∧ decode cX11_past 1 = .ok (.getfield 38, 3) ∧ decode cX11_past 4 = .ok (.iload_n 2, 1) ∧ decode cX11_past 5 = .ok (.aload_n 0, 1) ∧ decode cX11_past 6 = .ok (.getfield 44, 3) ∧ decode cX11_past 9 = .ok (.iconst 0, 1) ∧ decode cX11_past 10 = .ok (.aload_n 0, 1) ∧ decode cX11_past 11 = .ok (.getfield 145, 3) ∧ decode cX11_past 14 = .ok (.iload_n 2, 1) ∧ decode cX11_past 15 = .ok (.isub, 1) ∧ decode cX11_past 16 = .ok (.invokestatic 92, 3) ∧ decode cX11_past 19 = .ok (.iconst 0, 1) ∧ decode cX11_past 20 = .ok (.istore_n 3, 1) ∧ decode cX11_past 21 = .ok (.iload_n 3, 1) ∧ decode cX11_past 22 = .ok (.iload_n 1, 1) ∧ decode cX11_past 23 = .ok (.if_icmp .ge 111, 3) ∧ decode cX11_past 26 = .ok (.iconst 0, 1) ∧ decode cX11_past 27 = .ok (.istore 4, 2) ∧ decode cX11_past 29 = .ok (.iload 4, 2) ∧ decode cX11_past 31 = .ok (.aload_n 0, 1) ∧ decode cX11_past 32 = .ok (.getfield 145, 3) ∧ decode cX11_past 35 = .ok (.iload_n 2, 1) ∧ decode cX11_past 36 = .ok (.isub, 1) ∧ decode cX11_past 37 = .ok (.if_icmp .ge 91, 3) ∧ decode cX11_past 40 = .ok (.aload_n 0, 1) ∧ decode cX11_past 41 = .ok (.getfield 44, 3) ∧ decode cX11_past 44 = .ok (.iload 4, 2) ∧ decode cX11_past 46 = .ok (.iaload, 1) ∧ decode cX11_past 47 = .ok (.invokestatic 173, 3) ∧ decode cX11_past 50 = .ok (.istore 5, 2) ∧ decode cX11_past 52 = .ok (.iload 5, 2) ∧ decode cX11_past 54 = .ok (.aload_n 0, 1) ∧ decode cX11_past 55 = .ok (.getfield 47, 3) ∧ decode cX11_past 58 = .ok (.iload_n 3, 1) ∧ decode cX11_past 59 = .ok (.iaload, 1) ∧ decode cX11_past 60 = .ok (.invokestatic 74, 3) ∧ decode cX11_past 63 = .ok (.istore 6, 2) ∧ decode cX11_past 65 = .ok (.iload 6, 2) ∧ decode cX11_past 67 = .ok (.iconst (-1), 1) ∧ decode cX11_past 68 = .ok (.if_icmp .ne 14, 3) ∧ decode cX11_past 71 = .ok (.aload_n 0, 1) ∧ decode cX11_past 72 = .ok (.getfield 44, 3) ∧ decode cX11_past 75 = .ok (.iload 4, 2) ∧ decode cX11_past 77 = .ok (.iaload, 1) ∧ decode cX11_past 78 = .ok (.invokestatic 85, 3) ∧ decode cX11_past 81 = .ok (.ireturn, 1) ∧ decode cX11_past 82 = .ok (.aload_n 0, 1) ∧ decode cX11_past 83 = .ok (.getfield 47, 3) ∧ decode cX11_past 86 = .ok (.iload_n 3, 1) ∧ decode cX11_past 87 = .ok (.aload_n 0, 1) ∧ decode cX11_past 88 = .ok (.getfield 47, 3) ∧ decode cX11_past 91 = .ok (.iload_n 3, 1) ∧ decode cX11_past 92 = .ok (.iaload, 1) ∧ decode cX11_past 93 = .ok (.iload 6, 2) ∧ decode cX11_past 95 = .ok (.bipush 100, 2) ∧ decode cX11_past 97 = .ok (.idiv, 1) ∧ decode cX11_past 98 = .ok (.invokestatic 78, 3) ∧ decode cX11_past 101 = .ok (.iastore, 1) ∧ decode cX11_past 102 = .ok (.aload_n 0, 1) ∧ decode cX11_past 103 = .ok (.getfield 44, 3) ∧ decode cX11_past 106 = .ok (.iload 4, 2) ∧ decode cX11_past 108 = .ok (.iload 5, 2) ∧ decode cX11_past 110 = .ok (.iload 6, 2) ∧ decode cX11_past 112 = .ok (.bipush 100, 2) ∧ decode cX11_past 114 = .ok (.irem, 1) ∧ decode cX11_past 115 = .ok (.invokestatic 78, 3) ∧ decode cX11_past 118 = .ok (.invokestatic 173, 3) ∧ decode cX11_past 121 = .ok (.iastore, 1) ∧ decode cX11_past 122 = .ok (.iinc 4 1, 3) ∧ decode cX11_past 125 = .ok (.goto (-96), 3) ∧ decode cX11_past 128 = .ok (.iinc 3 1, 3) ∧ decode cX11_past 131 = .ok (.goto (-110), 3) ∧ decode cX11_past 134 = .ok (.iconst (-1), 1) ∧ decode cX11_past 135 = .ok (.ireturn, 1) := ⟨by decide +kernel, by decide +kernel, by decide +kernel, by decide +kernel, by decide +kernel, by decide +kernel, by decide +kernel, by decide +kernel, by decide +kernel, by decide +kernel, by decide +kernel, by decide +kernel, by decide +kernel, by decide +kernel, by decide +kernel, by decide +kernel, by decide +kernel, by decide +kernel, by decide +kernel, by decide +kernel, by decide +kernel, by decide +kernel, by decide +kernel, by decide +kernel, by decide +kernel, by decide +kernel, by decide +kernel, by decide +kernel, by decide +kernel, by decide +kernel, by decide +kernel, by decide +kernel, by decide +kernel, by decide +kernel, by decide +kernel, by decide +kernel, by decide +kernel, by decide +kernel, by decide +kernel, by decide +kernel, by decide +kernel, by decide +kernel, by decide +kernel, by decide +kernel, by decide +kernel, by decide +kernel, by decide +kernel, by decide +kernel, by decide +kernel, by decide +kernel, by decide +kernel, by decide +kernel, by decide +kernel, by decide +kernel, by decide +kernel, by decide +kernel, by decide +kernel, by decide +kernel, by decide +kernel, by decide +kernel, by decide +kernel, by decide +kernel, by decide +kernel, by decide +kernel, by decide +kernel, by decide +kernel, by decide +kernel, by decide +kernel, by decide +kernel, by decide +kernel, by decide +kernel, by decide +kernel, by decide +kernel, by decide +kernel⟩
theorem dec_X11_place : decode cX11_place 0 = .ok (.iload_n 0, 1) ∧ decode cX11_place 1 = .ok (.sipush 128, 3) ∧ decode cX11_place 4 = .ok (.idiv, 1) ∧ decode cX11_place 5 = .ok (.bipush 64, 2) ∧ decode cX11_place 7 = .ok (.irem, 1) ∧ decode cX11_place 8 = .ok (.ireturn, 1) := ⟨by decide +kernel, by decide +kernel, by decide +kernel, by decide +kernel, by decide +kernel, by decide +kernel⟩
theorem dec_X11_placeIn : decode cX11_placeIn 0 = .ok (.iconst (-1), 1) ∧ decode cX11_placeIn 1 = .ok (.istore_n 3, 1) ∧ decode cX11_placeIn 2 = .ok (.iconst 0, 1) ∧ decode cX11_placeIn 3 = .ok (.istore 4, 2) ∧ decode cX11_placeIn 5 = .ok (.iload 4, 2) ∧ decode cX11_placeIn 7 = .ok (.iload_n 1, 1) ∧ decode cX11_placeIn 8 = .ok (.if_icmp .ge 27, 3) ∧ decode cX11_placeIn 11 = .ok (.aload_n 0, 1) ∧ decode cX11_placeIn 12 = .ok (.iload 4, 2) ∧ decode cX11_placeIn 14 = .ok (.iaload, 1) ∧ decode cX11_placeIn 15 = .ok (.invokestatic 85, 3) ∧ decode cX11_placeIn 18 = .ok (.iload_n 2, 1) ∧ decode cX11_placeIn 19 = .ok (.if_icmp .ne 8, 3) ∧ decode cX11_placeIn 22 = .ok (.iload 4, 2) ∧ decode cX11_placeIn 24 = .ok (.goto 4, 3) ∧ decode cX11_placeIn 27 = .ok (.iload_n 3, 1) ∧ decode cX11_placeIn 28 = .ok (.istore_n 3, 1) ∧ decode cX11_placeIn 29 = .ok (.iinc 4 1, 3) ∧ decode cX11_placeIn 32 = .ok (.goto (-27), 3) ∧ decode cX11_placeIn 35 = .ok (.iload_n 3, 1) ∧ decode cX11_placeIn 36 = .ok (.ireturn, 1) := ⟨by decide +kernel, by decide +kernel, by decide +kernel, by decide +kernel, by decide +kernel, by decide +kernel, by decide +kernel, by decide +kernel, by decide +kernel, by decide +kernel, by decide +kernel, by decide +kernel, by decide +kernel, by decide +kernel, by decide +kernel, by decide +kernel, by decide +kernel, by decide +kernel, by decide +kernel, by decide +kernel, by decide +kernel⟩
theorem dec_X11_placeOf : decode cX11_placeOf 0 = .ok (.iconst (-1), 1) ∧ decode cX11_placeOf 1 = .ok (.istore_n 3, 1) ∧ decode cX11_placeOf 2 = .ok (.iconst 0, 1) ∧ decode cX11_placeOf 3 = .ok (.istore 4, 2) ∧ decode cX11_placeOf 5 = .ok (.iload 4, 2) ∧ decode cX11_placeOf 7 = .ok (.aload_n 0, 1) ∧ decode cX11_placeOf 8 = .ok (.iload_n 1, 1) ∧ decode cX11_placeOf 9 = .ok (.invokevirtual 100, 3) ∧ decode cX11_placeOf 12 = .ok (.if_icmp .ge 30, 3) ∧ decode cX11_placeOf 15 = .ok (.aload_n 0, 1) ∧ decode cX11_placeOf 16 = .ok (.iload_n 1, 1) ∧ decode cX11_placeOf 17 = .ok (.iload 4, 2) ∧ decode cX11_placeOf 19 = .ok (.invokevirtual 103, 3) ∧ decode cX11_placeOf 22 = .ok (.invokestatic 85, 3) ∧ decode cX11_placeOf 25 = .ok (.iload_n 2, 1) ∧ decode cX11_placeOf 26 = .ok (.if_icmp .ne 8, 3) ∧ decode cX11_placeOf 29 = .ok (.iload 4, 2) ∧ decode cX11_placeOf 31 = .ok (.goto 4, 3) ∧ decode cX11_placeOf 34 = .ok (.iload_n 3, 1) ∧ decode cX11_placeOf 35 = .ok (.istore_n 3, 1) ∧ decode cX11_placeOf 36 = .ok (.iinc 4 1, 3) ∧ decode cX11_placeOf 39 = .ok (.goto (-34), 3) ∧ decode cX11_placeOf 42 = .ok (.iload_n 3, 1) ∧ decode cX11_placeOf 43 = .ok (.ireturn, 1) := ⟨by decide +kernel, by decide +kernel, by decide +kernel, by decide +kernel, by decide +kernel, by decide +kernel, by decide +kernel, by decide +kernel, by decide +kernel, by decide +kernel, by decide +kernel, by decide +kernel, by decide +kernel, by decide +kernel, by decide +kernel, by decide +kernel, by decide +kernel, by decide +kernel, by decide +kernel, by decide +kernel, by decide +kernel, by decide +kernel, by decide +kernel, by decide +kernel⟩
theorem dec_X11_pull : decode cX11_pull 0 = .ok (.iload_n 1, 1) ∧ decode cX11_pull 1 = .ok (.invokestatic 128, 3) ∧ decode cX11_pull 4 = .ok (.ifCond .eq 15, 3) ∧ decode cX11_pull 7 = .ok (.aload_n 0, 1) ∧ decode cX11_pull 8 = .ok (.iconst 1, 1) ∧ decode cX11_pull 9 = .ok (.iload_n 1, 1) ∧ decode cX11_pull 10 = .ok (.isub, 1) ∧ decode cX11_pull 11 = .ok (.iload_n 2, 1) ∧ decode cX11_pull 12 = .ok (.invokevirtual 148, 3) ∧ decode cX11_pull 15 = .ok (.iconst (-1), 1) ∧ decode cX11_pull 16 = .ok (.if_icmp .ne 6, 3) ∧ decode cX11_pull 19 = .ok (.ldc 132, 2) ∧ decode cX11_pull 21 = .ok (.ireturn, 1) ∧ decode cX11_pull 22 = .ok (.aload_n 0, 1) ∧ decode cX11_pull 23 = .ok (.iload_n 1, 1) ∧ decode cX11_pull 24 = .ok (.iload_n 2, 1) ∧ decode cX11_pull 25 = .ok (.invokevirtual 148, 3) ∧ decode cX11_pull 28 = .ok (.iconst (-1), 1) ∧ decode cX11_pull 29 = .ok (.if_icmp .eq 6, 3) ∧ decode cX11_pull 32 = .ok (.ldc 123, 2) ∧ decode cX11_pull 34 = .ok (.ireturn, 1) ∧ decode cX11_pull 35 = .ok (.aload_n 0, 1) ∧ decode cX11_pull 36 = .ok (.iload_n 1, 1) ∧ decode cX11_pull 37 = .ok (.invokevirtual 154, 3) ∧ decode cX11_pull 40 = .ok (.aload_n 0, 1) ∧ decode cX11_pull 41 = .ok (.iconst 1, 1) ∧ decode cX11_pull 42 = .ok (.iload_n 1, 1) ∧ decode cX11_pull 43 = .ok (.isub, 1) ∧ decode cX11_pull 44 = .ok (.invokevirtual 154, 3) ∧ decode cX11_pull 47 = .ok (.iand, 1) ∧ decode cX11_pull 48 = .ok (.istore_n 3, 1) ∧ decode cX11_pull 49 = .ok (.aload_n 0, 1) ∧ decode cX11_pull 50 = .ok (.aload_n 0, 1) ∧ decode cX11_pull 51 = .ok (.iconst 1, 1) ∧ decode cX11_pull 52 = .ok (.iload_n 1, 1) ∧ decode cX11_pull 53 = .ok (.isub, 1) ∧ decode cX11_pull 54 = .ok (.invokevirtual 100, 3) ∧ decode cX11_pull 57 = .ok (.putfield 157, 3) ∧ decode cX11_pull 60 = .ok (.aload_n 0, 1) ∧ decode cX11_pull 61 = .ok (.getfield 13, 3) ∧ decode cX11_pull 64 = .ok (.bipush 19, 2) ∧ decode cX11_pull 66 = .ok (.iconst 1, 1) ∧ decode cX11_pull 67 = .ok (.iload_n 1, 1) ∧ decode cX11_pull 68 = .ok (.isub, 1) ∧ decode cX11_pull 69 = .ok (.imul, 1) ∧ decode cX11_pull 70 = .ok (.iconst 3, 1) ∧ decode cX11_pull 71 = .ok (.iadd, 1) ∧ decode cX11_pull 72 = .ok (.aload_n 0, 1) ∧ decode cX11_pull 73 = .ok (.getfield 35, 3) ∧ decode cX11_pull 76 = .ok (.iconst 0, 1) ∧ decode cX11_pull 77 = .ok (.aload_n 0, 1) ∧ decode cX11_pull 78 = .ok (.getfield 157, 3) ∧ decode cX11_pull 81 = .ok (.invokestatic 92, 3) ∧ decode cX11_pull 84 = .ok (.aload_n 0, 1) ∧ decode cX11_pull 85 = .ok (.iload_n 1, 1) ∧ decode cX11_pull 86 = .ok (.invokevirtual 151, 3) ∧ decode cX11_pull 89 = .ok (.pop, 1) ∧ decode cX11_pull 90 = .ok (.aload_n 0, 1) ∧ decode cX11_pull 91 = .ok (.aload_n 0, 1) ∧ decode cX11_pull 92 = .ok (.getfield 35, 3) ∧ decode cX11_pull 95 = .ok (.aload_n 0, 1) ∧ decode cX11_pull 96 = .ok (.getfield 157, 3) ∧ decode cX11_pull 99 = .ok (.iload_n 3, 1) ∧ decode cX11_pull 100 = .ok (.invokevirtual 160, 3) ∧ decode cX11_pull 103 = .ok (.istore 4, 2) ∧ decode cX11_pull 105 = .ok (.aload_n 0, 1) ∧ decode cX11_pull 106 = .ok (.aload_n 0, 1) ∧ decode cX11_pull 107 = .ok (.getfield 38, 3) ∧ decode cX11_pull 110 = .ok (.aload_n 0, 1) ∧ decode cX11_pull 111 = .ok (.getfield 145, 3) ∧ decode cX11_pull 114 = .ok (.iload_n 3, 1) ∧ decode cX11_pull 115 = .ok (.invokevirtual 160, 3) ∧ decode cX11_pull 118 = .ok (.istore 5, 2) ∧ decode cX11_pull 120 = .ok (.iload 4, 2) ∧ decode cX11_pull 122 = .ok (.iconst (-1), 1) ∧ decode cX11_pull 123 = .ok (.if_icmp .eq 9, 3) ∧ decode cX11_pull 126 = .ok (.iload 5, 2) ∧ decode cX11_pull 128 = .ok (.iconst (-1), 1) ∧ decode cX11_pull 129 = .ok (.if_icmp .ne 6, 3) ∧ decode cX11_pull 132 = .ok (.ldc 123, 2) ∧ decode cX11_pull 134 = .ok (.ireturn, 1) ∧ decode cX11_pull 135 = .ok (.aload_n 0, 1) ∧ decode cX11_pull 136 = .ok (.aload_n 0, 1) ∧ decode cX11_pull 137 = .ok (.getfield 35, 3) ∧ decode cX11_pull 140 = .ok (.aload_n 0, 1) ∧ decode cX11_pull 141 = .ok (.getfield 35, 3) ∧ decode cX11_pull 144 = .ok (.aload_n 0, 1) ∧ decode cX11_pull 145 = .ok (.getfield 157, 3) ∧ decode cX11_pull 148 = .ok (.iload_n 2, 1) ∧ decode cX11_pull 149 = .ok (.invokestatic 164, 3) ∧ decode cX11_pull 152 = .ok (.iload 4, 2) ∧ decode cX11_pull 154 = .ok (.invokevirtual 167, 3) ∧ decode cX11_pull 157 = .ok (.pop, 1) ∧ decode cX11_pull 158 = .ok (.aload_n 0, 1) ∧ decode cX11_pull 159 = .ok (.getfield 41, 3) ∧ decode cX11_pull 162 = .ok (.iconst 0, 1) ∧ decode cX11_pull 163 = .ok (.aload_n 0, 1) ∧ decode cX11_pull 164 = .ok (.getfield 47, 3) ∧ decode cX11_pull 167 = .ok (.iconst 0, 1) ∧ decode cX11_pull 168 = .ok (.aload_n 0, 1) ∧ decode cX11_pull 169 = .ok (.getfield 88, 3) ∧ decode cX11_pull 172 = .ok (.invokestatic 92, 3) ∧ decode cX11_pull 175 = .ok (.aload_n 0, 1) ∧ decode cX11_pull 176 = .ok (.iload_n 1, 1) ∧ decode cX11_pull 177 = .ok (.iload_n 2, 1) ∧ decode cX11_pull 178 = .ok (.aload_n 0, 1) ∧ decode cX11_pull 179 = .ok (.getfield 88, 3) ∧ decode cX11_pull 182 = .ok (.iload 5, 2) ∧ decode cX11_pull 184 = .ok (.invokevirtual 170, 3) ∧ decode cX11_pull 187 = .ok (.ireturn, 1) := ⟨by decide +kernel, by decide +kernel, by decide +kernel, by decide +kernel, by decide +kernel, by decide +kernel, by decide +kernel, by decide +kernel, by decide +kernel, by decide +kernel, by decide +kernel, by decide +kernel, by decide +kernel, by decide +kernel, by decide +kernel, by decide +kernel, by decide +kernel, by decide +kernel, by decide +kernel, by decide +kernel, by decide +kernel, by decide +kernel, by decide +kernel, by decide +kernel, by decide +kernel, by decide +kernel, by decide +kernel, by decide +kernel, by decide +kernel, by decide +kernel, by decide +kernel, by decide +kernel, by decide +kernel, by decide +kernel, by decide +kernel, by decide +kernel, by decide +kernel, by decide +kernel, by decide +kernel, by decide +kernel, by decide +kernel, by decide +kernel, by decide +kernel, by decide +kernel, by decide +kernel, by decide +kernel, by decide +kernel, by decide +kernel, by decide +kernel, by decide +kernel, by decide +kernel, by decide +kernel, by decide +kernel, by decide +kernel, by decide +kernel, by decide +kernel, by decide +kernel, by decide +kernel, by decide +kernel, by decide +kernel, by decide +kernel, by decide +kernel, by decide +kernel, by decide +kernel, by decide +kernel, by decide +kernel, by decide +kernel, by decide +kernel, by decide +kernel, by decide +kernel, by decide +kernel, by decide +kernel, by decide +kernel, by decide +kernel, by decide +kernel, by decide +kernel, by decide +kernel, by decide +kernel, by decide +kernel, by decide +kernel, by decide +kernel, by decide +kernel, by decide +kernel, by decide +kernel, by decide +kernel, by decide +kernel, by decide +kernel, by decide +kernel, by decide +kernel, by decide +kernel, by decide +kernel, by decide +kernel, by decide +kernel, by decide +kernel, by decide +kernel, by decide +kernel, by decide +kernel, by decide +kernel, by decide +kernel, by decide +kernel, by decide +kernel, by decide +kernel, by decide +kernel, by decide +kernel, by decide +kernel, by decide +kernel, by decide +kernel, by decide +kernel, by decide +kernel, by decide +kernel⟩
theorem dec_X11_record : decode cX11_record 0 = .ok (.iload_n 1, 1) ∧ decode cX11_record 1 = .ok (.invokestatic 128, 3) ∧ decode cX11_record 4 = .ok (.ifCond .ne 6, 3) ∧ decode cX11_record 7 = .ok (.ldc 132, 2) ∧ decode cX11_record 9 = .ok (.ireturn, 1) ∧ decode cX11_record 10 = .ok (.aload_n 0, 1) ∧ decode cX11_record 11 = .ok (.iload_n 1, 1) ∧ decode cX11_record 12 = .ok (.invokevirtual 133, 3) ∧ decode cX11_record 15 = .ok (.istore 5, 2) ∧ decode cX11_record 17 = .ok (.iload_n 2, 1) ∧ decode cX11_record 18 = .ok (.ifCond .ne 33, 3) ∧ decode cX11_record 21 = .ok (.iload 4, 2) ∧ decode cX11_record 23 = .ok (.bipush 97, 2) ∧ decode cX11_record 25 = .ok (.bipush 122, 2) ∧ decode cX11_record 27 = .ok (.invokestatic 59, 3) ∧ decode cX11_record 30 = .ok (.ifCond .eq 17, 3) ∧ decode cX11_record 33 = .ok (.iload_n 3, 1) ∧ decode cX11_record 34 = .ok (.iconst 0, 1) ∧ decode cX11_record 35 = .ok (.iload 5, 2) ∧ decode cX11_record 37 = .ok (.invokestatic 59, 3) ∧ decode cX11_record 40 = .ok (.ifCond .eq 7, 3) ∧ decode cX11_record 43 = .ok (.iconst 1, 1) ∧ decode cX11_record 44 = .ok (.goto 29, 3) ∧ decode cX11_record 47 = .ok (.iconst 0, 1) ∧ decode cX11_record 48 = .ok (.goto 25, 3) ∧ decode cX11_record 51 = .ok (.iload_n 2, 1) ∧ decode cX11_record 52 = .ok (.iconst 1, 1) ∧ decode cX11_record 53 = .ok (.if_icmp .ne 19, 3) ∧ decode cX11_record 56 = .ok (.iload_n 3, 1) ∧ decode cX11_record 57 = .ok (.iconst 0, 1) ∧ decode cX11_record 58 = .ok (.iload 5, 2) ∧ decode cX11_record 60 = .ok (.iconst 1, 1) ∧ decode cX11_record 61 = .ok (.isub, 1) ∧ decode cX11_record 62 = .ok (.invokestatic 59, 3) ∧ decode cX11_record 65 = .ok (.ifCond .eq 7, 3) ∧ decode cX11_record 68 = .ok (.iconst 1, 1) ∧ decode cX11_record 69 = .ok (.goto 4, 3) ∧ decode cX11_record 72 = .ok (.iconst 0, 1) ∧ decode cX11_record 73 = .ok (.istore 6, 2) ∧ decode cX11_record 75 = .ok (.iload 6, 2) ∧ decode cX11_record 77 = .ok (.ifCond .ne 6, 3) ∧ decode cX11_record 80 = .ok (.ldc 122, 2) ∧ decode cX11_record 82 = .ok (.ireturn, 1) ∧ decode cX11_record 83 = .ok (.aload_n 0, 1) ∧ decode cX11_record 84 = .ok (.iload_n 1, 1) ∧ decode cX11_record 85 = .ok (.iload_n 2, 1) ∧ decode cX11_record 86 = .ok (.iload 5, 2) ∧ decode cX11_record 88 = .ok (.invokevirtual 136, 3) ∧ decode cX11_record 91 = .ok (.ifCond .eq 6, 3) ∧ decode cX11_record 94 = .ok (.ldc 124, 2) ∧ decode cX11_record 96 = .ok (.ireturn, 1) ∧ decode cX11_record 97 = .ok (.aload_n 0, 1) ∧ decode cX11_record 98 = .ok (.invokevirtual 139, 3) ∧ decode cX11_record 101 = .ok (.aload_n 0, 1) ∧ decode cX11_record 102 = .ok (.iload_n 1, 1) ∧ decode cX11_record 103 = .ok (.iload_n 2, 1) ∧ decode cX11_record 104 = .ok (.iload_n 3, 1) ∧ decode cX11_record 105 = .ok (.iload_n 2, 1) ∧ decode cX11_record 106 = .ok (.ifCond .ne 8, 3) ∧ decode cX11_record 109 = .ok (.iload 4, 2) ∧ decode cX11_record 111 = .ok (.goto 14, 3) ∧ decode cX11_record 114 = .ok (.aload_n 0, 1) ∧ decode cX11_record 115 = .ok (.getfield 50, 3) ∧ decode cX11_record 118 = .ok (.bipush 32, 2) ∧ decode cX11_record 120 = .ok (.iload_n 1, 1) ∧ decode cX11_record 121 = .ok (.imul, 1) ∧ decode cX11_record 122 = .ok (.iload_n 3, 1) ∧ decode cX11_record 123 = .ok (.iadd, 1) ∧ decode cX11_record 124 = .ok (.iaload, 1) ∧ decode cX11_record 125 = .ok (.invokevirtual 142, 3) ∧ decode cX11_record 128 = .ok (.ireturn, 1) := ⟨by decide +kernel, by decide +kernel, by decide +kernel, by decide +kernel, by decide +kernel, by decide +kernel, by decide +kernel, by decide +kernel, by decide +kernel, by decide +kernel, by decide +kernel, by decide +kernel, by decide +kernel, by decide +kernel, by decide +kernel, by decide +kernel, by decide +kernel, by decide +kernel, by decide +kernel, by decide +kernel, by decide +kernel, by decide +kernel, by decide +kernel, by decide +kernel, by decide +kernel, by decide +kernel, by decide +kernel, by decide +kernel, by decide +kernel, by decide +kernel, by decide +kernel, by decide +kernel, by decide +kernel, by decide +kernel, by decide +kernel, by decide +kernel, by decide +kernel, by decide +kernel, by decide +kernel, by decide +kernel, by decide +kernel, by decide +kernel, by decide +kernel, by decide +kernel, by decide +kernel, by decide +kernel, by decide +kernel, by decide +kernel, by decide +kernel, by decide +kernel, by decide +kernel, by decide +kernel, by decide +kernel, by decide +kernel, by decide +kernel, by decide +kernel, by decide +kernel, by decide +kernel, by decide +kernel, by decide +kernel, by decide +kernel, by decide +kernel, by decide +kernel, by decide +kernel, by decide +kernel, by decide +kernel, by decide +kernel, by decide +kernel, by decide +kernel, by decide +kernel, by decide +kernel⟩
theorem dec_X11_recorded : decode cX11_recorded 0 = .ok (.aload_n 0, 1) ∧ decode cX11_recorded 1 = .ok (.getfield 13, 3) ∧ decode cX11_recorded 4 = .ok (.bipush 19, 2) ∧ decode cX11_recorded 6 = .ok (.iload_n 1, 1) ∧ decode cX11_recorded 7 = .ok (.imul, 1) ∧ decode cX11_recorded 8 = .ok (.iconst 3, 1) ∧ decode cX11_recorded 9 = .ok (.iadd, 1) ∧ decode cX11_recorded 10 = .ok (.aload_n 0, 1) ∧ decode cX11_recorded 11 = .ok (.iload_n 1, 1) ∧ decode cX11_recorded 12 = .ok (.invokevirtual 100, 3) ∧ decode cX11_recorded 15 = .ok (.iadd, 1) ∧ decode cX11_recorded 16 = .ok (.aload_n 0, 1) ∧ decode cX11_recorded 17 = .ok (.getfield 116, 3) ∧ decode cX11_recorded 20 = .ok (.iload_n 2, 1) ∧ decode cX11_recorded 21 = .ok (.iload_n 3, 1) ∧ decode cX11_recorded 22 = .ok (.iload 4, 2) ∧ decode cX11_recorded 24 = .ok (.invokestatic 125, 3) ∧ decode cX11_recorded 27 = .ok (.iastore, 1) ∧ decode cX11_recorded 28 = .ok (.aload_n 0, 1) ∧ decode cX11_recorded 29 = .ok (.getfield 13, 3) ∧ decode cX11_recorded 32 = .ok (.bipush 19, 2) ∧ decode cX11_recorded 34 = .ok (.iload_n 1, 1) ∧ decode cX11_recorded 35 = .ok (.imul, 1) ∧ decode cX11_recorded 36 = .ok (.dup2, 1) ∧ decode cX11_recorded 37 = .ok (.iaload, 1) ∧ decode cX11_recorded 38 = .ok (.iconst 1, 1) ∧ decode cX11_recorded 39 = .ok (.iadd, 1) ∧ decode cX11_recorded 40 = .ok (.iastore, 1) ∧ decode cX11_recorded 41 = .ok (.aload_n 0, 1) ∧ decode cX11_recorded 42 = .ok (.dup, 1) ∧ decode cX11_recorded 43 = .ok (.getfield 116, 3) ∧ decode cX11_recorded 46 = .ok (.iconst 1, 1) ∧ decode cX11_recorded 47 = .ok (.iadd, 1) ∧ decode cX11_recorded 48 = .ok (.putfield 116, 3) ∧ decode cX11_recorded 51 = .ok (.aload_n 0, 1) ∧ decode cX11_recorded 52 = .ok (.getfield 116, 3) ∧ decode cX11_recorded 55 = .ok (.iconst 1, 1) ∧ decode cX11_recorded 56 = .ok (.isub, 1) ∧ decode cX11_recorded 57 = .ok (.ireturn, 1) := ⟨by decide +kernel, by decide +kernel, by decide +kernel, by decide +kernel, by decide +kernel, by decide +kernel, by decide +kernel, by decide +kernel, by decide +kernel, by decide +kernel, by decide +kernel, by decide +kernel, by decide +kernel, by decide +kernel, by decide +kernel, by decide +kernel, by decide +kernel, by decide +kernel, by decide +kernel, by decide +kernel, by decide +kernel, by decide +kernel, by decide +kernel, by decide +kernel, by decide +kernel, by decide +kernel, by decide +kernel, by decide +kernel, by decide +kernel, by decide +kernel, by decide +kernel, by decide +kernel, by decide +kernel, by decide +kernel, by decide +kernel, by decide +kernel, by decide +kernel, by decide +kernel, by decide +kernel⟩
theorem dec_X11_round : decode cX11_round 0 = .ok (.iload_n 1, 1) ∧ decode cX11_round 1 = .ok (.iconst 0, 1) ∧ decode cX11_round 2 = .ok (.iconst 1, 1) ∧ decode cX11_round 3 = .ok (.invokestatic 59, 3) ∧ decode cX11_round 6 = .ok (.ifCond .eq 33, 3) ∧ decode cX11_round 9 = .ok (.iload_n 3, 1) ∧ decode cX11_round 10 = .ok (.iconst 0, 1) ∧ decode cX11_round 11 = .ok (.iconst 1, 1) ∧ decode cX11_round 12 = .ok (.invokestatic 59, 3) ∧ decode cX11_round 15 = .ok (.ifCond .eq 24, 3) ∧ decode cX11_round 18 = .ok (.iload_n 2, 1) ∧ decode cX11_round 19 = .ok (.iconst 0, 1) ∧ decode cX11_round 20 = .ok (.bipush 30, 2) ∧ decode cX11_round 22 = .ok (.invokestatic 59, 3) ∧ decode cX11_round 25 = .ok (.ifCond .eq 14, 3) ∧ decode cX11_round 28 = .ok (.iload 4, 2) ∧ decode cX11_round 30 = .ok (.iconst 0, 1) ∧ decode cX11_round 31 = .ok (.bipush 30, 2) ∧ decode cX11_round 33 = .ok (.invokestatic 59, 3) ∧ decode cX11_round 36 = .ok (.ifCond .ne 6, 3) ∧ decode cX11_round 39 = .ok (.ldc 122, 2) ∧ decode cX11_round 41 = .ok (.ireturn, 1) ∧ decode cX11_round 42 = .ok (.iload_n 1, 1) ∧ decode cX11_round 43 = .ok (.iload_n 2, 1) ∧ decode cX11_round 44 = .ok (.iload_n 3, 1) ∧ decode cX11_round 45 = .ok (.iload 4, 2) ∧ decode cX11_round 47 = .ok (.invokestatic 70, 3) ∧ decode cX11_round 50 = .ok (.ireturn, 1) := ⟨by decide +kernel, by decide +kernel, by decide +kernel, by decide +kernel, by decide +kernel, by decide +kernel, by decide +kernel, by decide +kernel, by decide +kernel, by decide +kernel, by decide +kernel, by decide +kernel, by decide +kernel, by decide +kernel, by decide +kernel, by decide +kernel, by decide +kernel, by decide +kernel, by decide +kernel, by decide +kernel, by decide +kernel, by decide +kernel, by decide +kernel, by decide +kernel, by decide +kernel, by decide +kernel, by decide +kernel, by decide +kernel⟩
theorem dec_X11_setOf : decode cX11_setOf 0 = .ok (.iconst 0, 1) ∧ decode cX11_setOf 1 = .ok (.istore_n 2, 1) ∧ decode cX11_setOf 2 = .ok (.iconst 0, 1) ∧ decode cX11_setOf 3 = .ok (.istore_n 3, 1) ∧ decode cX11_setOf 4 = .ok (.iload_n 3, 1) ∧ decode cX11_setOf 5 = .ok (.aload_n 0, 1) ∧ decode cX11_setOf 6 = .ok (.iload_n 1, 1) ∧ decode cX11_setOf 7 = .ok (.invokevirtual 100, 3) ∧ decode cX11_setOf 10 = .ok (.if_icmp .ge 23, 3) ∧ decode cX11_setOf 13 = .ok (.iload_n 2, 1) ∧ decode cX11_setOf 14 = .ok (.iconst 1, 1) ∧ decode cX11_setOf 15 = .ok (.aload_n 0, 1) ∧ decode cX11_setOf 16 = .ok (.iload_n 1, 1) ∧ decode cX11_setOf 17 = .ok (.iload_n 3, 1) ∧ decode cX11_setOf 18 = .ok (.invokevirtual 103, 3) ∧ decode cX11_setOf 21 = .ok (.invokestatic 85, 3) ∧ decode cX11_setOf 24 = .ok (.ishl, 1) ∧ decode cX11_setOf 25 = .ok (.ior, 1) ∧ decode cX11_setOf 26 = .ok (.istore_n 2, 1) ∧ decode cX11_setOf 27 = .ok (.iinc 3 1, 3) ∧ decode cX11_setOf 30 = .ok (.goto (-26), 3) ∧ decode cX11_setOf 33 = .ok (.iload_n 2, 1) ∧ decode cX11_setOf 34 = .ok (.ireturn, 1) := ⟨by decide +kernel, by decide +kernel, by decide +kernel, by decide +kernel, by decide +kernel, by decide +kernel, by decide +kernel, by decide +kernel, by decide +kernel, by decide +kernel, by decide +kernel, by decide +kernel, by decide +kernel, by decide +kernel, by decide +kernel, by decide +kernel, by decide +kernel, by decide +kernel, by decide +kernel, by decide +kernel, by decide +kernel, by decide +kernel, by decide +kernel⟩
theorem dec_X11_shelve : decode cX11_shelve 0 = .ok (.iload_n 1, 1) ∧ decode cX11_shelve 1 = .ok (.invokestatic 214, 3) ∧ decode cX11_shelve 4 = .ok (.ifCond .eq 12, 3) ∧ decode cX11_shelve 7 = .ok (.aload_n 0, 1) ∧ decode cX11_shelve 8 = .ok (.iload_n 2, 1) ∧ decode cX11_shelve 9 = .ok (.iload_n 3, 1) ∧ decode cX11_shelve 10 = .ok (.invokevirtual 208, 3) ∧ decode cX11_shelve 13 = .ok (.ifCond .ne 6, 3) ∧ decode cX11_shelve 16 = .ok (.ldc 132, 2) ∧ decode cX11_shelve 18 = .ok (.ireturn, 1) ∧ decode cX11_shelve 19 = .ok (.aload_n 0, 1) ∧ decode cX11_shelve 20 = .ok (.getfield 26, 3) ∧ decode cX11_shelve 23 = .ok (.iload_n 1, 1) ∧ decode cX11_shelve 24 = .ok (.iconst 1, 1) ∧ decode cX11_shelve 25 = .ok (.iastore, 1) ∧ decode cX11_shelve 26 = .ok (.aload_n 0, 1) ∧ decode cX11_shelve 27 = .ok (.getfield 29, 3) ∧ decode cX11_shelve 30 = .ok (.iload_n 1, 1) ∧ decode cX11_shelve 31 = .ok (.aload_n 0, 1) ∧ decode cX11_shelve 32 = .ok (.iload_n 2, 1) ∧ decode cX11_shelve 33 = .ok (.iload_n 3, 1) ∧ decode cX11_shelve 34 = .ok (.invokevirtual 103, 3) ∧ decode cX11_shelve 37 = .ok (.iastore, 1) ∧ decode cX11_shelve 38 = .ok (.aload_n 0, 1) ∧ decode cX11_shelve 39 = .ok (.getfield 29, 3) ∧ decode cX11_shelve 42 = .ok (.iload_n 1, 1) ∧ decode cX11_shelve 43 = .ok (.iaload, 1) ∧ decode cX11_shelve 44 = .ok (.invokestatic 85, 3) ∧ decode cX11_shelve 47 = .ok (.ireturn, 1) := ⟨by decide +kernel, by decide +kernel, by decide +kernel, by decide +kernel, by decide +kernel, by decide +kernel, by decide +kernel, by decide +kernel, by decide +kernel, by decide +kernel, by decide +kernel, by decide +kernel, by decide +kernel, by decide +kernel, by decide +kernel, by decide +kernel, by decide +kernel, by decide +kernel, by decide +kernel, by decide +kernel, by decide +kernel, by decide +kernel, by decide +kernel, by decide +kernel, by decide +kernel, by decide +kernel, by decide +kernel, by decide +kernel, by decide +kernel⟩
theorem dec_X11_shelveText : decode cX11_shelveText 0 = .ok (.iload_n 1, 1) ∧ decode cX11_shelveText 1 = .ok (.invokestatic 214, 3) ∧ decode cX11_shelveText 4 = .ok (.ifCond .eq 10, 3) ∧ decode cX11_shelveText 7 = .ok (.iload_n 2, 1) ∧ decode cX11_shelveText 8 = .ok (.invokestatic 128, 3) ∧ decode cX11_shelveText 11 = .ok (.ifCond .ne 6, 3) ∧ decode cX11_shelveText 14 = .ok (.ldc 132, 2) ∧ decode cX11_shelveText 16 = .ok (.ireturn, 1) ∧ decode cX11_shelveText 17 = .ok (.aload_n 0, 1) ∧ decode cX11_shelveText 18 = .ok (.getfield 26, 3) ∧ decode cX11_shelveText 21 = .ok (.iload_n 1, 1) ∧ decode cX11_shelveText 22 = .ok (.iconst 2, 1) ∧ decode cX11_shelveText 23 = .ok (.iastore, 1) ∧ decode cX11_shelveText 24 = .ok (.aload_n 0, 1) ∧ decode cX11_shelveText 25 = .ok (.getfield 29, 3) ∧ decode cX11_shelveText 28 = .ok (.iload_n 1, 1) ∧ decode cX11_shelveText 29 = .ok (.aload_n 0, 1) ∧ decode cX11_shelveText 30 = .ok (.iload_n 2, 1) ∧ decode cX11_shelveText 31 = .ok (.invokevirtual 133, 3) ∧ decode cX11_shelveText 34 = .ok (.iastore, 1) ∧ decode cX11_shelveText 35 = .ok (.aload_n 0, 1) ∧ decode cX11_shelveText 36 = .ok (.getfield 50, 3) ∧ decode cX11_shelveText 39 = .ok (.bipush 32, 2) ∧ decode cX11_shelveText 41 = .ok (.iload_n 2, 1) ∧ decode cX11_shelveText 42 = .ok (.imul, 1) ∧ decode cX11_shelveText 43 = .ok (.aload_n 0, 1) ∧ decode cX11_shelveText 44 = .ok (.getfield 32, 3) ∧ decode cX11_shelveText 47 = .ok (.bipush 32, 2) ∧ decode cX11_shelveText 49 = .ok (.iload_n 1, 1) ∧ decode cX11_shelveText 50 = .ok (.imul, 1) ∧ decode cX11_shelveText 51 = .ok (.aload_n 0, 1) ∧ decode cX11_shelveText 52 = .ok (.getfield 29, 3) ∧ decode cX11_shelveText 55 = .ok (.iload_n 1, 1) ∧ decode cX11_shelveText 56 = .ok (.iaload, 1) ∧ decode cX11_shelveText 57 = .ok (.invokestatic 92, 3) ∧ decode cX11_shelveText 60 = .ok (.aload_n 0, 1) ∧ decode cX11_shelveText 61 = .ok (.getfield 29, 3) ∧ decode cX11_shelveText 64 = .ok (.iload_n 1, 1) ∧ decode cX11_shelveText 65 = .ok (.iaload, 1) ∧ decode cX11_shelveText 66 = .ok (.ireturn, 1) := ⟨by decide +kernel, by decide +kernel, by decide +kernel, by decide +kernel, by decide +kernel, by decide +kernel, by decide +kernel, by decide +kernel, by decide +kernel, by decide +kernel, by decide +kernel, by decide +kernel, by decide +kernel, by decide +kernel, by decide +kernel, by decide +kernel, by decide +kernel, by decide +kernel, by decide +kernel, by decide +kernel, by decide +kernel, by decide +kernel, by decide +kernel, by decide +kernel, by decide +kernel, by decide +kernel, by decide +kernel, by decide +kernel, by decide +kernel, by decide +kernel, by decide +kernel, by decide +kernel, by decide +kernel, by decide +kernel, by decide +kernel, by decide +kernel, by decide +kernel, by decide +kernel, by decide +kernel, by decide +kernel⟩
theorem dec_X11_shelved : decode cX11_shelved 0 = .ok (.iload_n 1, 1) ∧ decode cX11_shelved 1 = .ok (.invokestatic 214, 3) ∧ decode cX11_shelved 4 = .ok (.ifCond .ne 6, 3) ∧ decode cX11_shelved 7 = .ok (.ldc 132, 2) ∧ decode cX11_shelved 9 = .ok (.ireturn, 1) ∧ decode cX11_shelved 10 = .ok (.iload_n 2, 1) ∧ decode cX11_shelved 11 = .ok (.iconst 0, 1) ∧ decode cX11_shelved 12 = .ok (.iconst 3, 1) ∧ decode cX11_shelved 13 = .ok (.invokestatic 59, 3) ∧ decode cX11_shelved 16 = .ok (.ifCond .ne 6, 3) ∧ decode cX11_shelved 19 = .ok (.ldc 122, 2) ∧ decode cX11_shelved 21 = .ok (.ireturn, 1) ∧ decode cX11_shelved 22 = .ok (.aload_n 0, 1) ∧ decode cX11_shelved 23 = .ok (.iload_n 1, 1) ∧ decode cX11_shelved 24 = .ok (.iconst 1, 1) ∧ decode cX11_shelved 25 = .ok (.invokevirtual 219, 3) ∧ decode cX11_shelved 28 = .ok (.istore_n 3, 1) ∧ decode cX11_shelved 29 = .ok (.iload_n 3, 1) ∧ decode cX11_shelved 30 = .ok (.ifCond .ne 16, 3) ∧ decode cX11_shelved 33 = .ok (.aload_n 0, 1) ∧ decode cX11_shelved 34 = .ok (.getfield 29, 3) ∧ decode cX11_shelved 37 = .ok (.iload_n 1, 1) ∧ decode cX11_shelved 38 = .ok (.iaload, 1) ∧ decode cX11_shelved 39 = .ok (.iload_n 2, 1) ∧ decode cX11_shelved 40 = .ok (.invokestatic 211, 3) ∧ decode cX11_shelved 43 = .ok (.goto 4, 3) ∧ decode cX11_shelved 46 = .ok (.iload_n 3, 1) ∧ decode cX11_shelved 47 = .ok (.ireturn, 1) := ⟨by decide +kernel, by decide +kernel, by decide +kernel, by decide +kernel, by decide +kernel, by decide +kernel, by decide +kernel, by decide +kernel, by decide +kernel, by decide +kernel, by decide +kernel, by decide +kernel, by decide +kernel, by decide +kernel, by decide +kernel, by decide +kernel, by decide +kernel, by decide +kernel, by decide +kernel, by decide +kernel, by decide +kernel, by decide +kernel, by decide +kernel, by decide +kernel, by decide +kernel, by decide +kernel, by decide +kernel, by decide +kernel⟩
theorem dec_X11_shown : decode cX11_shown 0 = .ok (.iload_n 1, 1) ∧ decode cX11_shown 1 = .ok (.ifCond .ne 10, 3) ∧ decode cX11_shown 4 = .ok (.iload_n 0, 1) ∧ decode cX11_shown 5 = .ok (.invokestatic 85, 3) ∧ decode cX11_shown 8 = .ok (.goto 31, 3) ∧ decode cX11_shown 11 = .ok (.iload_n 1, 1) ∧ decode cX11_shown 12 = .ok (.iconst 1, 1) ∧ decode cX11_shown 13 = .ok (.if_icmp .ne 10, 3) ∧ decode cX11_shown 16 = .ok (.iload_n 0, 1) ∧ decode cX11_shown 17 = .ok (.invokestatic 67, 3) ∧ decode cX11_shown 20 = .ok (.goto 19, 3) ∧ decode cX11_shown 23 = .ok (.iload_n 1, 1) ∧ decode cX11_shown 24 = .ok (.iconst 2, 1) ∧ decode cX11_shown 25 = .ok (.if_icmp .ne 10, 3) ∧ decode cX11_shown 28 = .ok (.iload_n 0, 1) ∧ decode cX11_shown 29 = .ok (.invokestatic 63, 3) ∧ decode cX11_shown 32 = .ok (.goto 7, 3) ∧ decode cX11_shown 35 = .ok (.iload_n 0, 1) ∧ decode cX11_shown 36 = .ok (.invokestatic 106, 3) ∧ decode cX11_shown 39 = .ok (.ireturn, 1) := ⟨by decide +kernel, by decide +kernel, by decide +kernel, by decide +kernel, by decide +kernel, by decide +kernel, by decide +kernel, by decide +kernel, by decide +kernel, by decide +kernel, by decide +kernel, by decide +kernel, by decide +kernel, by decide +kernel, by decide +kernel, by decide +kernel, by decide +kernel, by decide +kernel, by decide +kernel, by decide +kernel⟩
theorem dec_X11_sort : decode cX11_sort 0 = .ok (.iload_n 0, 1) ∧ decode cX11_sort 1 = .ok (.sipush 8192, 3) ∧ decode cX11_sort 4 = .ok (.idiv, 1) ∧ decode cX11_sort 5 = .ok (.iconst 2, 1) ∧ decode cX11_sort 6 = .ok (.irem, 1) ∧ decode cX11_sort 7 = .ok (.ireturn, 1) := ⟨by decide +kernel, by decide +kernel, by decide +kernel, by decide +kernel, by decide +kernel, by decide +kernel⟩
theorem dec_X11_takeOff : decode cX11_takeOff 0 = .ok (.iload_n 1, 1) ∧ decode cX11_takeOff 1 = .ok (.invokestatic 128, 3) ∧ decode cX11_takeOff 4 = .ok (.ifCond .eq 13, 3) ∧ decode cX11_takeOff 7 = .ok (.aload_n 0, 1) ∧ decode cX11_takeOff 8 = .ok (.iload_n 1, 1) ∧ decode cX11_takeOff 9 = .ok (.iload_n 2, 1) ∧ decode cX11_takeOff 10 = .ok (.invokevirtual 148, 3) ∧ decode cX11_takeOff 13 = .ok (.iconst (-1), 1) ∧ decode cX11_takeOff 14 = .ok (.if_icmp .ne 6, 3) ∧ decode cX11_takeOff 17 = .ok (.ldc 132, 2) ∧ decode cX11_takeOff 19 = .ok (.ireturn, 1) ∧ decode cX11_takeOff 20 = .ok (.aload_n 0, 1) ∧ decode cX11_takeOff 21 = .ok (.iload_n 1, 1) ∧ decode cX11_takeOff 22 = .ok (.invokevirtual 151, 3) ∧ decode cX11_takeOff 25 = .ok (.istore_n 3, 1) ∧ decode cX11_takeOff 26 = .ok (.aload_n 0, 1) ∧ decode cX11_takeOff 27 = .ok (.getfield 38, 3) ∧ decode cX11_takeOff 30 = .ok (.aload_n 0, 1) ∧ decode cX11_takeOff 31 = .ok (.iload_n 1, 1) ∧ decode cX11_takeOff 32 = .ok (.iload_n 2, 1) ∧ decode cX11_takeOff 33 = .ok (.invokevirtual 148, 3) ∧ decode cX11_takeOff 36 = .ok (.iload_n 3, 1) ∧ decode cX11_takeOff 37 = .ok (.iconst 1, 1) ∧ decode cX11_takeOff 38 = .ok (.isub, 1) ∧ decode cX11_takeOff 39 = .ok (.invokestatic 96, 3) ∧ decode cX11_takeOff 42 = .ok (.ifCond .ne 6, 3) ∧ decode cX11_takeOff 45 = .ok (.ldc 123, 2) ∧ decode cX11_takeOff 47 = .ok (.ireturn, 1) ∧ decode cX11_takeOff 48 = .ok (.aload_n 0, 1) ∧ decode cX11_takeOff 49 = .ok (.invokevirtual 139, 3) ∧ decode cX11_takeOff 52 = .ok (.aload_n 0, 1) ∧ decode cX11_takeOff 53 = .ok (.getfield 38, 3) ∧ decode cX11_takeOff 56 = .ok (.iconst 0, 1) ∧ decode cX11_takeOff 57 = .ok (.aload_n 0, 1) ∧ decode cX11_takeOff 58 = .ok (.getfield 13, 3) ∧ decode cX11_takeOff 61 = .ok (.bipush 19, 2) ∧ decode cX11_takeOff 63 = .ok (.iload_n 1, 1) ∧ decode cX11_takeOff 64 = .ok (.imul, 1) ∧ decode cX11_takeOff 65 = .ok (.iconst 3, 1) ∧ decode cX11_takeOff 66 = .ok (.iadd, 1) ∧ decode cX11_takeOff 67 = .ok (.iload_n 3, 1) ∧ decode cX11_takeOff 68 = .ok (.iconst 1, 1) ∧ decode cX11_takeOff 69 = .ok (.isub, 1) ∧ decode cX11_takeOff 70 = .ok (.invokestatic 92, 3) ∧ decode cX11_takeOff 73 = .ok (.aload_n 0, 1) ∧ decode cX11_takeOff 74 = .ok (.getfield 13, 3) ∧ decode cX11_takeOff 77 = .ok (.bipush 19, 2) ∧ decode cX11_takeOff 79 = .ok (.iload_n 1, 1) ∧ decode cX11_takeOff 80 = .ok (.imul, 1) ∧ decode cX11_takeOff 81 = .ok (.iload_n 3, 1) ∧ decode cX11_takeOff 82 = .ok (.iconst 1, 1) ∧ decode cX11_takeOff 83 = .ok (.isub, 1) ∧ decode cX11_takeOff 84 = .ok (.iastore, 1) ∧ decode cX11_takeOff 85 = .ok (.iload_n 3, 1) ∧ decode cX11_takeOff 86 = .ok (.iconst 1, 1) ∧ decode cX11_takeOff 87 = .ok (.isub, 1) ∧ decode cX11_takeOff 88 = .ok (.ireturn, 1) := ⟨by decide +kernel, by decide +kernel, by decide +kernel, by decide +kernel, by decide +kernel, by decide +kernel, by decide +kernel, by decide +kernel, by decide +kernel, by decide +kernel, by decide +kernel, by decide +kernel, by decide +kernel, by decide +kernel, by decide +kernel, by decide +kernel, by decide +kernel, by decide +kernel, by decide +kernel, by decide +kernel, by decide +kernel, by decide +kernel, by decide +kernel, by decide +kernel, by decide +kernel, by decide +kernel, by decide +kernel, by decide +kernel, by decide +kernel, by decide +kernel, by decide +kernel, by decide +kernel, by decide +kernel, by decide +kernel, by decide +kernel, by decide +kernel, by decide +kernel, by decide +kernel, by decide +kernel, by decide +kernel, by decide +kernel, by decide +kernel, by decide +kernel, by decide +kernel, by decide +kernel, by decide +kernel, by decide +kernel, by decide +kernel, by decide +kernel, by decide +kernel, by decide +kernel, by decide +kernel, by decide +kernel, by decide +kernel, by decide +kernel, by decide +kernel, by decide +kernel⟩
theorem dec_X11_text : decode cX11_text 0 = .ok (.iload_n 1, 1) ∧ decode cX11_text 1 = .ok (.invokestatic 128, 3) ∧ decode cX11_text 4 = .ok (.ifCond .ne 6, 3) ∧ decode cX11_text 7 = .ok (.ldc 132, 2) ∧ decode cX11_text 9 = .ok (.ireturn, 1) ∧ decode cX11_text 10 = .ok (.iload_n 2, 1) ∧ decode cX11_text 11 = .ok (.ifCond .ge 6, 3) ∧ decode cX11_text 14 = .ok (.ldc 122, 2) ∧ decode cX11_text 16 = .ok (.ireturn, 1) ∧ decode cX11_text 17 = .ok (.iload_n 2, 1) ∧ decode cX11_text 18 = .ok (.aload_n 0, 1) ∧ decode cX11_text 19 = .ok (.iload_n 1, 1) ∧ decode cX11_text 20 = .ok (.invokevirtual 133, 3) ∧ decode cX11_text 23 = .ok (.if_icmp .ge 17, 3) ∧ decode cX11_text 26 = .ok (.aload_n 0, 1) ∧ decode cX11_text 27 = .ok (.getfield 50, 3) ∧ decode cX11_text 30 = .ok (.bipush 32, 2) ∧ decode cX11_text 32 = .ok (.iload_n 1, 1) ∧ decode cX11_text 33 = .ok (.imul, 1) ∧ decode cX11_text 34 = .ok (.iload_n 2, 1) ∧ decode cX11_text 35 = .ok (.iadd, 1) ∧ decode cX11_text 36 = .ok (.iaload, 1) ∧ decode cX11_text 37 = .ok (.goto 4, 3) ∧ decode cX11_text 40 = .ok (.iconst (-1), 1) ∧ decode cX11_text 41 = .ok (.ireturn, 1) := ⟨by decide +kernel, by decide +kernel, by decide +kernel, by decide +kernel, by decide +kernel, by decide +kernel, by decide +kernel, by decide +kernel, by decide +kernel, by decide +kernel, by decide +kernel, by decide +kernel, by decide +kernel, by decide +kernel, by decide +kernel, by decide +kernel, by decide +kernel, by decide +kernel, by decide +kernel, by decide +kernel, by decide +kernel, by decide +kernel, by decide +kernel, by decide +kernel, by decide +kernel⟩
theorem dec_X11_told : decode cX11_told 0 = .ok (.iload_n 1, 1) ∧ decode cX11_told 1 = .ok (.tableswitch 75 0 4 #[35, 40, 45, 58, 63], 35) ∧ decode cX11_told 36 = .ok (.aload_n 0, 1) ∧ decode cX11_told 37 = .ok (.getfield 109, 3) ∧ decode cX11_told 40 = .ok (.ireturn, 1) ∧ decode cX11_told 41 = .ok (.aload_n 0, 1) ∧ decode cX11_told 42 = .ok (.getfield 116, 3) ∧ decode cX11_told 45 = .ok (.ireturn, 1) ∧ decode cX11_told 46 = .ok (.aload_n 0, 1) ∧ decode cX11_told 47 = .ok (.invokevirtual 199, 3) ∧ decode cX11_told 50 = .ok (.ifCond .eq 7, 3) ∧ decode cX11_told 53 = .ok (.iconst 1, 1) ∧ decode cX11_told 54 = .ok (.goto 4, 3) ∧ decode cX11_told 57 = .ok (.iconst 0, 1) ∧ decode cX11_told 58 = .ok (.ireturn, 1) ∧ decode cX11_told 59 = .ok (.aload_n 0, 1) ∧ decode cX11_told 60 = .ok (.getfield 119, 3) ∧ decode cX11_told 63 = .ok (.ireturn, 1) ∧ decode cX11_told 64 = .ok (.aload_n 0, 1) ∧ decode cX11_told 65 = .ok (.iconst 0, 1) ∧ decode cX11_told 66 = .ok (.invokevirtual 154, 3) ∧ decode cX11_told 69 = .ok (.aload_n 0, 1) ∧ decode cX11_told 70 = .ok (.iconst 1, 1) ∧ decode cX11_told 71 = .ok (.invokevirtual 154, 3) ∧ decode cX11_told 74 = .ok (.iand, 1) ∧ decode cX11_told 75 = .ok (.ireturn, 1) ∧ decode cX11_told 76 = .ok (.ldc 122, 2) ∧ decode cX11_told 78 = .ok (.ireturn, 1) := ⟨by decide +kernel, by decide +kernel, by decide +kernel, by decide +kernel, by decide +kernel, by decide +kernel, by decide +kernel, by decide +kernel, by decide +kernel, by decide +kernel, by decide +kernel, by decide +kernel, by decide +kernel, by decide +kernel, by decide +kernel, by decide +kernel, by decide +kernel, by decide +kernel, by decide +kernel, by decide +kernel, by decide +kernel, by decide +kernel, by decide +kernel, by decide +kernel, by decide +kernel, by decide +kernel, by decide +kernel, by decide +kernel⟩
theorem dec_X11_turn : decode cX11_turn 0 = .ok (.iload_n 1, 1) ∧ decode cX11_turn 1 = .ok (.invokestatic 128, 3) ∧ decode cX11_turn 4 = .ok (.ifCond .eq 18, 3) ∧ decode cX11_turn 7 = .ok (.iload_n 2, 1) ∧ decode cX11_turn 8 = .ok (.iconst 0, 1) ∧ decode cX11_turn 9 = .ok (.aload_n 0, 1) ∧ decode cX11_turn 10 = .ok (.iload_n 1, 1) ∧ decode cX11_turn 11 = .ok (.invokevirtual 100, 3) ∧ decode cX11_turn 14 = .ok (.iconst 2, 1) ∧ decode cX11_turn 15 = .ok (.isub, 1) ∧ decode cX11_turn 16 = .ok (.invokestatic 59, 3) ∧ decode cX11_turn 19 = .ok (.ifCond .ne 6, 3) ∧ decode cX11_turn 22 = .ok (.ldc 132, 2) ∧ decode cX11_turn 24 = .ok (.ireturn, 1) ∧ decode cX11_turn 25 = .ok (.aload_n 0, 1) ∧ decode cX11_turn 26 = .ok (.iload_n 1, 1) ∧ decode cX11_turn 27 = .ok (.invokevirtual 151, 3) ∧ decode cX11_turn 30 = .ok (.istore_n 3, 1) ∧ decode cX11_turn 31 = .ok (.aload_n 0, 1) ∧ decode cX11_turn 32 = .ok (.getfield 38, 3) ∧ decode cX11_turn 35 = .ok (.iload_n 2, 1) ∧ decode cX11_turn 36 = .ok (.invokestatic 81, 3) ∧ decode cX11_turn 39 = .ok (.ifCond .ne 6, 3) ∧ decode cX11_turn 42 = .ok (.ldc 123, 2) ∧ decode cX11_turn 44 = .ok (.ireturn, 1) ∧ decode cX11_turn 45 = .ok (.aload_n 0, 1) ∧ decode cX11_turn 46 = .ok (.invokevirtual 139, 3) ∧ decode cX11_turn 49 = .ok (.aload_n 0, 1) ∧ decode cX11_turn 50 = .ok (.getfield 38, 3) ∧ decode cX11_turn 53 = .ok (.iconst 0, 1) ∧ decode cX11_turn 54 = .ok (.aload_n 0, 1) ∧ decode cX11_turn 55 = .ok (.getfield 13, 3) ∧ decode cX11_turn 58 = .ok (.bipush 19, 2) ∧ decode cX11_turn 60 = .ok (.iload_n 1, 1) ∧ decode cX11_turn 61 = .ok (.imul, 1) ∧ decode cX11_turn 62 = .ok (.iconst 3, 1) ∧ decode cX11_turn 63 = .ok (.iadd, 1) ∧ decode cX11_turn 64 = .ok (.iload_n 3, 1) ∧ decode cX11_turn 65 = .ok (.invokestatic 92, 3) ∧ decode cX11_turn 68 = .ok (.aload_n 0, 1) ∧ decode cX11_turn 69 = .ok (.getfield 38, 3) ∧ decode cX11_turn 72 = .ok (.iload_n 2, 1) ∧ decode cX11_turn 73 = .ok (.iaload, 1) ∧ decode cX11_turn 74 = .ok (.invokestatic 85, 3) ∧ decode cX11_turn 77 = .ok (.ireturn, 1) := ⟨by decide +kernel, by decide +kernel, by decide +kernel, by decide +kernel, by decide +kernel, by decide +kernel, by decide +kernel, by decide +kernel, by decide +kernel, by decide +kernel, by decide +kernel, by decide +kernel, by decide +kernel, by decide +kernel, by decide +kernel, by decide +kernel, by decide +kernel, by decide +kernel, by decide +kernel, by decide +kernel, by decide +kernel, by decide +kernel, by decide +kernel, by decide +kernel, by decide +kernel, by decide +kernel, by decide +kernel, by decide +kernel, by decide +kernel, by decide +kernel, by decide +kernel, by decide +kernel, by decide +kernel, by decide +kernel, by decide +kernel, by decide +kernel, by decide +kernel, by decide +kernel, by decide +kernel, by decide +kernel, by decide +kernel, by decide +kernel, by decide +kernel, by decide +kernel, by decide +kernel⟩
theorem dec_X11_turned : decode cX11_turned 0 = .ok (.iload_n 0, 1) ∧ decode cX11_turned 1 = .ok (.ifCond .ne 32, 3) ∧ decode cX11_turned 4 = .ok (.iload_n 2, 1) ∧ decode cX11_turned 5 = .ok (.ifCond .ne 28, 3) ∧ decode cX11_turned 8 = .ok (.iload_n 3, 1) ∧ decode cX11_turned 9 = .ok (.iload_n 1, 1) ∧ decode cX11_turned 10 = .ok (.if_icmp .gt 14, 3) ∧ decode cX11_turned 13 = .ok (.bipush 100, 2) ∧ decode cX11_turned 15 = .ok (.iload_n 3, 1) ∧ decode cX11_turned 16 = .ok (.imul, 1) ∧ decode cX11_turned 17 = .ok (.iload_n 1, 1) ∧ decode cX11_turned 18 = .ok (.iadd, 1) ∧ decode cX11_turned 19 = .ok (.iconst 1, 1) ∧ decode cX11_turned 20 = .ok (.iadd, 1) ∧ decode cX11_turned 21 = .ok (.goto 11, 3) ∧ decode cX11_turned 24 = .ok (.bipush 100, 2) ∧ decode cX11_turned 26 = .ok (.iload_n 3, 1) ∧ decode cX11_turned 27 = .ok (.iconst 1, 1) ∧ decode cX11_turned 28 = .ok (.isub, 1) ∧ decode cX11_turned 29 = .ok (.imul, 1) ∧ decode cX11_turned 30 = .ok (.iload_n 1, 1) ∧ decode cX11_turned 31 = .ok (.iadd, 1) ∧ decode cX11_turned 32 = .ok (.ireturn, 1) ∧ decode cX11_turned 33 = .ok (.iload_n 0, 1) ∧ decode cX11_turned 34 = .ok (.ifCond .ne 41, 3) ∧ decode cX11_turned 37 = .ok (.iload_n 3, 1) ∧ decode cX11_turned 38 = .ok (.iload_n 1, 1) ∧ decode cX11_turned 39 = .ok (.iconst 1, 1) ∧ decode cX11_turned 40 = .ok (.isub, 1) ∧ decode cX11_turned 41 = .ok (.if_icmp .ge 14, 3) ∧ decode cX11_turned 44 = .ok (.bipush 100, 2) ∧ decode cX11_turned 46 = .ok (.iload_n 3, 1) ∧ decode cX11_turned 47 = .ok (.imul, 1) ∧ decode cX11_turned 48 = .ok (.iload_n 1, 1) ∧ decode cX11_turned 49 = .ok (.iadd, 1) ∧ decode cX11_turned 50 = .ok (.iconst 1, 1) ∧ decode cX11_turned 51 = .ok (.isub, 1) ∧ decode cX11_turned 52 = .ok (.goto 22, 3) ∧ decode cX11_turned 55 = .ok (.iload_n 3, 1) ∧ decode cX11_turned 56 = .ok (.iload_n 1, 1) ∧ decode cX11_turned 57 = .ok (.iconst 1, 1) ∧ decode cX11_turned 58 = .ok (.iadd, 1) ∧ decode cX11_turned 59 = .ok (.if_icmp .le 14, 3) ∧ decode cX11_turned 62 = .ok (.bipush 100, 2) ∧ decode cX11_turned 64 = .ok (.iload_n 3, 1) ∧ decode cX11_turned 65 = .ok (.iconst 1, 1) ∧ decode cX11_turned 66 = .ok (.isub, 1) ∧ decode cX11_turned 67 = .ok (.imul, 1) ∧ decode cX11_turned 68 = .ok (.iload_n 1, 1) ∧ decode cX11_turned 69 = .ok (.iadd, 1) ∧ decode cX11_turned 70 = .ok (.goto 4, 3) ∧ decode cX11_turned 73 = .ok (.iconst (-1), 1) ∧ decode cX11_turned 74 = .ok (.ireturn, 1) ∧ decode cX11_turned 75 = .ok (.iload_n 2, 1) ∧ decode cX11_turned 76 = .ok (.ifCond .ne 37, 3) ∧ decode cX11_turned 79 = .ok (.iload_n 3, 1) ∧ decode cX11_turned 80 = .ok (.iload_n 1, 1) ∧ decode cX11_turned 81 = .ok (.if_icmp .ge 14, 3) ∧ decode cX11_turned 84 = .ok (.bipush 100, 2) ∧ decode cX11_turned 86 = .ok (.iload_n 3, 1) ∧ decode cX11_turned 87 = .ok (.imul, 1) ∧ decode cX11_turned 88 = .ok (.iload_n 1, 1) ∧ decode cX11_turned 89 = .ok (.iadd, 1) ∧ decode cX11_turned 90 = .ok (.iconst 1, 1) ∧ decode cX11_turned 91 = .ok (.iadd, 1) ∧ decode cX11_turned 92 = .ok (.goto 20, 3) ∧ decode cX11_turned 95 = .ok (.iload_n 3, 1) ∧ decode cX11_turned 96 = .ok (.iload_n 1, 1) ∧ decode cX11_turned 97 = .ok (.if_icmp .le 14, 3) ∧ decode cX11_turned 100 = .ok (.bipush 100, 2) ∧ decode cX11_turned 102 = .ok (.iload_n 3, 1) ∧ decode cX11_turned 103 = .ok (.iconst 1, 1) ∧ decode cX11_turned 104 = .ok (.iadd, 1) ∧ decode cX11_turned 105 = .ok (.imul, 1) ∧ decode cX11_turned 106 = .ok (.iload_n 1, 1) ∧ decode cX11_turned 107 = .ok (.iadd, 1) ∧ decode cX11_turned 108 = .ok (.goto 4, 3) ∧ decode cX11_turned 111 = .ok (.iconst (-1), 1) ∧ decode cX11_turned 112 = .ok (.ireturn, 1) ∧ decode cX11_turned 113 = .ok (.iload_n 3, 1) ∧ decode cX11_turned 114 = .ok (.iload_n 1, 1) ∧ decode cX11_turned 115 = .ok (.if_icmp .ge 14, 3) ∧ decode cX11_turned 118 = .ok (.bipush 100, 2) ∧ decode cX11_turned 120 = .ok (.iload_n 3, 1) ∧ decode cX11_turned 121 = .ok (.imul, 1) ∧ decode cX11_turned 122 = .ok (.iload_n 1, 1) ∧ decode cX11_turned 123 = .ok (.iadd, 1) ∧ decode cX11_turned 124 = .ok (.iconst 1, 1) ∧ decode cX11_turned 125 = .ok (.isub, 1) ∧ decode cX11_turned 126 = .ok (.goto 11, 3) ∧ decode cX11_turned 129 = .ok (.bipush 100, 2) ∧ decode cX11_turned 131 = .ok (.iload_n 3, 1) ∧ decode cX11_turned 132 = .ok (.iconst 1, 1) ∧ decode cX11_turned 133 = .ok (.iadd, 1) ∧ decode cX11_turned 134 = .ok (.imul, 1) ∧ decode cX11_turned 135 = .ok (.iload_n 1, 1) ∧ decode cX11_turned 136 = .ok (.iadd, 1) ∧ decode cX11_turned 137 = .ok (.ireturn, 1) := ⟨by decide +kernel, by decide +kernel, by decide +kernel, by decide +kernel, by decide +kernel, by decide +kernel, by decide +kernel, by decide +kernel, by decide +kernel, by decide +kernel, by decide +kernel, by decide +kernel, by decide +kernel, by decide +kernel, by decide +kernel, by decide +kernel, by decide +kernel, by decide +kernel, by decide +kernel, by decide +kernel, by decide +kernel, by decide +kernel, by decide +kernel, by decide +kernel, by decide +kernel, by decide +kernel, by decide +kernel, by decide +kernel, by decide +kernel, by decide +kernel, by decide +kernel, by decide +kernel, by decide +kernel, by decide +kernel, by decide +kernel, by decide +kernel, by decide +kernel, by decide +kernel, by decide +kernel, by decide +kernel, by decide +kernel, by decide +kernel, by decide +kernel, by decide +kernel, by decide +kernel, by decide +kernel, by decide +kernel, by decide +kernel, by decide +kernel, by decide +kernel, by decide +kernel, by decide +kernel, by decide +kernel, by decide +kernel, by decide +kernel, by decide +kernel, by decide +kernel, by decide +kernel, by decide +kernel, by decide +kernel, by decide +kernel, by decide +kernel, by decide +kernel, by decide +kernel, by decide +kernel, by decide +kernel, by decide +kernel, by decide +kernel, by decide +kernel, by decide +kernel, by decide +kernel, by decide +kernel, by decide +kernel, by decide +kernel, by decide +kernel, by decide +kernel, by decide +kernel, by decide +kernel, by decide +kernel, by decide +kernel, by decide +kernel, by decide +kernel, by decide +kernel, by decide +kernel, by decide +kernel, by decide +kernel, by decide +kernel, by decide +kernel, by decide +kernel, by decide +kernel, by decide +kernel, by decide +kernel, by decide +kernel, by decide +kernel, by decide +kernel, by decide +kernel, by decide +kernel, by decide +kernel⟩
theorem dec_X11_turnedBy : decode cX11_turnedBy 0 = .ok (.iload_n 0, 1) ∧ decode cX11_turnedBy 1 = .ok (.invokestatic 67, 3) ∧ decode cX11_turnedBy 4 = .ok (.iload_n 0, 1) ∧ decode cX11_turnedBy 5 = .ok (.invokestatic 63, 3) ∧ decode cX11_turnedBy 8 = .ok (.iload_n 1, 1) ∧ decode cX11_turnedBy 9 = .ok (.invokestatic 67, 3) ∧ decode cX11_turnedBy 12 = .ok (.iload_n 1, 1) ∧ decode cX11_turnedBy 13 = .ok (.invokestatic 63, 3) ∧ decode cX11_turnedBy 16 = .ok (.invokestatic 70, 3) ∧ decode cX11_turnedBy 19 = .ok (.ireturn, 1) := ⟨by decide +kernel, by decide +kernel, by decide +kernel, by decide +kernel, by decide +kernel, by decide +kernel, by decide +kernel, by decide +kernel, by decide +kernel, by decide +kernel⟩
theorem dec_X11_undo : decode cX11_undo 0 = .ok (.aload_n 0, 1) ∧ decode cX11_undo 1 = .ok (.getfield 119, 3) ∧ decode cX11_undo 4 = .ok (.ifCond .ne 6, 3) ∧ decode cX11_undo 7 = .ok (.ldc 123, 2) ∧ decode cX11_undo 9 = .ok (.ireturn, 1) ∧ decode cX11_undo 10 = .ok (.aload_n 0, 1) ∧ decode cX11_undo 11 = .ok (.dup, 1) ∧ decode cX11_undo 12 = .ok (.getfield 119, 3) ∧ decode cX11_undo 15 = .ok (.iconst 1, 1) ∧ decode cX11_undo 16 = .ok (.isub, 1) ∧ decode cX11_undo 17 = .ok (.putfield 119, 3) ∧ decode cX11_undo 20 = .ok (.aload_n 0, 1) ∧ decode cX11_undo 21 = .ok (.getfield 16, 3) ∧ decode cX11_undo 24 = .ok (.bipush 38, 2) ∧ decode cX11_undo 26 = .ok (.aload_n 0, 1) ∧ decode cX11_undo 27 = .ok (.getfield 119, 3) ∧ decode cX11_undo 30 = .ok (.imul, 1) ∧ decode cX11_undo 31 = .ok (.aload_n 0, 1) ∧ decode cX11_undo 32 = .ok (.getfield 13, 3) ∧ decode cX11_undo 35 = .ok (.iconst 0, 1) ∧ decode cX11_undo 36 = .ok (.bipush 38, 2) ∧ decode cX11_undo 38 = .ok (.invokestatic 92, 3) ∧ decode cX11_undo 41 = .ok (.aload_n 0, 1) ∧ decode cX11_undo 42 = .ok (.getfield 119, 3) ∧ decode cX11_undo 45 = .ok (.ireturn, 1) := ⟨by decide +kernel, by decide +kernel, by decide +kernel, by decide +kernel, by decide +kernel, by decide +kernel, by decide +kernel, by decide +kernel, by decide +kernel, by decide +kernel, by decide +kernel, by decide +kernel, by decide +kernel, by decide +kernel, by decide +kernel, by decide +kernel, by decide +kernel, by decide +kernel, by decide +kernel, by decide +kernel, by decide +kernel, by decide +kernel, by decide +kernel, by decide +kernel, by decide +kernel⟩
theorem dec_X11_whyNot : decode cX11_whyNot 0 = .ok (.aload_n 0, 1) ∧ decode cX11_whyNot 1 = .ok (.getfield 26, 3) ∧ decode cX11_whyNot 4 = .ok (.iload_n 1, 1) ∧ decode cX11_whyNot 5 = .ok (.iaload, 1) ∧ decode cX11_whyNot 6 = .ok (.ifCond .ne 8, 3) ∧ decode cX11_whyNot 9 = .ok (.ldc 217, 2) ∧ decode cX11_whyNot 11 = .ok (.goto 19, 3) ∧ decode cX11_whyNot 14 = .ok (.aload_n 0, 1) ∧ decode cX11_whyNot 15 = .ok (.getfield 26, 3) ∧ decode cX11_whyNot 18 = .ok (.iload_n 1, 1) ∧ decode cX11_whyNot 19 = .ok (.iaload, 1) ∧ decode cX11_whyNot 20 = .ok (.iload_n 2, 1) ∧ decode cX11_whyNot 21 = .ok (.if_icmp .ne 7, 3) ∧ decode cX11_whyNot 24 = .ok (.iconst 0, 1) ∧ decode cX11_whyNot 25 = .ok (.goto 5, 3) ∧ decode cX11_whyNot 28 = .ok (.ldc 218, 2) ∧ decode cX11_whyNot 30 = .ok (.ireturn, 1) := ⟨by decide +kernel, by decide +kernel, by decide +kernel, by decide +kernel, by decide +kernel, by decide +kernel, by decide +kernel, by decide +kernel, by decide +kernel, by decide +kernel, by decide +kernel, by decide +kernel, by decide +kernel, by decide +kernel, by decide +kernel, by decide +kernel, by decide +kernel⟩
theorem dec_X1_clear : decode cX1_clear 0 = .ok (.iconst 0, 1) ∧ decode cX1_clear 1 = .ok (.istore_n 1, 1) ∧ decode cX1_clear 2 = .ok (.iload_n 1, 1) ∧ decode cX1_clear 3 = .ok (.iconst 2, 1) ∧ decode cX1_clear 4 = .ok (.if_icmp .ge 33, 3) ∧ decode cX1_clear 7 = .ok (.aload_n 0, 1) ∧ decode cX1_clear 8 = .ok (.getfield 11, 3) ∧ decode cX1_clear 11 = .ok (.iload_n 1, 1) ∧ decode cX1_clear 12 = .ok (.aaload, 1) ∧ decode cX1_clear 13 = .ok (.iconst 0, 1) ∧ decode cX1_clear 14 = .ok (.putfield 25, 3) ∧ decode cX1_clear 17 = .ok (.aload_n 0, 1) ∧ decode cX1_clear 18 = .ok (.getfield 17, 3) ∧ decode cX1_clear 21 = .ok (.iload_n 1, 1) ∧ decode cX1_clear 22 = .ok (.iconst (-1), 1) ∧ decode cX1_clear 23 = .ok (.iastore, 1) ∧ decode cX1_clear 24 = .ok (.aload_n 0, 1) ∧ decode cX1_clear 25 = .ok (.getfield 21, 3) ∧ decode cX1_clear 28 = .ok (.iload_n 1, 1) ∧ decode cX1_clear 29 = .ok (.iconst (-1), 1) ∧ decode cX1_clear 30 = .ok (.iastore, 1) ∧ decode cX1_clear 31 = .ok (.iinc 1 1, 3) ∧ decode cX1_clear 34 = .ok (.goto (-32), 3) ∧ decode cX1_clear 37 = .ok (.return_, 1) := ⟨by decide +kernel, by decide +kernel, by decide +kernel, by decide +kernel, by decide +kernel, by decide +kernel, by decide +kernel, by decide +kernel, by decide +kernel, by decide +kernel, by decide +kernel, by decide +kernel, by decide +kernel, by decide +kernel, by decide +kernel, by decide +kernel, by decide +kernel, by decide +kernel, by decide +kernel, by decide +kernel, by decide +kernel, by decide +kernel, by decide +kernel, by decide +kernel⟩
theorem dec_X1_copyFrom : decode cX1_copyFrom 0 = .ok (.iconst 0, 1) ∧ decode cX1_copyFrom 1 = .ok (.istore_n 2, 1) ∧ decode cX1_copyFrom 2 = .ok (.iload_n 2, 1) ∧ decode cX1_copyFrom 3 = .ok (.iconst 2, 1) ∧ decode cX1_copyFrom 4 = .ok (.if_icmp .ge 48, 3) ∧ decode cX1_copyFrom 7 = .ok (.aload_n 0, 1) ∧ decode cX1_copyFrom 8 = .ok (.getfield 11, 3) ∧ decode cX1_copyFrom 11 = .ok (.iload_n 2, 1) ∧ decode cX1_copyFrom 12 = .ok (.aaload, 1) ∧ decode cX1_copyFrom 13 = .ok (.aload_n 1, 1) ∧ decode cX1_copyFrom 14 = .ok (.getfield 11, 3) ∧ decode cX1_copyFrom 17 = .ok (.iload_n 2, 1) ∧ decode cX1_copyFrom 18 = .ok (.aaload, 1) ∧ decode cX1_copyFrom 19 = .ok (.invokevirtual 29, 3) ∧ decode cX1_copyFrom 22 = .ok (.aload_n 0, 1) ∧ decode cX1_copyFrom 23 = .ok (.getfield 17, 3) ∧ decode cX1_copyFrom 26 = .ok (.iload_n 2, 1) ∧ decode cX1_copyFrom 27 = .ok (.aload_n 1, 1) ∧ decode cX1_copyFrom 28 = .ok (.getfield 17, 3) ∧ decode cX1_copyFrom 31 = .ok (.iload_n 2, 1) ∧ decode cX1_copyFrom 32 = .ok (.iaload, 1) ∧ decode cX1_copyFrom 33 = .ok (.iastore, 1) ∧ decode cX1_copyFrom 34 = .ok (.aload_n 0, 1) ∧ decode cX1_copyFrom 35 = .ok (.getfield 21, 3) ∧ decode cX1_copyFrom 38 = .ok (.iload_n 2, 1) ∧ decode cX1_copyFrom 39 = .ok (.aload_n 1, 1) ∧ decode cX1_copyFrom 40 = .ok (.getfield 21, 3) ∧ decode cX1_copyFrom 43 = .ok (.iload_n 2, 1) ∧ decode cX1_copyFrom 44 = .ok (.iaload, 1) ∧ decode cX1_copyFrom 45 = .ok (.iastore, 1) ∧ decode cX1_copyFrom 46 = .ok (.iinc 2 1, 3) ∧ decode cX1_copyFrom 49 = .ok (.goto (-47), 3) ∧ decode cX1_copyFrom 52 = .ok (.return_, 1) := ⟨by decide +kernel, by decide +kernel, by decide +kernel, by decide +kernel, by decide +kernel, by decide +kernel, by decide +kernel, by decide +kernel, by decide +kernel, by decide +kernel, by decide +kernel, by decide +kernel, by decide +kernel, by decide +kernel, by decide +kernel, by decide +kernel, by decide +kernel, by decide +kernel, by decide +kernel, by decide +kernel, by decide +kernel, by decide +kernel, by decide +kernel, by decide +kernel, by decide +kernel, by decide +kernel, by decide +kernel, by decide +kernel, by decide +kernel, by decide +kernel, by decide +kernel, by decide +kernel, by decide +kernel⟩
theorem dec_X1_init : decode cX1_init 0 = .ok (.aload_n 0, 1) ∧ decode cX1_init 1 = .ok (.invokespecial 3, 3) ∧ decode cX1_init 4 = .ok (.aload_n 0, 1) ∧ decode cX1_init 5 = .ok (.iconst 2, 1) ∧ decode cX1_init 6 = .ok (.anewarray 9, 3) ∧ decode cX1_init 9 = .ok (.putfield 11, 3) ∧ decode cX1_init 12 = .ok (.aload_n 0, 1) ∧ decode cX1_init 13 = .ok (.iconst 2, 1) ∧ decode cX1_init 14 = .ok (.newarray .int, 2) ∧ decode cX1_init 16 = .ok (.putfield 17, 3) ∧ decode cX1_init 19 = .ok (.aload_n 0, 1) ∧ decode cX1_init 20 = .ok (.iconst 2, 1) ∧ decode cX1_init 21 = .ok (.newarray .int, 2) ∧ decode cX1_init 23 = .ok (.putfield 21, 3) ∧ decode cX1_init 26 = .ok (.iconst 0, 1) ∧ decode cX1_init 27 = .ok (.istore_n 1, 1) ∧ decode cX1_init 28 = .ok (.iload_n 1, 1) ∧ decode cX1_init 29 = .ok (.iconst 2, 1) ∧ decode cX1_init 30 = .ok (.if_icmp .ge 36, 3) ∧ decode cX1_init 33 = .ok (.aload_n 0, 1) ∧ decode cX1_init 34 = .ok (.getfield 11, 3) ∧ decode cX1_init 37 = .ok (.iload_n 1, 1) ∧ decode cX1_init 38 = .ok (.new 9, 3) ∧ decode cX1_init 41 = .ok (.dup, 1) ∧ decode cX1_init 42 = .ok (.invokespecial 24, 3) ∧ decode cX1_init 45 = .ok (.aastore, 1) ∧ decode cX1_init 46 = .ok (.aload_n 0, 1) ∧ decode cX1_init 47 = .ok (.getfield 17, 3) ∧ decode cX1_init 50 = .ok (.iload_n 1, 1) ∧ decode cX1_init 51 = .ok (.iconst (-1), 1) ∧ decode cX1_init 52 = .ok (.iastore, 1) ∧ decode cX1_init 53 = .ok (.aload_n 0, 1) ∧ decode cX1_init 54 = .ok (.getfield 21, 3) ∧ decode cX1_init 57 = .ok (.iload_n 1, 1) ∧ decode cX1_init 58 = .ok (.iconst (-1), 1) ∧ decode cX1_init 59 = .ok (.iastore, 1) ∧ decode cX1_init 60 = .ok (.iinc 1 1, 3) ∧ decode cX1_init 63 = .ok (.goto (-35), 3) ∧ decode cX1_init 66 = .ok (.return_, 1) := ⟨by decide +kernel, by decide +kernel, by decide +kernel, by decide +kernel, by decide +kernel, by decide +kernel, by decide +kernel, by decide +kernel, by decide +kernel, by decide +kernel, by decide +kernel, by decide +kernel, by decide +kernel, by decide +kernel, by decide +kernel, by decide +kernel, by decide +kernel, by decide +kernel, by decide +kernel, by decide +kernel, by decide +kernel, by decide +kernel, by decide +kernel, by decide +kernel, by decide +kernel, by decide +kernel, by decide +kernel, by decide +kernel, by decide +kernel, by decide +kernel, by decide +kernel, by decide +kernel, by decide +kernel, by decide +kernel, by decide +kernel, by decide +kernel, by decide +kernel, by decide +kernel, by decide +kernel⟩
theorem dec_X2_init : decode cX2_init 0 = .ok (.aload_n 0, 1) ∧ decode cX2_init 1 = .ok (.invokespecial 1, 3) ∧ decode cX2_init 4 = .ok (.aload_n 0, 1) ∧ decode cX2_init 5 = .ok (.lconst 1, 1) ∧ decode cX2_init 6 = .ok (.putfield 7, 3) ∧ decode cX2_init 9 = .ok (.return_, 1) := ⟨by decide +kernel, by decide +kernel, by decide +kernel, by decide +kernel, by decide +kernel, by decide +kernel⟩
theorem dec_X2_next : decode cX2_next 0 = .ok (.aload_n 0, 1) ∧ decode cX2_next 1 = .ok (.aload_n 0, 1) ∧ decode cX2_next 2 = .ok (.getfield 7, 3) ∧ decode cX2_next 5 = .ok (.ldc2_w 13, 3) ∧ decode cX2_next 8 = .ok (.lmul, 1) ∧ decode cX2_next 9 = .ok (.ldc2_w 15, 3) ∧ decode cX2_next 12 = .ok (.lrem, 1) ∧ decode cX2_next 13 = .ok (.putfield 7, 3) ∧ decode cX2_next 16 = .ok (.iload_n 1, 1) ∧ decode cX2_next 17 = .ok (.iconst 1, 1) ∧ decode cX2_next 18 = .ok (.if_icmp .ge 7, 3) ∧ decode cX2_next 21 = .ok (.iconst 0, 1) ∧ decode cX2_next 22 = .ok (.goto 11, 3) ∧ decode cX2_next 25 = .ok (.aload_n 0, 1) ∧ decode cX2_next 26 = .ok (.getfield 7, 3) ∧ decode cX2_next 29 = .ok (.iload_n 1, 1) ∧ decode cX2_next 30 = .ok (.i2l, 1) ∧ decode cX2_next 31 = .ok (.lrem, 1) ∧ decode cX2_next 32 = .ok (.l2i, 1) ∧ decode cX2_next 33 = .ok (.ireturn, 1) := ⟨by decide +kernel, by decide +kernel, by decide +kernel, by decide +kernel, by decide +kernel, by decide +kernel, by decide +kernel, by decide +kernel, by decide +kernel, by decide +kernel, by decide +kernel, by decide +kernel, by decide +kernel, by decide +kernel, by decide +kernel, by decide +kernel, by decide +kernel, by decide +kernel, by decide +kernel, by decide +kernel⟩
theorem dec_X2_start : decode cX2_start 0 = .ok (.aload_n 0, 1) ∧ decode cX2_start 1 = .ok (.iload_n 1, 1) ∧ decode cX2_start 2 = .ok (.i2l, 1) ∧ decode cX2_start 3 = .ok (.putfield 7, 3) ∧ decode cX2_start 6 = .ok (.return_, 1) := ⟨by decide +kernel, by decide +kernel, by decide +kernel, by decide +kernel, by decide +kernel⟩
theorem dec_X3_init : decode cX3_init 0 = .ok (.aload_n 0, 1) ∧ decode cX3_init 1 = .ok (.invokespecial 1, 3) ∧ decode cX3_init 4 = .ok (.return_, 1) := ⟨by decide +kernel, by decide +kernel, by decide +kernel⟩
theorem dec_X4_count : decode cX4_count 0 = .ok (.aload_n 0, 1) ∧ decode cX4_count 1 = .ok (.dup, 1) ∧ decode cX4_count 2 = .ok (.getfield 21, 3) ∧ decode cX4_count 5 = .ok (.iconst 1, 1) ∧ decode cX4_count 6 = .ok (.iadd, 1) ∧ decode cX4_count 7 = .ok (.putfield 21, 3) ∧ decode cX4_count 10 = .ok (.aload_n 0, 1) ∧ decode cX4_count 11 = .ok (.iconst 0, 1) ∧ decode cX4_count 12 = .ok (.putfield 25, 3) ∧ decode cX4_count 15 = .ok (.iconst 0, 1) ∧ decode cX4_count 16 = .ok (.istore_n 2, 1) ∧ decode cX4_count 17 = .ok (.iconst 0, 1) ∧ decode cX4_count 18 = .ok (.istore_n 3, 1) ∧ decode cX4_count 19 = .ok (.iconst 0, 1) ∧ decode cX4_count 20 = .ok (.istore 4, 2) ∧ decode cX4_count 22 = .ok (.iload 4, 2) ∧ decode cX4_count 24 = .ok (.aload_n 1, 1) ∧ decode cX4_count 25 = .ok (.getfield 28, 3) ∧ decode cX4_count 28 = .ok (.if_icmp .ge 34, 3) ∧ decode cX4_count 31 = .ok (.iload_n 2, 1) ∧ decode cX4_count 32 = .ok (.iload 4, 2) ∧ decode cX4_count 34 = .ok (.iconst 3, 1) ∧ decode cX4_count 35 = .ok (.iload 4, 2) ∧ decode cX4_count 37 = .ok (.invokestatic 31, 3) ∧ decode cX4_count 40 = .ok (.istore_n 2, 1) ∧ decode cX4_count 41 = .ok (.iload_n 3, 1) ∧ decode cX4_count 42 = .ok (.iload 4, 2) ∧ decode cX4_count 44 = .ok (.iconst 5, 1) ∧ decode cX4_count 45 = .ok (.aload_n 1, 1) ∧ decode cX4_count 46 = .ok (.getfield 35, 3) ∧ decode cX4_count 49 = .ok (.iload 4, 2) ∧ decode cX4_count 51 = .ok (.iaload, 1) ∧ decode cX4_count 52 = .ok (.invokestatic 31, 3) ∧ decode cX4_count 55 = .ok (.istore_n 3, 1) ∧ decode cX4_count 56 = .ok (.iinc 4 1, 3) ∧ decode cX4_count 59 = .ok (.goto (-37), 3) ∧ decode cX4_count 62 = .ok (.aload_n 0, 1) ∧ decode cX4_count 63 = .ok (.iload_n 2, 1) ∧ decode cX4_count 64 = .ok (.iload_n 3, 1) ∧ decode cX4_count 65 = .ok (.aload_n 1, 1) ∧ decode cX4_count 66 = .ok (.getfield 28, 3) ∧ decode cX4_count 69 = .ok (.invokevirtual 36, 3) ∧ decode cX4_count 72 = .ok (.iconst 0, 1) ∧ decode cX4_count 73 = .ok (.istore 4, 2) ∧ decode cX4_count 75 = .ok (.iload 4, 2) ∧ decode cX4_count 77 = .ok (.aload_n 0, 1) ∧ decode cX4_count 78 = .ok (.getfield 25, 3) ∧ decode cX4_count 81 = .ok (.if_icmp .ge 46, 3) ∧ decode cX4_count 84 = .ok (.iload 4, 2) ∧ decode cX4_count 86 = .ok (.sipush 720, 3) ∧ decode cX4_count 89 = .ok (.if_icmp .ge 38, 3) ∧ decode cX4_count 92 = .ok (.iconst 0, 1) ∧ decode cX4_count 93 = .ok (.istore 5, 2) ∧ decode cX4_count 95 = .ok (.iload 5, 2) ∧ decode cX4_count 97 = .ok (.aload_n 1, 1) ∧ decode cX4_count 98 = .ok (.getfield 28, 3) ∧ decode cX4_count 101 = .ok (.iconst 1, 1) ∧ decode cX4_count 102 = .ok (.isub, 1) ∧ decode cX4_count 103 = .ok (.if_icmp .ge 18, 3) ∧ decode cX4_count 106 = .ok (.aload_n 0, 1) ∧ decode cX4_count 107 = .ok (.aload_n 1, 1) ∧ decode cX4_count 108 = .ok (.iload 4, 2) ∧ decode cX4_count 110 = .ok (.iload 5, 2) ∧ decode cX4_count 112 = .ok (.invokevirtual 40, 3) ∧ decode cX4_count 115 = .ok (.iinc 5 1, 3) ∧ decode cX4_count 118 = .ok (.goto (-23), 3) ∧ decode cX4_count 121 = .ok (.iinc 4 1, 3) ∧ decode cX4_count 124 = .ok (.goto (-49), 3) ∧ decode cX4_count 127 = .ok (.aload_n 0, 1) ∧ decode cX4_count 128 = .ok (.getfield 25, 3) ∧ decode cX4_count 131 = .ok (.ireturn, 1) := ⟨by decide +kernel, by decide +kernel, by decide +kernel, by decide +kernel, by decide +kernel, by decide +kernel, by decide +kernel, by decide +kernel, by decide +kernel, by decide +kernel, by decide +kernel, by decide +kernel, by decide +kernel, by decide +kernel, by decide +kernel, by decide +kernel, by decide +kernel, by decide +kernel, by decide +kernel, by decide +kernel, by decide +kernel, by decide +kernel, by decide +kernel, by decide +kernel, by decide +kernel, by decide +kernel, by decide +kernel, by decide +kernel, by decide +kernel, by decide +kernel, by decide +kernel, by decide +kernel, by decide +kernel, by decide +kernel, by decide +kernel, by decide +kernel, by decide +kernel, by decide +kernel, by decide +kernel, by decide +kernel, by decide +kernel, by decide +kernel, by decide +kernel, by decide +kernel, by decide +kernel, by decide +kernel, by decide +kernel, by decide +kernel, by decide +kernel, by decide +kernel, by decide +kernel, by decide +kernel, by decide +kernel, by decide +kernel, by decide +kernel, by decide +kernel, by decide +kernel, by decide +kernel, by decide +kernel, by decide +kernel, by decide +kernel, by decide +kernel, by decide +kernel, by decide +kernel, by decide +kernel, by decide +kernel, by decide +kernel, by decide +kernel, by decide +kernel, by decide +kernel, by decide +kernel⟩
theorem dec_X4_init : decode cX4_init 0 = .ok (.aload_n 0, 1) ∧ decode cX4_init 1 = .ok (.invokespecial 3, 3) ∧ decode cX4_init 4 = .ok (.aload_n 0, 1) ∧ decode cX4_init 5 = .ok (.sipush 720, 3) ∧ decode cX4_init 8 = .ok (.newarray .int, 2) ∧ decode cX4_init 10 = .ok (.putfield 9, 3) ∧ decode cX4_init 13 = .ok (.aload_n 0, 1) ∧ decode cX4_init 14 = .ok (.sipush 720, 3) ∧ decode cX4_init 17 = .ok (.newarray .int, 2) ∧ decode cX4_init 19 = .ok (.putfield 15, 3) ∧ decode cX4_init 22 = .ok (.aload_n 0, 1) ∧ decode cX4_init 23 = .ok (.sipush 720, 3) ∧ decode cX4_init 26 = .ok (.newarray .int, 2) ∧ decode cX4_init 28 = .ok (.putfield 18, 3) ∧ decode cX4_init 31 = .ok (.return_, 1) := ⟨by decide +kernel, by decide +kernel, by decide +kernel, by decide +kernel, by decide +kernel, by decide +kernel, by decide +kernel, by decide +kernel, by decide +kernel, by decide +kernel, by decide +kernel, by decide +kernel, by decide +kernel, by decide +kernel, by decide +kernel⟩
theorem dec_X4_lookRound : decode cX4_lookRound 0 = .ok (.aload_n 0, 1) ∧ decode cX4_lookRound 1 = .ok (.getfield 9, 3) ∧ decode cX4_lookRound 4 = .ok (.iload_n 2, 1) ∧ decode cX4_lookRound 5 = .ok (.iaload, 1) ∧ decode cX4_lookRound 6 = .ok (.iload_n 3, 1) ∧ decode cX4_lookRound 7 = .ok (.iconst 3, 1) ∧ decode cX4_lookRound 8 = .ok (.invokestatic 44, 3) ∧ decode cX4_lookRound 11 = .ok (.istore 4, 2) ∧ decode cX4_lookRound 13 = .ok (.aload_n 0, 1) ∧ decode cX4_lookRound 14 = .ok (.getfield 9, 3) ∧ decode cX4_lookRound 17 = .ok (.iload_n 2, 1) ∧ decode cX4_lookRound 18 = .ok (.iaload, 1) ∧ decode cX4_lookRound 19 = .ok (.iload_n 3, 1) ∧ decode cX4_lookRound 20 = .ok (.iconst 1, 1) ∧ decode cX4_lookRound 21 = .ok (.iadd, 1) ∧ decode cX4_lookRound 22 = .ok (.iconst 3, 1) ∧ decode cX4_lookRound 23 = .ok (.invokestatic 44, 3) ∧ decode cX4_lookRound 26 = .ok (.istore 5, 2) ∧ decode cX4_lookRound 28 = .ok (.aload_n 1, 1) ∧ decode cX4_lookRound 29 = .ok (.getfield 48, 3) ∧ decode cX4_lookRound 32 = .ok (.iload 4, 2) ∧ decode cX4_lookRound 34 = .ok (.iaload, 1) ∧ decode cX4_lookRound 35 = .ok (.aload_n 0, 1) ∧ decode cX4_lookRound 36 = .ok (.getfield 15, 3) ∧ decode cX4_lookRound 39 = .ok (.iload_n 2, 1) ∧ decode cX4_lookRound 40 = .ok (.iaload, 1) ∧ decode cX4_lookRound 41 = .ok (.iload_n 3, 1) ∧ decode cX4_lookRound 42 = .ok (.iconst 5, 1) ∧ decode cX4_lookRound 43 = .ok (.invokestatic 44, 3) ∧ decode cX4_lookRound 46 = .ok (.aload_n 1, 1) ∧ decode cX4_lookRound 47 = .ok (.getfield 48, 3) ∧ decode cX4_lookRound 50 = .ok (.iload 5, 2) ∧ decode cX4_lookRound 52 = .ok (.iaload, 1) ∧ decode cX4_lookRound 53 = .ok (.aload_n 0, 1) ∧ decode cX4_lookRound 54 = .ok (.getfield 15, 3) ∧ decode cX4_lookRound 57 = .ok (.iload_n 2, 1) ∧ decode cX4_lookRound 58 = .ok (.iaload, 1) ∧ decode cX4_lookRound 59 = .ok (.iload_n 3, 1) ∧ decode cX4_lookRound 60 = .ok (.iconst 1, 1) ∧ decode cX4_lookRound 61 = .ok (.iadd, 1) ∧ decode cX4_lookRound 62 = .ok (.iconst 5, 1) ∧ decode cX4_lookRound 63 = .ok (.invokestatic 44, 3) ∧ decode cX4_lookRound 66 = .ok (.invokestatic 51, 3) ∧ decode cX4_lookRound 69 = .ok (.istore 6, 2) ∧ decode cX4_lookRound 71 = .ok (.iload 6, 2) ∧ decode cX4_lookRound 73 = .ok (.iconst (-1), 1) ∧ decode cX4_lookRound 74 = .ok (.if_icmp .ne 4, 3) ∧ decode cX4_lookRound 77 = .ok (.return_, 1) ∧ decode cX4_lookRound 78 = .ok (.aload_n 0, 1) ∧ decode cX4_lookRound 79 = .ok (.getfield 9, 3) ∧ decode cX4_lookRound 82 = .ok (.iload_n 2, 1) ∧ decode cX4_lookRound 83 = .ok (.iaload, 1) ∧ decode cX4_lookRound 84 = .ok (.iload_n 3, 1) ∧ decode cX4_lookRound 85 = .ok (.iconst 3, 1) ∧ decode cX4_lookRound 86 = .ok (.iload 5, 2) ∧ decode cX4_lookRound 88 = .ok (.invokestatic 31, 3) ∧ decode cX4_lookRound 91 = .ok (.iload_n 3, 1) ∧ decode cX4_lookRound 92 = .ok (.iconst 1, 1) ∧ decode cX4_lookRound 93 = .ok (.iadd, 1) ∧ decode cX4_lookRound 94 = .ok (.iconst 3, 1) ∧ decode cX4_lookRound 95 = .ok (.iload 4, 2) ∧ decode cX4_lookRound 97 = .ok (.invokestatic 31, 3) ∧ decode cX4_lookRound 100 = .ok (.istore 7, 2) ∧ decode cX4_lookRound 102 = .ok (.aload_n 0, 1) ∧ decode cX4_lookRound 103 = .ok (.getfield 15, 3) ∧ decode cX4_lookRound 106 = .ok (.iload_n 2, 1) ∧ decode cX4_lookRound 107 = .ok (.iaload, 1) ∧ decode cX4_lookRound 108 = .ok (.iload_n 3, 1) ∧ decode cX4_lookRound 109 = .ok (.iconst 5, 1) ∧ decode cX4_lookRound 110 = .ok (.iload 6, 2) ∧ decode cX4_lookRound 112 = .ok (.bipush 100, 2) ∧ decode cX4_lookRound 114 = .ok (.idiv, 1) ∧ decode cX4_lookRound 115 = .ok (.invokestatic 31, 3) ∧ decode cX4_lookRound 118 = .ok (.iload_n 3, 1) ∧ decode cX4_lookRound 119 = .ok (.iconst 1, 1) ∧ decode cX4_lookRound 120 = .ok (.iadd, 1) ∧ decode cX4_lookRound 121 = .ok (.iconst 5, 1) ∧ decode cX4_lookRound 122 = .ok (.iload 6, 2) ∧ decode cX4_lookRound 124 = .ok (.bipush 100, 2) ∧ decode cX4_lookRound 126 = .ok (.irem, 1) ∧ decode cX4_lookRound 127 = .ok (.invokestatic 31, 3) ∧ decode cX4_lookRound 130 = .ok (.istore 8, 2) ∧ decode cX4_lookRound 132 = .ok (.aload_n 0, 1) ∧ decode cX4_lookRound 133 = .ok (.iload 7, 2) ∧ decode cX4_lookRound 135 = .ok (.iload 8, 2) ∧ decode cX4_lookRound 137 = .ok (.aload_n 1, 1) ∧ decode cX4_lookRound 138 = .ok (.getfield 28, 3) ∧ decode cX4_lookRound 141 = .ok (.invokevirtual 36, 3) ∧ decode cX4_lookRound 144 = .ok (.return_, 1) := ⟨by decide +kernel, by decide +kernel, by decide +kernel, by decide +kernel, by decide +kernel, by decide +kernel, by decide +kernel, by decide +kernel, by decide +kernel, by decide +kernel, by decide +kernel, by decide +kernel, by decide +kernel, by decide +kernel, by decide +kernel, by decide +kernel, by decide +kernel, by decide +kernel, by decide +kernel, by decide +kernel, by decide +kernel, by decide +kernel, by decide +kernel, by decide +kernel, by decide +kernel, by decide +kernel, by decide +kernel, by decide +kernel, by decide +kernel, by decide +kernel, by decide +kernel, by decide +kernel, by decide +kernel, by decide +kernel, by decide +kernel, by decide +kernel, by decide +kernel, by decide +kernel, by decide +kernel, by decide +kernel, by decide +kernel, by decide +kernel, by decide +kernel, by decide +kernel, by decide +kernel, by decide +kernel, by decide +kernel, by decide +kernel, by decide +kernel, by decide +kernel, by decide +kernel, by decide +kernel, by decide +kernel, by decide +kernel, by decide +kernel, by decide +kernel, by decide +kernel, by decide +kernel, by decide +kernel, by decide +kernel, by decide +kernel, by decide +kernel, by decide +kernel, by decide +kernel, by decide +kernel, by decide +kernel, by decide +kernel, by decide +kernel, by decide +kernel, by decide +kernel, by decide +kernel, by decide +kernel, by decide +kernel, by decide +kernel, by decide +kernel, by decide +kernel, by decide +kernel, by decide +kernel, by decide +kernel, by decide +kernel, by decide +kernel, by decide +kernel, by decide +kernel, by decide +kernel, by decide +kernel, by decide +kernel, by decide +kernel, by decide +kernel, by decide +kernel⟩
theorem dec_X4_note : decode cX4_note 0 = .ok (.iload_n 1, 1) ∧ decode cX4_note 1 = .ok (.iload_n 3, 1) ∧ decode cX4_note 2 = .ok (.invokestatic 54, 3) ∧ decode cX4_note 5 = .ok (.istore 4, 2) ∧ decode cX4_note 7 = .ok (.iload 4, 2) ∧ decode cX4_note 9 = .ok (.ifCond .lt 35, 3) ∧ decode cX4_note 12 = .ok (.iload 4, 2) ∧ decode cX4_note 14 = .ok (.sipush 720, 3) ∧ decode cX4_note 17 = .ok (.if_icmp .ge 27, 3) ∧ decode cX4_note 20 = .ok (.aload_n 0, 1) ∧ decode cX4_note 21 = .ok (.getfield 25, 3) ∧ decode cX4_note 24 = .ok (.sipush 720, 3) ∧ decode cX4_note 27 = .ok (.if_icmp .ge 17, 3) ∧ decode cX4_note 30 = .ok (.aload_n 0, 1) ∧ decode cX4_note 31 = .ok (.getfield 18, 3) ∧ decode cX4_note 34 = .ok (.iload 4, 2) ∧ decode cX4_note 36 = .ok (.iaload, 1) ∧ decode cX4_note 37 = .ok (.aload_n 0, 1) ∧ decode cX4_note 38 = .ok (.getfield 21, 3) ∧ decode cX4_note 41 = .ok (.if_icmp .ne 4, 3) ∧ decode cX4_note 44 = .ok (.return_, 1) ∧ decode cX4_note 45 = .ok (.aload_n 0, 1) ∧ decode cX4_note 46 = .ok (.getfield 18, 3) ∧ decode cX4_note 49 = .ok (.iload 4, 2) ∧ decode cX4_note 51 = .ok (.aload_n 0, 1) ∧ decode cX4_note 52 = .ok (.getfield 21, 3) ∧ decode cX4_note 55 = .ok (.iastore, 1) ∧ decode cX4_note 56 = .ok (.aload_n 0, 1) ∧ decode cX4_note 57 = .ok (.getfield 9, 3) ∧ decode cX4_note 60 = .ok (.aload_n 0, 1) ∧ decode cX4_note 61 = .ok (.getfield 25, 3) ∧ decode cX4_note 64 = .ok (.iload_n 1, 1) ∧ decode cX4_note 65 = .ok (.iastore, 1) ∧ decode cX4_note 66 = .ok (.aload_n 0, 1) ∧ decode cX4_note 67 = .ok (.getfield 15, 3) ∧ decode cX4_note 70 = .ok (.aload_n 0, 1) ∧ decode cX4_note 71 = .ok (.getfield 25, 3) ∧ decode cX4_note 74 = .ok (.iload_n 2, 1) ∧ decode cX4_note 75 = .ok (.iastore, 1) ∧ decode cX4_note 76 = .ok (.aload_n 0, 1) ∧ decode cX4_note 77 = .ok (.dup, 1) ∧ decode cX4_note 78 = .ok (.getfield 25, 3) ∧ decode cX4_note 81 = .ok (.iconst 1, 1) ∧ decode cX4_note 82 = .ok (.iadd, 1) ∧ decode cX4_note 83 = .ok (.putfield 25, 3) ∧ decode cX4_note 86 = .ok (.return_, 1) := ⟨by decide +kernel, by decide +kernel, by decide +kernel, by decide +kernel, by decide +kernel, by decide +kernel, by decide +kernel, by decide +kernel, by decide +kernel, by decide +kernel, by decide +kernel, by decide +kernel, by decide +kernel, by decide +kernel, by decide +kernel, by decide +kernel, by decide +kernel, by decide +kernel, by decide +kernel, by decide +kernel, by decide +kernel, by decide +kernel, by decide +kernel, by decide +kernel, by decide +kernel, by decide +kernel, by decide +kernel, by decide +kernel, by decide +kernel, by decide +kernel, by decide +kernel, by decide +kernel, by decide +kernel, by decide +kernel, by decide +kernel, by decide +kernel, by decide +kernel, by decide +kernel, by decide +kernel, by decide +kernel, by decide +kernel, by decide +kernel, by decide +kernel, by decide +kernel, by decide +kernel, by decide +kernel⟩
theorem dec_X4_part : decode cX4_part 0 = .ok (.iload_n 0, 1) ∧ decode cX4_part 1 = .ok (.iload_n 1, 1) ∧ decode cX4_part 2 = .ok (.iload_n 2, 1) ∧ decode cX4_part 3 = .ok (.imul, 1) ∧ decode cX4_part 4 = .ok (.ishr, 1) ∧ decode cX4_part 5 = .ok (.iconst 1, 1) ∧ decode cX4_part 6 = .ok (.iload_n 2, 1) ∧ decode cX4_part 7 = .ok (.ishl, 1) ∧ decode cX4_part 8 = .ok (.iconst 1, 1) ∧ decode cX4_part 9 = .ok (.isub, 1) ∧ decode cX4_part 10 = .ok (.iand, 1) ∧ decode cX4_part 11 = .ok (.ireturn, 1) := ⟨by decide +kernel, by decide +kernel, by decide +kernel, by decide +kernel, by decide +kernel, by decide +kernel, by decide +kernel, by decide +kernel, by decide +kernel, by decide +kernel, by decide +kernel, by decide +kernel⟩
theorem dec_X4_rankOf : decode cX4_rankOf 0 = .ok (.iconst 0, 1) ∧ decode cX4_rankOf 1 = .ok (.istore_n 2, 1) ∧ decode cX4_rankOf 2 = .ok (.iconst 0, 1) ∧ decode cX4_rankOf 3 = .ok (.istore_n 3, 1) ∧ decode cX4_rankOf 4 = .ok (.iload_n 3, 1) ∧ decode cX4_rankOf 5 = .ok (.iload_n 1, 1) ∧ decode cX4_rankOf 6 = .ok (.if_icmp .ge 57, 3) ∧ decode cX4_rankOf 9 = .ok (.iconst 0, 1) ∧ decode cX4_rankOf 10 = .ok (.istore 4, 2) ∧ decode cX4_rankOf 12 = .ok (.iload_n 3, 1) ∧ decode cX4_rankOf 13 = .ok (.iconst 1, 1) ∧ decode cX4_rankOf 14 = .ok (.iadd, 1) ∧ decode cX4_rankOf 15 = .ok (.istore 5, 2) ∧ decode cX4_rankOf 17 = .ok (.iload 5, 2) ∧ decode cX4_rankOf 19 = .ok (.iload_n 1, 1) ∧ decode cX4_rankOf 20 = .ok (.if_icmp .ge 28, 3) ∧ decode cX4_rankOf 23 = .ok (.iload_n 0, 1) ∧ decode cX4_rankOf 24 = .ok (.iload 5, 2) ∧ decode cX4_rankOf 26 = .ok (.iconst 3, 1) ∧ decode cX4_rankOf 27 = .ok (.invokestatic 44, 3) ∧ decode cX4_rankOf 30 = .ok (.iload_n 0, 1) ∧ decode cX4_rankOf 31 = .ok (.iload_n 3, 1) ∧ decode cX4_rankOf 32 = .ok (.iconst 3, 1) ∧ decode cX4_rankOf 33 = .ok (.invokestatic 44, 3) ∧ decode cX4_rankOf 36 = .ok (.if_icmp .ge 6, 3) ∧ decode cX4_rankOf 39 = .ok (.iinc 4 1, 3) ∧ decode cX4_rankOf 42 = .ok (.iinc 5 1, 3) ∧ decode cX4_rankOf 45 = .ok (.goto (-28), 3) ∧ decode cX4_rankOf 48 = .ok (.iload_n 2, 1) ∧ decode cX4_rankOf 49 = .ok (.iload_n 1, 1) ∧ decode cX4_rankOf 50 = .ok (.iload_n 3, 1) ∧ decode cX4_rankOf 51 = .ok (.isub, 1) ∧ decode cX4_rankOf 52 = .ok (.imul, 1) ∧ decode cX4_rankOf 53 = .ok (.iload 4, 2) ∧ decode cX4_rankOf 55 = .ok (.iadd, 1) ∧ decode cX4_rankOf 56 = .ok (.istore_n 2, 1) ∧ decode cX4_rankOf 57 = .ok (.iinc 3 1, 3) ∧ decode cX4_rankOf 60 = .ok (.goto (-56), 3) ∧ decode cX4_rankOf 63 = .ok (.iload_n 2, 1) ∧ decode cX4_rankOf 64 = .ok (.ireturn, 1) := ⟨by decide +kernel, by decide +kernel, by decide +kernel, by decide +kernel, by decide +kernel, by decide +kernel, by decide +kernel, by decide +kernel, by decide +kernel, by decide +kernel, by decide +kernel, by decide +kernel, by decide +kernel, by decide +kernel, by decide +kernel, by decide +kernel, by decide +kernel, by decide +kernel, by decide +kernel, by decide +kernel, by decide +kernel, by decide +kernel, by decide +kernel, by decide +kernel, by decide +kernel, by decide +kernel, by decide +kernel, by decide +kernel, by decide +kernel, by decide +kernel, by decide +kernel, by decide +kernel, by decide +kernel, by decide +kernel, by decide +kernel, by decide +kernel, by decide +kernel, by decide +kernel, by decide +kernel, by decide +kernel⟩
theorem dec_X4_with : decode cX4_with 0 = .ok (.iload_n 0, 1) ∧ decode cX4_with 1 = .ok (.iconst 1, 1) ∧ decode cX4_with 2 = .ok (.iload_n 2, 1) ∧ decode cX4_with 3 = .ok (.ishl, 1) ∧ decode cX4_with 4 = .ok (.iconst 1, 1) ∧ decode cX4_with 5 = .ok (.isub, 1) ∧ decode cX4_with 6 = .ok (.iload_n 1, 1) ∧ decode cX4_with 7 = .ok (.iload_n 2, 1) ∧ decode cX4_with 8 = .ok (.imul, 1) ∧ decode cX4_with 9 = .ok (.ishl, 1) ∧ decode cX4_with 10 = .ok (.iconst (-1), 1) ∧ decode cX4_with 11 = .ok (.ixor, 1) ∧ decode cX4_with 12 = .ok (.iand, 1) ∧ decode cX4_with 13 = .ok (.iload_n 3, 1) ∧ decode cX4_with 14 = .ok (.iload_n 1, 1) ∧ decode cX4_with 15 = .ok (.iload_n 2, 1) ∧ decode cX4_with 16 = .ok (.imul, 1) ∧ decode cX4_with 17 = .ok (.ishl, 1) ∧ decode cX4_with 18 = .ok (.ior, 1) ∧ decode cX4_with 19 = .ok (.ireturn, 1) := ⟨by decide +kernel, by decide +kernel, by decide +kernel, by decide +kernel, by decide +kernel, by decide +kernel, by decide +kernel, by decide +kernel, by decide +kernel, by decide +kernel, by decide +kernel, by decide +kernel, by decide +kernel, by decide +kernel, by decide +kernel, by decide +kernel, by decide +kernel, by decide +kernel, by decide +kernel, by decide +kernel⟩
theorem dec_X5_init : decode cX5_init 0 = .ok (.aload_n 0, 1) ∧ decode cX5_init 1 = .ok (.invokespecial 3, 3) ∧ decode cX5_init 4 = .ok (.aload_n 0, 1) ∧ decode cX5_init 5 = .ok (.bipush 8, 2) ∧ decode cX5_init 7 = .ok (.anewarray 9, 3) ∧ decode cX5_init 10 = .ok (.putfield 11, 3) ∧ decode cX5_init 13 = .ok (.iconst 0, 1) ∧ decode cX5_init 14 = .ok (.istore_n 1, 1) ∧ decode cX5_init 15 = .ok (.iload_n 1, 1) ∧ decode cX5_init 16 = .ok (.bipush 8, 2) ∧ decode cX5_init 18 = .ok (.if_icmp .ge 22, 3) ∧ decode cX5_init 21 = .ok (.aload_n 0, 1) ∧ decode cX5_init 22 = .ok (.getfield 11, 3) ∧ decode cX5_init 25 = .ok (.iload_n 1, 1) ∧ decode cX5_init 26 = .ok (.new 9, 3) ∧ decode cX5_init 29 = .ok (.dup, 1) ∧ decode cX5_init 30 = .ok (.invokespecial 17, 3) ∧ decode cX5_init 33 = .ok (.aastore, 1) ∧ decode cX5_init 34 = .ok (.iinc 1 1, 3) ∧ decode cX5_init 37 = .ok (.goto (-22), 3) ∧ decode cX5_init 40 = .ok (.return_, 1) := ⟨by decide +kernel, by decide +kernel, by decide +kernel, by decide +kernel, by decide +kernel, by decide +kernel, by decide +kernel, by decide +kernel, by decide +kernel, by decide +kernel, by decide +kernel, by decide +kernel, by decide +kernel, by decide +kernel, by decide +kernel, by decide +kernel, by decide +kernel, by decide +kernel, by decide +kernel, by decide +kernel, by decide +kernel⟩
theorem dec_X5_pop : decode cX5_pop 0 = .ok (.aload_n 0, 1) ∧ decode cX5_pop 1 = .ok (.getfield 26, 3) ∧ decode cX5_pop 4 = .ok (.ifCond .ne 4, 3) ∧ decode cX5_pop 7 = .ok (.return_, 1) ∧ decode cX5_pop 8 = .ok (.aload_n 0, 1) ∧ decode cX5_pop 9 = .ok (.aload_n 0, 1) ∧ decode cX5_pop 10 = .ok (.getfield 18, 3) ∧ decode cX5_pop 13 = .ok (.bipush 8, 2) ∧ decode cX5_pop 15 = .ok (.iadd, 1) ∧ decode cX5_pop 16 = .ok (.iconst 1, 1) ∧ decode cX5_pop 17 = .ok (.isub, 1) ∧ decode cX5_pop 18 = .ok (.bipush 8, 2) ∧ decode cX5_pop 20 = .ok (.irem, 1) ∧ decode cX5_pop 21 = .ok (.putfield 18, 3) ∧ decode cX5_pop 24 = .ok (.aload_n 1, 1) ∧ decode cX5_pop 25 = .ok (.aload_n 0, 1) ∧ decode cX5_pop 26 = .ok (.getfield 11, 3) ∧ decode cX5_pop 29 = .ok (.aload_n 0, 1) ∧ decode cX5_pop 30 = .ok (.getfield 18, 3) ∧ decode cX5_pop 33 = .ok (.aaload, 1) ∧ decode cX5_pop 34 = .ok (.invokevirtual 22, 3) ∧ decode cX5_pop 37 = .ok (.aload_n 0, 1) ∧ decode cX5_pop 38 = .ok (.dup, 1) ∧ decode cX5_pop 39 = .ok (.getfield 26, 3) ∧ decode cX5_pop 42 = .ok (.iconst 1, 1) ∧ decode cX5_pop 43 = .ok (.isub, 1) ∧ decode cX5_pop 44 = .ok (.putfield 26, 3) ∧ decode cX5_pop 47 = .ok (.return_, 1) := ⟨by decide +kernel, by decide +kernel, by decide +kernel, by decide +kernel, by decide +kernel, by decide +kernel, by decide +kernel, by decide +kernel, by decide +kernel, by decide +kernel, by decide +kernel, by decide +kernel, by decide +kernel, by decide +kernel, by decide +kernel, by decide +kernel, by decide +kernel, by decide +kernel, by decide +kernel, by decide +kernel, by decide +kernel, by decide +kernel, by decide +kernel, by decide +kernel, by decide +kernel, by decide +kernel, by decide +kernel, by decide +kernel⟩
theorem dec_X5_push : decode cX5_push 0 = .ok (.aload_n 0, 1) ∧ decode cX5_push 1 = .ok (.getfield 11, 3) ∧ decode cX5_push 4 = .ok (.aload_n 0, 1) ∧ decode cX5_push 5 = .ok (.getfield 18, 3) ∧ decode cX5_push 8 = .ok (.aaload, 1) ∧ decode cX5_push 9 = .ok (.aload_n 1, 1) ∧ decode cX5_push 10 = .ok (.invokevirtual 22, 3) ∧ decode cX5_push 13 = .ok (.aload_n 0, 1) ∧ decode cX5_push 14 = .ok (.aload_n 0, 1) ∧ decode cX5_push 15 = .ok (.getfield 18, 3) ∧ decode cX5_push 18 = .ok (.iconst 1, 1) ∧ decode cX5_push 19 = .ok (.iadd, 1) ∧ decode cX5_push 20 = .ok (.bipush 8, 2) ∧ decode cX5_push 22 = .ok (.irem, 1) ∧ decode cX5_push 23 = .ok (.putfield 18, 3) ∧ decode cX5_push 26 = .ok (.aload_n 0, 1) ∧ decode cX5_push 27 = .ok (.aload_n 0, 1) ∧ decode cX5_push 28 = .ok (.getfield 26, 3) ∧ decode cX5_push 31 = .ok (.iconst 1, 1) ∧ decode cX5_push 32 = .ok (.iadd, 1) ∧ decode cX5_push 33 = .ok (.bipush 8, 2) ∧ decode cX5_push 35 = .ok (.invokestatic 29, 3) ∧ decode cX5_push 38 = .ok (.putfield 26, 3) ∧ decode cX5_push 41 = .ok (.return_, 1) := ⟨by decide +kernel, by decide +kernel, by decide +kernel, by decide +kernel, by decide +kernel, by decide +kernel, by decide +kernel, by decide +kernel, by decide +kernel, by decide +kernel, by decide +kernel, by decide +kernel, by decide +kernel, by decide +kernel, by decide +kernel, by decide +kernel, by decide +kernel, by decide +kernel, by decide +kernel, by decide +kernel, by decide +kernel, by decide +kernel, by decide +kernel, by decide +kernel⟩
theorem dec_X6_fits : decode cX6_fits 0 = .ok (.aload_n 0, 1) ∧ decode cX6_fits 1 = .ok (.getfield 37, 3) ∧ decode cX6_fits 4 = .ok (.istore_n 2, 1) ∧ decode cX6_fits 5 = .ok (.iload_n 2, 1) ∧ decode cX6_fits 6 = .ok (.aload_n 0, 1) ∧ decode cX6_fits 7 = .ok (.getfield 37, 3) ∧ decode cX6_fits 10 = .ok (.aload_n 0, 1) ∧ decode cX6_fits 11 = .ok (.getfield 48, 3) ∧ decode cX6_fits 14 = .ok (.iadd, 1) ∧ decode cX6_fits 15 = .ok (.if_icmp .ge 76, 3) ∧ decode cX6_fits 18 = .ok (.aload_n 1, 1) ∧ decode cX6_fits 19 = .ok (.aload_n 0, 1) ∧ decode cX6_fits 20 = .ok (.getfield 18, 3) ∧ decode cX6_fits 23 = .ok (.getfield 54, 3) ∧ decode cX6_fits 26 = .ok (.iload_n 2, 1) ∧ decode cX6_fits 27 = .ok (.iaload, 1) ∧ decode cX6_fits 28 = .ok (.aload_n 0, 1) ∧ decode cX6_fits 29 = .ok (.getfield 18, 3) ∧ decode cX6_fits 32 = .ok (.getfield 57, 3) ∧ decode cX6_fits 35 = .ok (.iload_n 2, 1) ∧ decode cX6_fits 36 = .ok (.iaload, 1) ∧ decode cX6_fits 37 = .ok (.aload_n 0, 1) ∧ decode cX6_fits 38 = .ok (.getfield 18, 3) ∧ decode cX6_fits 41 = .ok (.getfield 76, 3) ∧ decode cX6_fits 44 = .ok (.iload_n 2, 1) ∧ decode cX6_fits 45 = .ok (.iaload, 1) ∧ decode cX6_fits 46 = .ok (.invokevirtual 79, 3) ∧ decode cX6_fits 49 = .ok (.ifCond .ne 5, 3) ∧ decode cX6_fits 52 = .ok (.iconst 0, 1) ∧ decode cX6_fits 53 = .ok (.ireturn, 1) ∧ decode cX6_fits 54 = .ok (.aload_n 1, 1) ∧ decode cX6_fits 55 = .ok (.aload_n 0, 1) ∧ decode cX6_fits 56 = .ok (.getfield 18, 3) ∧ decode cX6_fits 59 = .ok (.getfield 54, 3) ∧ decode cX6_fits 62 = .ok (.iload_n 2, 1) ∧ decode cX6_fits 63 = .ok (.iaload, 1) ∧ decode cX6_fits 64 = .ok (.aload_n 0, 1) ∧ decode cX6_fits 65 = .ok (.getfield 18, 3) ∧ decode cX6_fits 68 = .ok (.getfield 57, 3) ∧ decode cX6_fits 71 = .ok (.iload_n 2, 1) ∧ decode cX6_fits 72 = .ok (.iaload, 1) ∧ decode cX6_fits 73 = .ok (.aload_n 0, 1) ∧ decode cX6_fits 74 = .ok (.getfield 18, 3) ∧ decode cX6_fits 77 = .ok (.getfield 76, 3) ∧ decode cX6_fits 80 = .ok (.iload_n 2, 1) ∧ decode cX6_fits 81 = .ok (.iaload, 1) ∧ decode cX6_fits 82 = .ok (.invokevirtual 85, 3) ∧ decode cX6_fits 85 = .ok (.iinc 2 1, 3) ∧ decode cX6_fits 88 = .ok (.goto (-83), 3) ∧ decode cX6_fits 91 = .ok (.iconst 1, 1) ∧ decode cX6_fits 92 = .ok (.ireturn, 1) := ⟨by decide +kernel, by decide +kernel, by decide +kernel, by decide +kernel, by decide +kernel, by decide +kernel, by decide +kernel, by decide +kernel, by decide +kernel, by decide +kernel, by decide +kernel, by decide +kernel, by decide +kernel, by decide +kernel, by decide +kernel, by decide +kernel, by decide +kernel, by decide +kernel, by decide +kernel, by decide +kernel, by decide +kernel, by decide +kernel, by decide +kernel, by decide +kernel, by decide +kernel, by decide +kernel, by decide +kernel, by decide +kernel, by decide +kernel, by decide +kernel, by decide +kernel, by decide +kernel, by decide +kernel, by decide +kernel, by decide +kernel, by decide +kernel, by decide +kernel, by decide +kernel, by decide +kernel, by decide +kernel, by decide +kernel, by decide +kernel, by decide +kernel, by decide +kernel, by decide +kernel, by decide +kernel, by decide +kernel, by decide +kernel, by decide +kernel, by decide +kernel, by decide +kernel⟩
theorem dec_X6_giveTo : decode cX6_giveTo 0 = .ok (.aload_n 1, 1) ∧ decode cX6_giveTo 1 = .ok (.aload_n 0, 1) ∧ decode cX6_giveTo 2 = .ok (.getfield 12, 3) ∧ decode cX6_giveTo 5 = .ok (.invokevirtual 29, 3) ∧ decode cX6_giveTo 8 = .ok (.aload_n 0, 1) ∧ decode cX6_giveTo 9 = .ok (.getfield 37, 3) ∧ decode cX6_giveTo 12 = .ok (.istore_n 2, 1) ∧ decode cX6_giveTo 13 = .ok (.iload_n 2, 1) ∧ decode cX6_giveTo 14 = .ok (.aload_n 0, 1) ∧ decode cX6_giveTo 15 = .ok (.getfield 37, 3) ∧ decode cX6_giveTo 18 = .ok (.aload_n 0, 1) ∧ decode cX6_giveTo 19 = .ok (.getfield 48, 3) ∧ decode cX6_giveTo 22 = .ok (.iadd, 1) ∧ decode cX6_giveTo 23 = .ok (.if_icmp .ge 49, 3) ∧ decode cX6_giveTo 26 = .ok (.aload_n 1, 1) ∧ decode cX6_giveTo 27 = .ok (.aload_n 0, 1) ∧ decode cX6_giveTo 28 = .ok (.getfield 18, 3) ∧ decode cX6_giveTo 31 = .ok (.getfield 73, 3) ∧ decode cX6_giveTo 34 = .ok (.iload_n 2, 1) ∧ decode cX6_giveTo 35 = .ok (.iaload, 1) ∧ decode cX6_giveTo 36 = .ok (.aload_n 0, 1) ∧ decode cX6_giveTo 37 = .ok (.getfield 18, 3) ∧ decode cX6_giveTo 40 = .ok (.getfield 54, 3) ∧ decode cX6_giveTo 43 = .ok (.iload_n 2, 1) ∧ decode cX6_giveTo 44 = .ok (.iaload, 1) ∧ decode cX6_giveTo 45 = .ok (.aload_n 0, 1) ∧ decode cX6_giveTo 46 = .ok (.getfield 18, 3) ∧ decode cX6_giveTo 49 = .ok (.getfield 57, 3) ∧ decode cX6_giveTo 52 = .ok (.iload_n 2, 1) ∧ decode cX6_giveTo 53 = .ok (.iaload, 1) ∧ decode cX6_giveTo 54 = .ok (.aload_n 0, 1) ∧ decode cX6_giveTo 55 = .ok (.getfield 18, 3) ∧ decode cX6_giveTo 58 = .ok (.getfield 76, 3) ∧ decode cX6_giveTo 61 = .ok (.iload_n 2, 1) ∧ decode cX6_giveTo 62 = .ok (.iaload, 1) ∧ decode cX6_giveTo 63 = .ok (.invokevirtual 89, 3) ∧ decode cX6_giveTo 66 = .ok (.iinc 2 1, 3) ∧ decode cX6_giveTo 69 = .ok (.goto (-56), 3) ∧ decode cX6_giveTo 72 = .ok (.return_, 1) := ⟨by decide +kernel, by decide +kernel, by decide +kernel, by decide +kernel, by decide +kernel, by decide +kernel, by decide +kernel, by decide +kernel, by decide +kernel, by decide +kernel, by decide +kernel, by decide +kernel, by decide +kernel, by decide +kernel, by decide +kernel, by decide +kernel, by decide +kernel, by decide +kernel, by decide +kernel, by decide +kernel, by decide +kernel, by decide +kernel, by decide +kernel, by decide +kernel, by decide +kernel, by decide +kernel, by decide +kernel, by decide +kernel, by decide +kernel, by decide +kernel, by decide +kernel, by decide +kernel, by decide +kernel, by decide +kernel, by decide +kernel, by decide +kernel, by decide +kernel, by decide +kernel, by decide +kernel⟩
theorem dec_X6_goPast : decode cX6_goPast 0 = .ok (.aload_n 0, 1) ∧ decode cX6_goPast 1 = .ok (.getfield 12, 3) ∧ decode cX6_goPast 4 = .ok (.getfield 57, 3) ∧ decode cX6_goPast 7 = .ok (.iconst 0, 1) ∧ decode cX6_goPast 8 = .ok (.aload_n 0, 1) ∧ decode cX6_goPast 9 = .ok (.getfield 21, 3) ∧ decode cX6_goPast 12 = .ok (.iconst 0, 1) ∧ decode cX6_goPast 13 = .ok (.aload_n 0, 1) ∧ decode cX6_goPast 14 = .ok (.getfield 12, 3) ∧ decode cX6_goPast 17 = .ok (.getfield 51, 3) ∧ decode cX6_goPast 20 = .ok (.invokestatic 60, 3) ∧ decode cX6_goPast 23 = .ok (.aload_n 0, 1) ∧ decode cX6_goPast 24 = .ok (.getfield 37, 3) ∧ decode cX6_goPast 27 = .ok (.istore_n 1, 1) ∧ decode cX6_goPast 28 = .ok (.iload_n 1, 1) ∧ decode cX6_goPast 29 = .ok (.aload_n 0, 1) ∧ decode cX6_goPast 30 = .ok (.getfield 37, 3) ∧ decode cX6_goPast 33 = .ok (.aload_n 0, 1) ∧ decode cX6_goPast 34 = .ok (.getfield 48, 3) ∧ decode cX6_goPast 37 = .ok (.iadd, 1) ∧ decode cX6_goPast 38 = .ok (.if_icmp .ge 109, 3) ∧ decode cX6_goPast 41 = .ok (.aload_n 0, 1) ∧ decode cX6_goPast 42 = .ok (.getfield 37, 3) ∧ decode cX6_goPast 45 = .ok (.istore_n 2, 1) ∧ decode cX6_goPast 46 = .ok (.iload_n 2, 1) ∧ decode cX6_goPast 47 = .ok (.aload_n 0, 1) ∧ decode cX6_goPast 48 = .ok (.getfield 12, 3) ∧ decode cX6_goPast 51 = .ok (.getfield 51, 3) ∧ decode cX6_goPast 54 = .ok (.if_icmp .ge 87, 3) ∧ decode cX6_goPast 57 = .ok (.aload_n 0, 1) ∧ decode cX6_goPast 58 = .ok (.getfield 12, 3) ∧ decode cX6_goPast 61 = .ok (.getfield 54, 3) ∧ decode cX6_goPast 64 = .ok (.iload_n 2, 1) ∧ decode cX6_goPast 65 = .ok (.iaload, 1) ∧ decode cX6_goPast 66 = .ok (.invokestatic 66, 3) ∧ decode cX6_goPast 69 = .ok (.aload_n 0, 1) ∧ decode cX6_goPast 70 = .ok (.getfield 21, 3) ∧ decode cX6_goPast 73 = .ok (.iload_n 2, 1) ∧ decode cX6_goPast 74 = .ok (.iaload, 1) ∧ decode cX6_goPast 75 = .ok (.aload_n 0, 1) ∧ decode cX6_goPast 76 = .ok (.getfield 18, 3) ∧ decode cX6_goPast 79 = .ok (.getfield 54, 3) ∧ decode cX6_goPast 82 = .ok (.iload_n 1, 1) ∧ decode cX6_goPast 83 = .ok (.iaload, 1) ∧ decode cX6_goPast 84 = .ok (.aload_n 0, 1) ∧ decode cX6_goPast 85 = .ok (.getfield 18, 3) ∧ decode cX6_goPast 88 = .ok (.getfield 57, 3) ∧ decode cX6_goPast 91 = .ok (.iload_n 1, 1) ∧ decode cX6_goPast 92 = .ok (.iaload, 1) ∧ decode cX6_goPast 93 = .ok (.invokestatic 69, 3) ∧ decode cX6_goPast 96 = .ok (.istore_n 3, 1) ∧ decode cX6_goPast 97 = .ok (.iload_n 3, 1) ∧ decode cX6_goPast 98 = .ok (.iconst (-1), 1) ∧ decode cX6_goPast 99 = .ok (.if_icmp .ne 13, 3) ∧ decode cX6_goPast 102 = .ok (.aload_n 0, 1) ∧ decode cX6_goPast 103 = .ok (.getfield 12, 3) ∧ decode cX6_goPast 106 = .ok (.getfield 73, 3) ∧ decode cX6_goPast 109 = .ok (.iload_n 2, 1) ∧ decode cX6_goPast 110 = .ok (.iaload, 1) ∧ decode cX6_goPast 111 = .ok (.ireturn, 1) ∧ decode cX6_goPast 112 = .ok (.aload_n 0, 1) ∧ decode cX6_goPast 113 = .ok (.getfield 18, 3) ∧ decode cX6_goPast 116 = .ok (.getfield 57, 3) ∧ decode cX6_goPast 119 = .ok (.iload_n 1, 1) ∧ decode cX6_goPast 120 = .ok (.iload_n 3, 1) ∧ decode cX6_goPast 121 = .ok (.bipush 100, 2) ∧ decode cX6_goPast 123 = .ok (.idiv, 1) ∧ decode cX6_goPast 124 = .ok (.iastore, 1) ∧ decode cX6_goPast 125 = .ok (.aload_n 0, 1) ∧ decode cX6_goPast 126 = .ok (.getfield 21, 3) ∧ decode cX6_goPast 129 = .ok (.iload_n 2, 1) ∧ decode cX6_goPast 130 = .ok (.iload_n 3, 1) ∧ decode cX6_goPast 131 = .ok (.bipush 100, 2) ∧ decode cX6_goPast 133 = .ok (.irem, 1) ∧ decode cX6_goPast 134 = .ok (.iastore, 1) ∧ decode cX6_goPast 135 = .ok (.iinc 2 1, 3) ∧ decode cX6_goPast 138 = .ok (.goto (-92), 3) ∧ decode cX6_goPast 141 = .ok (.iinc 1 1, 3) ∧ decode cX6_goPast 144 = .ok (.goto (-116), 3) ∧ decode cX6_goPast 147 = .ok (.iconst (-1), 1) ∧ decode cX6_goPast 148 = .ok (.ireturn, 1) := ⟨by decide +kernel, by decide +kernel, by decide +kernel, by decide +kernel, by decide +kernel, by decide +kernel, by decide +kernel, by decide +kernel, by decide +kernel, by decide +kernel, by decide +kernel, by decide +kernel, by decide +kernel, by decide +kernel, by decide +kernel, by decide +kernel, by decide +kernel, by decide +kernel, by decide +kernel, by decide +kernel, by decide +kernel, by decide +kernel, by decide +kernel, by decide +kernel, by decide +kernel, by decide +kernel, by decide +kernel, by decide +kernel, by decide +kernel, by decide +kernel, by decide +kernel, by decide +kernel, by decide +kernel, by decide +kernel, by decide +kernel, by decide +kernel, by decide +kernel, by decide +kernel, by decide +kernel, by decide +kernel, by decide +kernel, by decide +kernel, by decide +kernel, by decide +kernel, by decide +kernel, by decide +kernel, by decide +kernel, by decide +kernel, by decide +kernel, by decide +kernel, by decide +kernel, by decide +kernel, by decide +kernel, by decide +kernel, by decide +kernel, by decide +kernel, by decide +kernel, by decide +kernel, by decide +kernel, by decide +kernel, by decide +kernel, by decide +kernel, by decide +kernel, by decide +kernel, by decide +kernel, by decide +kernel, by decide +kernel, by decide +kernel, by decide +kernel, by decide +kernel, by decide +kernel, by decide +kernel, by decide +kernel, by decide +kernel, by decide +kernel, by decide +kernel, by decide +kernel, by decide +kernel, by decide +kernel, by decide +kernel, by decide +kernel⟩
theorem dec_X6_hasRoom : decode cX6_hasRoom 0 = .ok (.aload_n 0, 1) ∧ decode cX6_hasRoom 1 = .ok (.getfield 12, 3) ∧ decode cX6_hasRoom 4 = .ok (.getfield 51, 3) ∧ decode cX6_hasRoom 7 = .ok (.aload_n 0, 1) ∧ decode cX6_hasRoom 8 = .ok (.getfield 48, 3) ∧ decode cX6_hasRoom 11 = .ok (.iadd, 1) ∧ decode cX6_hasRoom 12 = .ok (.bipush 16, 2) ∧ decode cX6_hasRoom 14 = .ok (.if_icmp .le 5, 3) ∧ decode cX6_hasRoom 17 = .ok (.iconst 0, 1) ∧ decode cX6_hasRoom 18 = .ok (.ireturn, 1) ∧ decode cX6_hasRoom 19 = .ok (.iload_n 1, 1) ∧ decode cX6_hasRoom 20 = .ok (.istore_n 2, 1) ∧ decode cX6_hasRoom 21 = .ok (.aload_n 0, 1) ∧ decode cX6_hasRoom 22 = .ok (.getfield 37, 3) ∧ decode cX6_hasRoom 25 = .ok (.istore_n 3, 1) ∧ decode cX6_hasRoom 26 = .ok (.iload_n 3, 1) ∧ decode cX6_hasRoom 27 = .ok (.aload_n 0, 1) ∧ decode cX6_hasRoom 28 = .ok (.getfield 37, 3) ∧ decode cX6_hasRoom 31 = .ok (.aload_n 0, 1) ∧ decode cX6_hasRoom 32 = .ok (.getfield 48, 3) ∧ decode cX6_hasRoom 35 = .ok (.iadd, 1) ∧ decode cX6_hasRoom 36 = .ok (.if_icmp .ge 37, 3) ∧ decode cX6_hasRoom 39 = .ok (.iload_n 2, 1) ∧ decode cX6_hasRoom 40 = .ok (.aload_n 0, 1) ∧ decode cX6_hasRoom 41 = .ok (.getfield 18, 3) ∧ decode cX6_hasRoom 44 = .ok (.getfield 54, 3) ∧ decode cX6_hasRoom 47 = .ok (.iload_n 3, 1) ∧ decode cX6_hasRoom 48 = .ok (.iaload, 1) ∧ decode cX6_hasRoom 49 = .ok (.ifCond .ne 7, 3) ∧ decode cX6_hasRoom 52 = .ok (.iconst 1, 1) ∧ decode cX6_hasRoom 53 = .ok (.goto 4, 3) ∧ decode cX6_hasRoom 56 = .ok (.iconst (-1), 1) ∧ decode cX6_hasRoom 57 = .ok (.iadd, 1) ∧ decode cX6_hasRoom 58 = .ok (.istore_n 2, 1) ∧ decode cX6_hasRoom 59 = .ok (.iload_n 2, 1) ∧ decode cX6_hasRoom 60 = .ok (.bipush 24, 2) ∧ decode cX6_hasRoom 62 = .ok (.if_icmp .le 5, 3) ∧ decode cX6_hasRoom 65 = .ok (.iconst 0, 1) ∧ decode cX6_hasRoom 66 = .ok (.ireturn, 1) ∧ decode cX6_hasRoom 67 = .ok (.iinc 3 1, 3) ∧ decode cX6_hasRoom 70 = .ok (.goto (-44), 3) ∧ decode cX6_hasRoom 73 = .ok (.iconst 1, 1) ∧ decode cX6_hasRoom 74 = .ok (.ireturn, 1) := ⟨by decide +kernel, by decide +kernel, by decide +kernel, by decide +kernel, by decide +kernel, by decide +kernel, by decide +kernel, by decide +kernel, by decide +kernel, by decide +kernel, by decide +kernel, by decide +kernel, by decide +kernel, by decide +kernel, by decide +kernel, by decide +kernel, by decide +kernel, by decide +kernel, by decide +kernel, by decide +kernel, by decide +kernel, by decide +kernel, by decide +kernel, by decide +kernel, by decide +kernel, by decide +kernel, by decide +kernel, by decide +kernel, by decide +kernel, by decide +kernel, by decide +kernel, by decide +kernel, by decide +kernel, by decide +kernel, by decide +kernel, by decide +kernel, by decide +kernel, by decide +kernel, by decide +kernel, by decide +kernel, by decide +kernel, by decide +kernel, by decide +kernel⟩
theorem dec_X6_init : decode cX6_init 0 = .ok (.aload_n 0, 1) ∧ decode cX6_init 1 = .ok (.invokespecial 3, 3) ∧ decode cX6_init 4 = .ok (.aload_n 0, 1) ∧ decode cX6_init 5 = .ok (.new 9, 3) ∧ decode cX6_init 8 = .ok (.dup, 1) ∧ decode cX6_init 9 = .ok (.invokespecial 11, 3) ∧ decode cX6_init 12 = .ok (.putfield 12, 3) ∧ decode cX6_init 15 = .ok (.aload_n 0, 1) ∧ decode cX6_init 16 = .ok (.new 9, 3) ∧ decode cX6_init 19 = .ok (.dup, 1) ∧ decode cX6_init 20 = .ok (.invokespecial 11, 3) ∧ decode cX6_init 23 = .ok (.putfield 18, 3) ∧ decode cX6_init 26 = .ok (.aload_n 0, 1) ∧ decode cX6_init 27 = .ok (.bipush 16, 2) ∧ decode cX6_init 29 = .ok (.newarray .int, 2) ∧ decode cX6_init 31 = .ok (.putfield 21, 3) ∧ decode cX6_init 34 = .ok (.return_, 1) := ⟨by decide +kernel, by decide +kernel, by decide +kernel, by decide +kernel, by decide +kernel, by decide +kernel, by decide +kernel, by decide +kernel, by decide +kernel, by decide +kernel, by decide +kernel, by decide +kernel, by decide +kernel, by decide +kernel, by decide +kernel, by decide +kernel, by decide +kernel⟩
theorem dec_X6_sortOut : decode cX6_sortOut 0 = .ok (.aload_n 1, 1) ∧ decode cX6_sortOut 1 = .ok (.invokevirtual 25, 3) ∧ decode cX6_sortOut 4 = .ok (.aload_n 2, 1) ∧ decode cX6_sortOut 5 = .ok (.invokevirtual 25, 3) ∧ decode cX6_sortOut 8 = .ok (.iand, 1) ∧ decode cX6_sortOut 9 = .ok (.istore 4, 2) ∧ decode cX6_sortOut 11 = .ok (.aload_n 0, 1) ∧ decode cX6_sortOut 12 = .ok (.getfield 12, 3) ∧ decode cX6_sortOut 15 = .ok (.aload_n 1, 1) ∧ decode cX6_sortOut 16 = .ok (.invokevirtual 29, 3) ∧ decode cX6_sortOut 19 = .ok (.aload_n 0, 1) ∧ decode cX6_sortOut 20 = .ok (.getfield 18, 3) ∧ decode cX6_sortOut 23 = .ok (.aload_n 2, 1) ∧ decode cX6_sortOut 24 = .ok (.invokevirtual 29, 3) ∧ decode cX6_sortOut 27 = .ok (.aload_n 0, 1) ∧ decode cX6_sortOut 28 = .ok (.aload_n 0, 1) ∧ decode cX6_sortOut 29 = .ok (.getfield 18, 3) ∧ decode cX6_sortOut 32 = .ok (.iload 4, 2) ∧ decode cX6_sortOut 34 = .ok (.invokevirtual 33, 3) ∧ decode cX6_sortOut 37 = .ok (.putfield 37, 3) ∧ decode cX6_sortOut 40 = .ok (.aload_n 0, 1) ∧ decode cX6_sortOut 41 = .ok (.getfield 37, 3) ∧ decode cX6_sortOut 44 = .ok (.iconst (-1), 1) ∧ decode cX6_sortOut 45 = .ok (.if_icmp .eq 16, 3) ∧ decode cX6_sortOut 48 = .ok (.aload_n 0, 1) ∧ decode cX6_sortOut 49 = .ok (.getfield 12, 3) ∧ decode cX6_sortOut 52 = .ok (.iload 4, 2) ∧ decode cX6_sortOut 54 = .ok (.invokevirtual 33, 3) ∧ decode cX6_sortOut 57 = .ok (.iconst (-1), 1) ∧ decode cX6_sortOut 58 = .ok (.if_icmp .ne 5, 3) ∧ decode cX6_sortOut 61 = .ok (.iconst 0, 1) ∧ decode cX6_sortOut 62 = .ok (.ireturn, 1) ∧ decode cX6_sortOut 63 = .ok (.aload_n 0, 1) ∧ decode cX6_sortOut 64 = .ok (.aload_n 0, 1) ∧ decode cX6_sortOut 65 = .ok (.getfield 18, 3) ∧ decode cX6_sortOut 68 = .ok (.aload_n 0, 1) ∧ decode cX6_sortOut 69 = .ok (.getfield 18, 3) ∧ decode cX6_sortOut 72 = .ok (.iload_n 3, 1) ∧ decode cX6_sortOut 73 = .ok (.invokevirtual 41, 3) ∧ decode cX6_sortOut 76 = .ok (.aload_n 0, 1) ∧ decode cX6_sortOut 77 = .ok (.getfield 37, 3) ∧ decode cX6_sortOut 80 = .ok (.invokevirtual 44, 3) ∧ decode cX6_sortOut 83 = .ok (.iconst 1, 1) ∧ decode cX6_sortOut 84 = .ok (.iadd, 1) ∧ decode cX6_sortOut 85 = .ok (.putfield 48, 3) ∧ decode cX6_sortOut 88 = .ok (.iconst 1, 1) ∧ decode cX6_sortOut 89 = .ok (.ireturn, 1) := ⟨by decide +kernel, by decide +kernel, by decide +kernel, by decide +kernel, by decide +kernel, by decide +kernel, by decide +kernel, by decide +kernel, by decide +kernel, by decide +kernel, by decide +kernel, by decide +kernel, by decide +kernel, by decide +kernel, by decide +kernel, by decide +kernel, by decide +kernel, by decide +kernel, by decide +kernel, by decide +kernel, by decide +kernel, by decide +kernel, by decide +kernel, by decide +kernel, by decide +kernel, by decide +kernel, by decide +kernel, by decide +kernel, by decide +kernel, by decide +kernel, by decide +kernel, by decide +kernel, by decide +kernel, by decide +kernel, by decide +kernel, by decide +kernel, by decide +kernel, by decide +kernel, by decide +kernel, by decide +kernel, by decide +kernel, by decide +kernel, by decide +kernel, by decide +kernel, by decide +kernel, by decide +kernel, by decide +kernel⟩
theorem dec_X7_holdChange : decode cX7_holdChange 0 = .ok (.aload_n 0, 1) ∧ decode cX7_holdChange 1 = .ok (.getfield 10, 3) ∧ decode cX7_holdChange 4 = .ok (.aload_n 1, 1) ∧ decode cX7_holdChange 5 = .ok (.getfield 23, 3) ∧ decode cX7_holdChange 8 = .ok (.iload_n 2, 1) ∧ decode cX7_holdChange 9 = .ok (.iaload, 1) ∧ decode cX7_holdChange 10 = .ok (.putfield 29, 3) ∧ decode cX7_holdChange 13 = .ok (.aload_n 0, 1) ∧ decode cX7_holdChange 14 = .ok (.getfield 10, 3) ∧ decode cX7_holdChange 17 = .ok (.aload_n 1, 1) ∧ decode cX7_holdChange 18 = .ok (.getfield 33, 3) ∧ decode cX7_holdChange 21 = .ok (.iload_n 2, 1) ∧ decode cX7_holdChange 22 = .ok (.iaload, 1) ∧ decode cX7_holdChange 23 = .ok (.putfield 36, 3) ∧ decode cX7_holdChange 26 = .ok (.aload_n 0, 1) ∧ decode cX7_holdChange 27 = .ok (.getfield 10, 3) ∧ decode cX7_holdChange 30 = .ok (.aload_n 1, 1) ∧ decode cX7_holdChange 31 = .ok (.getfield 39, 3) ∧ decode cX7_holdChange 34 = .ok (.iload_n 2, 1) ∧ decode cX7_holdChange 35 = .ok (.iaload, 1) ∧ decode cX7_holdChange 36 = .ok (.putfield 42, 3) ∧ decode cX7_holdChange 39 = .ok (.aload_n 0, 1) ∧ decode cX7_holdChange 40 = .ok (.getfield 10, 3) ∧ decode cX7_holdChange 43 = .ok (.aload_n 1, 1) ∧ decode cX7_holdChange 44 = .ok (.getfield 45, 3) ∧ decode cX7_holdChange 47 = .ok (.iload_n 2, 1) ∧ decode cX7_holdChange 48 = .ok (.iaload, 1) ∧ decode cX7_holdChange 49 = .ok (.putfield 48, 3) ∧ decode cX7_holdChange 52 = .ok (.aload_n 0, 1) ∧ decode cX7_holdChange 53 = .ok (.aload_n 0, 1) ∧ decode cX7_holdChange 54 = .ok (.getfield 10, 3) ∧ decode cX7_holdChange 57 = .ok (.putfield 51, 3) ∧ decode cX7_holdChange 60 = .ok (.aload_n 0, 1) ∧ decode cX7_holdChange 61 = .ok (.getfield 10, 3) ∧ decode cX7_holdChange 64 = .ok (.getfield 29, 3) ∧ decode cX7_holdChange 67 = .ok (.ireturn, 1) := ⟨by decide +kernel, by decide +kernel, by decide +kernel, by decide +kernel, by decide +kernel, by decide +kernel, by decide +kernel, by decide +kernel, by decide +kernel, by decide +kernel, by decide +kernel, by decide +kernel, by decide +kernel, by decide +kernel, by decide +kernel, by decide +kernel, by decide +kernel, by decide +kernel, by decide +kernel, by decide +kernel, by decide +kernel, by decide +kernel, by decide +kernel, by decide +kernel, by decide +kernel, by decide +kernel, by decide +kernel, by decide +kernel, by decide +kernel, by decide +kernel, by decide +kernel, by decide +kernel, by decide +kernel, by decide +kernel, by decide +kernel, by decide +kernel⟩
theorem dec_X7_holdWriting : decode cX7_holdWriting 0 = .ok (.aload_n 0, 1) ∧ decode cX7_holdWriting 1 = .ok (.getfield 19, 3) ∧ decode cX7_holdWriting 4 = .ok (.aload_n 1, 1) ∧ decode cX7_holdWriting 5 = .ok (.invokevirtual 55, 3) ∧ decode cX7_holdWriting 8 = .ok (.aload_n 0, 1) ∧ decode cX7_holdWriting 9 = .ok (.aload_n 0, 1) ∧ decode cX7_holdWriting 10 = .ok (.getfield 19, 3) ∧ decode cX7_holdWriting 13 = .ok (.putfield 51, 3) ∧ decode cX7_holdWriting 16 = .ok (.aload_n 0, 1) ∧ decode cX7_holdWriting 17 = .ok (.getfield 19, 3) ∧ decode cX7_holdWriting 20 = .ok (.getfield 59, 3) ∧ decode cX7_holdWriting 23 = .ok (.ireturn, 1) := ⟨by decide +kernel, by decide +kernel, by decide +kernel, by decide +kernel, by decide +kernel, by decide +kernel, by decide +kernel, by decide +kernel, by decide +kernel, by decide +kernel, by decide +kernel, by decide +kernel⟩
theorem dec_X7_init : decode cX7_init 0 = .ok (.aload_n 0, 1) ∧ decode cX7_init 1 = .ok (.invokespecial 1, 3) ∧ decode cX7_init 4 = .ok (.aload_n 0, 1) ∧ decode cX7_init 5 = .ok (.new 7, 3) ∧ decode cX7_init 8 = .ok (.dup, 1) ∧ decode cX7_init 9 = .ok (.invokespecial 9, 3) ∧ decode cX7_init 12 = .ok (.putfield 10, 3) ∧ decode cX7_init 15 = .ok (.aload_n 0, 1) ∧ decode cX7_init 16 = .ok (.new 16, 3) ∧ decode cX7_init 19 = .ok (.dup, 1) ∧ decode cX7_init 20 = .ok (.invokespecial 18, 3) ∧ decode cX7_init 23 = .ok (.putfield 19, 3) ∧ decode cX7_init 26 = .ok (.return_, 1) := ⟨by decide +kernel, by decide +kernel, by decide +kernel, by decide +kernel, by decide +kernel, by decide +kernel, by decide +kernel, by decide +kernel, by decide +kernel, by decide +kernel, by decide +kernel, by decide +kernel, by decide +kernel⟩
theorem dec_X9_apply : decode cX9_apply 0 = .ok (.aload_n 0, 1) ∧ decode cX9_apply 1 = .ok (.iload_n 1, 1) ∧ decode cX9_apply 2 = .ok (.iload_n 2, 1) ∧ decode cX9_apply 3 = .ok (.invokevirtual 25, 3) ∧ decode cX9_apply 6 = .ok (.ifCond .ne 4, 3) ∧ decode cX9_apply 9 = .ok (.return_, 1) ∧ decode cX9_apply 10 = .ok (.iload_n 1, 1) ∧ decode cX9_apply 11 = .ok (.iconst 1, 1) ∧ decode cX9_apply 12 = .ok (.if_icmp .ne 39, 3) ∧ decode cX9_apply 15 = .ok (.aload_n 0, 1) ∧ decode cX9_apply 16 = .ok (.getfield 9, 3) ∧ decode cX9_apply 19 = .ok (.iload_n 2, 1) ∧ decode cX9_apply 20 = .ok (.iconst 1, 1) ∧ decode cX9_apply 21 = .ok (.iadd, 1) ∧ decode cX9_apply 22 = .ok (.aload_n 0, 1) ∧ decode cX9_apply 23 = .ok (.getfield 9, 3) ∧ decode cX9_apply 26 = .ok (.iload_n 2, 1) ∧ decode cX9_apply 27 = .ok (.aload_n 0, 1) ∧ decode cX9_apply 28 = .ok (.getfield 15, 3) ∧ decode cX9_apply 31 = .ok (.iload_n 2, 1) ∧ decode cX9_apply 32 = .ok (.isub, 1) ∧ decode cX9_apply 33 = .ok (.iconst 1, 1) ∧ decode cX9_apply 34 = .ok (.isub, 1) ∧ decode cX9_apply 35 = .ok (.invokestatic 19, 3) ∧ decode cX9_apply 38 = .ok (.aload_n 0, 1) ∧ decode cX9_apply 39 = .ok (.dup, 1) ∧ decode cX9_apply 40 = .ok (.getfield 15, 3) ∧ decode cX9_apply 43 = .ok (.iconst 1, 1) ∧ decode cX9_apply 44 = .ok (.isub, 1) ∧ decode cX9_apply 45 = .ok (.putfield 15, 3) ∧ decode cX9_apply 48 = .ok (.goto 50, 3) ∧ decode cX9_apply 51 = .ok (.aload_n 0, 1) ∧ decode cX9_apply 52 = .ok (.getfield 15, 3) ∧ decode cX9_apply 55 = .ok (.bipush 28, 2) ∧ decode cX9_apply 57 = .ok (.if_icmp .ge 41, 3) ∧ decode cX9_apply 60 = .ok (.aload_n 0, 1) ∧ decode cX9_apply 61 = .ok (.getfield 9, 3) ∧ decode cX9_apply 64 = .ok (.iload_n 2, 1) ∧ decode cX9_apply 65 = .ok (.aload_n 0, 1) ∧ decode cX9_apply 66 = .ok (.getfield 9, 3) ∧ decode cX9_apply 69 = .ok (.iload_n 2, 1) ∧ decode cX9_apply 70 = .ok (.iconst 1, 1) ∧ decode cX9_apply 71 = .ok (.iadd, 1) ∧ decode cX9_apply 72 = .ok (.aload_n 0, 1) ∧ decode cX9_apply 73 = .ok (.getfield 15, 3) ∧ decode cX9_apply 76 = .ok (.iload_n 2, 1) ∧ decode cX9_apply 77 = .ok (.isub, 1) ∧ decode cX9_apply 78 = .ok (.invokestatic 19, 3) ∧ decode cX9_apply 81 = .ok (.aload_n 0, 1) ∧ decode cX9_apply 82 = .ok (.getfield 9, 3) ∧ decode cX9_apply 85 = .ok (.iload_n 2, 1) ∧ decode cX9_apply 86 = .ok (.iload_n 3, 1) ∧ decode cX9_apply 87 = .ok (.iastore, 1) ∧ decode cX9_apply 88 = .ok (.aload_n 0, 1) ∧ decode cX9_apply 89 = .ok (.dup, 1) ∧ decode cX9_apply 90 = .ok (.getfield 15, 3) ∧ decode cX9_apply 93 = .ok (.iconst 1, 1) ∧ decode cX9_apply 94 = .ok (.iadd, 1) ∧ decode cX9_apply 95 = .ok (.putfield 15, 3) ∧ decode cX9_apply 98 = .ok (.return_, 1) := ⟨by decide +kernel, by decide +kernel, by decide +kernel, by decide +kernel, by decide +kernel, by decide +kernel, by decide +kernel, by decide +kernel, by decide +kernel, by decide +kernel, by decide +kernel, by decide +kernel, by decide +kernel, by decide +kernel, by decide +kernel, by decide +kernel, by decide +kernel, by decide +kernel, by decide +kernel, by decide +kernel, by decide +kernel, by decide +kernel, by decide +kernel, by decide +kernel, by decide +kernel, by decide +kernel, by decide +kernel, by decide +kernel, by decide +kernel, by decide +kernel, by decide +kernel, by decide +kernel, by decide +kernel, by decide +kernel, by decide +kernel, by decide +kernel, by decide +kernel, by decide +kernel, by decide +kernel, by decide +kernel, by decide +kernel, by decide +kernel, by decide +kernel, by decide +kernel, by decide +kernel, by decide +kernel, by decide +kernel, by decide +kernel, by decide +kernel, by decide +kernel, by decide +kernel, by decide +kernel, by decide +kernel, by decide +kernel, by decide +kernel, by decide +kernel, by decide +kernel, by decide +kernel, by decide +kernel, by decide +kernel⟩
theorem dec_X9_at : decode cX9_at 0 = .ok (.iload_n 1, 1) ∧ decode cX9_at 1 = .ok (.ifCond .lt 20, 3) ∧ decode cX9_at 4 = .ok (.iload_n 1, 1) ∧ decode cX9_at 5 = .ok (.aload_n 0, 1) ∧ decode cX9_at 6 = .ok (.getfield 15, 3) ∧ decode cX9_at 9 = .ok (.if_icmp .ge 12, 3) ∧ decode cX9_at 12 = .ok (.aload_n 0, 1) ∧ decode cX9_at 13 = .ok (.getfield 9, 3) ∧ decode cX9_at 16 = .ok (.iload_n 1, 1) ∧ decode cX9_at 17 = .ok (.iaload, 1) ∧ decode cX9_at 18 = .ok (.goto 4, 3) ∧ decode cX9_at 21 = .ok (.iconst (-1), 1) ∧ decode cX9_at 22 = .ok (.ireturn, 1) := ⟨by decide +kernel, by decide +kernel, by decide +kernel, by decide +kernel, by decide +kernel, by decide +kernel, by decide +kernel, by decide +kernel, by decide +kernel, by decide +kernel, by decide +kernel, by decide +kernel, by decide +kernel⟩
theorem dec_X9_copyFrom : decode cX9_copyFrom 0 = .ok (.aload_n 1, 1) ∧ decode cX9_copyFrom 1 = .ok (.getfield 9, 3) ∧ decode cX9_copyFrom 4 = .ok (.iconst 0, 1) ∧ decode cX9_copyFrom 5 = .ok (.aload_n 0, 1) ∧ decode cX9_copyFrom 6 = .ok (.getfield 9, 3) ∧ decode cX9_copyFrom 9 = .ok (.iconst 0, 1) ∧ decode cX9_copyFrom 10 = .ok (.aload_n 1, 1) ∧ decode cX9_copyFrom 11 = .ok (.getfield 15, 3) ∧ decode cX9_copyFrom 14 = .ok (.invokestatic 19, 3) ∧ decode cX9_copyFrom 17 = .ok (.aload_n 0, 1) ∧ decode cX9_copyFrom 18 = .ok (.aload_n 1, 1) ∧ decode cX9_copyFrom 19 = .ok (.getfield 15, 3) ∧ decode cX9_copyFrom 22 = .ok (.putfield 15, 3) ∧ decode cX9_copyFrom 25 = .ok (.return_, 1) := ⟨by decide +kernel, by decide +kernel, by decide +kernel, by decide +kernel, by decide +kernel, by decide +kernel, by decide +kernel, by decide +kernel, by decide +kernel, by decide +kernel, by decide +kernel, by decide +kernel, by decide +kernel, by decide +kernel⟩
theorem dec_X9_fits : decode cX9_fits 0 = .ok (.aload_n 0, 1) ∧ decode cX9_fits 1 = .ok (.iload_n 1, 1) ∧ decode cX9_fits 2 = .ok (.iload_n 2, 1) ∧ decode cX9_fits 3 = .ok (.invokevirtual 25, 3) ∧ decode cX9_fits 6 = .ok (.ifCond .eq 21, 3) ∧ decode cX9_fits 9 = .ok (.iload_n 1, 1) ∧ decode cX9_fits 10 = .ok (.ifCond .eq 13, 3) ∧ decode cX9_fits 13 = .ok (.aload_n 0, 1) ∧ decode cX9_fits 14 = .ok (.getfield 9, 3) ∧ decode cX9_fits 17 = .ok (.iload_n 2, 1) ∧ decode cX9_fits 18 = .ok (.iaload, 1) ∧ decode cX9_fits 19 = .ok (.iload_n 3, 1) ∧ decode cX9_fits 20 = .ok (.if_icmp .ne 7, 3) ∧ decode cX9_fits 23 = .ok (.iconst 1, 1) ∧ decode cX9_fits 24 = .ok (.goto 4, 3) ∧ decode cX9_fits 27 = .ok (.iconst 0, 1) ∧ decode cX9_fits 28 = .ok (.ireturn, 1) := ⟨by decide +kernel, by decide +kernel, by decide +kernel, by decide +kernel, by decide +kernel, by decide +kernel, by decide +kernel, by decide +kernel, by decide +kernel, by decide +kernel, by decide +kernel, by decide +kernel, by decide +kernel, by decide +kernel, by decide +kernel, by decide +kernel, by decide +kernel⟩
theorem dec_X9_hasPlace : decode cX9_hasPlace 0 = .ok (.iload_n 2, 1) ∧ decode cX9_hasPlace 1 = .ok (.ifCond .lt 30, 3) ∧ decode cX9_hasPlace 4 = .ok (.iload_n 1, 1) ∧ decode cX9_hasPlace 5 = .ok (.ifCond .ne 14, 3) ∧ decode cX9_hasPlace 8 = .ok (.iload_n 2, 1) ∧ decode cX9_hasPlace 9 = .ok (.aload_n 0, 1) ∧ decode cX9_hasPlace 10 = .ok (.getfield 15, 3) ∧ decode cX9_hasPlace 13 = .ok (.if_icmp .gt 18, 3) ∧ decode cX9_hasPlace 16 = .ok (.goto 11, 3) ∧ decode cX9_hasPlace 19 = .ok (.iload_n 2, 1) ∧ decode cX9_hasPlace 20 = .ok (.aload_n 0, 1) ∧ decode cX9_hasPlace 21 = .ok (.getfield 15, 3) ∧ decode cX9_hasPlace 24 = .ok (.if_icmp .ge 7, 3) ∧ decode cX9_hasPlace 27 = .ok (.iconst 1, 1) ∧ decode cX9_hasPlace 28 = .ok (.goto 4, 3) ∧ decode cX9_hasPlace 31 = .ok (.iconst 0, 1) ∧ decode cX9_hasPlace 32 = .ok (.ireturn, 1) := ⟨by decide +kernel, by decide +kernel, by decide +kernel, by decide +kernel, by decide +kernel, by decide +kernel, by decide +kernel, by decide +kernel, by decide +kernel, by decide +kernel, by decide +kernel, by decide +kernel, by decide +kernel, by decide +kernel, by decide +kernel, by decide +kernel, by decide +kernel⟩
theorem dec_X9_init : decode cX9_init 0 = .ok (.aload_n 0, 1) ∧ decode cX9_init 1 = .ok (.invokespecial 3, 3) ∧ decode cX9_init 4 = .ok (.aload_n 0, 1) ∧ decode cX9_init 5 = .ok (.bipush 28, 2) ∧ decode cX9_init 7 = .ok (.newarray .int, 2) ∧ decode cX9_init 9 = .ok (.putfield 9, 3) ∧ decode cX9_init 12 = .ok (.return_, 1) := ⟨by decide +kernel, by decide +kernel, by decide +kernel, by decide +kernel, by decide +kernel, by decide +kernel, by decide +kernel⟩
theorem dec_X9_isSame : decode cX9_isSame 0 = .ok (.aload_n 0, 1) ∧ decode cX9_isSame 1 = .ok (.getfield 15, 3) ∧ decode cX9_isSame 4 = .ok (.aload_n 1, 1) ∧ decode cX9_isSame 5 = .ok (.getfield 15, 3) ∧ decode cX9_isSame 8 = .ok (.if_icmp .eq 5, 3) ∧ decode cX9_isSame 11 = .ok (.iconst 0, 1) ∧ decode cX9_isSame 12 = .ok (.ireturn, 1) ∧ decode cX9_isSame 13 = .ok (.iconst 0, 1) ∧ decode cX9_isSame 14 = .ok (.istore_n 2, 1) ∧ decode cX9_isSame 15 = .ok (.iload_n 2, 1) ∧ decode cX9_isSame 16 = .ok (.aload_n 0, 1) ∧ decode cX9_isSame 17 = .ok (.getfield 15, 3) ∧ decode cX9_isSame 20 = .ok (.if_icmp .ge 26, 3) ∧ decode cX9_isSame 23 = .ok (.aload_n 0, 1) ∧ decode cX9_isSame 24 = .ok (.getfield 9, 3) ∧ decode cX9_isSame 27 = .ok (.iload_n 2, 1) ∧ decode cX9_isSame 28 = .ok (.iaload, 1) ∧ decode cX9_isSame 29 = .ok (.aload_n 1, 1) ∧ decode cX9_isSame 30 = .ok (.getfield 9, 3) ∧ decode cX9_isSame 33 = .ok (.iload_n 2, 1) ∧ decode cX9_isSame 34 = .ok (.iaload, 1) ∧ decode cX9_isSame 35 = .ok (.if_icmp .eq 5, 3) ∧ decode cX9_isSame 38 = .ok (.iconst 0, 1) ∧ decode cX9_isSame 39 = .ok (.ireturn, 1) ∧ decode cX9_isSame 40 = .ok (.iinc 2 1, 3) ∧ decode cX9_isSame 43 = .ok (.goto (-28), 3) ∧ decode cX9_isSame 46 = .ok (.iconst 1, 1) ∧ decode cX9_isSame 47 = .ok (.ireturn, 1) := ⟨by decide +kernel, by decide +kernel, by decide +kernel, by decide +kernel, by decide +kernel, by decide +kernel, by decide +kernel, by decide +kernel, by decide +kernel, by decide +kernel, by decide +kernel, by decide +kernel, by decide +kernel, by decide +kernel, by decide +kernel, by decide +kernel, by decide +kernel, by decide +kernel, by decide +kernel, by decide +kernel, by decide +kernel, by decide +kernel, by decide +kernel, by decide +kernel, by decide +kernel, by decide +kernel, by decide +kernel, by decide +kernel⟩
end
section
/-- the words that a warmer table keeps: what every method of the system is given -/
def px_ws : List Cond := lw_tbl.filter goodWord
theorem px_ws_mem {w : Cond} (h : w ∈ lw_tbl) (g : goodWord w = true) : w ∈ px_ws := List.mem_filter.mpr ⟨h, g⟩
theorem px_ws_at {w : Cond} (i : Nat) (h : lw_tbl[i]? = some w) (g : goodWord w = true) : w ∈ px_ws := px_ws_mem (List.mem_of_getElem? h) g
theorem px_ws_good : GoodIn px_ws px_ws := fun w h => ⟨h, good_of_word (List.mem_filter.mp h).2⟩
set_option maxRecDepth 100000 in
theorem px_in0 : ∀ w ∈ u_ws RX0 TX0 5, w ∈ px_ws := by
  have h : u_ws RX0 TX0 5 = [138, 140, 142, 144, 146].filterMap (fun i => lw_tbl[i]?) := by decide +kernel
  have g : (u_ws RX0 TX0 5).all goodWord = true := by decide +kernel
  intro w hw
  have hg := List.all_eq_true.mp g w hw
  rw [h] at hw
  obtain ⟨i, -, hi⟩ := List.mem_filterMap.mp hw
  exact px_ws_at i hi hg
set_option maxRecDepth 100000 in
theorem px_in1 : ∀ w ∈ u_ws RX1 TX1 3, w ∈ px_ws := by
  have h : u_ws RX1 TX1 3 = [155, 157, 159].filterMap (fun i => lw_tbl[i]?) := by decide +kernel
  have g : (u_ws RX1 TX1 3).all goodWord = true := by decide +kernel
  intro w hw
  have hg := List.all_eq_true.mp g w hw
  rw [h] at hw
  obtain ⟨i, -, hi⟩ := List.mem_filterMap.mp hw
  exact px_ws_at i hi hg
set_option maxRecDepth 100000 in
theorem px_in2 : ∀ w ∈ u_ws RX2 TX2 1, w ∈ px_ws := by
  have h : u_ws RX2 TX2 1 = [283].filterMap (fun i => lw_tbl[i]?) := by decide +kernel
  have g : (u_ws RX2 TX2 1).all goodWord = true := by decide +kernel
  intro w hw
  have hg := List.all_eq_true.mp g w hw
  rw [h] at hw
  obtain ⟨i, -, hi⟩ := List.mem_filterMap.mp hw
  exact px_ws_at i hi hg
set_option maxRecDepth 100000 in
theorem px_in3 : ∀ w ∈ u_ws RX3 TX3 4, w ∈ px_ws := by
  have h : u_ws RX3 TX3 4 = [203, 205, 207, 209].filterMap (fun i => lw_tbl[i]?) := by decide +kernel
  have g : (u_ws RX3 TX3 4).all goodWord = true := by decide +kernel
  intro w hw
  have hg := List.all_eq_true.mp g w hw
  rw [h] at hw
  obtain ⟨i, -, hi⟩ := List.mem_filterMap.mp hw
  exact px_ws_at i hi hg
set_option maxRecDepth 100000 in
theorem px_in4 : ∀ w ∈ u_ws RX4 TX4 5, w ∈ px_ws := by
  have h : u_ws RX4 TX4 5 = [265, 267, 269, 271, 273].filterMap (fun i => lw_tbl[i]?) := by decide +kernel
  have g : (u_ws RX4 TX4 5).all goodWord = true := by decide +kernel
  intro w hw
  have hg := List.all_eq_true.mp g w hw
  rw [h] at hw
  obtain ⟨i, -, hi⟩ := List.mem_filterMap.mp hw
  exact px_ws_at i hi hg
set_option maxRecDepth 100000 in
theorem px_in5 : ∀ w ∈ u_ws RX5 TX5 3, w ∈ px_ws := by
  have h : u_ws RX5 TX5 3 = [175, 177, 179].filterMap (fun i => lw_tbl[i]?) := by decide +kernel
  have g : (u_ws RX5 TX5 3).all goodWord = true := by decide +kernel
  intro w hw
  have hg := List.all_eq_true.mp g w hw
  rw [h] at hw
  obtain ⟨i, -, hi⟩ := List.mem_filterMap.mp hw
  exact px_ws_at i hi hg
set_option maxRecDepth 100000 in
theorem px_in6 : ∀ w ∈ u_ws RX6 TX6 5, w ∈ px_ws := by
  have h : u_ws RX6 TX6 5 = [243, 245, 247, 249, 251].filterMap (fun i => lw_tbl[i]?) := by decide +kernel
  have g : (u_ws RX6 TX6 5).all goodWord = true := by decide +kernel
  intro w hw
  have hg := List.all_eq_true.mp g w hw
  rw [h] at hw
  obtain ⟨i, -, hi⟩ := List.mem_filterMap.mp hw
  exact px_ws_at i hi hg
set_option maxRecDepth 100000 in
theorem px_in7 : ∀ w ∈ u_ws RX7 TX7 3, w ∈ px_ws := by
  have h : u_ws RX7 TX7 3 = [219, 221, 223].filterMap (fun i => lw_tbl[i]?) := by decide +kernel
  have g : (u_ws RX7 TX7 3).all goodWord = true := by decide +kernel
  intro w hw
  have hg := List.all_eq_true.mp g w hw
  rw [h] at hw
  obtain ⟨i, -, hi⟩ := List.mem_filterMap.mp hw
  exact px_ws_at i hi hg
set_option maxRecDepth 100000 in
theorem px_in8 : ∀ w ∈ u_ws RX9 TX9 2, w ∈ px_ws := by
  have h : u_ws RX9 TX9 2 = [96, 98].filterMap (fun i => lw_tbl[i]?) := by decide +kernel
  have g : (u_ws RX9 TX9 2).all goodWord = true := by decide +kernel
  intro w hw
  have hg := List.all_eq_true.mp g w hw
  rw [h] at hw
  obtain ⟨i, -, hi⟩ := List.mem_filterMap.mp hw
  exact px_ws_at i hi hg
set_option maxRecDepth 100000 in
theorem px_in9 : ∀ w ∈ u_ws RX10 TX10 12, w ∈ px_ws := by
  have h : u_ws RX10 TX10 12 = [298, 300, 302, 304, 306, 308, 310, 312, 314, 316, 318, 320].filterMap (fun i => lw_tbl[i]?) := by decide +kernel
  have g : (u_ws RX10 TX10 12).all goodWord = true := by decide +kernel
  intro w hw
  have hg := List.all_eq_true.mp g w hw
  rw [h] at hw
  obtain ⟨i, -, hi⟩ := List.mem_filterMap.mp hw
  exact px_ws_at i hi hg
set_option maxRecDepth 100000 in
theorem px_in10 : ∀ w ∈ u_ws RX11 TX11 22, w ∈ px_ws := by
  have h : u_ws RX11 TX11 22 = [678, 680, 682, 684, 686, 688, 690, 692, 694, 696, 698, 700, 702, 704, 706, 708, 710, 712, 714, 716, 718, 720].filterMap (fun i => lw_tbl[i]?) := by decide +kernel
  have g : (u_ws RX11 TX11 22).all goodWord = true := by decide +kernel
  intro w hw
  have hg := List.all_eq_true.mp g w hw
  rw [h] at hw
  obtain ⟨i, -, hi⟩ := List.mem_filterMap.mp hw
  exact px_ws_at i hi hg
/-- the field links: class, entry, the field (its class in vwCl, its place), a nest mate, where in lw_tbl -/
def px_F : List (String × Nat × Nat × Nat × Bool × Nat) := [(RX9, 9, 8, 0, false, 92), (RX10, 81, 8, 1, true, 93), (RX9, 15, 8, 1, false, 94), (RX7, 59, 8, 1, true, 95), (RX0, 9, 0, 0, false, 115), (RX7, 23, 0, 0, true, 116), (RX6, 73, 0, 0, true, 117), (RX10, 151, 0, 0, true, 118), (RX0, 15, 0, 1, false, 119), (RX7, 33, 0, 1, true, 120), (RX4, 48, 0, 1, true, 121), (RX6, 54, 0, 1, true, 122), (RX10, 207, 0, 1, true, 123), (RX0, 18, 0, 2, false, 124), (RX7, 39, 0, 2, true, 125), (RX4, 35, 0, 2, true, 126), (RX6, 57, 0, 2, true, 127), (RX10, 210, 0, 2, true, 128), (RX0, 21, 0, 3, false, 129), (RX7, 45, 0, 3, true, 130), (RX6, 76, 0, 3, true, 131), (RX10, 213, 0, 3, true, 132), (RX0, 24, 0, 4, false, 133), (RX1, 25, 0, 4, true, 134), (RX4, 28, 0, 4, true, 135), (RX6, 51, 0, 4, true, 136), (RX10, 138, 0, 4, true, 137), (RX1, 11, 1, 0, false, 149), (RX10, 127, 1, 0, true, 150), (RX1, 17, 1, 1, false, 151), (RX10, 164, 1, 1, true, 152), (RX1, 21, 1, 2, false, 153), (RX10, 167, 1, 2, true, 154), (RX5, 11, 5, 0, false, 171), (RX5, 18, 5, 1, false, 172), (RX10, 87, 5, 2, true, 173), (RX5, 26, 5, 2, false, 174), (RX7, 29, 3, 0, true, 195), (RX10, 243, 3, 0, true, 196), (RX7, 36, 3, 1, true, 197), (RX10, 246, 3, 1, true, 198), (RX7, 42, 3, 2, true, 199), (RX10, 249, 3, 2, true, 200), (RX7, 48, 3, 3, true, 201), (RX10, 252, 3, 3, true, 202), (RX7, 10, 7, 0, false, 215), (RX7, 19, 7, 1, false, 216), (RX7, 51, 7, 2, false, 217), (RX10, 236, 7, 2, true, 218), (RX6, 12, 6, 0, false, 237), (RX6, 18, 6, 1, false, 238), (RX6, 21, 6, 2, false, 239), (RX6, 37, 6, 3, false, 240), (RX6, 48, 6, 4, false, 241), (RX10, 178, 6, 4, true, 242), (RX4, 9, 4, 0, false, 260), (RX4, 15, 4, 1, false, 261), (RX4, 18, 4, 2, false, 262), (RX4, 21, 4, 3, false, 263), (RX4, 25, 4, 4, false, 264), (RX2, 7, 2, 0, false, 282), (RX10, 12, 9, 0, false, 286), (RX10, 19, 9, 1, false, 287), (RX10, 26, 9, 2, false, 288), (RX10, 30, 9, 3, false, 289), (RX10, 34, 9, 4, false, 290), (RX10, 40, 9, 5, false, 291), (RX10, 45, 9, 6, false, 292), (RX10, 52, 9, 7, false, 293), (RX10, 59, 9, 8, false, 294), (RX10, 66, 9, 9, false, 295), (RX10, 73, 9, 10, false, 296), (RX10, 77, 9, 11, false, 297), (RX11, 109, 10, 0, false, 656), (RX11, 7, 10, 1, false, 657), (RX11, 116, 10, 2, false, 658), (RX11, 13, 10, 3, false, 659), (RX11, 119, 10, 4, false, 660), (RX11, 16, 10, 5, false, 661), (RX11, 19, 10, 6, false, 662), (RX11, 22, 10, 7, false, 663), (RX11, 26, 10, 8, false, 664), (RX11, 29, 10, 9, false, 665), (RX11, 32, 10, 10, false, 666), (RX11, 35, 10, 11, false, 667), (RX11, 157, 10, 12, false, 668), (RX11, 38, 10, 13, false, 669), (RX11, 145, 10, 14, false, 670), (RX11, 41, 10, 15, false, 671), (RX11, 88, 10, 16, false, 672), (RX11, 44, 10, 17, false, 673), (RX11, 47, 10, 18, false, 674), (RX11, 50, 10, 19, false, 675), (RX11, 53, 10, 20, false, 676), (RX11, 183, 10, 21, false, 677)]
def px_fd (own : String) (idx : Nat) : Option (Nat × Nat) := (px_F.find? (fun e => e.1 == own && e.2.1 == idx)).map (fun e => (e.2.2.1, e.2.2.2.1))
def px_Fw (e : String × Nat × Nat × Nat × Bool × Nat) (C : String) (T : u_T) : Cond := if e.2.2.2.2.1 then .fieldLinkNest e.1 e.2.1 C (T e.2.2.2.1).2.1 (T e.2.2.2.1).2.2.1 "PatchHouse" else .fieldLink e.1 e.2.1 C (T e.2.2.2.1).2.1 (T e.2.2.2.1).2.2.1
def px_Fok (e : String × Nat × Nat × Nat × Bool × Nat) : Bool := match vwCl[e.2.2.1]? with
  | some (C, T, N) => decide (e.2.2.2.1 < N) && decide (lw_tbl[e.2.2.2.2.2]? = some (px_Fw e C T)) && decide ((T e.2.2.2.1).1 = C)
  | none => false
set_option maxRecDepth 100000 in
theorem px_F_ok : px_F.all px_Fok = true := by decide +kernel
set_option maxRecDepth 100000 in
theorem px_flds : px_fd RX9 9 = some (8, 0) ∧ px_fd RX10 81 = some (8, 1) ∧ px_fd RX9 15 = some (8, 1) ∧ px_fd RX7 59 = some (8, 1) ∧ px_fd RX0 9 = some (0, 0) ∧ px_fd RX7 23 = some (0, 0) ∧ px_fd RX6 73 = some (0, 0) ∧ px_fd RX10 151 = some (0, 0) ∧ px_fd RX0 15 = some (0, 1) ∧ px_fd RX7 33 = some (0, 1) ∧ px_fd RX4 48 = some (0, 1) ∧ px_fd RX6 54 = some (0, 1) ∧ px_fd RX10 207 = some (0, 1) ∧ px_fd RX0 18 = some (0, 2) ∧ px_fd RX7 39 = some (0, 2) ∧ px_fd RX4 35 = some (0, 2) ∧ px_fd RX6 57 = some (0, 2) ∧ px_fd RX10 210 = some (0, 2) ∧ px_fd RX0 21 = some (0, 3) ∧ px_fd RX7 45 = some (0, 3) ∧ px_fd RX6 76 = some (0, 3) ∧ px_fd RX10 213 = some (0, 3) ∧ px_fd RX0 24 = some (0, 4) ∧ px_fd RX1 25 = some (0, 4) ∧ px_fd RX4 28 = some (0, 4) ∧ px_fd RX6 51 = some (0, 4) ∧ px_fd RX10 138 = some (0, 4) ∧ px_fd RX1 11 = some (1, 0) ∧ px_fd RX10 127 = some (1, 0) ∧ px_fd RX1 17 = some (1, 1) ∧ px_fd RX10 164 = some (1, 1) ∧ px_fd RX1 21 = some (1, 2) ∧ px_fd RX10 167 = some (1, 2) ∧ px_fd RX5 11 = some (5, 0) ∧ px_fd RX5 18 = some (5, 1) ∧ px_fd RX10 87 = some (5, 2) ∧ px_fd RX5 26 = some (5, 2) ∧ px_fd RX7 29 = some (3, 0) ∧ px_fd RX10 243 = some (3, 0) ∧ px_fd RX7 36 = some (3, 1) ∧ px_fd RX10 246 = some (3, 1) ∧ px_fd RX7 42 = some (3, 2) ∧ px_fd RX10 249 = some (3, 2) ∧ px_fd RX7 48 = some (3, 3) ∧ px_fd RX10 252 = some (3, 3) ∧ px_fd RX7 10 = some (7, 0) ∧ px_fd RX7 19 = some (7, 1) ∧ px_fd RX7 51 = some (7, 2) ∧ px_fd RX10 236 = some (7, 2) ∧ px_fd RX6 12 = some (6, 0) ∧ px_fd RX6 18 = some (6, 1) ∧ px_fd RX6 21 = some (6, 2) ∧ px_fd RX6 37 = some (6, 3) ∧ px_fd RX6 48 = some (6, 4) ∧ px_fd RX10 178 = some (6, 4) ∧ px_fd RX4 9 = some (4, 0) ∧ px_fd RX4 15 = some (4, 1) ∧ px_fd RX4 18 = some (4, 2) ∧ px_fd RX4 21 = some (4, 3) ∧ px_fd RX4 25 = some (4, 4) ∧ px_fd RX2 7 = some (2, 0) ∧ px_fd RX10 12 = some (9, 0) ∧ px_fd RX10 19 = some (9, 1) ∧ px_fd RX10 26 = some (9, 2) ∧ px_fd RX10 30 = some (9, 3) ∧ px_fd RX10 34 = some (9, 4) ∧ px_fd RX10 40 = some (9, 5) ∧ px_fd RX10 45 = some (9, 6) ∧ px_fd RX10 52 = some (9, 7) ∧ px_fd RX10 59 = some (9, 8) ∧ px_fd RX10 66 = some (9, 9) ∧ px_fd RX10 73 = some (9, 10) ∧ px_fd RX10 77 = some (9, 11) ∧ px_fd RX11 109 = some (10, 0) ∧ px_fd RX11 7 = some (10, 1) ∧ px_fd RX11 116 = some (10, 2) ∧ px_fd RX11 13 = some (10, 3) ∧ px_fd RX11 119 = some (10, 4) ∧ px_fd RX11 16 = some (10, 5) ∧ px_fd RX11 19 = some (10, 6) ∧ px_fd RX11 22 = some (10, 7) ∧ px_fd RX11 26 = some (10, 8) ∧ px_fd RX11 29 = some (10, 9) ∧ px_fd RX11 32 = some (10, 10) ∧ px_fd RX11 35 = some (10, 11) ∧ px_fd RX11 157 = some (10, 12) ∧ px_fd RX11 38 = some (10, 13) ∧ px_fd RX11 145 = some (10, 14) ∧ px_fd RX11 41 = some (10, 15) ∧ px_fd RX11 88 = some (10, 16) ∧ px_fd RX11 44 = some (10, 17) ∧ px_fd RX11 47 = some (10, 18) ∧ px_fd RX11 50 = some (10, 19) ∧ px_fd RX11 53 = some (10, 20) ∧ px_fd RX11 183 = some (10, 21) := ⟨by decide +kernel, by decide +kernel, by decide +kernel, by decide +kernel, by decide +kernel, by decide +kernel, by decide +kernel, by decide +kernel, by decide +kernel, by decide +kernel, by decide +kernel, by decide +kernel, by decide +kernel, by decide +kernel, by decide +kernel, by decide +kernel, by decide +kernel, by decide +kernel, by decide +kernel, by decide +kernel, by decide +kernel, by decide +kernel, by decide +kernel, by decide +kernel, by decide +kernel, by decide +kernel, by decide +kernel, by decide +kernel, by decide +kernel, by decide +kernel, by decide +kernel, by decide +kernel, by decide +kernel, by decide +kernel, by decide +kernel, by decide +kernel, by decide +kernel, by decide +kernel, by decide +kernel, by decide +kernel, by decide +kernel, by decide +kernel, by decide +kernel, by decide +kernel, by decide +kernel, by decide +kernel, by decide +kernel, by decide +kernel, by decide +kernel, by decide +kernel, by decide +kernel, by decide +kernel, by decide +kernel, by decide +kernel, by decide +kernel, by decide +kernel, by decide +kernel, by decide +kernel, by decide +kernel, by decide +kernel, by decide +kernel, by decide +kernel, by decide +kernel, by decide +kernel, by decide +kernel, by decide +kernel, by decide +kernel, by decide +kernel, by decide +kernel, by decide +kernel, by decide +kernel, by decide +kernel, by decide +kernel, by decide +kernel, by decide +kernel, by decide +kernel, by decide +kernel, by decide +kernel, by decide +kernel, by decide +kernel, by decide +kernel, by decide +kernel, by decide +kernel, by decide +kernel, by decide +kernel, by decide +kernel, by decide +kernel, by decide +kernel, by decide +kernel, by decide +kernel, by decide +kernel, by decide +kernel, by decide +kernel, by decide +kernel, by decide +kernel⟩
/-- a call: of which class, by which entry; the method, its code, its locals, its answer, its height in calls, its arguments (without this), static; a nest mate; where its words stand in lw_tbl (link, code, static or instance, selects, initialized) -/
abbrev px_ME : Type := (String × Nat) × (MethodName × ByteArray × Nat × Option FieldType × Nat × Nat × Bool × Nat) × Bool × List Nat
def px_M0 : List px_ME := [((RX10, 84), (yX1_clear, cX1_clear, 2, none, 0, 0, false, 1), true, [327, 330, 329, 0, 67]), ((RX10, 90), (yX10_isLetter, cX10_isLetter, 1, (some .boolean), 0, 1, true, 9), false, [335, 337, 336, 0, 65]), ((RX10, 97), (yX9_apply, cX9_apply, 4, none, 1, 3, false, 8), true, [341, 344, 343, 1, 66]), ((RX9, 25), (yX9_hasPlace, cX9_hasPlace, 3, (some .boolean), 0, 2, false, 8), false, [345, 348, 347, 2, 66]), ((RX10, 101), (yX10_isHouse, cX10_isHouse, 1, (some .boolean), 0, 1, true, 9), false, [356, 358, 357, 0, 65]), ((RX10, 105), (yX10_isSort, cX10_isSort, 1, (some .boolean), 0, 1, true, 9), false, [360, 362, 361, 0, 65]), ((RX10, 108), (yX10_readText, cX10_readText, 5, (some (.object "PatchHouse$Writing")), 2, 1, false, 9), false, [363, 366, 365, 3, 65]), ((RX10, 267), (yX9_copyFrom, cX9_copyFrom, 2, none, 1, 1, false, 8), true, [367, 370, 369, 4, 66]), ((RX10, 112), (yX9_hasPlace, cX9_hasPlace, 3, (some .boolean), 0, 2, false, 8), true, [371, 348, 347, 2, 66]), ((RX10, 116), (yX10_hasRoom, cX10_hasRoom, 3, (some .boolean), 0, 2, false, 9), false, [372, 375, 374, 5, 65]), ((RX10, 119), (yX5_push, cX5_push, 2, none, 3, 1, false, 5), true, [376, 379, 378, 6, 69]), ((RX5, 22), (yX1_copyFrom, cX1_copyFrom, 3, none, 2, 1, false, 1), true, [380, 383, 382, 7, 67]), ((RX1, 29), (yX0_copyFrom, cX0_copyFrom, 2, none, 1, 1, false, 0), true, [384, 387, 386, 8, 68]), ((RX10, 123), (yX10_append, cX10_append, 7, (some .int), 1, 4, false, 9), false, [392, 395, 394, 9, 65]), ((RX10, 202), (yX9_at, cX9_at, 2, (some .int), 0, 1, false, 8), true, [396, 399, 398, 10, 66]), ((RX10, 270), (yX0_add, cX0_add, 5, none, 0, 4, false, 0), true, [400, 403, 402, 11, 68]), ((RX10, 131), (yX0_find, cX0_find, 3, (some .int), 0, 1, false, 0), true, [408, 411, 410, 12, 68]), ((RX10, 135), (yX0_canGoToEnd, cX0_canGoToEnd, 2, (some .boolean), 2, 1, false, 0), true, [412, 415, 414, 13, 68]), ((RX0, 45), (yX0_canGoBehind, cX0_canGoBehind, 6, (some .boolean), 1, 2, false, 0), false, [416, 419, 418, 14, 68]), ((RX0, 42), (yX0_hasPlace, cX0_hasPlace, 2, (some .boolean), 0, 1, false, 0), false, [420, 423, 422, 15, 68])]
def px_M1 : List px_ME := [((RX0, 38), (yX10_turned, cX10_turned, 4, (some .int), 0, 4, true, 9), true, [424, 426, 425, 0, 65]), ((RX10, 139), (yX0_bring, cX0_bring, 5, (some .boolean), 2, 2, false, 0), true, [427, 430, 429, 16, 68]), ((RX0, 49), (yX0_swap, cX0_swap, 6, (some .boolean), 1, 1, false, 0), false, [431, 434, 433, 17, 68]), ((RX0, 34), (yX0_hasPair, cX0_hasPair, 2, (some .boolean), 0, 1, false, 0), false, [435, 438, 437, 18, 68]), ((RX10, 142), (yX0_hasPair, cX0_hasPair, 2, (some .boolean), 0, 1, false, 0), true, [443, 438, 437, 18, 68]), ((RX10, 145), (yX0_pairAt, cX0_pairAt, 2, (some .int), 1, 1, false, 0), true, [444, 447, 446, 19, 68]), ((RX10, 148), (yX0_swap, cX0_swap, 6, (some .boolean), 1, 1, false, 0), true, [448, 434, 433, 17, 68]), ((RX10, 154), (yX6_sortOut, cX6_sortOut, 5, (some .boolean), 4, 3, false, 6), true, [453, 456, 455, 20, 72]), ((RX6, 25), (yX0_asSet, cX0_asSet, 3, (some .int), 0, 0, false, 0), true, [457, 460, 459, 21, 68]), ((RX6, 29), (yX0_copyFrom, cX0_copyFrom, 2, none, 1, 1, false, 0), true, [461, 387, 386, 8, 68]), ((RX6, 33), (yX0_bringToFront, cX0_bringToFront, 4, (some .int), 3, 1, false, 0), true, [462, 465, 464, 22, 68]), ((RX0, 52), (yX0_bring, cX0_bring, 5, (some .boolean), 2, 2, false, 0), false, [466, 430, 429, 16, 68]), ((RX6, 41), (yX0_find, cX0_find, 3, (some .int), 0, 1, false, 0), true, [467, 411, 410, 12, 68]), ((RX6, 44), (yX0_gather, cX0_gather, 5, (some .int), 3, 2, false, 0), true, [468, 471, 470, 23, 68]), ((RX10, 158), (yX6_hasRoom, cX6_hasRoom, 4, (some .boolean), 0, 1, false, 6), true, [472, 475, 474, 24, 72]), ((RX10, 160), (yX6_goPast, cX6_goPast, 4, (some .int), 1, 0, false, 6), true, [476, 479, 478, 25, 72]), ((RX6, 66), (yX10_opposite, cX10_opposite, 1, (some .int), 0, 1, true, 9), true, [481, 483, 482, 0, 65]), ((RX6, 69), (yX10_turned, cX10_turned, 4, (some .int), 0, 4, true, 9), true, [484, 426, 425, 0, 65]), ((RX10, 170), (yX6_fits, cX6_fits, 3, (some .boolean), 2, 1, false, 6), true, [485, 488, 487, 26, 72]), ((RX6, 79), (yX9_fits, cX9_fits, 4, (some .boolean), 1, 3, false, 8), true, [489, 492, 491, 27, 66])]
def px_M2 : List px_ME := [((RX6, 85), (yX9_apply, cX9_apply, 4, none, 1, 3, false, 8), true, [493, 344, 343, 1, 66]), ((RX10, 174), (yX6_giveTo, cX6_giveTo, 3, none, 2, 1, false, 6), true, [494, 497, 496, 28, 72]), ((RX6, 89), (yX0_add, cX0_add, 5, none, 0, 4, false, 0), true, [498, 403, 402, 11, 68]), ((RX10, 182), (yX2_start, cX2_start, 2, none, 0, 1, false, 2), true, [504, 507, 506, 29, 74]), ((RX10, 186), (yX10_recordByLots, cX10_recordByLots, 6, (some .boolean), 3, 0, false, 9), false, [508, 511, 510, 30, 65]), ((RX10, 274), (yX2_next, cX2_next, 2, (some .int), 0, 1, false, 2), true, [512, 515, 514, 31, 74]), ((RX10, 190), (yX5_pop, cX5_pop, 2, none, 3, 1, false, 5), true, [522, 525, 524, 32, 69]), ((RX10, 193), (yX9_isSame, cX9_isSame, 3, (some .boolean), 0, 1, false, 8), true, [530, 533, 532, 33, 66]), ((RX10, 196), (yX0_asSet, cX0_asSet, 3, (some .int), 0, 0, false, 0), true, [534, 460, 459, 21, 68]), ((RX10, 199), (yX4_count, cX4_count, 6, (some .int), 4, 1, false, 4), true, [539, 542, 541, 34, 73]), ((RX4, 31), (yX4_with, cX4_with, 4, (some .int), 0, 4, true, 4), false, [543, 545, 544, 0, 73]), ((RX4, 36), (yX4_note, cX4_note, 5, none, 2, 3, false, 4), false, [546, 549, 548, 35, 73]), ((RX4, 54), (yX4_rankOf, cX4_rankOf, 6, (some .int), 1, 2, true, 4), false, [550, 552, 551, 0, 73]), ((RX4, 44), (yX4_part, cX4_part, 3, (some .int), 0, 3, true, 4), false, [553, 555, 554, 0, 73]), ((RX4, 40), (yX4_lookRound, cX4_lookRound, 9, none, 3, 3, false, 4), false, [556, 559, 558, 36, 73]), ((RX4, 51), (yX10_turned, cX10_turned, 4, (some .int), 0, 4, true, 9), true, [560, 426, 425, 0, 65]), ((RX10, 205), (yX0_hasPlace, cX0_hasPlace, 2, (some .boolean), 0, 1, false, 0), true, [569, 423, 422, 15, 68]), ((RX10, 216), (yX10_needsAt, cX10_needsAt, 6, (some .int), 4, 2, false, 9), false, [574, 577, 576, 37, 65]), ((RX10, 277), (yX0_copyFrom, cX0_copyFrom, 2, none, 1, 1, false, 0), true, [578, 387, 386, 8, 68]), ((RX10, 279), (yX0_gather, cX0_gather, 5, (some .int), 3, 2, false, 0), true, [579, 471, 470, 23, 68])]
def px_M3 : List px_ME := [((RX10, 220), (yX10_needingIt, cX10_needingIt, 5, (some .int), 5, 2, false, 9), false, [580, 583, 582, 38, 65]), ((RX10, 223), (yX10_turned, cX10_turned, 4, (some .int), 0, 4, true, 9), false, [588, 426, 425, 0, 65]), ((RX10, 226), (yX10_isShelf, cX10_isShelf, 1, (some .boolean), 0, 1, true, 9), false, [593, 595, 594, 0, 65]), ((RX10, 229), (yX7_holdChange, cX7_holdChange, 3, (some .int), 0, 2, false, 7), true, [596, 599, 598, 39, 70]), ((RX10, 232), (yX7_holdWriting, cX7_holdWriting, 2, (some .int), 2, 1, false, 7), true, [604, 607, 606, 40, 70]), ((RX7, 55), (yX9_copyFrom, cX9_copyFrom, 2, none, 1, 1, false, 8), true, [608, 370, 369, 4, 66]), ((RX10, 255), (yX10_opposite, cX10_opposite, 1, (some .int), 0, 1, true, 9), false, [632, 483, 482, 0, 65]), ((RX10, 258), (yX9_fits, cX9_fits, 4, (some .boolean), 1, 3, false, 8), true, [633, 492, 491, 27, 66]), ((RX10, 261), (yX10_isImage, cX10_isImage, 1, (some .boolean), 0, 1, true, 9), false, [638, 640, 639, 0, 65]), ((RX10, 264), (yX1_copyFrom, cX1_copyFrom, 3, none, 2, 1, false, 1), true, [641, 383, 382, 7, 67]), ((RX11, 56), (yX11_clear, cX11_clear, 2, none, 0, 0, false, 10), false, [652, 655, 654, 41, 75]), ((RX11, 59), (yX11_in, cX11_in, 3, (some .boolean), 0, 3, true, 10), false, [731, 733, 732, 0, 75]), ((RX11, 128), (yX11_isHouse, cX11_isHouse, 1, (some .boolean), 1, 1, true, 10), false, [741, 743, 742, 0, 75]), ((RX11, 133), (yX11_layText, cX11_layText, 5, (some .int), 2, 1, false, 10), false, [745, 748, 747, 42, 75]), ((RX11, 92), (yX11_bring, cX11_bring, 6, none, 0, 5, true, 10), false, [749, 751, 750, 0, 75]), ((RX11, 100), (yX11_many, cX11_many, 2, (some .int), 0, 1, false, 10), false, [752, 755, 754, 43, 75]), ((RX11, 103), (yX11_at, cX11_at, 3, (some .int), 0, 2, false, 10), false, [756, 759, 758, 44, 75]), ((RX11, 112), (yX11_done, cX11_done, 6, (some .int), 1, 3, false, 10), false, [760, 763, 762, 45, 75]), ((RX11, 63), (yX11_place, cX11_place, 1, (some .int), 0, 1, true, 10), false, [764, 766, 765, 0, 75]), ((RX11, 67), (yX11_sort, cX11_sort, 1, (some .int), 0, 1, true, 10), false, [767, 769, 768, 0, 75])]
def px_M4 : List px_ME := [((RX11, 106), (yX11_letterOf, cX11_letterOf, 1, (some .int), 0, 1, true, 10), false, [770, 772, 771, 0, 75]), ((RX11, 136), (yX11_isFull, cX11_isFull, 4, (some .boolean), 1, 3, false, 10), false, [773, 776, 775, 46, 75]), ((RX11, 139), (yX11_note, cX11_note, 1, none, 1, 0, false, 10), false, [777, 780, 779, 47, 75]), ((RX11, 142), (yX11_recorded, cX11_recorded, 5, (some .int), 1, 4, false, 10), false, [781, 784, 783, 48, 75]), ((RX11, 125), (yX11_made, cX11_made, 4, (some .int), 0, 4, true, 10), false, [785, 787, 786, 0, 75]), ((RX11, 148), (yX11_placeOf, cX11_placeOf, 5, (some .int), 1, 2, false, 10), false, [792, 795, 794, 49, 75]), ((RX11, 85), (yX11_number, cX11_number, 1, (some .int), 0, 1, true, 10), false, [796, 798, 797, 0, 75]), ((RX11, 151), (yX11_layOwn, cX11_layOwn, 2, (some .int), 1, 1, false, 10), false, [799, 802, 801, 50, 75]), ((RX11, 96), (yX11_isBrought, cX11_isBrought, 4, (some .boolean), 3, 3, true, 10), false, [803, 805, 804, 0, 75]), ((RX11, 81), (yX11_isTurned, cX11_isTurned, 4, (some .boolean), 2, 2, true, 10), false, [806, 808, 807, 0, 75]), ((RX11, 74), (yX11_turnedBy, cX11_turnedBy, 2, (some .int), 1, 2, true, 10), false, [809, 811, 810, 0, 75]), ((RX11, 70), (yX11_turned, cX11_turned, 4, (some .int), 0, 4, true, 10), false, [812, 814, 813, 0, 75]), ((RX11, 78), (yX11_moved, cX11_moved, 2, (some .int), 1, 2, true, 10), false, [815, 817, 816, 0, 75]), ((RX11, 154), (yX11_setOf, cX11_setOf, 4, (some .int), 1, 1, false, 10), false, [826, 829, 828, 51, 75]), ((RX11, 160), (yX11_fronted, cX11_fronted, 6, (some .int), 4, 3, false, 10), false, [830, 833, 832, 52, 75]), ((RX11, 164), (yX11_placeIn, cX11_placeIn, 5, (some .int), 1, 3, true, 10), false, [834, 836, 835, 0, 75]), ((RX11, 167), (yX11_needed, cX11_needed, 6, (some .int), 4, 3, false, 10), false, [837, 840, 839, 53, 75]), ((RX11, 170), (yX11_come, cX11_come, 8, (some .int), 4, 4, false, 10), false, [841, 844, 843, 54, 75]), ((RX11, 176), (yX11_isTooMuch, cX11_isTooMuch, 6, (some .boolean), 3, 2, false, 10), false, [845, 848, 847, 55, 75]), ((RX11, 180), (yX11_past, cX11_past, 7, (some .int), 2, 2, false, 10), false, [849, 852, 851, 56, 75])]
def px_M5 : List px_ME := [((RX11, 173), (yX11_opposite, cX11_opposite, 1, (some .int), 1, 1, true, 10), false, [853, 855, 854, 0, 75]), ((RX11, 195), (yX11_isLot, cX11_isLot, 6, (some .boolean), 3, 0, false, 10), false, [861, 864, 863, 57, 75]), ((RX11, 191), (yX11_drawn, cX11_drawn, 2, (some .int), 0, 1, false, 10), false, [865, 868, 867, 58, 75]), ((RX11, 199), (yX11_areAlike, cX11_areAlike, 5, (some .boolean), 3, 0, false, 10), false, [879, 882, 881, 59, 75]), ((RX11, 205), (yX11_lawful, cX11_lawful, 6, (some .int), 3, 1, false, 10), false, [887, 890, 889, 60, 75]), ((RX11, 202), (yX11_isLaid, cX11_isLaid, 7, (some .boolean), 1, 2, false, 10), false, [891, 894, 893, 61, 75]), ((RX11, 208), (yX11_isPlace, cX11_isPlace, 3, (some .boolean), 2, 2, false, 10), false, [903, 906, 905, 62, 75]), ((RX11, 211), (yX11_shown, cX11_shown, 2, (some .int), 1, 2, true, 10), false, [907, 909, 908, 0, 75]), ((RX11, 214), (yX11_isShelf, cX11_isShelf, 1, (some .boolean), 1, 1, true, 10), false, [922, 924, 923, 0, 75]), ((RX11, 219), (yX11_whyNot, cX11_whyNot, 3, (some .int), 0, 2, false, 10), false, [937, 940, 939, 63, 75])]
def px_M : List px_ME := px_M0 ++ px_M1 ++ px_M2 ++ px_M3 ++ px_M4 ++ px_M5
def px_md (own : String) (idx : Nat) : Option (MethodName × ByteArray × Nat × Option FieldType × Nat × Nat × Bool × Nat) := (px_M.find? (fun e => e.1.1 == own && e.1.2 == idx)).map (fun e => e.2.1)
def px_Mw (e : px_ME) : Cond := if e.2.2.1 then .methodLinkNest e.1.1 e.1.2 e.2.1.1 "PatchHouse" else .methodLink e.1.1 e.1.2 e.2.1.1
def px_Mok (e : px_ME) : Bool :=
  decide (lw_tbl[e.2.2.2.getD 0 0]? = some (px_Mw e)) && decide (lw_tbl[e.2.2.2.getD 1 0]? = some (.code e.2.1.1 e.2.1.2.1 e.2.1.2.2.1 e.2.1.2.2.2.1)) &&
  decide (lw_tbl[e.2.2.2.getD 2 0]? = some (if e.2.1.2.2.2.2.2.2.1 then .static e.2.1.1 else .instanceMethod e.2.1.1)) &&
  (e.2.1.2.2.2.2.2.2.1 || decide (lw_tbl[e.2.2.2.getD 3 0]? = some (.selects e.2.1.1.cls e.2.1.1 e.2.1.1))) &&
  decide (lw_tbl[e.2.2.2.getD 4 0]? = some (.initialized e.2.1.1.cls)) && decide ((parseMethodDescriptor e.2.1.1.desc).map (fun d => d.parameters.length) = some e.2.1.2.2.2.2.2.1) &&
  decide (e.2.1.1.cls ≠ "java/lang/invoke/MethodHandle") && decide (e.2.1.1.cls ≠ "java/lang/invoke/VarHandle") && decide (e.2.1.2.2.1 ≤ 18) && goodWord (.code e.2.1.1 e.2.1.2.1 e.2.1.2.2.1 e.2.1.2.2.2.1) && (e.2.1.2.2.2.2.2.2.1 || decide ((vwCl[e.2.1.2.2.2.2.2.2.2]?).map (fun q => q.1) = some e.2.1.1.cls))
set_option maxRecDepth 100000 in
theorem px_M0_ok : px_M0.all px_Mok = true := by decide +kernel
set_option maxRecDepth 100000 in
theorem px_M1_ok : px_M1.all px_Mok = true := by decide +kernel
set_option maxRecDepth 100000 in
theorem px_M2_ok : px_M2.all px_Mok = true := by decide +kernel
set_option maxRecDepth 100000 in
theorem px_M3_ok : px_M3.all px_Mok = true := by decide +kernel
set_option maxRecDepth 100000 in
theorem px_M4_ok : px_M4.all px_Mok = true := by decide +kernel
set_option maxRecDepth 100000 in
theorem px_M5_ok : px_M5.all px_Mok = true := by decide +kernel
theorem px_M_ok : px_M.all px_Mok = true := by
  simp only [px_M, List.all_append, px_M0_ok, px_M1_ok, px_M2_ok, px_M3_ok, px_M4_ok, px_M5_ok, Bool.and_self]
set_option maxRecDepth 100000 in
theorem px_mds_RX10_0 : px_md RX10 84 = some (yX1_clear, cX1_clear, 2, none, 0, 0, false, 1) ∧ px_md RX10 90 = some (yX10_isLetter, cX10_isLetter, 1, (some .boolean), 0, 1, true, 9) ∧ px_md RX10 97 = some (yX9_apply, cX9_apply, 4, none, 1, 3, false, 8) ∧ px_md RX10 101 = some (yX10_isHouse, cX10_isHouse, 1, (some .boolean), 0, 1, true, 9) ∧ px_md RX10 105 = some (yX10_isSort, cX10_isSort, 1, (some .boolean), 0, 1, true, 9) ∧ px_md RX10 108 = some (yX10_readText, cX10_readText, 5, (some (.object "PatchHouse$Writing")), 2, 1, false, 9) ∧ px_md RX10 267 = some (yX9_copyFrom, cX9_copyFrom, 2, none, 1, 1, false, 8) ∧ px_md RX10 112 = some (yX9_hasPlace, cX9_hasPlace, 3, (some .boolean), 0, 2, false, 8) ∧ px_md RX10 116 = some (yX10_hasRoom, cX10_hasRoom, 3, (some .boolean), 0, 2, false, 9) ∧ px_md RX10 119 = some (yX5_push, cX5_push, 2, none, 3, 1, false, 5) ∧ px_md RX10 123 = some (yX10_append, cX10_append, 7, (some .int), 1, 4, false, 9) ∧ px_md RX10 202 = some (yX9_at, cX9_at, 2, (some .int), 0, 1, false, 8) ∧ px_md RX10 270 = some (yX0_add, cX0_add, 5, none, 0, 4, false, 0) ∧ px_md RX10 131 = some (yX0_find, cX0_find, 3, (some .int), 0, 1, false, 0) ∧ px_md RX10 135 = some (yX0_canGoToEnd, cX0_canGoToEnd, 2, (some .boolean), 2, 1, false, 0) ∧ px_md RX10 139 = some (yX0_bring, cX0_bring, 5, (some .boolean), 2, 2, false, 0) ∧ px_md RX10 142 = some (yX0_hasPair, cX0_hasPair, 2, (some .boolean), 0, 1, false, 0) ∧ px_md RX10 145 = some (yX0_pairAt, cX0_pairAt, 2, (some .int), 1, 1, false, 0) ∧ px_md RX10 148 = some (yX0_swap, cX0_swap, 6, (some .boolean), 1, 1, false, 0) ∧ px_md RX10 154 = some (yX6_sortOut, cX6_sortOut, 5, (some .boolean), 4, 3, false, 6) ∧ px_md RX10 158 = some (yX6_hasRoom, cX6_hasRoom, 4, (some .boolean), 0, 1, false, 6) ∧ px_md RX10 160 = some (yX6_goPast, cX6_goPast, 4, (some .int), 1, 0, false, 6) ∧ px_md RX10 170 = some (yX6_fits, cX6_fits, 3, (some .boolean), 2, 1, false, 6) ∧ px_md RX10 174 = some (yX6_giveTo, cX6_giveTo, 3, none, 2, 1, false, 6) ∧ px_md RX10 182 = some (yX2_start, cX2_start, 2, none, 0, 1, false, 2) ∧ px_md RX10 186 = some (yX10_recordByLots, cX10_recordByLots, 6, (some .boolean), 3, 0, false, 9) ∧ px_md RX10 274 = some (yX2_next, cX2_next, 2, (some .int), 0, 1, false, 2) ∧ px_md RX10 190 = some (yX5_pop, cX5_pop, 2, none, 3, 1, false, 5) ∧ px_md RX10 193 = some (yX9_isSame, cX9_isSame, 3, (some .boolean), 0, 1, false, 8) ∧ px_md RX10 196 = some (yX0_asSet, cX0_asSet, 3, (some .int), 0, 0, false, 0) := ⟨rfl, rfl, rfl, rfl, rfl, rfl, rfl, rfl, rfl, rfl, rfl, rfl, rfl, rfl, rfl, rfl, rfl, rfl, rfl, rfl, rfl, rfl, rfl, rfl, rfl, rfl, rfl, rfl, rfl, rfl⟩
set_option maxRecDepth 100000 in
theorem px_mds_RX10_1 : px_md RX10 199 = some (yX4_count, cX4_count, 6, (some .int), 4, 1, false, 4) ∧ px_md RX10 205 = some (yX0_hasPlace, cX0_hasPlace, 2, (some .boolean), 0, 1, false, 0) ∧ px_md RX10 216 = some (yX10_needsAt, cX10_needsAt, 6, (some .int), 4, 2, false, 9) ∧ px_md RX10 277 = some (yX0_copyFrom, cX0_copyFrom, 2, none, 1, 1, false, 0) ∧ px_md RX10 279 = some (yX0_gather, cX0_gather, 5, (some .int), 3, 2, false, 0) ∧ px_md RX10 220 = some (yX10_needingIt, cX10_needingIt, 5, (some .int), 5, 2, false, 9) ∧ px_md RX10 223 = some (yX10_turned, cX10_turned, 4, (some .int), 0, 4, true, 9) ∧ px_md RX10 226 = some (yX10_isShelf, cX10_isShelf, 1, (some .boolean), 0, 1, true, 9) ∧ px_md RX10 229 = some (yX7_holdChange, cX7_holdChange, 3, (some .int), 0, 2, false, 7) ∧ px_md RX10 232 = some (yX7_holdWriting, cX7_holdWriting, 2, (some .int), 2, 1, false, 7) ∧ px_md RX10 255 = some (yX10_opposite, cX10_opposite, 1, (some .int), 0, 1, true, 9) ∧ px_md RX10 258 = some (yX9_fits, cX9_fits, 4, (some .boolean), 1, 3, false, 8) ∧ px_md RX10 261 = some (yX10_isImage, cX10_isImage, 1, (some .boolean), 0, 1, true, 9) ∧ px_md RX10 264 = some (yX1_copyFrom, cX1_copyFrom, 3, none, 2, 1, false, 1) := ⟨rfl, rfl, rfl, rfl, rfl, rfl, rfl, rfl, rfl, rfl, rfl, rfl, rfl, rfl⟩
set_option maxRecDepth 100000 in
theorem px_mds_RX0_0 : px_md RX0 45 = some (yX0_canGoBehind, cX0_canGoBehind, 6, (some .boolean), 1, 2, false, 0) ∧ px_md RX0 42 = some (yX0_hasPlace, cX0_hasPlace, 2, (some .boolean), 0, 1, false, 0) ∧ px_md RX0 38 = some (yX10_turned, cX10_turned, 4, (some .int), 0, 4, true, 9) ∧ px_md RX0 49 = some (yX0_swap, cX0_swap, 6, (some .boolean), 1, 1, false, 0) ∧ px_md RX0 34 = some (yX0_hasPair, cX0_hasPair, 2, (some .boolean), 0, 1, false, 0) ∧ px_md RX0 52 = some (yX0_bring, cX0_bring, 5, (some .boolean), 2, 2, false, 0) := ⟨rfl, rfl, rfl, rfl, rfl, rfl⟩
theorem px_mds_RX1_0 : px_md RX1 29 = some (yX0_copyFrom, cX0_copyFrom, 2, none, 1, 1, false, 0) := rfl
set_option maxRecDepth 100000 in
theorem px_mds_RX4_0 : px_md RX4 31 = some (yX4_with, cX4_with, 4, (some .int), 0, 4, true, 4) ∧ px_md RX4 36 = some (yX4_note, cX4_note, 5, none, 2, 3, false, 4) ∧ px_md RX4 54 = some (yX4_rankOf, cX4_rankOf, 6, (some .int), 1, 2, true, 4) ∧ px_md RX4 44 = some (yX4_part, cX4_part, 3, (some .int), 0, 3, true, 4) ∧ px_md RX4 40 = some (yX4_lookRound, cX4_lookRound, 9, none, 3, 3, false, 4) ∧ px_md RX4 51 = some (yX10_turned, cX10_turned, 4, (some .int), 0, 4, true, 9) := ⟨rfl, rfl, rfl, rfl, rfl, rfl⟩
theorem px_mds_RX5_0 : px_md RX5 22 = some (yX1_copyFrom, cX1_copyFrom, 3, none, 2, 1, false, 1) := rfl
set_option maxRecDepth 100000 in
theorem px_mds_RX6_0 : px_md RX6 25 = some (yX0_asSet, cX0_asSet, 3, (some .int), 0, 0, false, 0) ∧ px_md RX6 29 = some (yX0_copyFrom, cX0_copyFrom, 2, none, 1, 1, false, 0) ∧ px_md RX6 33 = some (yX0_bringToFront, cX0_bringToFront, 4, (some .int), 3, 1, false, 0) ∧ px_md RX6 41 = some (yX0_find, cX0_find, 3, (some .int), 0, 1, false, 0) ∧ px_md RX6 44 = some (yX0_gather, cX0_gather, 5, (some .int), 3, 2, false, 0) ∧ px_md RX6 66 = some (yX10_opposite, cX10_opposite, 1, (some .int), 0, 1, true, 9) ∧ px_md RX6 69 = some (yX10_turned, cX10_turned, 4, (some .int), 0, 4, true, 9) ∧ px_md RX6 79 = some (yX9_fits, cX9_fits, 4, (some .boolean), 1, 3, false, 8) ∧ px_md RX6 85 = some (yX9_apply, cX9_apply, 4, none, 1, 3, false, 8) ∧ px_md RX6 89 = some (yX0_add, cX0_add, 5, none, 0, 4, false, 0) := ⟨rfl, rfl, rfl, rfl, rfl, rfl, rfl, rfl, rfl, rfl⟩
theorem px_mds_RX7_0 : px_md RX7 55 = some (yX9_copyFrom, cX9_copyFrom, 2, none, 1, 1, false, 8) := rfl
theorem px_mds_RX9_0 : px_md RX9 25 = some (yX9_hasPlace, cX9_hasPlace, 3, (some .boolean), 0, 2, false, 8) := rfl
set_option maxRecDepth 100000 in
theorem px_mds_RX11_0 : px_md RX11 56 = some (yX11_clear, cX11_clear, 2, none, 0, 0, false, 10) ∧ px_md RX11 59 = some (yX11_in, cX11_in, 3, (some .boolean), 0, 3, true, 10) ∧ px_md RX11 128 = some (yX11_isHouse, cX11_isHouse, 1, (some .boolean), 1, 1, true, 10) ∧ px_md RX11 133 = some (yX11_layText, cX11_layText, 5, (some .int), 2, 1, false, 10) ∧ px_md RX11 92 = some (yX11_bring, cX11_bring, 6, none, 0, 5, true, 10) ∧ px_md RX11 100 = some (yX11_many, cX11_many, 2, (some .int), 0, 1, false, 10) ∧ px_md RX11 103 = some (yX11_at, cX11_at, 3, (some .int), 0, 2, false, 10) ∧ px_md RX11 112 = some (yX11_done, cX11_done, 6, (some .int), 1, 3, false, 10) ∧ px_md RX11 63 = some (yX11_place, cX11_place, 1, (some .int), 0, 1, true, 10) ∧ px_md RX11 67 = some (yX11_sort, cX11_sort, 1, (some .int), 0, 1, true, 10) ∧ px_md RX11 106 = some (yX11_letterOf, cX11_letterOf, 1, (some .int), 0, 1, true, 10) ∧ px_md RX11 136 = some (yX11_isFull, cX11_isFull, 4, (some .boolean), 1, 3, false, 10) ∧ px_md RX11 139 = some (yX11_note, cX11_note, 1, none, 1, 0, false, 10) ∧ px_md RX11 142 = some (yX11_recorded, cX11_recorded, 5, (some .int), 1, 4, false, 10) ∧ px_md RX11 125 = some (yX11_made, cX11_made, 4, (some .int), 0, 4, true, 10) ∧ px_md RX11 148 = some (yX11_placeOf, cX11_placeOf, 5, (some .int), 1, 2, false, 10) ∧ px_md RX11 85 = some (yX11_number, cX11_number, 1, (some .int), 0, 1, true, 10) ∧ px_md RX11 151 = some (yX11_layOwn, cX11_layOwn, 2, (some .int), 1, 1, false, 10) ∧ px_md RX11 96 = some (yX11_isBrought, cX11_isBrought, 4, (some .boolean), 3, 3, true, 10) ∧ px_md RX11 81 = some (yX11_isTurned, cX11_isTurned, 4, (some .boolean), 2, 2, true, 10) ∧ px_md RX11 74 = some (yX11_turnedBy, cX11_turnedBy, 2, (some .int), 1, 2, true, 10) ∧ px_md RX11 70 = some (yX11_turned, cX11_turned, 4, (some .int), 0, 4, true, 10) ∧ px_md RX11 78 = some (yX11_moved, cX11_moved, 2, (some .int), 1, 2, true, 10) ∧ px_md RX11 154 = some (yX11_setOf, cX11_setOf, 4, (some .int), 1, 1, false, 10) ∧ px_md RX11 160 = some (yX11_fronted, cX11_fronted, 6, (some .int), 4, 3, false, 10) ∧ px_md RX11 164 = some (yX11_placeIn, cX11_placeIn, 5, (some .int), 1, 3, true, 10) ∧ px_md RX11 167 = some (yX11_needed, cX11_needed, 6, (some .int), 4, 3, false, 10) ∧ px_md RX11 170 = some (yX11_come, cX11_come, 8, (some .int), 4, 4, false, 10) ∧ px_md RX11 176 = some (yX11_isTooMuch, cX11_isTooMuch, 6, (some .boolean), 3, 2, false, 10) ∧ px_md RX11 180 = some (yX11_past, cX11_past, 7, (some .int), 2, 2, false, 10) := ⟨rfl, rfl, rfl, rfl, rfl, rfl, rfl, rfl, rfl, rfl, rfl, rfl, rfl, rfl, rfl, rfl, rfl, rfl, rfl, rfl, rfl, rfl, rfl, rfl, rfl, rfl, rfl, rfl, rfl, rfl⟩
set_option maxRecDepth 100000 in
theorem px_mds_RX11_1 : px_md RX11 173 = some (yX11_opposite, cX11_opposite, 1, (some .int), 1, 1, true, 10) ∧ px_md RX11 195 = some (yX11_isLot, cX11_isLot, 6, (some .boolean), 3, 0, false, 10) ∧ px_md RX11 191 = some (yX11_drawn, cX11_drawn, 2, (some .int), 0, 1, false, 10) ∧ px_md RX11 199 = some (yX11_areAlike, cX11_areAlike, 5, (some .boolean), 3, 0, false, 10) ∧ px_md RX11 205 = some (yX11_lawful, cX11_lawful, 6, (some .int), 3, 1, false, 10) ∧ px_md RX11 202 = some (yX11_isLaid, cX11_isLaid, 7, (some .boolean), 1, 2, false, 10) ∧ px_md RX11 208 = some (yX11_isPlace, cX11_isPlace, 3, (some .boolean), 2, 2, false, 10) ∧ px_md RX11 211 = some (yX11_shown, cX11_shown, 2, (some .int), 1, 2, true, 10) ∧ px_md RX11 214 = some (yX11_isShelf, cX11_isShelf, 1, (some .boolean), 1, 1, true, 10) ∧ px_md RX11 219 = some (yX11_whyNot, cX11_whyNot, 3, (some .int), 0, 2, false, 10) := ⟨rfl, rfl, rfl, rfl, rfl, rfl, rfl, rfl, rfl, rfl⟩
def px_CT : List (String × Nat × Int × Bool × Nat) := [(RX10, 94, -1000000002, false, 338), (RX10, 95, -1000000003, false, 339), (RX10, 96, -1000000004, false, 340), (RX10, 104, -1000000001, false, 359), (RX10, 181, 999999, false, 503), (RX2, 13, 16807, true, 516), (RX2, 15, 2147483647, true, 517), (RX10, 241, -1000000011, false, 618), (RX10, 242, -1000000012, false, 619), (RX11, 122, -1000000002, false, 734), (RX11, 123, -1000000003, false, 735), (RX11, 124, -1000000004, false, 736), (RX11, 132, -1000000001, false, 744), (RX11, 194, 999999, false, 860), (RX11, 187, 16807, true, 869), (RX11, 189, 2147483647, true, 870), (RX11, 217, -1000000011, false, 941), (RX11, 218, -1000000012, false, 942)]
def px_ct (own : String) (idx : Nat) : Option (Int × Bool) := (px_CT.find? (fun e => e.1 == own && e.2.1 == idx)).map (fun e => (e.2.2.1, e.2.2.2.1))
def px_CTok (e : String × Nat × Int × Bool × Nat) : Bool := decide (lw_tbl[e.2.2.2.2]? = some (if e.2.2.2.1 then .constantLong e.1 e.2.1 (Int64.ofInt e.2.2.1) else .constant e.1 e.2.1 (Int32.ofInt e.2.2.1))) && goodWord (.constantLong "" 0 0) && goodWord (.constant "" 0 0)
set_option maxRecDepth 100000 in
theorem px_CT_ok : px_CT.all px_CTok = true := by decide +kernel
set_option maxRecDepth 100000 in
theorem px_cts : px_ct RX10 94 = some (-1000000002, false) ∧ px_ct RX10 95 = some (-1000000003, false) ∧ px_ct RX10 96 = some (-1000000004, false) ∧ px_ct RX10 104 = some (-1000000001, false) ∧ px_ct RX10 181 = some (999999, false) ∧ px_ct RX2 13 = some (16807, true) ∧ px_ct RX2 15 = some (2147483647, true) ∧ px_ct RX10 241 = some (-1000000011, false) ∧ px_ct RX10 242 = some (-1000000012, false) ∧ px_ct RX11 122 = some (-1000000002, false) ∧ px_ct RX11 123 = some (-1000000003, false) ∧ px_ct RX11 124 = some (-1000000004, false) ∧ px_ct RX11 132 = some (-1000000001, false) ∧ px_ct RX11 194 = some (999999, false) ∧ px_ct RX11 187 = some (16807, true) ∧ px_ct RX11 189 = some (2147483647, true) ∧ px_ct RX11 217 = some (-1000000011, false) ∧ px_ct RX11 218 = some (-1000000012, false) := by refine ⟨?_, ?_, ?_, ?_, ?_, ?_, ?_, ?_, ?_, ?_, ?_, ?_, ?_, ?_, ?_, ?_, ?_, ?_⟩ <;> decide +kernel
def px_CL : List (String × Nat × Nat × Nat) := [(RL, 7, 9, 78), (RX10, 9, 8, 86), (RX10, 16, 1, 102), (RX1, 9, 0, 108), (RX10, 23, 5, 162), (RX5, 9, 1, 168), (RX10, 38, 7, 182), (RX7, 7, 3, 189), (RX7, 16, 8, 213), (RX10, 49, 0, 227), (RX10, 56, 6, 229), (RX6, 9, 0, 235), (RX10, 63, 4, 254), (RX10, 70, 2, 276), (RX10, 239, 3, 613), (RL, 10, 10, 646)]
def px_cl (own : String) (idx : Nat) : Option Nat := (px_CL.find? (fun e => e.1 == own && e.2.1 == idx)).map (fun e => e.2.2.1)
def px_CLok (e : String × Nat × Nat × Nat) : Bool := match vwCl[e.2.2.1]? with
  | some (C, _) => decide (lw_tbl[e.2.2.2]? = some (.classLink e.1 e.2.1 C))
  | none => false
set_option maxRecDepth 100000 in
theorem px_CL_ok : px_CL.all px_CLok = true := by decide +kernel
set_option maxRecDepth 100000 in
theorem px_cls : px_cl RL 7 = some 9 ∧ px_cl RX10 9 = some 8 ∧ px_cl RX10 16 = some 1 ∧ px_cl RX1 9 = some 0 ∧ px_cl RX10 23 = some 5 ∧ px_cl RX5 9 = some 1 ∧ px_cl RX10 38 = some 7 ∧ px_cl RX7 7 = some 3 ∧ px_cl RX7 16 = some 8 ∧ px_cl RX10 49 = some 0 ∧ px_cl RX10 56 = some 6 ∧ px_cl RX6 9 = some 0 ∧ px_cl RX10 63 = some 4 ∧ px_cl RX10 70 = some 2 ∧ px_cl RX10 239 = some 3 ∧ px_cl RL 10 = some 10 := ⟨by decide +kernel, by decide +kernel, by decide +kernel, by decide +kernel, by decide +kernel, by decide +kernel, by decide +kernel, by decide +kernel, by decide +kernel, by decide +kernel, by decide +kernel, by decide +kernel, by decide +kernel, by decide +kernel, by decide +kernel, by decide +kernel⟩
def px_AC : List (String × Nat × Nat) := [(RX9, 19, 349), (RX0, 28, 388), (RX6, 60, 480)]
def px_ac (own : String) (idx : Nat) : Bool := px_AC.any (fun e => e.1 == own && e.2.1 == idx)
set_option maxRecDepth 100000 in
theorem px_AC_ok : px_AC.all (fun e => decide (lw_tbl[e.2.2]? = some (.methodLink e.1 e.2.1 arraycopyName))) = true := by decide +kernel
set_option maxRecDepth 100000 in
theorem px_ac_words : lw_tbl[351]? = some (.native arraycopyName) ∧ lw_tbl[350]? = some (.static arraycopyName) ∧ lw_tbl[76]? = some (.initialized "java/lang/System") := by decide +kernel
set_option maxRecDepth 100000 in
theorem px_mi_words : lw_tbl[389]? = some (.methodLink RX5 29 Lib.Math.min.name) ∧ lw_tbl[390]? = some (.static Lib.Math.min.name) ∧ lw_tbl[77]? = some (.initialized "java/lang/Math") ∧ lw_tbl[391]? = some (.code Lib.Math.min.name Lib.Math.min.code 2 (some .int)) := by refine ⟨?_, ?_, ?_, ?_⟩ <;> decide +kernel
set_option maxRecDepth 100000 in
theorem px_acs_ : (px_ac RX0 28 = true ∧ px_ac RX6 60 = true) ∧ px_ac RX9 19 = true := ⟨⟨by decide +kernel, by decide +kernel⟩, by decide +kernel⟩
set_option maxRecDepth 100000 in
theorem px_acn : px_ac RX10 90 = false ∧ px_ac RX10 101 = false ∧ px_ac RX10 105 = false ∧ px_ac RX10 223 = false ∧ px_ac RX10 226 = false ∧ px_ac RX10 255 = false ∧ px_ac RX10 261 = false ∧ px_ac RX0 38 = false ∧ px_ac RX4 31 = false ∧ px_ac RX4 44 = false ∧ px_ac RX4 51 = false ∧ px_ac RX4 54 = false ∧ px_ac RX5 29 = false ∧ px_ac RX6 66 = false ∧ px_ac RX6 69 = false ∧ px_ac RX11 59 = false ∧ px_ac RX11 63 = false ∧ px_ac RX11 67 = false ∧ px_ac RX11 70 = false ∧ px_ac RX11 74 = false ∧ px_ac RX11 78 = false ∧ px_ac RX11 81 = false ∧ px_ac RX11 85 = false ∧ px_ac RX11 92 = false ∧ px_ac RX11 96 = false ∧ px_ac RX11 106 = false ∧ px_ac RX11 125 = false ∧ px_ac RX11 128 = false ∧ px_ac RX11 164 = false ∧ px_ac RX11 173 = false ∧ px_ac RX11 211 = false ∧ px_ac RX11 214 = false := ⟨by decide +kernel, by decide +kernel, by decide +kernel, by decide +kernel, by decide +kernel, by decide +kernel, by decide +kernel, by decide +kernel, by decide +kernel, by decide +kernel, by decide +kernel, by decide +kernel, by decide +kernel, by decide +kernel, by decide +kernel, by decide +kernel, by decide +kernel, by decide +kernel, by decide +kernel, by decide +kernel, by decide +kernel, by decide +kernel, by decide +kernel, by decide +kernel, by decide +kernel, by decide +kernel, by decide +kernel, by decide +kernel, by decide +kernel, by decide +kernel, by decide +kernel, by decide +kernel⟩
end
section
/-- the cells by their offsets: (a class of vwCl, 0), or (20 ints, 21 booleans, 22 History[], 23 Houses[], 24 Shelf[], 25 Writing[]; how many) -/
def px_lay : List (Nat × Nat) := [(9, 0), (8, 0), (20, 28), (1, 0), (22, 2), (20, 2), (20, 2), (0, 0), (20, 16), (20, 16), (20, 16), (20, 16), (0, 0), (20, 16), (20, 16), (20, 16), (20, 16), (5, 0), (23, 8), (1, 0), (22, 2), (20, 2), (20, 2), (0, 0), (20, 16), (20, 16), (20, 16), (20, 16), (0, 0), (20, 16), (20, 16), (20, 16), (20, 16), (1, 0), (22, 2), (20, 2), (20, 2), (0, 0), (20, 16), (20, 16), (20, 16), (20, 16), (0, 0), (20, 16), (20, 16), (20, 16), (20, 16), (1, 0), (22, 2), (20, 2), (20, 2), (0, 0), (20, 16), (20, 16), (20, 16), (20, 16), (0, 0), (20, 16), (20, 16), (20, 16), (20, 16), (1, 0), (22, 2), (20, 2), (20, 2), (0, 0), (20, 16), (20, 16), (20, 16), (20, 16), (0, 0), (20, 16), (20, 16), (20, 16), (20, 16), (1, 0), (22, 2), (20, 2), (20, 2), (0, 0), (20, 16), (20, 16), (20, 16), (20, 16), (0, 0), (20, 16), (20, 16), (20, 16), (20, 16), (1, 0), (22, 2), (20, 2), (20, 2), (0, 0), (20, 16), (20, 16), (20, 16), (20, 16), (0, 0), (20, 16), (20, 16), (20, 16), (20, 16), (1, 0), (22, 2), (20, 2), (20, 2), (0, 0), (20, 16), (20, 16), (20, 16), (20, 16), (0, 0), (20, 16), (20, 16), (20, 16), (20, 16), (1, 0), (22, 2), (20, 2), (20, 2), (0, 0), (20, 16), (20, 16), (20, 16), (20, 16), (0, 0), (20, 16), (20, 16), (20, 16), (20, 16), (23, 2), (1, 0), (22, 2), (20, 2), (20, 2), (0, 0), (20, 16), (20, 16), (20, 16), (20, 16), (0, 0), (20, 16), (20, 16), (20, 16), (20, 16), (1, 0), (22, 2), (20, 2), (20, 2), (0, 0), (20, 16), (20, 16), (20, 16), (20, 16), (0, 0), (20, 16), (20, 16), (20, 16), (20, 16), (21, 2), (24, 4), (7, 0), (3, 0), (8, 0), (20, 28), (7, 0), (3, 0), (8, 0), (20, 28), (7, 0), (3, 0), (8, 0), (20, 28), (7, 0), (3, 0), (8, 0), (20, 28), (25, 2), (8, 0), (20, 28), (8, 0), (20, 28), (0, 0), (20, 16), (20, 16), (20, 16), (20, 16), (6, 0), (0, 0), (20, 16), (20, 16), (20, 16), (20, 16), (0, 0), (20, 16), (20, 16), (20, 16), (20, 16), (20, 16), (4, 0), (20, 720), (20, 720), (20, 720), (2, 0), (10, 0), (20, 12), (20, 38), (20, 304), (20, 76), (21, 2), (20, 4), (20, 4), (20, 128), (20, 16), (20, 16), (20, 17), (20, 17), (20, 16), (20, 64), (20, 4320)]
/-- a field: 0 an int, 1 a long, 2 a cell at so many behind, 3 what a shelf holds -/
def px_FK : List (List (Nat × Nat)) := [[(2, 1), (2, 2), (2, 3), (2, 4), (0, 0)], [(2, 1), (2, 2), (2, 3)], [(1, 0)], [(0, 0), (0, 0), (0, 0), (0, 0)], [(2, 1), (2, 2), (2, 3), (0, 0), (0, 0)], [(2, 1), (0, 0), (0, 0)], [(2, 1), (2, 6), (2, 11), (0, 0), (0, 0)], [(2, 1), (2, 2), (3, 0)], [(2, 1), (0, 0)], [(2, 1), (2, 3), (2, 17), (2, 131), (2, 160), (2, 161), (2, 178), (2, 183), (2, 188), (2, 200), (2, 204), (0, 0)], [(0, 0), (2, 1), (0, 0), (2, 2), (0, 0), (2, 3), (2, 4), (2, 5), (2, 6), (2, 7), (2, 8), (2, 9), (0, 0), (2, 10), (0, 0), (2, 11), (0, 0), (2, 12), (2, 13), (2, 14), (2, 15), (1, 0)]]
/-! ===== the flat memory: ints as whole numbers, cells by their offsets from the first ===== -/
abbrev px_X : Type := Int ⊕ (Option Nat ⊕ Int)
abbrev px_Mem : Type := Nat → Int → Int
abbrev px_G : Type := Launch × va_G × (Nat → ClassId) × Nat
def px_v (b : Nat) : px_X → Value
  | .inl z => .int (Int32.ofInt z)
  | .inr (.inl none) => .null
  | .inr (.inl (some o)) => .ref (b + o)
  | .inr (.inr z) => .long (Int64.ofInt z)
def px_hd (o : Nat) (z : Int) : Option Nat := if z = 0 then none else some (o + z.toNat)
def px_pf (ci k : Nat) : Nat := (((px_FK[ci]?).getD [])[k]?.getD (0, 0)).1
def px_pd (ci k : Nat) : Nat := (((px_FK[ci]?).getD [])[k]?.getD (0, 0)).2
def px_fv (ci k o : Nat) (f : Int → Int) : px_X := match px_pf ci k with
  | 0 => .inl (f k)
  | 1 => .inr (.inr (f k))
  | 2 => .inr (.inl (some (o + px_pd ci k)))
  | _ => .inr (.inl (px_hd o (f k)))
def px_nf (ci : Nat) : Nat := ((px_FK[ci]?).getD []).length
def px_kd (o : Nat) : Nat := ((px_lay[o]?).getD (99, 0)).1
def px_ln (o : Nat) : Nat := ((px_lay[o]?).getD (99, 0)).2
def px_el (c o j : Nat) : Nat := if c = 22 then o + 3 + 5 * j else if c = 23 then o + 1 + 14 * j else if c = 24 then o + 1 + 4 * j else o + 1 + 2 * j
def px_cell (G : px_G) (o : Nat) (f : Int → Int) : va_E :=
  if px_kd o < 20 then .inr (px_kd o, (List.range (px_nf (px_kd o))).map (fun k => px_v G.2.2.2 (px_fv (px_kd o) k o f)))
  else if px_kd o < 22 then .inl (G.2.2.1 (px_kd o), px_ln o, .inl (fun j => Int32.ofInt (f j)))
  else .inl (G.2.2.1 (px_kd o), px_ln o, .inr (.inr (.inr (.inr (fun j => some (G.2.2.2 + px_el (px_kd o) o j))))))
theorem px_cell_obj {G : px_G} {o c : Nat} {f : Int → Int} (h : px_kd o = c) (hc : c < 20) : px_cell G o f = .inr (c, (List.range (px_nf c)).map (fun k => px_v G.2.2.2 (px_fv c k o f))) := by
  unfold px_cell
  rw [if_pos (by omega), h]
theorem px_cell_int {G : px_G} {o c : Nat} {f : Int → Int} (h : px_kd o = c) (h1 : 20 ≤ c) (h2 : c < 22) : px_cell G o f = .inl (G.2.2.1 c, px_ln o, .inl (fun j => Int32.ofInt (f j))) := by
  unfold px_cell
  rw [if_neg (by omega), if_pos (by omega), h]
theorem px_cell_ref {G : px_G} {o c : Nat} {f : Int → Int} (h : px_kd o = c) (h1 : 22 ≤ c) : px_cell G o f = .inl (G.2.2.1 c, px_ln o, .inr (.inr (.inr (.inr (fun j => some (G.2.2.2 + px_el c o j)))))) := by
  unfold px_cell
  rw [if_neg (by omega), if_neg (by omega), h]
theorem px_lay_len : px_lay.length = 221 := by decide +kernel
theorem px_kd_lt {o : Nat} (h : px_kd o < 99) : o < 221 := by
  rcases Nat.lt_or_ge o 221 with h1 | h1
  · exact h1
  · unfold px_kd at h
    rw [List.getElem?_eq_none (by rw [px_lay_len]; exact h1)] at h
    exact absurd h (by decide)
theorem px_ln_le (o : Nat) : px_ln o ≤ 4320 := by
  unfold px_ln
  cases h : px_lay[o]? with
  | none => simp
  | some q =>
    have h1 : px_lay.all (fun q => decide (q.2 ≤ 4320)) = true := by decide +kernel
    have h2 := List.all_eq_true.mp h1 q (List.mem_of_getElem? h)
    simpa using h2
def px_w (G : px_G) (μ : px_Mem) : va_W := (List.range 221).map (fun o => (G.2.2.2 + o, px_cell G o (μ o)))
theorem px_w_len {G : px_G} {μ : px_Mem} : (px_w G μ).length = 221 := by unfold px_w; rw [List.length_map, List.length_range]
theorem px_w_at {G : px_G} {μ : px_Mem} {o : Nat} (h : o < 221) : (px_w G μ)[o]? = some (G.2.2.2 + o, px_cell G o (μ o)) := by
  unfold px_w
  rw [List.getElem?_map, List.getElem?_range h]
  rfl
theorem px_w_of {G : px_G} {μ : px_Mem} {k : Nat} {q : Nat × va_E} (h : (px_w G μ)[k]? = some q) : k < 221 ∧ q = (G.2.2.2 + k, px_cell G k (μ k)) := by
  have hl : k < (px_w G μ).length := (List.getElem?_eq_some_iff.mp h).1
  rw [px_w_len] at hl
  rw [px_w_at hl] at h
  exact ⟨hl, (Option.some.inj h).symm⟩
theorem px_w_D {G : px_G} {μ : px_Mem} : va_D (fun q : Nat => G.2.2.2 ≤ q) (px_w G μ) := by
  refine ⟨fun i j p q hi hj e => ?_, fun k q hk => ?_⟩
  · obtain ⟨-, rfl⟩ := px_w_of hi
    obtain ⟨-, rfl⟩ := px_w_of hj
    exact Nat.add_left_cancel e
  · obtain ⟨-, rfl⟩ := px_w_of hk
    exact Nat.le_add_right _ _
theorem px_w_set {G : px_G} {μ μ' : px_Mem} {o : Nat} (ho : o < 221) {c : va_E} (h : ∀ o', o' ≠ o → μ' o' = μ o') (e : c = px_cell G o (μ' o)) : (px_w G μ).set o (G.2.2.2 + o, c) = px_w G μ' := by
  apply List.ext_getElem?
  intro j
  by_cases hj : j = o
  · subst hj
    rw [List.getElem?_set_self (by rw [px_w_len]; exact ho), px_w_at ho, e]
  · rw [List.getElem?_set_ne (Ne.symm hj)]
    by_cases hk : j < 221
    · rw [px_w_at hk, px_w_at hk, h j hj]
    · rw [List.getElem?_eq_none (by rw [px_w_len]; omega), List.getElem?_eq_none (by rw [px_w_len]; omega)]
def px_up (μ : px_Mem) (o : Nat) (i z : Int) : px_Mem := fun o' i' => if o' = o ∧ i' = i then z else μ o' i'
theorem px_up_o {μ : px_Mem} {o : Nat} {i z : Int} {o' : Nat} (h : o' ≠ o) : px_up μ o i z o' = μ o' := by
  funext i'
  simp [px_up, h]
def px_cp (μ : px_Mem) (a : Nat) (sp : Int) (c : Nat) (dp n : Int) : px_Mem := fun o i => if o = c ∧ dp ≤ i ∧ i < dp + n then μ a (sp + (i - dp)) else μ o i
theorem px_cp_o {μ : px_Mem} {a : Nat} {sp : Int} {c : Nat} {dp n : Int} {o' : Nat} (h : o' ≠ c) : px_cp μ a sp c dp n o' = μ o' := by
  funext i'
  simp [px_cp, h]
/-! ===== numbers ===== -/
theorem px_toInt {z : Int} (h1 : -2147483648 ≤ z) (h2 : z < 2147483648) : (Int32.ofInt z).toInt = z := Int32.toInt_ofInt_of_le (by omega) (by omega)
theorem px_ix_in {i : Int} {n : Nat} (h0 : 0 ≤ i) (h1 : i < n) (hn : n ≤ 4320) : vp_in (Int32.ofInt i) n ∧ (Int32.ofInt i).toNatClampNeg = i.toNat := by
  have e : (Int32.ofInt i).toNatClampNeg = i.toNat := Int32.toNatClampNeg_ofInt_of_le (by omega) (by omega)
  refine ⟨?_, e⟩
  rintro (h | h)
  · have := Int32.lt_iff_toInt_lt.mp h
    rw [px_toInt (by omega) (by omega)] at this
    have h9 : (0 : Int32).toInt = 0 := rfl
    omega
  · rw [e] at h
    omega
def px_eq (x y : Int) : Prop := Int32.ofInt x = Int32.ofInt y
def px_lt (x y : Int) : Prop := Int32.ofInt x < Int32.ofInt y
def px_le (x y : Int) : Prop := Int32.ofInt x ≤ Int32.ofInt y
theorem px_eq_iff {x y : Int} (h : -2147483648 ≤ x ∧ x < 2147483648 ∧ -2147483648 ≤ y ∧ y < 2147483648) : px_eq x y ↔ x = y := by
  unfold px_eq
  constructor
  · intro e
    have := congrArg Int32.toInt e
    rwa [px_toInt h.1 h.2.1, px_toInt h.2.2.1 h.2.2.2] at this
  · intro e
    rw [e]
theorem px_lt_iff {x y : Int} (h : -2147483648 ≤ x ∧ x < 2147483648 ∧ -2147483648 ≤ y ∧ y < 2147483648) : px_lt x y ↔ x < y := by
  unfold px_lt
  rw [Int32.lt_iff_toInt_lt, px_toInt h.1 h.2.1, px_toInt h.2.2.1 h.2.2.2]
theorem px_le_iff {x y : Int} (h : -2147483648 ≤ x ∧ x < 2147483648 ∧ -2147483648 ≤ y ∧ y < 2147483648) : px_le x y ↔ x ≤ y := by
  unfold px_le
  rw [Int32.le_iff_toInt_le, px_toInt h.1 h.2.1, px_toInt h.2.2.1 h.2.2.2]
def px_and (x y : Int) : Int := (Int32.ofInt x &&& Int32.ofInt y).toInt
def px_or (x y : Int) : Int := (Int32.ofInt x ||| Int32.ofInt y).toInt
def px_xor (x y : Int) : Int := (Int32.ofInt x ^^^ Int32.ofInt y).toInt
def px_shl (x y : Int) : Int := (Int32.ofInt x <<< (Int32.ofInt y &&& 31)).toInt
def px_shr (x y : Int) : Int := (Int32.ofInt x >>> (Int32.ofInt y &&& 31)).toInt
theorem px_div {x y : Int} (h : 0 ≤ x ∧ x < 2147483648 ∧ 0 < y ∧ y < 2147483648) : Int32.ofInt x / Int32.ofInt y = Int32.ofInt (x / y) := by
  have := Int32.ofInt_tdiv (a := x) (b := y) (by simp [Int32.toInt_minValue]; omega) (by simp [Int32.toInt_maxValue]; omega) (by simp [Int32.toInt_minValue]; omega) (by simp [Int32.toInt_maxValue]; omega)
  rw [← this, Int.tdiv_eq_ediv_of_nonneg h.1]
theorem px_mod {x y : Int} (h : 0 ≤ x ∧ x < 2147483648 ∧ 0 < y ∧ y < 2147483648) : Int32.ofInt x % Int32.ofInt y = Int32.ofInt (x % y) := by
  have := Int32.ofInt_tmod (a := x) (b := y) (by simp [Int32.toInt_minValue]; omega) (by simp [Int32.toInt_maxValue]; omega) (by simp [Int32.toInt_minValue]; omega) (by simp [Int32.toInt_maxValue]; omega)
  rw [← this, Int.tmod_eq_emod_of_nonneg h.1]
theorem px_ne0 {y : Int} (h : 0 < y ∧ y < 2147483648) : ¬ Int32.ofInt y = 0 := by
  intro e
  have := congrArg Int32.toInt e
  rw [px_toInt (by omega) (by omega)] at this
  have h9 : (0 : Int32).toInt = 0 := rfl
  omega
theorem px_mod64 {x y : Int} (h : 0 ≤ x ∧ x < 4611686018427387904 ∧ 0 < y ∧ y < 4611686018427387904) : Int64.ofInt x % Int64.ofInt y = Int64.ofInt (x % y) := by
  have := Int64.ofInt_tmod (a := x) (b := y) (by simp [Int64.toInt_minValue]; omega) (by simp [Int64.toInt_maxValue]; omega) (by simp [Int64.toInt_minValue]; omega) (by simp [Int64.toInt_maxValue]; omega)
  rw [← this, Int.tmod_eq_emod_of_nonneg h.1]
theorem px_ne064 {y : Int} (h : 0 < y ∧ y < 4611686018427387904) : ¬ Int64.ofInt y = 0 := by
  intro e
  have := congrArg Int64.toInt e
  rw [Int64.toInt_ofInt_of_le (by omega) (by omega)] at this
  have h9 : (0 : Int64).toInt = 0 := rfl
  omega
theorem px_i2l {x : Int} (h : -2147483648 ≤ x ∧ x < 2147483648) : (Int32.ofInt x).toInt64 = Int64.ofInt x := Int32.toInt64_ofInt (by simp [Int32.toInt_minValue]; omega) (by simp [Int32.toInt_maxValue]; omega)
theorem px_fvs : (∀ (o : Nat) (f : Int → Int), px_fv 0 0 o f = .inr (.inl (some (o + 1)))) ∧ (∀ (o : Nat) (f : Int → Int), px_fv 0 1 o f = .inr (.inl (some (o + 2)))) ∧ (∀ (o : Nat) (f : Int → Int), px_fv 0 2 o f = .inr (.inl (some (o + 3)))) ∧ (∀ (o : Nat) (f : Int → Int), px_fv 0 3 o f = .inr (.inl (some (o + 4)))) ∧ (∀ (o : Nat) (f : Int → Int), px_fv 0 4 o f = .inl (f 4)) ∧ (∀ (o : Nat) (f : Int → Int), px_fv 1 0 o f = .inr (.inl (some (o + 1)))) ∧ (∀ (o : Nat) (f : Int → Int), px_fv 1 1 o f = .inr (.inl (some (o + 2)))) ∧ (∀ (o : Nat) (f : Int → Int), px_fv 1 2 o f = .inr (.inl (some (o + 3)))) ∧ (∀ (o : Nat) (f : Int → Int), px_fv 2 0 o f = .inr (.inr (f 0))) ∧ (∀ (o : Nat) (f : Int → Int), px_fv 3 0 o f = .inl (f 0)) ∧ (∀ (o : Nat) (f : Int → Int), px_fv 3 1 o f = .inl (f 1)) ∧ (∀ (o : Nat) (f : Int → Int), px_fv 3 2 o f = .inl (f 2)) ∧ (∀ (o : Nat) (f : Int → Int), px_fv 3 3 o f = .inl (f 3)) ∧ (∀ (o : Nat) (f : Int → Int), px_fv 4 0 o f = .inr (.inl (some (o + 1)))) ∧ (∀ (o : Nat) (f : Int → Int), px_fv 4 1 o f = .inr (.inl (some (o + 2)))) ∧ (∀ (o : Nat) (f : Int → Int), px_fv 4 2 o f = .inr (.inl (some (o + 3)))) ∧ (∀ (o : Nat) (f : Int → Int), px_fv 4 3 o f = .inl (f 3)) ∧ (∀ (o : Nat) (f : Int → Int), px_fv 4 4 o f = .inl (f 4)) ∧ (∀ (o : Nat) (f : Int → Int), px_fv 5 0 o f = .inr (.inl (some (o + 1)))) ∧ (∀ (o : Nat) (f : Int → Int), px_fv 5 1 o f = .inl (f 1)) ∧ (∀ (o : Nat) (f : Int → Int), px_fv 5 2 o f = .inl (f 2)) ∧ (∀ (o : Nat) (f : Int → Int), px_fv 6 0 o f = .inr (.inl (some (o + 1)))) ∧ (∀ (o : Nat) (f : Int → Int), px_fv 6 1 o f = .inr (.inl (some (o + 6)))) ∧ (∀ (o : Nat) (f : Int → Int), px_fv 6 2 o f = .inr (.inl (some (o + 11)))) ∧ (∀ (o : Nat) (f : Int → Int), px_fv 6 3 o f = .inl (f 3)) ∧ (∀ (o : Nat) (f : Int → Int), px_fv 6 4 o f = .inl (f 4)) ∧ (∀ (o : Nat) (f : Int → Int), px_fv 7 0 o f = .inr (.inl (some (o + 1)))) ∧ (∀ (o : Nat) (f : Int → Int), px_fv 7 1 o f = .inr (.inl (some (o + 2)))) ∧ (∀ (o : Nat) (f : Int → Int), px_fv 7 2 o f = .inr (.inl (px_hd o (f 2)))) ∧ (∀ (o : Nat) (f : Int → Int), px_fv 8 0 o f = .inr (.inl (some (o + 1)))) ∧ (∀ (o : Nat) (f : Int → Int), px_fv 8 1 o f = .inl (f 1)) ∧ (∀ (o : Nat) (f : Int → Int), px_fv 9 0 o f = .inr (.inl (some (o + 1)))) ∧ (∀ (o : Nat) (f : Int → Int), px_fv 9 1 o f = .inr (.inl (some (o + 3)))) ∧ (∀ (o : Nat) (f : Int → Int), px_fv 9 2 o f = .inr (.inl (some (o + 17)))) ∧ (∀ (o : Nat) (f : Int → Int), px_fv 9 3 o f = .inr (.inl (some (o + 131)))) ∧ (∀ (o : Nat) (f : Int → Int), px_fv 9 4 o f = .inr (.inl (some (o + 160)))) ∧ (∀ (o : Nat) (f : Int → Int), px_fv 9 5 o f = .inr (.inl (some (o + 161)))) ∧ (∀ (o : Nat) (f : Int → Int), px_fv 9 6 o f = .inr (.inl (some (o + 178)))) ∧ (∀ (o : Nat) (f : Int → Int), px_fv 9 7 o f = .inr (.inl (some (o + 183)))) ∧ (∀ (o : Nat) (f : Int → Int), px_fv 9 8 o f = .inr (.inl (some (o + 188)))) ∧ (∀ (o : Nat) (f : Int → Int), px_fv 9 9 o f = .inr (.inl (some (o + 200)))) ∧ (∀ (o : Nat) (f : Int → Int), px_fv 9 10 o f = .inr (.inl (some (o + 204)))) ∧ (∀ (o : Nat) (f : Int → Int), px_fv 9 11 o f = .inl (f 11)) ∧ (∀ (o : Nat) (f : Int → Int), px_fv 10 0 o f = .inl (f 0)) ∧ (∀ (o : Nat) (f : Int → Int), px_fv 10 1 o f = .inr (.inl (some (o + 1)))) ∧ (∀ (o : Nat) (f : Int → Int), px_fv 10 2 o f = .inl (f 2)) ∧ (∀ (o : Nat) (f : Int → Int), px_fv 10 3 o f = .inr (.inl (some (o + 2)))) ∧ (∀ (o : Nat) (f : Int → Int), px_fv 10 4 o f = .inl (f 4)) ∧ (∀ (o : Nat) (f : Int → Int), px_fv 10 5 o f = .inr (.inl (some (o + 3)))) ∧ (∀ (o : Nat) (f : Int → Int), px_fv 10 6 o f = .inr (.inl (some (o + 4)))) ∧ (∀ (o : Nat) (f : Int → Int), px_fv 10 7 o f = .inr (.inl (some (o + 5)))) ∧ (∀ (o : Nat) (f : Int → Int), px_fv 10 8 o f = .inr (.inl (some (o + 6)))) ∧ (∀ (o : Nat) (f : Int → Int), px_fv 10 9 o f = .inr (.inl (some (o + 7)))) ∧ (∀ (o : Nat) (f : Int → Int), px_fv 10 10 o f = .inr (.inl (some (o + 8)))) ∧ (∀ (o : Nat) (f : Int → Int), px_fv 10 11 o f = .inr (.inl (some (o + 9)))) ∧ (∀ (o : Nat) (f : Int → Int), px_fv 10 12 o f = .inl (f 12)) ∧ (∀ (o : Nat) (f : Int → Int), px_fv 10 13 o f = .inr (.inl (some (o + 10)))) ∧ (∀ (o : Nat) (f : Int → Int), px_fv 10 14 o f = .inl (f 14)) ∧ (∀ (o : Nat) (f : Int → Int), px_fv 10 15 o f = .inr (.inl (some (o + 11)))) ∧ (∀ (o : Nat) (f : Int → Int), px_fv 10 16 o f = .inl (f 16)) ∧ (∀ (o : Nat) (f : Int → Int), px_fv 10 17 o f = .inr (.inl (some (o + 12)))) ∧ (∀ (o : Nat) (f : Int → Int), px_fv 10 18 o f = .inr (.inl (some (o + 13)))) ∧ (∀ (o : Nat) (f : Int → Int), px_fv 10 19 o f = .inr (.inl (some (o + 14)))) ∧ (∀ (o : Nat) (f : Int → Int), px_fv 10 20 o f = .inr (.inl (some (o + 15)))) ∧ (∀ (o : Nat) (f : Int → Int), px_fv 10 21 o f = .inr (.inr (f 21))) := ⟨fun _ _ => rfl, fun _ _ => rfl, fun _ _ => rfl, fun _ _ => rfl, fun _ _ => rfl, fun _ _ => rfl, fun _ _ => rfl, fun _ _ => rfl, fun _ _ => rfl, fun _ _ => rfl, fun _ _ => rfl, fun _ _ => rfl, fun _ _ => rfl, fun _ _ => rfl, fun _ _ => rfl, fun _ _ => rfl, fun _ _ => rfl, fun _ _ => rfl, fun _ _ => rfl, fun _ _ => rfl, fun _ _ => rfl, fun _ _ => rfl, fun _ _ => rfl, fun _ _ => rfl, fun _ _ => rfl, fun _ _ => rfl, fun _ _ => rfl, fun _ _ => rfl, fun _ _ => rfl, fun _ _ => rfl, fun _ _ => rfl, fun _ _ => rfl, fun _ _ => rfl, fun _ _ => rfl, fun _ _ => rfl, fun _ _ => rfl, fun _ _ => rfl, fun _ _ => rfl, fun _ _ => rfl, fun _ _ => rfl, fun _ _ => rfl, fun _ _ => rfl, fun _ _ => rfl, fun _ _ => rfl, fun _ _ => rfl, fun _ _ => rfl, fun _ _ => rfl, fun _ _ => rfl, fun _ _ => rfl, fun _ _ => rfl, fun _ _ => rfl, fun _ _ => rfl, fun _ _ => rfl, fun _ _ => rfl, fun _ _ => rfl, fun _ _ => rfl, fun _ _ => rfl, fun _ _ => rfl, fun _ _ => rfl, fun _ _ => rfl, fun _ _ => rfl, fun _ _ => rfl, fun _ _ => rfl, fun _ _ => rfl, fun _ _ => rfl⟩
theorem px_pfs : px_pf 0 0 = 2 ∧ px_pf 0 1 = 2 ∧ px_pf 0 2 = 2 ∧ px_pf 0 3 = 2 ∧ px_pf 0 4 = 0 ∧ px_pf 1 0 = 2 ∧ px_pf 1 1 = 2 ∧ px_pf 1 2 = 2 ∧ px_pf 2 0 = 1 ∧ px_pf 3 0 = 0 ∧ px_pf 3 1 = 0 ∧ px_pf 3 2 = 0 ∧ px_pf 3 3 = 0 ∧ px_pf 4 0 = 2 ∧ px_pf 4 1 = 2 ∧ px_pf 4 2 = 2 ∧ px_pf 4 3 = 0 ∧ px_pf 4 4 = 0 ∧ px_pf 5 0 = 2 ∧ px_pf 5 1 = 0 ∧ px_pf 5 2 = 0 ∧ px_pf 6 0 = 2 ∧ px_pf 6 1 = 2 ∧ px_pf 6 2 = 2 ∧ px_pf 6 3 = 0 ∧ px_pf 6 4 = 0 ∧ px_pf 7 0 = 2 ∧ px_pf 7 1 = 2 ∧ px_pf 7 2 = 3 ∧ px_pf 8 0 = 2 ∧ px_pf 8 1 = 0 ∧ px_pf 9 0 = 2 ∧ px_pf 9 1 = 2 ∧ px_pf 9 2 = 2 ∧ px_pf 9 3 = 2 ∧ px_pf 9 4 = 2 ∧ px_pf 9 5 = 2 ∧ px_pf 9 6 = 2 ∧ px_pf 9 7 = 2 ∧ px_pf 9 8 = 2 ∧ px_pf 9 9 = 2 ∧ px_pf 9 10 = 2 ∧ px_pf 9 11 = 0 ∧ px_pf 10 0 = 0 ∧ px_pf 10 1 = 2 ∧ px_pf 10 2 = 0 ∧ px_pf 10 3 = 2 ∧ px_pf 10 4 = 0 ∧ px_pf 10 5 = 2 ∧ px_pf 10 6 = 2 ∧ px_pf 10 7 = 2 ∧ px_pf 10 8 = 2 ∧ px_pf 10 9 = 2 ∧ px_pf 10 10 = 2 ∧ px_pf 10 11 = 2 ∧ px_pf 10 12 = 0 ∧ px_pf 10 13 = 2 ∧ px_pf 10 14 = 0 ∧ px_pf 10 15 = 2 ∧ px_pf 10 16 = 0 ∧ px_pf 10 17 = 2 ∧ px_pf 10 18 = 2 ∧ px_pf 10 19 = 2 ∧ px_pf 10 20 = 2 ∧ px_pf 10 21 = 1 := ⟨rfl, rfl, rfl, rfl, rfl, rfl, rfl, rfl, rfl, rfl, rfl, rfl, rfl, rfl, rfl, rfl, rfl, rfl, rfl, rfl, rfl, rfl, rfl, rfl, rfl, rfl, rfl, rfl, rfl, rfl, rfl, rfl, rfl, rfl, rfl, rfl, rfl, rfl, rfl, rfl, rfl, rfl, rfl, rfl, rfl, rfl, rfl, rfl, rfl, rfl, rfl, rfl, rfl, rfl, rfl, rfl, rfl, rfl, rfl, rfl, rfl, rfl, rfl, rfl, rfl⟩
/-! ===== what a method's body is walked in ===== -/
def px_tys (G : px_G) : List (ClassId × FieldType) := [(G.2.2.1 20, .int), (G.2.2.1 21, .boolean), (G.2.2.1 22, .object RX0), (G.2.2.1 23, .object RX1), (G.2.2.1 24, .object RX7), (G.2.2.1 25, .object RX9)]
def px_isNest : Cond → Bool
  | .fieldLinkNest .. => true
  | .methodLinkNest .. => true
  | _ => false
/-- what the tables say beside the words: the classes' numbers and slots, who isn't who, the links between nest mates -/
def px_K (G : px_G) (s : State) : Prop := va_K G.2.1 vwCl (px_tys G) s ∧ (va_Nc RX9 RX3 s ∧ va_Nc RX3 RX9 s) ∧ ∀ w ∈ lw_tbl, px_isNest w = true → va_Nw w s
theorem px_K.warm {G : px_G} {s U : State} (hW : s.WarmedH U.vm) (h : px_K G s) : px_K G U := by
  refine ⟨va_K.moved hW.alike h.1, ⟨h.2.1.1.moved hW.alike, h.2.1.2.moved hW.alike⟩, fun w hw hn => ?_⟩
  have h1 := h.2.2 w hw hn
  cases w <;> first | (cases hn; done) | exact va_Nw.warmF hW h1 | exact va_Nw.warmM hW h1
theorem px_K.same {G : px_G} {s U : State} (e : s.vm = U.vm) (h : px_K G s) : px_K G U := by
  have hA : s.vm.Alike U.vm := e ▸ Vm.Alike.refl s.vm
  refine ⟨va_K.moved hA h.1, ⟨h.2.1.1.moved hA, h.2.1.2.moved hA⟩, fun w hw hn => ?_⟩
  have h1 := h.2.2 w hw hn
  cases w <;> first | (cases hn; done) | exact va_Nw.same rfl e h1
def px_room (d : Nat) : Room := { frames := d, cells := 0, slots := 0, locals := 37 * d }
def px_Qc (G : px_G) (Q : Option px_X → px_Mem → Prop) : Array Value → State → Outcome → State → Prop := fun _ st oc t =>
  (∃ (r : Option px_X) (μ : px_Mem), oc = .returned (r.map (px_v G.2.2.2)) ∧ Q r μ ∧ va_P G.2.1 vwCl (px_w G μ) t.heap) ∧ va_F (fun q : Nat => G.2.2.2 ≤ q) st t
def px_Pc (G : px_G) (av : List px_X) (μ : px_Mem) : Array Value → State → Prop := va_Pc (av.map (px_v G.2.2.2)) (fun U => va_P G.2.1 vwCl (px_w G μ) U.heap ∧ px_K G U ∧ G.2.2.2 ≤ U.heap.size)
/-- a call of y: it returns, its answer and the memory behind it are as Q says -/
def px_C (G : px_G) (y : MethodName) (cc : ByteArray) (nL : Nat) (ret : Option FieldType) (d : Nat) (av : List px_X) (μ : px_Mem) (Q : Option px_X → px_Mem → Prop) : Prop :=
  Met G.1 y (.code y cc nL ret :: px_ws) (px_room d) (px_Pc G av μ) (px_Qc G Q) 0 0 (fun q : Nat => G.2.2.2 ≤ q)
def px_ll (b : Nat) (lv : List (Option px_X)) : List (Nat × Value) := lv.zipIdx.filterMap (fun q => q.1.map (fun v => (q.2, px_v b v)))
theorem px_ll_mem {b : Nat} {lv : List (Option px_X)} {q : Nat × Value} : q ∈ px_ll b lv ↔ ∃ v, lv[q.1]? = some (some v) ∧ q.2 = px_v b v := by
  unfold px_ll
  rw [List.mem_filterMap]
  constructor
  · rintro ⟨⟨o, j⟩, h1, h2⟩
    have h3 := List.mem_zipIdx_iff_getElem?.mp h1
    cases o with
    | none => cases h2
    | some v =>
      simp only [Option.map_some, Option.some.injEq] at h2
      subst h2
      exact ⟨v, h3, rfl⟩
  · rintro ⟨v, h1, h2⟩
    refine ⟨(some v, q.1), List.mem_zipIdx_iff_getElem?.mpr h1, ?_⟩
    simp only [Option.map_some, ← h2]
def px_c1 (v : px_X) : Prop := match v with
  | .inr (.inr _) => False
  | _ => True
theorem px_c1_cat {b : Nat} {v : px_X} (h : px_c1 v) : (px_v b v).category = 1 := by
  match v, h with
  | .inl z, _ => rfl
  | .inr (.inl none), _ => rfl
  | .inr (.inl (some o)), _ => rfl
def px_lv (b : Nat) (ls : Array Slot) (nL : Nat) (lv : List (Option px_X)) : Prop := lv_has ls nL (px_ll b lv) ∧ ∀ (i : Nat) (v : px_X), lv[i]? = some (some v) → px_c1 v
theorem px_lv.at {b : Nat} {ls : Array Slot} {nL : Nat} {lv : List (Option px_X)} (h : px_lv b ls nL lv) {i : Nat} {v : px_X} (hv : lv[i]? = some (some v)) : ls[i]? = some (.val (px_v b v)) := h.1.2.2 (i, px_v b v) (px_ll_mem.mpr ⟨v, hv, rfl⟩)
theorem px_lv.set {b : Nat} {ls ls' : Array Slot} {nL : Nat} {lv : List (Option px_X)} (h : px_lv b ls nL lv) {i : Nat} {v : px_X} (hc : px_c1 v)
    (h' : lv_has ls' nL ((i, px_v b v) :: (px_ll b lv).filter (fun q => !(q.1 == i) && !(q.1 + 1 == i && q.2.category == 2)))) : px_lv b ls' nL (lv.set i (some v)) := by
  refine ⟨⟨h'.1, h'.2.1, fun q hq => h'.2.2 q ?_⟩, fun j w hw => ?_⟩
  · obtain ⟨w, h1, h2⟩ := px_ll_mem.mp hq
    rw [List.getElem?_set] at h1
    by_cases hi : i = q.1
    · rw [if_pos hi] at h1
      split at h1
      · cases h1
        obtain ⟨q1, q2⟩ := q
        cases hi
        cases h2
        exact List.mem_cons_self
      · cases h1
    · rw [if_neg hi] at h1
      refine List.mem_cons_of_mem _ (List.mem_filter.mpr ⟨px_ll_mem.mpr ⟨w, h1, h2⟩, ?_⟩)
      have h3 := px_c1_cat (b := b) (h.2 _ _ h1)
      rw [h2, h3]
      simp only [Bool.and_eq_true, Bool.not_eq_true', beq_eq_false_iff_ne, ne_eq]
      exact ⟨fun e => hi e.symm, by simp⟩
  · rw [List.getElem?_set] at hw
    split at hw
    · split at hw
      · cases hw
        exact hc
      · cases hw
    · exact h.2 j w hw
def px_ctx (G : px_G) (own : String) (cc : ByteArray) (nL : Nat) (ret : Option FieldType) (p : Program) (s : State) (m : MethodId) (args : Array Value) (meth : Method) (c : Code) : Prop :=
  p.tables.exec = Jvm.exec ∧ c.code = cc ∧ c.maxLocals = nL ∧ meth.sig.returnType = ret ∧ meth.locks = false ∧ s.vm.findClass own = some m.cls ∧ (∀ w ∈ px_ws, w.before args s = true) ∧ px_K G s ∧ G.2.2.2 ≤ s.heap.size
/-- at pc, with these locals, this stack, this memory: it comes to its end, and there Q holds -/
def px_J (G : px_G) (own : String) (cc : ByteArray) (nL : Nat) (ret : Option FieldType) (d pc : Nat) (lv : List (Option px_X)) (st : List px_X) (μ : px_Mem) (Q : Option px_X → px_Mem → Prop) : Prop :=
  ∀ (p : Program) (e : Env) (s : State) (m : MethodId) (args : Array Value) (below : List Frame) (meth : Method) (c : Code), px_ctx G own cc nL ret p s m args meth c →
  ∀ (H : Heap) (locs : List Loc), va_P G.2.1 vwCl (px_w G μ) H → va_S (fun q : Nat => G.2.2.2 ≤ q) s.heap H locs → ∀ ls : Array Slot, px_lv G.2.2.2 ls nL lv →
  W p G.1 e (px_room d) s m args below meth c H locs 0 0 (MQ below (px_Qc G Q) args s 0 0 (fun q : Nat => G.2.2.2 ≤ q)) (F0 m pc ls (st.map (px_v G.2.2.2)))
theorem px_lv.entry (b m : Nat) (av : List px_X) (nL : Nat) (hn : av.length ≤ nL) (hc : ∀ v ∈ av, px_c1 v) : ∃ ls : Array Slot, px_lv b ls nL (av.map some ++ List.replicate (nL - av.length) none) ∧ ∀ mm : MethodId, entryFrame mm (av.map (px_v b)).toArray nL = F0 mm 0 ls [] := by
  have hsl : ∀ (l : List px_X), (∀ v ∈ l, px_c1 v) → (lg_sl (l.map (px_v b))) = l.map (fun v => Slot.val (px_v b v)) := by
    intro l
    induction l with
    | nil => intro _; rfl
    | cons a r ih =>
      intro h
      have h1 := px_c1_cat (b := b) (h a List.mem_cons_self)
      have h2 := ih (fun v hv => h v (List.mem_cons_of_mem _ hv))
      unfold lg_sl at h2 ⊢
      rw [List.map_cons, List.flatMap_cons, h2, if_neg (by rw [h1]; decide)]
      rfl
  have hlen : (lg_sl (av.map (px_v b))).length = av.length := by rw [hsl av hc, List.length_map]
  have hl := lv_entry (av.map (px_v b)) (n := nL) (by rw [hlen]; exact hn)
  have hargs : ∀ (l : List px_X) (k : Nat), (∀ v ∈ l, px_c1 v) → ∀ (i : Nat) (v : px_X), l[i]? = some v → (k + i, px_v b v) ∈ lv_args k (l.map (px_v b)) := by
    intro l
    induction l with
    | nil => intro k _ i v h; cases h
    | cons a r ih =>
      intro k h i v hv
      have h1 := px_c1_cat (b := b) (h a List.mem_cons_self)
      rw [List.map_cons, lv_args, if_neg (by rw [h1]; decide)]
      cases i with
      | zero =>
        cases hv
        exact List.mem_cons_self
      | succ i =>
        have := ih (k + 1) (fun v hv => h v (List.mem_cons_of_mem _ hv)) i v hv
        rw [show k + (i + 1) = k + 1 + i by omega]
        exact List.mem_cons_of_mem _ this
  have key : ∀ (i : Nat) (v : px_X), (av.map some ++ List.replicate (nL - av.length) none)[i]? = some (some v) → av[i]? = some v := by
    intro i v h
    by_cases hi : i < av.length
    · rw [List.getElem?_append_left (by rw [List.length_map]; exact hi), List.getElem?_map] at h
      cases h2 : av[i]? with
      | none => rw [h2] at h; cases h
      | some w => rw [h2] at h; simp at h; rw [h]
    · rw [List.getElem?_append_right (by rw [List.length_map]; omega)] at h
      have := List.mem_of_getElem? h
      have := List.eq_of_mem_replicate this
      cases this
  refine ⟨_, ⟨⟨hl.1, hl.2.1, fun q hq => hl.2.2 q ?_⟩, fun i v h => hc v (List.mem_of_getElem? (key i v h))⟩, fun mm => lg_entry_eq mm _ _⟩
  obtain ⟨v, h1, h2⟩ := px_ll_mem.mp hq
  have h3 := hargs av 0 hc q.1 v (key _ _ h1)
  rw [Nat.zero_add, ← h2] at h3
  exact h3
/-- a method's contract out of its body -/
theorem px_enter {G : px_G} {y : MethodName} {cc : ByteArray} {nL d : Nat} {ret : Option FieldType} {av : List px_X} {μ : px_Mem} {Q : Option px_X → px_Mem → Prop} (own : String) (hy : plainName y.cls = true) (ho : y.cls = own) (hn : av.length ≤ nL) (hc : ∀ v ∈ av, px_c1 v)
    (k : px_J G own cc nL ret d 0 (av.map some ++ List.replicate (nL - av.length) none) [] μ Q) : px_C G y cc nL ret d av μ Q := by
  subst ho
  refine Met.ofW (cc := cc) (maxL := nL) (ret := ret) hy rfl ?_
  intro p e s m args below meth c s₁ B hml hv
  obtain ⟨rfl, hP, hK, hsz⟩ := hv
  obtain ⟨ls, hl, he⟩ := px_lv.entry G.2.2.2 0 av nL hn hc
  rw [he m]
  have hts := atoms_spec (ws := .code y cc nL ret :: px_ws) B.pre
  exact k p e s m _ below meth c ⟨B.exec, B.bytes, hml, B.returns, B.notSynchronized, findClass_of_methodNamed B.named, fun w hw => hts w (List.mem_cons_of_mem _ hw), hK, hsz⟩ s.heap [] hP va_S.rf ls hl
theorem px_J.cut {G : px_G} {own : String} {cc : ByteArray} {nL d pc : Nat} {ret : Option FieldType} {lv lv' : List (Option px_X)} {st : List px_X} {μ : px_Mem} {Q : Option px_X → px_Mem → Prop} (h : px_J G own cc nL ret d pc lv' st μ Q)
    (hl : ∀ (i : Nat) (v : px_X), lv'[i]? = some (some v) → lv[i]? = some (some v)) : px_J G own cc nL ret d pc lv st μ Q := by
  intro p e s m args below meth c C H locs hP hS ls hls
  refine h p e s m args below meth c C H locs hP hS ls ⟨⟨hls.1.1, hls.1.2.1, fun q hq => ?_⟩, fun i v hv => hls.2 i v (hl i v hv)⟩
  obtain ⟨v, h1, h2⟩ := px_ll_mem.mp hq
  exact hls.1.2.2 q (px_ll_mem.mpr ⟨v, hl _ _ h1, h2⟩)
theorem px_C.mono {G : px_G} {y : MethodName} {cc : ByteArray} {nL d : Nat} {ret : Option FieldType} {av : List px_X} {μ : px_Mem} {Q Q' : Option px_X → px_Mem → Prop} (h : px_C G y cc nL ret d av μ Q) (hq : ∀ r μ', Q r μ' → Q' r μ') : px_C G y cc nL ret d av μ Q' := by
  intro p e ha hc hk s m args below hf hpre hP hx
  obtain ⟨t, o, h1, h2, h3, ⟨⟨⟨r, μ', e1, e2, e3⟩, hF⟩, h4⟩⟩ := h p e ha hc hk s m args below hf hpre hP hx
  exact ⟨t, o, h1, h2, h3, ⟨⟨⟨r, μ', e1, hq r μ' e2, e3⟩, hF⟩, h4⟩⟩
end
section
/-! ===== a row an instruction ===== -/
theorem px_mod1 {x y : Int} (h : 0 ≤ x ∧ x < 2147483648 ∧ 0 < y ∧ y < 2147483648) : Int32.ofInt x - Int32.ofInt x / Int32.ofInt y * Int32.ofInt y = Int32.ofInt (x % y) := by
  rw [px_div h, ← Int32.ofInt_mul, ← Int32.ofInt_sub, Int.emod_def, Int.mul_comm y]
theorem px_div64 {x y : Int} (h : 0 ≤ x ∧ x < 4611686018427387904 ∧ 0 < y ∧ y < 4611686018427387904) : Int64.ofInt x / Int64.ofInt y = Int64.ofInt (x / y) := by
  have := Int64.ofInt_tdiv (a := x) (b := y) (by simp [Int64.toInt_minValue]; omega) (by simp [Int64.toInt_maxValue]; omega) (by simp [Int64.toInt_minValue]; omega) (by simp [Int64.toInt_maxValue]; omega)
  rw [← this, Int.tdiv_eq_ediv_of_nonneg h.1]
theorem px_mod641 {x y : Int} (h : 0 ≤ x ∧ x < 4611686018427387904 ∧ 0 < y ∧ y < 4611686018427387904) : Int64.ofInt x - Int64.ofInt x / Int64.ofInt y * Int64.ofInt y = Int64.ofInt (x % y) := by
  rw [px_div64 h, ← Int64.ofInt_mul, ← Int64.ofInt_sub, Int.emod_def, Int.mul_comm y]
section PXR
variable {G : px_G} {own : String} {cc : ByteArray} {nL d pc : Nat} {ret : Option FieldType} {lv : List (Option px_X)} {st : List px_X} {μ : px_Mem} {Q : Option px_X → px_Mem → Prop}
theorem px_iconst {n : Int} (hd : decode cc pc = .ok (.iconst n, 1)) (k : px_J G own cc nL ret d (pc + 1) lv (.inl n :: st) μ Q) : px_J G own cc nL ret d pc lv st μ Q := by
  intro p e s m args below meth c C H locs hP hS ls hl
  exact lv_iconst C.1 C.2.1 hd rfl (k p e s m args below meth c C H locs hP hS ls hl)
theorem px_bipush {n : Int} (hd : decode cc pc = .ok (.bipush n, 2)) (hn : -128 ≤ n ∧ n ≤ 127) (k : px_J G own cc nL ret d (pc + 2) lv (.inl n :: st) μ Q) : px_J G own cc nL ret d pc lv st μ Q := by
  intro p e s m args below meth c C H locs hP hS ls hl
  exact lv_bipush C.1 C.2.1 hd (Int8.toInt32_ofInt (by simp [Int8.toInt_minValue]; omega) (by simp [Int8.toInt_maxValue]; omega)) (k p e s m args below meth c C H locs hP hS ls hl)
theorem px_sipush {n : Int} (hd : decode cc pc = .ok (.sipush n, 3)) (hn : -32768 ≤ n ∧ n ≤ 32767) (k : px_J G own cc nL ret d (pc + 3) lv (.inl n :: st) μ Q) : px_J G own cc nL ret d pc lv st μ Q := by
  intro p e s m args below meth c C H locs hP hS ls hl
  exact lv_sipush C.1 C.2.1 hd (Int16.toInt32_ofInt (by simp [Int16.toInt_minValue]; omega) (by simp [Int16.toInt_maxValue]; omega)) (k p e s m args below meth c C H locs hP hS ls hl)
theorem px_find {α : Type} {l : List α} {f : α → Bool} {β : Type} {g : α → β} {v : β} (h : (l.find? f).map g = some v) : ∃ e ∈ l, f e = true ∧ g e = v := by
  cases h1 : l.find? f with
  | none => rw [h1] at h; cases h
  | some e =>
    rw [h1] at h
    exact ⟨e, List.mem_of_find?_eq_some h1, List.find?_some h1, Option.some.inj h⟩
theorem px_ct_ok {idx : Nat} {v : Int} {b : Bool} (h : px_ct own idx = some (v, b)) : (if b then Cond.constantLong own idx (Int64.ofInt v) else Cond.constant own idx (Int32.ofInt v)) ∈ px_ws := by
  obtain ⟨⟨o, i, z, b', p⟩, h1, h2, h3⟩ := px_find h
  have h4 := List.all_eq_true.mp px_CT_ok _ h1
  simp only [px_CTok, Bool.and_eq_true, decide_eq_true_eq] at h4
  simp only [Bool.and_eq_true, beq_iff_eq] at h2
  obtain ⟨rfl, rfl⟩ := h2
  cases h3
  refine px_ws_at _ h4.1.1 ?_
  dsimp only
  cases b' <;> rfl
theorem px_ldc {idx : Nat} {v : Int} (hd : decode cc pc = .ok (.ldc idx, 2)) (h : px_ct own idx = some (v, false)) (k : px_J G own cc nL ret d (pc + 2) lv (.inl v :: st) μ Q) : px_J G own cc nL ret d pc lv st μ Q := by
  intro p e s m args below meth c C H locs hP hS ls hl
  exact lv_ldc C.1 C.2.1 C.2.2.2.2.2.1 (C.2.2.2.2.2.2.1 _ (px_ct_ok h)) hd (k p e s m args below meth c C H locs hP hS ls hl)
theorem px_ldc2 {idx : Nat} {v : Int} (hd : decode cc pc = .ok (.ldc2_w idx, 3)) (h : px_ct own idx = some (v, true)) (k : px_J G own cc nL ret d (pc + 3) lv (.inr (.inr v) :: st) μ Q) : px_J G own cc nL ret d pc lv st μ Q := by
  intro p e s m args below meth c C H locs hP hS ls hl
  exact lv_ldc2 C.1 C.2.1 C.2.2.2.2.2.1 (C.2.2.2.2.2.2.1 _ (px_ct_ok h)) hd (k p e s m args below meth c C H locs hP hS ls hl)
theorem px_null (hd : decode cc pc = .ok (.aconst_null, 1)) (k : px_J G own cc nL ret d (pc + 1) lv (.inr (.inl none) :: st) μ Q) : px_J G own cc nL ret d pc lv st μ Q := by
  intro p e s m args below meth c C H locs hP hS ls hl
  exact lv_null C.1 C.2.1 hd (k p e s m args below meth c C H locs hP hS ls hl)
theorem px_iload {i : Nat} {z : Int} (hd : decode cc pc = .ok (.iload i, 2)) (h : lv[i]? = some (some (.inl z))) (k : px_J G own cc nL ret d (pc + 2) lv (.inl z :: st) μ Q) : px_J G own cc nL ret d pc lv st μ Q := by
  intro p e s m args below meth c C H locs hP hS ls hl
  exact lv_iload C.1 C.2.1 hd (hl.at h) (k p e s m args below meth c C H locs hP hS ls hl)
theorem px_iload_n {i : Fin 4} {z : Int} (hd : decode cc pc = .ok (.iload_n i, 1)) (h : lv[(i : Nat)]? = some (some (.inl z))) (k : px_J G own cc nL ret d (pc + 1) lv (.inl z :: st) μ Q) : px_J G own cc nL ret d pc lv st μ Q := by
  intro p e s m args below meth c C H locs hP hS ls hl
  exact lv_iload_n C.1 C.2.1 hd rfl (hl.at h) (k p e s m args below meth c C H locs hP hS ls hl)
theorem px_aload {i : Nat} {r : Option Nat} (hd : decode cc pc = .ok (.aload i, 2)) (h : lv[i]? = some (some (.inr (.inl r)))) (k : px_J G own cc nL ret d (pc + 2) lv (.inr (.inl r) :: st) μ Q) : px_J G own cc nL ret d pc lv st μ Q := by
  intro p e s m args below meth c C H locs hP hS ls hl
  cases r with
  | none => exact lv_aloadN C.1 C.2.1 hd (hl.at h) (k p e s m args below meth c C H locs hP hS ls hl)
  | some o => exact lv_aload C.1 C.2.1 hd (hl.at h) (k p e s m args below meth c C H locs hP hS ls hl)
theorem px_aload_n {i : Fin 4} {r : Option Nat} (hd : decode cc pc = .ok (.aload_n i, 1)) (h : lv[(i : Nat)]? = some (some (.inr (.inl r)))) (k : px_J G own cc nL ret d (pc + 1) lv (.inr (.inl r) :: st) μ Q) : px_J G own cc nL ret d pc lv st μ Q := by
  intro p e s m args below meth c C H locs hP hS ls hl
  cases r with
  | none => exact lv_aload_nN C.1 C.2.1 hd rfl (hl.at h) (k p e s m args below meth c C H locs hP hS ls hl)
  | some o => exact lv_aload_n C.1 C.2.1 hd rfl (hl.at h) (k p e s m args below meth c C H locs hP hS ls hl)
theorem px_istore {i : Nat} {z : Int} (hd : decode cc pc = .ok (.istore i, 2)) (hi : i < nL) (k : px_J G own cc nL ret d (pc + 2) (lv.set i (some (.inl z))) st μ Q) : px_J G own cc nL ret d pc lv (.inl z :: st) μ Q := by
  intro p e s m args below meth c C H locs hP hS ls hl
  exact lv_istore C.1 C.2.1 hd hl.1 hi rfl (fun ls' h' => k p e s m args below meth c C H locs hP hS ls' (hl.set trivial h'))
theorem px_istore_n {i : Fin 4} {z : Int} (hd : decode cc pc = .ok (.istore_n i, 1)) (hi : (i : Nat) < nL) (k : px_J G own cc nL ret d (pc + 1) (lv.set i (some (.inl z))) st μ Q) : px_J G own cc nL ret d pc lv (.inl z :: st) μ Q := by
  intro p e s m args below meth c C H locs hP hS ls hl
  exact lv_istore_n C.1 C.2.1 hd rfl hl.1 hi rfl (fun ls' h' => k p e s m args below meth c C H locs hP hS ls' (hl.set trivial h'))
theorem px_astore {i : Nat} {r : Option Nat} (hd : decode cc pc = .ok (.astore i, 2)) (hi : i < nL) (k : px_J G own cc nL ret d (pc + 2) (lv.set i (some (.inr (.inl r)))) st μ Q) : px_J G own cc nL ret d pc lv (.inr (.inl r) :: st) μ Q := by
  intro p e s m args below meth c C H locs hP hS ls hl
  cases r with
  | none => exact lv_astoreN C.1 C.2.1 hd hl.1 hi rfl (fun ls' h' => k p e s m args below meth c C H locs hP hS ls' (hl.set trivial h'))
  | some o => exact lv_astore C.1 C.2.1 hd hl.1 hi rfl (fun ls' h' => k p e s m args below meth c C H locs hP hS ls' (hl.set trivial h'))
theorem px_astore_n {i : Fin 4} {r : Option Nat} (hd : decode cc pc = .ok (.astore_n i, 1)) (hi : (i : Nat) < nL) (k : px_J G own cc nL ret d (pc + 1) (lv.set i (some (.inr (.inl r)))) st μ Q) : px_J G own cc nL ret d pc lv (.inr (.inl r) :: st) μ Q := by
  intro p e s m args below meth c C H locs hP hS ls hl
  cases r with
  | none => exact lv_astore_nN C.1 C.2.1 hd rfl hl.1 hi rfl (fun ls' h' => k p e s m args below meth c C H locs hP hS ls' (hl.set trivial h'))
  | some o => exact lv_astore_n C.1 C.2.1 hd rfl hl.1 hi rfl (fun ls' h' => k p e s m args below meth c C H locs hP hS ls' (hl.set trivial h'))
theorem px_iinc {i : Nat} {n z : Int} (hd : decode cc pc = .ok (.iinc i n, 3)) (h : lv[i]? = some (some (.inl z))) (hi : i < nL) (k : px_J G own cc nL ret d (pc + 3) (lv.set i (some (.inl (z + n)))) st μ Q) : px_J G own cc nL ret d pc lv st μ Q := by
  intro p e s m args below meth c C H locs hP hS ls hl
  obtain ⟨j, hj⟩ := List.getElem?_of_mem (px_ll_mem (b := G.2.2.2) (q := (i, px_v G.2.2.2 (.inl z))) |>.mpr ⟨_, h, rfl⟩)
  exact lv_iinc C.1 C.2.1 hd hl.1 hj (Int32.ofInt_add z n).symm hi rfl (fun ls' h' => k p e s m args below meth c C H locs hP hS ls' (hl.set (v := .inl (z + n)) trivial h'))
theorem px_iadd {x y : Int} (hd : decode cc pc = .ok (.iadd, 1)) (k : px_J G own cc nL ret d (pc + 1) lv (.inl (x + y) :: st) μ Q) : px_J G own cc nL ret d pc lv (.inl y :: .inl x :: st) μ Q := by
  intro p e s m args below meth c C H locs hP hS ls hl
  have h := k p e s m args below meth c C H locs hP hS ls hl
  rw [List.map_cons, px_v, Int32.ofInt_add] at h
  exact lv_iadd C.1 C.2.1 hd h
theorem px_isub {x y : Int} (hd : decode cc pc = .ok (.isub, 1)) (k : px_J G own cc nL ret d (pc + 1) lv (.inl (x - y) :: st) μ Q) : px_J G own cc nL ret d pc lv (.inl y :: .inl x :: st) μ Q := by
  intro p e s m args below meth c C H locs hP hS ls hl
  have h := k p e s m args below meth c C H locs hP hS ls hl
  rw [List.map_cons, px_v, Int32.ofInt_sub] at h
  exact lv_isub C.1 C.2.1 hd h
theorem px_imul {x y : Int} (hd : decode cc pc = .ok (.imul, 1)) (k : px_J G own cc nL ret d (pc + 1) lv (.inl (x * y) :: st) μ Q) : px_J G own cc nL ret d pc lv (.inl y :: .inl x :: st) μ Q := by
  intro p e s m args below meth c C H locs hP hS ls hl
  have h := k p e s m args below meth c C H locs hP hS ls hl
  rw [List.map_cons, px_v, Int32.ofInt_mul] at h
  exact lv_imul C.1 C.2.1 hd h
theorem px_iand {x y : Int} (hd : decode cc pc = .ok (.iand, 1)) (k : px_J G own cc nL ret d (pc + 1) lv (.inl (px_and x y) :: st) μ Q) : px_J G own cc nL ret d pc lv (.inl y :: .inl x :: st) μ Q := by
  intro p e s m args below meth c C H locs hP hS ls hl
  have h := k p e s m args below meth c C H locs hP hS ls hl
  rw [List.map_cons, px_v, px_and, Int32.ofInt_toInt] at h
  exact lv_iand C.1 C.2.1 hd h
theorem px_ior {x y : Int} (hd : decode cc pc = .ok (.ior, 1)) (k : px_J G own cc nL ret d (pc + 1) lv (.inl (px_or x y) :: st) μ Q) : px_J G own cc nL ret d pc lv (.inl y :: .inl x :: st) μ Q := by
  intro p e s m args below meth c C H locs hP hS ls hl
  have h := k p e s m args below meth c C H locs hP hS ls hl
  rw [List.map_cons, px_v, px_or, Int32.ofInt_toInt] at h
  exact lv_ior C.1 C.2.1 hd h
theorem px_ixor {x y : Int} (hd : decode cc pc = .ok (.ixor, 1)) (k : px_J G own cc nL ret d (pc + 1) lv (.inl (px_xor x y) :: st) μ Q) : px_J G own cc nL ret d pc lv (.inl y :: .inl x :: st) μ Q := by
  intro p e s m args below meth c C H locs hP hS ls hl
  have h := k p e s m args below meth c C H locs hP hS ls hl
  rw [List.map_cons, px_v, px_xor, Int32.ofInt_toInt] at h
  exact lv_ixor C.1 C.2.1 hd h
theorem px_ishl {x y : Int} (hd : decode cc pc = .ok (.ishl, 1)) (k : px_J G own cc nL ret d (pc + 1) lv (.inl (px_shl x y) :: st) μ Q) : px_J G own cc nL ret d pc lv (.inl y :: .inl x :: st) μ Q := by
  intro p e s m args below meth c C H locs hP hS ls hl
  have h := k p e s m args below meth c C H locs hP hS ls hl
  rw [List.map_cons, px_v, px_shl, Int32.ofInt_toInt] at h
  exact lv_ishl C.1 C.2.1 hd h
theorem px_ishr {x y : Int} (hd : decode cc pc = .ok (.ishr, 1)) (k : px_J G own cc nL ret d (pc + 1) lv (.inl (px_shr x y) :: st) μ Q) : px_J G own cc nL ret d pc lv (.inl y :: .inl x :: st) μ Q := by
  intro p e s m args below meth c C H locs hP hS ls hl
  have h := k p e s m args below meth c C H locs hP hS ls hl
  rw [List.map_cons, px_v, px_shr, Int32.ofInt_toInt] at h
  exact lv_ishr C.1 C.2.1 hd h
theorem px_idiv {x y : Int} (hd : decode cc pc = .ok (.idiv, 1)) (hr : 0 ≤ x ∧ x < 2147483648 ∧ 0 < y ∧ y < 2147483648) (k : px_J G own cc nL ret d (pc + 1) lv (.inl (x / y) :: st) μ Q) : px_J G own cc nL ret d pc lv (.inl y :: .inl x :: st) μ Q := by
  intro p e s m args below meth c C H locs hP hS ls hl
  have h := k p e s m args below meth c C H locs hP hS ls hl
  rw [List.map_cons, px_v, ← px_div hr] at h
  exact lv_idiv C.1 C.2.1 hd (px_ne0 hr.2.2) h
theorem px_irem {x y : Int} (hd : decode cc pc = .ok (.irem, 1)) (hr : 0 ≤ x ∧ x < 2147483648 ∧ 0 < y ∧ y < 2147483648) (k : px_J G own cc nL ret d (pc + 1) lv (.inl (x % y) :: st) μ Q) : px_J G own cc nL ret d pc lv (.inl y :: .inl x :: st) μ Q := by
  intro p e s m args below meth c C H locs hP hS ls hl
  have h := k p e s m args below meth c C H locs hP hS ls hl
  rw [List.map_cons, px_v, ← px_mod1 hr] at h
  exact lv_irem C.1 C.2.1 hd (px_ne0 hr.2.2) h
theorem px_lmul {x y : Int} (hd : decode cc pc = .ok (.lmul, 1)) (k : px_J G own cc nL ret d (pc + 1) lv (.inr (.inr (x * y)) :: st) μ Q) : px_J G own cc nL ret d pc lv (.inr (.inr y) :: .inr (.inr x) :: st) μ Q := by
  intro p e s m args below meth c C H locs hP hS ls hl
  have h := k p e s m args below meth c C H locs hP hS ls hl
  rw [List.map_cons, px_v, Int64.ofInt_mul] at h
  exact lv_lmul C.1 C.2.1 hd h
theorem px_lrem {x y : Int} (hd : decode cc pc = .ok (.lrem, 1)) (hr : 0 ≤ x ∧ x < 4611686018427387904 ∧ 0 < y ∧ y < 4611686018427387904) (k : px_J G own cc nL ret d (pc + 1) lv (.inr (.inr (x % y)) :: st) μ Q) : px_J G own cc nL ret d pc lv (.inr (.inr y) :: .inr (.inr x) :: st) μ Q := by
  intro p e s m args below meth c C H locs hP hS ls hl
  have h := k p e s m args below meth c C H locs hP hS ls hl
  rw [List.map_cons, px_v, ← px_mod641 hr] at h
  exact lv_lrem C.1 C.2.1 hd (px_ne064 hr.2.2) h
theorem px_i2l_ {x : Int} (hd : decode cc pc = .ok (.i2l, 1)) (hr : -2147483648 ≤ x ∧ x < 2147483648) (k : px_J G own cc nL ret d (pc + 1) lv (.inr (.inr x) :: st) μ Q) : px_J G own cc nL ret d pc lv (.inl x :: st) μ Q := by
  intro p e s m args below meth c C H locs hP hS ls hl
  exact lv_i2l C.1 C.2.1 hd (px_i2l hr) (k p e s m args below meth c C H locs hP hS ls hl)
theorem px_l2i_ {x : Int} (hd : decode cc pc = .ok (.l2i, 1)) (k : px_J G own cc nL ret d (pc + 1) lv (.inl x :: st) μ Q) : px_J G own cc nL ret d pc lv (.inr (.inr x) :: st) μ Q := by
  intro p e s m args below meth c C H locs hP hS ls hl
  exact lv_l2i C.1 C.2.1 hd Int64.toInt32_ofInt (k p e s m args below meth c C H locs hP hS ls hl)
theorem px_dup_ {v : px_X} (hd : decode cc pc = .ok (.dup, 1)) (hv : px_c1 v) (k : px_J G own cc nL ret d (pc + 1) lv (v :: v :: st) μ Q) : px_J G own cc nL ret d pc lv (v :: st) μ Q := by
  intro p e s m args below meth c C H locs hP hS ls hl
  exact lv_dup C.1 C.2.1 hd (px_c1_cat hv) (k p e s m args below meth c C H locs hP hS ls hl)
theorem px_pop_ {v : px_X} (hd : decode cc pc = .ok (.pop, 1)) (hv : px_c1 v) (k : px_J G own cc nL ret d (pc + 1) lv st μ Q) : px_J G own cc nL ret d pc lv (v :: st) μ Q := by
  intro p e s m args below meth c C H locs hP hS ls hl
  exact lv_pop C.1 C.2.1 hd (px_c1_cat hv) (k p e s m args below meth c C H locs hP hS ls hl)
theorem px_dup2_ {v w : px_X} (hd : decode cc pc = .ok (.dup2, 1)) (hv : px_c1 v) (hw : px_c1 w) (k : px_J G own cc nL ret d (pc + 1) lv (v :: w :: v :: w :: st) μ Q) : px_J G own cc nL ret d pc lv (v :: w :: st) μ Q := by
  intro p e s m args below meth c C H locs hP hS ls hl
  exact lv_dup2_11 C.1 C.2.1 hd (px_c1_cat hv) (px_c1_cat hw) (k p e s m args below meth c C H locs hP hS ls hl)
def px_cmp (c : ClassFile.Cond) (x y : Int) : Prop := match c with
  | .eq => px_eq x y
  | .ne => ¬ px_eq x y
  | .lt => px_lt x y
  | .ge => px_le y x
  | .gt => px_lt y x
  | .le => px_le x y
def px_tg (pc : Nat) (off : Int) : Nat := ((pc : Int) + off).toNat
theorem px_if {cn : ClassFile.Cond} {off x : Int} (hd : decode cc pc = .ok (.ifCond cn off, 3)) (ht : 0 ≤ (pc : Int) + off) (k1 : px_cmp cn x 0 → px_J G own cc nL ret d (px_tg pc off) lv st μ Q) (k2 : ¬ px_cmp cn x 0 → px_J G own cc nL ret d (pc + 3) lv st μ Q) : px_J G own cc nL ret d pc lv (.inl x :: st) μ Q := by
  intro p e s m args below meth c C H locs hP hS ls hl
  have hn : (pc : Int) + off = ((px_tg pc off : Nat) : Int) := (Int.toNat_of_nonneg ht).symm
  have a1 := fun h => k1 h p e s m args below meth c C H locs hP hS ls hl
  have a2 := fun h => k2 h p e s m args below meth c C H locs hP hS ls hl
  cases cn
  · exact lv_if_eq C.1 C.2.1 hd hn a1 a2
  · exact lv_if_ne C.1 C.2.1 hd hn a1 (fun h => a2 (fun q => q h))
  · exact lv_if_lt C.1 C.2.1 hd hn a1 a2
  · exact lv_if_ge C.1 C.2.1 hd hn a1 a2
  · exact lv_if_gt C.1 C.2.1 hd hn a1 a2
  · exact lv_if_le C.1 C.2.1 hd hn a1 a2
theorem px_icmp {cn : ClassFile.Cond} {off x y : Int} (hd : decode cc pc = .ok (.if_icmp cn off, 3)) (ht : 0 ≤ (pc : Int) + off) (k1 : px_cmp cn x y → px_J G own cc nL ret d (px_tg pc off) lv st μ Q) (k2 : ¬ px_cmp cn x y → px_J G own cc nL ret d (pc + 3) lv st μ Q) : px_J G own cc nL ret d pc lv (.inl y :: .inl x :: st) μ Q := by
  intro p e s m args below meth c C H locs hP hS ls hl
  have hn : (pc : Int) + off = ((px_tg pc off : Nat) : Int) := (Int.toNat_of_nonneg ht).symm
  have a1 := fun h => k1 h p e s m args below meth c C H locs hP hS ls hl
  have a2 := fun h => k2 h p e s m args below meth c C H locs hP hS ls hl
  cases cn
  · exact lv_icmp_eq C.1 C.2.1 hd hn a1 a2
  · exact lv_icmp_ne C.1 C.2.1 hd hn a1 (fun h => a2 (fun q => q h))
  · exact lv_icmp_lt C.1 C.2.1 hd hn a1 a2
  · exact lv_icmp_ge C.1 C.2.1 hd hn a1 a2
  · exact lv_icmp_gt C.1 C.2.1 hd hn a1 a2
  · exact lv_icmp_le C.1 C.2.1 hd hn a1 a2
theorem px_goto {off : Int} (hd : decode cc pc = .ok (.goto off, 3)) (ht : 0 ≤ (pc : Int) + off) (k : px_J G own cc nL ret d (px_tg pc off) lv st μ Q) : px_J G own cc nL ret d pc lv st μ Q := by
  intro p e s m args below meth c C H locs hP hS ls hl
  exact lv_goto C.1 C.2.1 hd (Int.toNat_of_nonneg ht).symm (k p e s m args below meth c C H locs hP hS ls hl)
theorem px_ifnull {off : Int} {r : Option Nat} (hd : decode cc pc = .ok (.ifnull off, 3)) (ht : 0 ≤ (pc : Int) + off) (k : px_J G own cc nL ret d (match r with | none => px_tg pc off | some _ => pc + 3) lv st μ Q) : px_J G own cc nL ret d pc lv (.inr (.inl r) :: st) μ Q := by
  intro p e s m args below meth c C H locs hP hS ls hl
  cases r with
  | none => exact lv_ifnullN C.1 C.2.1 hd (Int.toNat_of_nonneg ht).symm (k p e s m args below meth c C H locs hP hS ls hl)
  | some o => exact lv_ifnull C.1 C.2.1 hd (k p e s m args below meth c C H locs hP hS ls hl)
theorem px_ifnonnull {off : Int} {r : Option Nat} (hd : decode cc pc = .ok (.ifnonnull off, 3)) (ht : 0 ≤ (pc : Int) + off) (k : px_J G own cc nL ret d (match r with | none => pc + 3 | some _ => px_tg pc off) lv st μ Q) : px_J G own cc nL ret d pc lv (.inr (.inl r) :: st) μ Q := by
  intro p e s m args below meth c C H locs hP hS ls hl
  cases r with
  | none => exact lv_ifnonnullN C.1 C.2.1 hd (k p e s m args below meth c C H locs hP hS ls hl)
  | some o => exact lv_ifnonnull C.1 C.2.1 hd (Int.toNat_of_nonneg ht).symm (k p e s m args below meth c C H locs hP hS ls hl)
end PXR
end
section
/-! ===== the heap's rows, calls, answers ===== -/
theorem px_fv_congr {ci k o : Nat} {f g : Int → Int} (h : f k = g k) : px_fv ci k o f = px_fv ci k o g := by
  unfold px_fv
  rw [h]
theorem px_class {ci : Nat} {C : String} {T : u_T} {N : Nat} (h : vwCl[ci]? = some (C, T, N)) : ∃ ty : Nat → FieldType, (∀ k, k < N → parseFieldDescriptor (T k).2.2.1 = some (ty k)) ∧ (∀ a, a < N → ∀ b, b < N → a ≠ b → (T a).2.1 ≠ (T b).2.1) ∧ (∀ w ∈ u_ws C T N, w ∈ px_ws) ∧ N = px_nf ci ∧ ci < 20 ∧
    ∀ k, k < N → (px_pf ci k = 0 → ty k = .int ∧ (T k).2.2.2 = false) ∧ (px_pf ci k = 1 → ty k = .long ∧ (T k).2.2.2 = false) ∧ (px_pf ci k = 3 → ty k = .object "PatchHouse$Shelvable" ∧ (T k).2.2.2 = false) := by
  match ci, h with
  | 0, h => cases h; exact ⟨tyX0, tyX0_ok, nmX0, px_in0, rfl, by decide, by decide +kernel⟩
  | 1, h => cases h; exact ⟨tyX1, tyX1_ok, nmX1, px_in1, rfl, by decide, by decide +kernel⟩
  | 2, h => cases h; exact ⟨tyX2, tyX2_ok, nmX2, px_in2, rfl, by decide, by decide +kernel⟩
  | 3, h => cases h; exact ⟨tyX3, tyX3_ok, nmX3, px_in3, rfl, by decide, by decide +kernel⟩
  | 4, h => cases h; exact ⟨tyX4, tyX4_ok, nmX4, px_in4, rfl, by decide, by decide +kernel⟩
  | 5, h => cases h; exact ⟨tyX5, tyX5_ok, nmX5, px_in5, rfl, by decide, by decide +kernel⟩
  | 6, h => cases h; exact ⟨tyX6, tyX6_ok, nmX6, px_in6, rfl, by decide, by decide +kernel⟩
  | 7, h => cases h; exact ⟨tyX7, tyX7_ok, nmX7, px_in7, rfl, by decide, by decide +kernel⟩
  | 8, h => cases h; exact ⟨tyX9, tyX9_ok, nmX9, px_in8, rfl, by decide, by decide +kernel⟩
  | 9, h => cases h; exact ⟨tyX10, tyX10_ok, nmX10, px_in9, rfl, by decide, by decide +kernel⟩
  | 10, h => cases h; exact ⟨tyX11, tyX11_ok, nmX11, px_in10, rfl, by decide, by decide +kernel⟩
  | n + 11, h => simp [vwCl] at h
theorem px_fd_ok {own : String} {idx ci k : Nat} (h : px_fd own idx = some (ci, k)) : ∃ (C : String) (T : u_T) (N : Nat), vwCl[ci]? = some (C, T, N) ∧ k < N ∧ (T k).1 = C ∧
    (Cond.fieldLink own idx C (T k).2.1 (T k).2.2.1 ∈ px_ws ∨ Cond.fieldLinkNest own idx C (T k).2.1 (T k).2.2.1 "PatchHouse" ∈ lw_tbl) := by
  obtain ⟨⟨o, i, cj, kj, b, p⟩, h1, h2, h3⟩ := px_find h
  have h4 := List.all_eq_true.mp px_F_ok _ h1
  simp only [Bool.and_eq_true, beq_iff_eq] at h2
  obtain ⟨rfl, rfl⟩ := h2
  simp only [Prod.mk.injEq] at h3
  obtain ⟨rfl, rfl⟩ := h3
  unfold px_Fok at h4
  dsimp only at h4
  split at h4
  · rename_i C T N hv
    simp only [Bool.and_eq_true, decide_eq_true_eq] at h4
    refine ⟨C, T, N, hv, h4.1.1, h4.2, ?_⟩
    have h5 := h4.1.2
    unfold px_Fw at h5
    dsimp only at h5
    cases b
    · exact Or.inl (px_ws_at _ h5 rfl)
    · exact Or.inr (List.mem_of_getElem? h5)
  · cases h4
section PXH
variable {G : px_G} {own : String} {cc : ByteArray} {nL d pc : Nat} {ret : Option FieldType} {lv : List (Option px_X)} {st : List px_X} {μ : px_Mem} {Q : Option px_X → px_Mem → Prop}
theorem px_getf {idx ci k o : Nat} (hd : decode cc pc = .ok (.getfield idx, 3)) (hf : px_fd own idx = some (ci, k)) (ho : px_kd o = ci) (kk : px_J G own cc nL ret d (pc + 3) lv (px_fv ci k o (μ o) :: st) μ Q) : px_J G own cc nL ret d pc lv (.inr (.inl (some o)) :: st) μ Q := by
  intro p e s m args below meth c C H locs hP hS ls hl
  obtain ⟨C1, T, N, hc, hk, hC, hw⟩ := px_fd_ok hf
  obtain ⟨ty, hty, hnm, hin, hN, hci, -⟩ := px_class hc
  have he : (px_w G μ)[o]? = some (G.2.2.2 + o, .inr (ci, (List.range (px_nf ci)).map (fun k => px_v G.2.2.2 (px_fv ci k o (μ o))))) := by
    rw [px_w_at (px_kd_lt (by omega)), px_cell_obj ho hci]
  have hv : ((List.range (px_nf ci)).map (fun k => px_v G.2.2.2 (px_fv ci k o (μ o))))[k]? = some (px_v G.2.2.2 (px_fv ci k o (μ o))) := by
    rw [List.getElem?_map, List.getElem?_range (by omega)]
    rfl
  have hsame : ∀ x, s.fieldFound? (T k).1 (T k).2.1 (T k).2.2.1 = some x → s.fieldFound? C1 (T k).2.1 (T k).2.2.1 = some x := by
    rw [hC]
    exact fun _ h => h
  have hk2 := kk p e s m args below meth c C H locs hP hS ls hl
  rcases hw with hw | hw
  · exact va_get C.1 C.2.1 C.2.2.2.2.2.2.1 hin C.2.2.2.2.2.1 C.2.2.2.2.2.2.2.1.1 hP o he hc k hk (C.2.2.2.2.2.2.1 _ hw) hsame hv hd hk2
  · exact va_getN C.1 C.2.1 C.2.2.2.2.2.2.1 hin C.2.2.2.2.2.1 C.2.2.2.2.2.2.2.1.1 hP o he hc k hk (va_Nw.use rfl (C.2.2.2.2.2.2.2.1.2.2 _ hw rfl)) hsame hv hd hk2
def px_put (t : Nat) (v : px_X) (o : Nat) (f : Int → Prop) : Prop := match t, v with
  | 0, .inl z => f z
  | 1, .inr (.inr z) => f z
  | 3, .inr (.inl none) => f 0
  | 3, .inr (.inl (some a)) => o < a ∧ f ((a : Int) - o)
  | _, _ => False
theorem px_put_inv {t : Nat} {v : px_X} {o : Nat} {f : Int → Prop} (h : px_put t v o f) : ∃ z, f z ∧ ((t = 0 ∧ v = .inl z) ∨ (t = 1 ∧ v = .inr (.inr z)) ∨ (t = 3 ∧ v = .inr (.inl (px_hd o z)))) := by
  unfold px_put at h
  split at h
  · exact ⟨_, h, Or.inl ⟨rfl, rfl⟩⟩
  · exact ⟨_, h, Or.inr (Or.inl ⟨rfl, rfl⟩)⟩
  · exact ⟨0, h, Or.inr (Or.inr ⟨rfl, rfl⟩)⟩
  · rename_i a
    refine ⟨_, h.2, Or.inr (Or.inr ⟨rfl, ?_⟩)⟩
    unfold px_hd
    rw [if_neg (by omega)]
    congr 3
    omega
  · exact h.elim
theorem px_putf {idx ci k o : Nat} {v : px_X} (hd : decode cc pc = .ok (.putfield idx, 3)) (hf : px_fd own idx = some (ci, k)) (ho : px_kd o = ci) (kk : px_put (px_pf ci k) v o (fun z => px_J G own cc nL ret d (pc + 3) lv st (px_up μ o k z) Q)) : px_J G own cc nL ret d pc lv (v :: .inr (.inl (some o)) :: st) μ Q := by
  intro p e s m args below meth c C H locs hP hS ls hl
  obtain ⟨z, kk, hz⟩ := px_put_inv kk
  obtain ⟨C1, T, N, hc, hk, hC, hw⟩ := px_fd_ok hf
  obtain ⟨ty, hty, hnm, hin, hN, hci, hft⟩ := px_class hc
  have hol : o < 221 := px_kd_lt (by omega)
  have he : (px_w G μ)[o]? = some (G.2.2.2 + o, .inr (ci, (List.range (px_nf ci)).map (fun k => px_v G.2.2.2 (px_fv ci k o (μ o))))) := by
    rw [px_w_at hol, px_cell_obj ho hci]
  have hsame : ∀ x, s.fieldFound? (T k).1 (T k).2.1 (T k).2.2.1 = some x → s.fieldFound? C1 (T k).2.1 (T k).2.2.1 = some x := by
    rw [hC]
    exact fun _ h => h
  have hval : px_fv ci k o (px_up μ o k z o) = v ∧ (T k).2.2.2 = false ∧ narrow (ty k) (px_v G.2.2.2 v) = px_v G.2.2.2 v ∧ fits (ty k) (px_v G.2.2.2 v) = true := by
    have e1 : px_up μ o k z o k = z := by simp [px_up]
    rcases hz with ⟨h1, rfl⟩ | ⟨h1, rfl⟩ | ⟨h1, rfl⟩
    · obtain ⟨h2, h3⟩ := (hft k hk).1 h1
      rw [h2]
      exact ⟨by simp only [px_fv, h1, e1], h3, rfl, rfl⟩
    · obtain ⟨h2, h3⟩ := (hft k hk).2.1 h1
      rw [h2]
      exact ⟨by simp only [px_fv, h1, e1], h3, rfl, rfl⟩
    · obtain ⟨h2, h3⟩ := (hft k hk).2.2 h1
      rw [h2]
      refine ⟨by simp only [px_fv, h1, e1], h3, ?_, ?_⟩
      · cases px_hd o z <;> rfl
      · cases px_hd o z <;> rfl
  obtain ⟨hv1, hfin, hnar, hfit⟩ := hval
  have hset : (px_w G μ).set o (G.2.2.2 + o, .inr (ci, ((List.range (px_nf ci)).map (fun k => px_v G.2.2.2 (px_fv ci k o (μ o)))).set k (px_v G.2.2.2 v))) = px_w G (px_up μ o k z) := by
    refine px_w_set hol (fun o' h => px_up_o h) ?_
    rw [px_cell_obj ho hci]
    congr 2
    apply List.ext_getElem?
    intro j
    rw [List.getElem?_set]
    by_cases hj : k = j
    · subst hj
      rw [if_pos rfl, if_pos (by rw [List.length_map, List.length_range]; omega), List.getElem?_map, List.getElem?_range (by omega)]
      simp only [Option.map_some, hv1]
    · rw [if_neg hj, List.getElem?_map, List.getElem?_map]
      by_cases hl : j < px_nf ci
      · rw [List.getElem?_range hl]
        simp only [Option.map_some]
        rw [px_fv_congr (f := μ o) (g := px_up μ o k z o)]
        have : ¬ ((j : Int) = (k : Int)) := by omega
        simp [px_up, this]
      · rw [List.getElem?_eq_none (by rw [List.length_range]; omega)]
        rfl
  have hk2 : ∀ (H1 : Heap) (locs1 : List Loc), va_P G.2.1 vwCl ((px_w G μ).set o (G.2.2.2 + o, .inr (ci, ((List.range (px_nf ci)).map (fun k => px_v G.2.2.2 (px_fv ci k o (μ o)))).set k (px_v G.2.2.2 v)))) H1 → va_D (fun q : Nat => G.2.2.2 ≤ q) ((px_w G μ).set o (G.2.2.2 + o, .inr (ci, ((List.range (px_nf ci)).map (fun k => px_v G.2.2.2 (px_fv ci k o (μ o)))).set k (px_v G.2.2.2 v)))) → va_S (fun q : Nat => G.2.2.2 ≤ q) s.heap H1 locs1 → W p G.1 e (px_room d) s m args below meth c H1 locs1 0 0 (MQ below (px_Qc G Q) args s 0 0 (fun q : Nat => G.2.2.2 ≤ q)) (F0 m (pc + 3) ls (st.map (px_v G.2.2.2))) := by
    intro H1 locs1 h1 h2 h3
    rw [hset] at h1
    exact kk p e s m args below meth c C H1 locs1 h1 h3 ls hl
  rcases hw with hw | hw
  · exact va_put C.1 C.2.1 C.2.2.2.2.2.2.1 hin ty hty hnm C.2.2.2.2.2.1 C.2.2.2.2.2.2.2.1.1 hP px_w_D hS o he hc k hk (C.2.2.2.2.2.2.1 _ hw) hsame hfin (hty k hk) hnar hfit (by rw [List.length_map, List.length_range]; omega) hd hk2
  · exact va_putN C.1 C.2.1 C.2.2.2.2.2.2.1 hin ty hty hnm C.2.2.2.2.2.1 C.2.2.2.2.2.2.2.1.1 hP px_w_D hS o he hc k hk (va_Nw.use rfl (C.2.2.2.2.2.2.2.1.2.2 _ hw rfl)) hsame hfin (hty k hk) hnar hfit (by rw [List.length_map, List.length_range]; omega) hd hk2
theorem px_iald {i : Int} {a : Nat} (hd : decode cc pc = .ok (.iaload, 1)) (h : px_kd a = 20 ∧ 0 ≤ i ∧ i < px_ln a) (k : px_J G own cc nL ret d (pc + 1) lv (.inl (μ a i) :: st) μ Q) : px_J G own cc nL ret d pc lv (.inl i :: .inr (.inl (some a)) :: st) μ Q := by
  intro p e s m args below meth c C H locs hP hS ls hl
  obtain ⟨h1, h2⟩ := px_ix_in h.2.1 h.2.2 (px_ln_le a)
  have hk := k p e s m args below meth c C H locs hP hS ls hl
  refine va_iald C.1 C.2.1 C.2.2.2.2.2.2.2.1.1 hP a 0 (by rw [px_w_at (px_kd_lt (by omega)), px_cell_int h.1 (by decide) (by decide)]) rfl h1 hd ?_
  rw [h2, Int.toNat_of_nonneg h.2.1]
  exact hk
theorem px_bald {i : Int} {a : Nat} (hd : decode cc pc = .ok (.baload, 1)) (h : px_kd a = 21 ∧ 0 ≤ i ∧ i < px_ln a) (k : px_J G own cc nL ret d (pc + 1) lv (.inl (μ a i) :: st) μ Q) : px_J G own cc nL ret d pc lv (.inl i :: .inr (.inl (some a)) :: st) μ Q := by
  intro p e s m args below meth c C H locs hP hS ls hl
  obtain ⟨h1, h2⟩ := px_ix_in h.2.1 h.2.2 (px_ln_le a)
  have hk := k p e s m args below meth c C H locs hP hS ls hl
  refine va_zald C.1 C.2.1 C.2.2.2.2.2.2.2.1.1 hP a 1 (by rw [px_w_at (px_kd_lt (by omega)), px_cell_int h.1 (by decide) (by decide)]) rfl h1 hd ?_
  rw [h2, Int.toNat_of_nonneg h.2.1]
  exact hk
theorem px_aald {i : Int} {a : Nat} (hd : decode cc pc = .ok (.aaload, 1)) (h : (22 ≤ px_kd a ∧ px_kd a ≤ 25) ∧ 0 ≤ i ∧ i < px_ln a) (k : px_J G own cc nL ret d (pc + 1) lv (.inr (.inl (some (px_el (px_kd a) a i.toNat))) :: st) μ Q) : px_J G own cc nL ret d pc lv (.inl i :: .inr (.inl (some a)) :: st) μ Q := by
  intro p e s m args below meth c C H locs hP hS ls hl
  obtain ⟨h1, h2⟩ := px_ix_in h.2.1 h.2.2 (px_ln_le a)
  have hk := k p e s m args below meth c C H locs hP hS ls hl
  have hcell : (px_w G μ)[a]? = some (G.2.2.2 + a, .inl (G.2.2.1 (px_kd a), px_ln a, .inr (.inr (.inr (.inr (fun j => some (G.2.2.2 + px_el (px_kd a) a j))))))) := by
    rw [px_w_at (px_kd_lt (by omega)), px_cell_ref rfl h.1.1]
  have ht : ∃ (t0 : Nat) (E : String), (px_tys G)[t0]? = some (G.2.2.1 (px_kd a), .object E) := by
    have h9 : px_kd a = 22 ∨ px_kd a = 23 ∨ px_kd a = 24 ∨ px_kd a = 25 := by omega
    rcases h9 with h9 | h9 | h9 | h9 <;> rw [h9]
    · exact ⟨2, RX0, rfl⟩
    · exact ⟨3, RX1, rfl⟩
    · exact ⟨4, RX7, rfl⟩
    · exact ⟨5, RX9, rfl⟩
  obtain ⟨t0, E, ht⟩ := ht
  refine va_aldq C.1 C.2.1 C.2.2.2.2.2.2.2.1.1 hP a t0 hcell ht h1 hd ?_
  rw [h2]
  exact hk
theorem px_arr_set {a : Nat} {i x : Int} {c : Nat} (h : px_kd a = c) (h1 : 20 ≤ c) (h2 : c < 22) (h0 : 0 ≤ i) : (px_w G μ).set a (G.2.2.2 + a, .inl (G.2.2.1 c, px_ln a, .inl (upd (fun j : Nat => Int32.ofInt (μ a j)) i.toNat (Int32.ofInt x)))) = px_w G (px_up μ a i x) := by
  refine px_w_set (px_kd_lt (by omega)) (fun o' h => px_up_o h) ?_
  rw [px_cell_int h h1 h2]
  congr 4
  funext j
  by_cases hj : j = i.toNat
  · have : (j : Int) = i := by omega
    unfold upd px_up
    rw [if_pos hj, if_pos ⟨rfl, this⟩]
  · have : ¬ (j : Int) = i := by omega
    unfold upd px_up
    rw [if_neg hj, if_neg (fun q => this q.2)]
theorem px_iast {i x : Int} {a : Nat} (hd : decode cc pc = .ok (.iastore, 1)) (h : px_kd a = 20 ∧ 0 ≤ i ∧ i < px_ln a) (k : px_J G own cc nL ret d (pc + 1) lv st (px_up μ a i x) Q) : px_J G own cc nL ret d pc lv (.inl x :: .inl i :: .inr (.inl (some a)) :: st) μ Q := by
  intro p e s m args below meth c C H locs hP hS ls hl
  obtain ⟨h1, h2⟩ := px_ix_in h.2.1 h.2.2 (px_ln_le a)
  refine va_iast C.1 C.2.1 C.2.2.2.2.2.2.2.1.1 hP px_w_D hS a 0 (by rw [px_w_at (px_kd_lt (by omega)), px_cell_int h.1 (by decide) (by decide)]) rfl h1 hd (fun H1 locs1 g1 g2 g3 => ?_)
  rw [h2, px_arr_set h.1 (by decide) (by decide) h.2.1] at g1
  exact k p e s m args below meth c C H1 locs1 g1 g3 ls hl
theorem px_bast {i x : Int} {a : Nat} (hd : decode cc pc = .ok (.bastore, 1)) (h : px_kd a = 21 ∧ 0 ≤ i ∧ i < px_ln a) (hx : x = 0 ∨ x = 1) (k : px_J G own cc nL ret d (pc + 1) lv st (px_up μ a i x) Q) : px_J G own cc nL ret d pc lv (.inl x :: .inl i :: .inr (.inl (some a)) :: st) μ Q := by
  intro p e s m args below meth c C H locs hP hS ls hl
  obtain ⟨h1, h2⟩ := px_ix_in h.2.1 h.2.2 (px_ln_le a)
  have hn : vp_nar .boolean (Int32.ofInt x) = Int32.ofInt x := by rcases hx with rfl | rfl <;> decide
  refine va_zast C.1 C.2.1 C.2.2.2.2.2.2.2.1.1 hP px_w_D hS a 1 (by rw [px_w_at (px_kd_lt (by omega)), px_cell_int h.1 (by decide) (by decide)]) rfl h1 hd (fun H1 locs1 g1 g2 g3 => ?_)
  rw [h2, hn, px_arr_set h.1 (by decide) (by decide) h.2.1] at g1
  exact k p e s m args below meth c C H1 locs1 g1 g3 ls hl
theorem px_acopy {idx a a0 : Nat} {sp dp n : Int} (hd : decode cc pc = .ok (.invokestatic idx, 3)) (hac : px_ac own idx = true) (hd1 : 1 ≤ d) (h0 : px_kd a0 = 20 ∧ px_kd a = 20) (h1 : 0 ≤ sp ∧ 0 ≤ dp ∧ 0 ≤ n ∧ sp + n ≤ px_ln a0 ∧ dp + n ≤ px_ln a) (hst : st.length ≤ 4)
    (k : px_J G own cc nL ret d (pc + 3) lv st (px_cp μ a0 sp a dp n) Q) : px_J G own cc nL ret d pc lv (.inl n :: .inl dp :: .inr (.inl (some a)) :: .inl sp :: .inr (.inl (some a0)) :: st) μ Q := by
  intro p e s m args below meth c C H locs hP hS ls hl
  have l0 := px_ln_le a0
  have l1 := px_ln_le a
  have ok : ∀ z : Int, 0 ≤ z → z ≤ 4320 → ¬ Int32.ofInt z < 0 ∧ (Int32.ofInt z).toNatClampNeg = z.toNat := by
    intro z z1 z2
    refine ⟨fun h => ?_, Int32.toNatClampNeg_ofInt_of_le (by omega) (by omega)⟩
    have := Int32.lt_iff_toInt_lt.mp h
    rw [px_toInt (by omega) (by omega)] at this
    have h9 : (0 : Int32).toInt = 0 := rfl
    omega
  obtain ⟨s1, s2⟩ := ok sp h1.1 (by omega)
  obtain ⟨d1, d2⟩ := ok dp h1.2.1 (by omega)
  obtain ⟨n1, n2⟩ := ok n h1.2.2.1 (by omega)
  have hlink : Cond.methodLink own idx arraycopyName ∈ px_ws := by
    obtain ⟨e1, g1, g2⟩ := List.any_eq_true.mp hac
    have g3 := List.all_eq_true.mp px_AC_ok _ g1
    simp only [Bool.and_eq_true, beq_iff_eq, decide_eq_true_eq] at g2 g3
    obtain ⟨rfl, rfl⟩ := g2
    exact px_ws_at _ g3 rfl
  have hcat : ((st.map (px_v G.2.2.2)).map fun v => v.category).sum ≤ 8 := by
    have : ∀ l : List px_X, ((l.map (px_v G.2.2.2)).map fun v => v.category).sum ≤ 2 * l.length := by
      intro l
      induction l with
      | nil => exact Nat.le_refl _
      | cons a r ih =>
        have := lv_cat (px_v G.2.2.2 a)
        simp only [List.map_cons, List.sum_cons, List.length_cons]
        omega
    have := this st
    omega
  refine va_copyi (q0 := a0) (q1 := a) (t0 := 0) (t1 := 0) (f := fun j : Nat => Int32.ofInt (μ a0 j)) (g := fun j : Nat => Int32.ofInt (μ a j)) (ty := .int) C.1 C.2.1 (by rw [C.2.2.1, hl.1.1]) C.2.2.2.2.2.1 (C.2.2.2.2.2.2.1 _ hlink) (C.2.2.2.2.2.2.1 _ (px_ws_at _ px_ac_words.1 rfl)) (C.2.2.2.2.2.2.1 _ (px_ws_at _ px_ac_words.2.1 rfl)) (C.2.2.2.2.2.2.1 _ (px_ws_at _ px_ac_words.2.2 rfl)) C.2.2.2.2.2.2.2.1.1 hP px_w_D hS
    (by rw [px_w_at (px_kd_lt (by omega)), px_cell_int h0.1 (by decide) (by decide)]) (by rw [px_w_at (px_kd_lt (by omega)), px_cell_int h0.2 (by decide) (by decide)]) rfl rfl rfl s1 d1 n1 (by rw [s2, n2]; omega) (by rw [d2, n2]; omega) (fun i hi => rfl) hd1 (by show _ + 18 ≤ 37 * d; omega) hd (fun H1 locs1 g1 g2 g3 => ?_)
  have hset : (px_w G μ).set a (G.2.2.2 + a, .inl (G.2.2.1 20, px_ln a, .inl (va_cpy (fun j : Nat => Int32.ofInt (μ a0 j)) (fun j : Nat => Int32.ofInt (μ a j)) sp.toNat dp.toNat n.toNat))) = px_w G (px_cp μ a0 sp a dp n) := by
    refine px_w_set (px_kd_lt (by omega)) (fun o' h => px_cp_o h) ?_
    rw [px_cell_int h0.2 (by decide) (by decide)]
    congr 4
    funext j
    unfold va_cpy px_cp
    by_cases hj : dp.toNat ≤ j ∧ j < dp.toNat + n.toNat
    · rw [if_pos hj, if_pos ⟨rfl, by omega, by omega⟩]
      have h9 : ((sp.toNat + (j - dp.toNat) : Nat) : Int) = sp + ((j : Int) - dp) := by omega
      show Int32.ofInt (μ a0 ((sp.toNat + (j - dp.toNat) : Nat) : Int)) = _
      rw [h9]
    · rw [if_neg hj, if_neg (fun h => hj ⟨by omega, by omega⟩)]
  rw [s2, d2, n2, hset] at g1
  exact k p e s m args below meth c C H1 locs1 g1 g3 ls hl
theorem px_cl_ok {idx ci : Nat} (h : px_cl own idx = some ci) : ∃ (C : String) (T : u_T) (N : Nat), vwCl[ci]? = some (C, T, N) ∧ Cond.classLink own idx C ∈ px_ws := by
  obtain ⟨⟨o, i, cj, p⟩, h1, h2, h3⟩ := px_find h
  have h4 := List.all_eq_true.mp px_CL_ok _ h1
  simp only [Bool.and_eq_true, beq_iff_eq] at h2
  obtain ⟨rfl, rfl⟩ := h2
  cases h3
  unfold px_CLok at h4
  dsimp only at h4
  split at h4
  · rename_i C T hv
    exact ⟨C, T.1, T.2, hv, px_ws_at _ (of_decide_eq_true h4) rfl⟩
  · cases h4
theorem px_recv {s : State} {H : Heap} (hK : px_K G s) (hP : va_P G.2.1 vwCl (px_w G μ) H) {o ci : Nat} {C : String} {T : u_T} {N : Nat} (hc : vwCl[ci]? = some (C, T, N)) (ho : px_kd o = ci) : ∃ cell : Cell, H[G.2.2.2 + o]? = some cell ∧ cell.vm.isStatics = false ∧ s.vm.findClass C = some cell.cls := by
  obtain ⟨-, -, -, -, -, hci, -⟩ := px_class hc
  exact va_recv hK.1 hP hc (q0 := o) (by rw [px_w_at (px_kd_lt (by omega)), px_cell_obj ho hci])
theorem px_cast {idx ci o : Nat} (hd : decode cc pc = .ok (.checkcast idx, 3)) (hf : px_cl own idx = some ci) (ho : px_kd o = ci) (k : px_J G own cc nL ret d (pc + 3) lv (.inr (.inl (some o)) :: st) μ Q) : px_J G own cc nL ret d pc lv (.inr (.inl (some o)) :: st) μ Q := by
  intro p e s m args below meth c C H locs hP hS ls hl
  obtain ⟨C1, T, N, hc, hw⟩ := px_cl_ok hf
  exact va_castS C.1 C.2.1 C.2.2.2.2.2.1 (C.2.2.2.2.2.2.1 _ hw) (C.2.2.2.2.2.2.2.1.1.1 ci _ hc).2 (px_recv C.2.2.2.2.2.2.2.1 hP hc ho) hd (k p e s m args below meth c C H locs hP hS ls hl)
theorem px_inst {idx ci : Nat} {r : Option Nat} (hd : decode cc pc = .ok (.instanceof idx, 3)) (hf : px_cl own idx = some ci) (hci : ci = 3 ∨ ci = 8) (ho : ∀ o, r = some o → px_kd o = 3 ∨ px_kd o = 8) (k : px_J G own cc nL ret d (pc + 3) lv (.inl (match r with | none => 0 | some o => if px_kd o = ci then 1 else 0) :: st) μ Q) : px_J G own cc nL ret d pc lv (.inr (.inl r) :: st) μ Q := by
  intro p e s m args below meth c C H locs hP hS ls hl
  obtain ⟨C1, T, N, hc, hw⟩ := px_cl_ok hf
  have hk := k p e s m args below meth c C H locs hP hS ls hl
  cases r with
  | none => exact lv_instN C.1 C.2.1 hd hk
  | some o =>
    by_cases h1 : px_kd o = ci
    · dsimp only at hk
      rw [if_pos h1] at hk
      exact va_instS C.1 C.2.1 C.2.2.2.2.2.1 (C.2.2.2.2.2.2.1 _ hw) (C.2.2.2.2.2.2.2.1.1.1 ci _ hc).2 (px_recv C.2.2.2.2.2.2.2.1 hP hc h1) hd hk
    · dsimp only at hk
      rw [if_neg h1] at hk
      rcases ho o rfl with h2 | h2
      · have h3 : ci = 8 := by omega
        subst h3
        cases hc
        exact va_instNo (C := RX3) C.1 C.2.1 C.2.2.2.2.2.1 (C.2.2.2.2.2.2.1 _ hw) C.2.2.2.2.2.2.2.1.2.1.2 (px_recv (ci := 3) C.2.2.2.2.2.2.2.1 hP rfl h2) hd hk
      · have h3 : ci = 3 := by omega
        subst h3
        cases hc
        exact va_instNo (C := RX9) C.1 C.2.1 C.2.2.2.2.2.1 (C.2.2.2.2.2.2.1 _ hw) C.2.2.2.2.2.2.2.1.2.1.1 (px_recv (ci := 8) C.2.2.2.2.2.2.2.1 hP rfl h2) hd hk
theorem px_iret {x : Int} (hd : decode cc pc = .ok (.ireturn, 1)) (hr : ret = some .int ∨ (ret = some .boolean ∧ (x = 0 ∨ x = 1))) (k : Q (some (.inl x)) μ) : px_J G own cc nL ret d pc lv [.inl x] μ Q := by
  intro p e s m args below meth c C H locs hP hS ls hl
  have hlocks := C.2.2.2.2.1
  have hq : ∀ t : State, t.heap = H → s.WarmedH t.vm → px_Qc G Q args s (.returned (some (.int (Int32.ofInt x)))) t := fun t ht hW => ⟨⟨some (.inl x), μ, rfl, k, by rw [ht]; exact hP⟩, hS.F ht⟩
  rcases hr with hr | ⟨hr, hx⟩
  · exact W.iret C.1 C.2.1 (by rw [C.2.2.2.1, hr]) hq hS.2.2 hd
  · exact W.zret C.1 C.2.1 (by rw [C.2.2.2.1, hr]) (by rcases hx with rfl | rfl <;> rfl) hq hS.2.2 hd
theorem px_vret (hd : decode cc pc = .ok (.return_, 1)) (hr : ret = none) (k : Q none μ) : px_J G own cc nL ret d pc lv [] μ Q := by
  intro p e s m args below meth c C H locs hP hS ls hl
  have hlocks := C.2.2.2.2.1
  exact W.vret C.1 C.2.1 (by rw [C.2.2.2.1, hr]) (fun t ht hW => ⟨⟨none, μ, rfl, k, by rw [ht]; exact hP⟩, hS.F ht⟩) hS.2.2 hd
theorem px_aret {o : Nat} {E : String} (hd : decode cc pc = .ok (.areturn, 1)) (hr : ret = some (.object E)) (k : Q (some (.inr (.inl (some o)))) μ) : px_J G own cc nL ret d pc lv [.inr (.inl (some o))] μ Q := by
  intro p e s m args below meth c C H locs hP hS ls hl
  have hlocks := C.2.2.2.2.1
  exact W.aret C.1 C.2.1 (by rw [C.2.2.2.1, hr]) (Or.inl ⟨_, rfl⟩) (Or.inr ⟨_, rfl⟩) (fun t ht hW => ⟨⟨some (.inr (.inl (some o))), μ, rfl, k, by rw [ht]; exact hP⟩, hS.F ht⟩) hS.2.2 hd
end PXH
end
section
/-! ===== calls ===== -/
theorem px_md_ok {own : String} {idx : Nat} {q : MethodName × ByteArray × Nat × Option FieldType × Nat × Nat × Bool × Nat} (h : px_md own idx = some q) :
    (Cond.methodLink own idx q.1 ∈ px_ws ∨ Cond.methodLinkNest own idx q.1 "PatchHouse" ∈ lw_tbl) ∧ Cond.code q.1 q.2.1 q.2.2.1 q.2.2.2.1 ∈ px_ws ∧ (if q.2.2.2.2.2.2.1 then Cond.static q.1 else Cond.instanceMethod q.1) ∈ px_ws ∧
    (q.2.2.2.2.2.2.1 = false → Cond.selects q.1.cls q.1 q.1 ∈ px_ws ∧ ∃ (T : u_T) (N : Nat), vwCl[q.2.2.2.2.2.2.2]? = some (q.1.cls, T, N)) ∧ Cond.initialized q.1.cls ∈ px_ws ∧ (parseMethodDescriptor q.1.desc).map (fun d => d.parameters.length) = some q.2.2.2.2.2.1 ∧
    q.1.cls ≠ "java/lang/invoke/MethodHandle" ∧ q.1.cls ≠ "java/lang/invoke/VarHandle" ∧ q.2.2.1 ≤ 18 := by
  obtain ⟨⟨⟨o, i⟩, q', b, ps⟩, h1, h2, h3⟩ := px_find h
  have h4 := List.all_eq_true.mp px_M_ok _ h1
  simp only [Bool.and_eq_true, beq_iff_eq] at h2
  obtain ⟨rfl, rfl⟩ := h2
  dsimp only at h3
  subst h3
  obtain ⟨y, cc, nL, ret, d, na, s, ci⟩ := q'
  simp only [px_Mok, Bool.and_eq_true, decide_eq_true_eq, Bool.or_eq_true] at h4
  obtain ⟨⟨⟨⟨⟨⟨⟨⟨⟨⟨h5, h6⟩, h7⟩, h8⟩, h9⟩, h10⟩, h11⟩, h12⟩, h13⟩, h14⟩, h15⟩ := h4
  refine ⟨?_, px_ws_at _ h6 h14, px_ws_at _ h7 (by cases s <;> rfl), fun hs => ?_, px_ws_at _ h9 rfl, h10, h11, h12, h13⟩
  · unfold px_Mw at h5
    cases b
    · exact Or.inl (px_ws_at _ h5 rfl)
    · exact Or.inr (List.mem_of_getElem? h5)
  · dsimp only at hs
    subst hs
    refine ⟨px_ws_at _ (h8.resolve_left (by decide)) rfl, ?_⟩
    have h16 := h15.resolve_left (by decide)
    cases hv : vwCl[ci]? with
    | none => rw [hv] at h16; cases h16
    | some r =>
      rw [hv] at h16
      obtain ⟨C, T, N⟩ := r
      simp only [Option.map_some, Option.some.injEq] at h16
      subst h16
      exact ⟨T, N, rfl⟩
theorem px_blind {G : px_G} {av : List px_X} {μ : px_Mem} : FrameBlind (px_Pc G av μ) := fun a U g mk h => ⟨h.1, h.2.1, px_K.same (s := U) (U := U.calling g mk a) rfl h.2.2.1, h.2.2.2⟩
theorem px_cats (b : Nat) (l : List px_X) : ((l.map (px_v b)).map fun v => v.category).sum ≤ 2 * l.length := by
  induction l with
  | nil => exact Nat.le_refl _
  | cons a r ih =>
    have := lv_cat (px_v b a)
    simp only [List.map_cons, List.sum_cons, List.length_cons]
    omega
section PXC
variable {G : px_G} {own : String} {cc : ByteArray} {nL d pc : Nat} {ret : Option FieldType} {lv : List (Option px_X)} {st : List px_X} {μ : px_Mem} {Q : Option px_X → px_Mem → Prop}
theorem px_cont {p : Program} {e : Env} {R : Room} {s : State} {m : MethodId} {args : Array Value} {below : List Frame} {meth : Method} {c : Code} {H : Heap} {locs : List Loc} {Qf : State → Prop} {ls : Array Slot} {st0 rest : List Value} {a : Array Value} {Q' : Option px_X → px_Mem → Prop}
    (hr : va_Run p G.1 e R s m args below meth c H locs 0 0 0 0 (F0 m pc ls st0) rest (px_Qc G Q' a) (fun q : Nat => G.2.2.2 ≤ q)) (hS : va_S (fun q : Nat => G.2.2.2 ≤ q) s.heap H locs)
    (kk : ∀ (r : Option px_X) (μ' : px_Mem) (H1 : Heap) (locs1 : List Loc), Q' r μ' → va_P G.2.1 vwCl (px_w G μ') H1 → va_S (fun q : Nat => G.2.2.2 ≤ q) s.heap H1 locs1 → W p G.1 e R s m args below meth c H1 locs1 0 0 Qf (F0 m (pc + 3) ls ((r.map (px_v G.2.2.2)).toList ++ rest))) : W p G.1 e R s m args below meth c H locs 0 0 Qf (F0 m pc ls st0) := by
  intro T hT X
  obtain ⟨v, st₀, t, T', L, h0, X', hL, e1, e2, ⟨⟨r, μ', hv, hq, hP⟩, hz, hk⟩, st⟩ := hr T hT X
  cases hv
  rw [h0] at hz hk
  obtain ⟨t2, a1, b1⟩ := kk r μ' T'.heap (locs ++ L) hq (by rw [e1]; exact hP)
    ⟨Nat.le_trans hS.1 (by rw [e1]; exact hz), fun q h1 h2 => by rw [e1, hk q (Nat.lt_of_lt_of_le h1 hS.1) h2]; exact hS.2.1 q h1 h2, fun q hq => by
      rcases List.mem_append.mp hq with h | h
      · exact hS.2.2 q h
      · exact hL q h⟩ T' rfl X'
  exact ⟨t2, st t2 a1, b1⟩
theorem px_callS {idx : Nat} {y : MethodName} {cc' : ByteArray} {nL' d' na ci : Nat} {ret' : Option FieldType} {as : List px_X} (hd : decode cc pc = .ok (.invokestatic idx, 3)) (hm : px_md own idx = some (y, cc', nL', ret', d', na, true, ci)) (hdd : d' < d) (hna : as.length = na) (hst : st.length ≤ 4)
    (k : px_C G y cc' nL' ret' d' as μ (fun r μ' => px_J G own cc nL ret d (pc + 3) lv (r.toList ++ st) μ' Q)) : px_J G own cc nL ret d pc lv (as.reverse ++ st) μ Q := by
  intro p e s m args below meth c C H locs hP hS ls hl
  obtain ⟨hlink, hcode, hstat, -, hini, hdesc, hn1, hn2, hL⟩ := px_md_ok hm
  dsimp only at hlink hcode hstat hini hdesc hn1 hn2 hL
  rw [if_pos rfl] at hstat
  have hts := C.2.2.2.2.2.2.1
  have hG : GoodIn px_ws (Cond.code y cc' nL' ret' :: px_ws) := fun w h => by
    rcases List.mem_cons.mp h with rfl | h
    · exact px_ws_good _ hcode
    · exact px_ws_good _ h
  have hpre : PreS s H (px_Pc G as μ) (as.map (px_v G.2.2.2)) := ⟨px_blind, fun U hU hW => ⟨rfl, by rw [hU]; exact hP, C.2.2.2.2.2.2.2.1.warm hW, by rw [hU]; exact Nat.le_trans C.2.2.2.2.2.2.2.2 hS.1⟩⟩
  have hcat := px_cats G.2.2.2 st
  have hst1 : (F0 m pc ls ((as.reverse ++ st).map (px_v G.2.2.2))).stack = (as.map (px_v G.2.2.2)).reverse ++ st.map (px_v G.2.2.2) := by
    show (as.reverse ++ st).map (px_v G.2.2.2) = _
    rw [List.map_append, List.map_reverse]
  have hfin : ∀ (r : Option px_X) (μ' : px_Mem) (H1 : Heap) (locs1 : List Loc), px_J G own cc nL ret d (pc + 3) lv (r.toList ++ st) μ' Q → va_P G.2.1 vwCl (px_w G μ') H1 → va_S (fun q : Nat => G.2.2.2 ≤ q) s.heap H1 locs1 → W p G.1 e (px_room d) s m args below meth c H1 locs1 0 0 (MQ below (px_Qc G Q) args s 0 0 (fun q : Nat => G.2.2.2 ≤ q)) (F0 m (pc + 3) ls ((r.map (px_v G.2.2.2)).toList ++ st.map (px_v G.2.2.2))) := by
    intro r μ' H1 locs1 h1 h2 h3
    have h4 := h1 p e s m args below meth c C H1 locs1 h2 h3 ls hl
    rw [List.map_append] at h4
    cases r with
    | none => exact h4
    | some v => exact h4
  have hroom : (px_room d').frames + 1 ≤ (px_room d).frames ∧ 8 + (nL' + 11) + (px_room d').locals ≤ (px_room d).locals := ⟨hdd, by show 8 + (nL' + 11) + 37 * d' ≤ 37 * d; omega⟩
  rcases hlink with hlink | hlink
  · refine px_cont (va_runS (nL := nL) ⟨C.1, C.2.1, C.2.2.1, C.2.2.2.2.2.1, hts⟩ k ⟨callB_of na hts hG rfl rfl rfl (hts _ hini) (hts _ hlink) ⟨hn1, hn2, hdesc⟩ hroom, hts _ hstat⟩ hpre rfl (by rw [List.length_map]; exact hna) hl.1.1 hst1 (lv_room (by omega)) hd ⟨Nat.le_refl _, Nat.le_refl _⟩) hS hfin
  · refine px_cont (va_runSN (nL := nL) ⟨C.1, C.2.1, C.2.2.1, C.2.2.2.2.2.1, hts⟩ k ⟨va_cnB na hts hG rfl rfl rfl (C.2.2.2.2.2.2.2.1.2.2 _ hlink rfl) (hts _ hini) ⟨hn1, hn2, hdesc⟩ hroom, hts _ hstat, trivial⟩ hpre rfl (by rw [List.length_map]; exact hna) hl.1.1 hst1 (lv_room (by omega)) hd ⟨Nat.le_refl _, Nat.le_refl _⟩) hS hfin
theorem px_callV {idx : Nat} {y : MethodName} {cc' : ByteArray} {nL' d' na ci o : Nat} {ret' : Option FieldType} {as : List px_X} (hd : decode cc pc = .ok (.invokevirtual idx, 3)) (hm : px_md own idx = some (y, cc', nL', ret', d', na, false, ci)) (hdd : d' < d) (hna : as.length = na) (ho : px_kd o = ci) (hst : st.length ≤ 4)
    (k : px_C G y cc' nL' ret' d' (.inr (.inl (some o)) :: as) μ (fun r μ' => px_J G own cc nL ret d (pc + 3) lv (r.toList ++ st) μ' Q)) : px_J G own cc nL ret d pc lv (as.reverse ++ .inr (.inl (some o)) :: st) μ Q := by
  intro p e s m args below meth c C H locs hP hS ls hl
  obtain ⟨hlink, hcode, hstat, hsel, hini, hdesc, hn1, hn2, hL⟩ := px_md_ok hm
  dsimp only at hlink hcode hstat hini hdesc hn1 hn2 hL hsel
  rw [if_neg (by decide)] at hstat
  obtain ⟨hsel, T, N, hcl⟩ := hsel rfl
  have hts := C.2.2.2.2.2.2.1
  have hG : GoodIn px_ws (Cond.code y cc' nL' ret' :: px_ws) := fun w h => by
    rcases List.mem_cons.mp h with rfl | h
    · exact px_ws_good _ hcode
    · exact px_ws_good _ h
  have hpre : PreV s H y.cls (G.2.2.2 + o) (px_Pc G (.inr (.inl (some o)) :: as) μ) (as.map (px_v G.2.2.2)) := ⟨px_blind, px_recv C.2.2.2.2.2.2.2.1 hP hcl ho, fun U hU hW => ⟨rfl, by rw [hU]; exact hP, C.2.2.2.2.2.2.2.1.warm hW, by rw [hU]; exact Nat.le_trans C.2.2.2.2.2.2.2.2 hS.1⟩⟩
  have hcat := px_cats G.2.2.2 st
  have hst1 : (F0 m pc ls ((as.reverse ++ .inr (.inl (some o)) :: st).map (px_v G.2.2.2))).stack = (as.map (px_v G.2.2.2)).reverse ++ .ref (G.2.2.2 + o) :: st.map (px_v G.2.2.2) := by
    show (as.reverse ++ .inr (.inl (some o)) :: st).map (px_v G.2.2.2) = _
    rw [List.map_append, List.map_reverse]
    rfl
  have hfin : ∀ (r : Option px_X) (μ' : px_Mem) (H1 : Heap) (locs1 : List Loc), px_J G own cc nL ret d (pc + 3) lv (r.toList ++ st) μ' Q → va_P G.2.1 vwCl (px_w G μ') H1 → va_S (fun q : Nat => G.2.2.2 ≤ q) s.heap H1 locs1 → W p G.1 e (px_room d) s m args below meth c H1 locs1 0 0 (MQ below (px_Qc G Q) args s 0 0 (fun q : Nat => G.2.2.2 ≤ q)) (F0 m (pc + 3) ls ((r.map (px_v G.2.2.2)).toList ++ st.map (px_v G.2.2.2))) := by
    intro r μ' H1 locs1 h1 h2 h3
    have h4 := h1 p e s m args below meth c C H1 locs1 h2 h3 ls hl
    rw [List.map_append] at h4
    cases r with
    | none => exact h4
    | some v => exact h4
  have hroom : (px_room d').frames + 1 ≤ (px_room d).frames ∧ 8 + (nL' + 11) + (px_room d').locals ≤ (px_room d).locals := ⟨hdd, by show 8 + (nL' + 11) + 37 * d' ≤ 37 * d; omega⟩
  rcases hlink with hlink | hlink
  · refine px_cont (va_runV (nL := nL) (C := y.cls) ⟨C.1, C.2.1, C.2.2.1, C.2.2.2.2.2.1, hts⟩ k ⟨callB_of na hts hG rfl rfl rfl (hts _ hini) (hts _ hlink) ⟨hn1, hn2, hdesc⟩ hroom, hts _ hstat, hts _ hsel⟩ hpre rfl (by rw [List.length_map]; exact hna) hl.1.1 hst1 (lv_room (by omega)) hd ⟨Nat.le_refl _, Nat.le_refl _⟩) hS hfin
  · refine px_cont (va_runVN (nL := nL) (C := y.cls) ⟨C.1, C.2.1, C.2.2.1, C.2.2.2.2.2.1, hts⟩ k ⟨va_cnB na hts hG rfl rfl rfl (C.2.2.2.2.2.2.2.1.2.2 _ hlink rfl) (hts _ hini) ⟨hn1, hn2, hdesc⟩ hroom, hts _ hstat, hts _ hsel⟩ hpre rfl (by rw [List.length_map]; exact hna) hl.1.1 hst1 (lv_room (by omega)) hd ⟨Nat.le_refl _, Nat.le_refl _⟩) hS hfin
theorem px_min {x y : Int} (hown : own = RX5) (hd : decode cc pc = .ok (.invokestatic 29, 3)) (hd1 : 1 ≤ d) (hr : -2147483648 ≤ x ∧ x < 2147483648 ∧ -2147483648 ≤ y ∧ y < 2147483648) (hst : st.length ≤ 4) (k : px_J G own cc nL ret d (pc + 3) lv (.inl (if y < x then y else x) :: st) μ Q) : px_J G own cc nL ret d pc lv (.inl y :: .inl x :: st) μ Q := by
  intro p e s m args below meth c C H locs hP hS ls hl
  subst hown
  have hk := k p e s m args below meth c C H locs hP hS ls hl
  have hcat := px_cats G.2.2.2 st
  have hts := C.2.2.2.2.2.2.1
  refine va_mmin C.1 C.2.1 (by rw [C.2.2.1, hl.1.1]) C.2.2.2.2.2.1 (hts _ (px_ws_at _ px_mi_words.1 rfl)) (hts _ (px_ws_at _ px_mi_words.2.1 rfl)) (hts _ (px_ws_at _ px_mi_words.2.2.1 rfl)) (hts _ (px_ws_at _ px_mi_words.2.2.2 (by decide +kernel))) hd1 (by show _ + 13 ≤ 37 * d; omega) (Nat.le_refl _) (Nat.le_refl _) hd ?_
  have e1 : (if Int32.ofInt y < Int32.ofInt x then Int32.ofInt y else Int32.ofInt x) = Int32.ofInt (if y < x then y else x) := by
    have := px_lt_iff (x := y) (y := x) ⟨hr.2.2.1, hr.2.2.2, hr.1, hr.2.1⟩
    unfold px_lt at this
    by_cases h : y < x
    · rw [if_pos h, if_pos (this.mpr h)]
    · rw [if_neg h, if_neg (fun q => h (this.mp q))]
  rw [e1]
  exact hk
/-- a switch: the cases one by one -/
def px_tsw (x : Int) (f : Int → Prop) (dflt : Int) : Int → List Int → Prop
  | _, [] => f dflt
  | v, o :: os => (px_eq x v → f o) ∧ (¬ px_eq x v → px_tsw x f dflt (v + 1) os)
theorem px_tsw_in {x : Int} {f : Int → Prop} {dflt : Int} : ∀ (os : List Int) (v : Int), px_tsw x f dflt v os → -2147483648 ≤ v → v + os.length ≤ 2147483648 → ∀ (j : Nat) (o : Int), os[j]? = some o → (Int32.ofInt x).toInt = v + j → f o
  | [], v, h, h1, h2, j, o, hj, hx => by cases hj
  | a :: os, v, h, h1, h2, j, o, hj, hx => by
    have hl : (((a :: os).length : Nat) : Int) = os.length + 1 := by simp
    cases j with
    | zero =>
      cases hj
      refine h.1 ?_
      unfold px_eq
      apply Int32.toInt_inj.mp
      rw [hx, px_toInt h1 (by omega)]
      simp
    | succ j =>
      have hne : ¬ px_eq x v := by
        intro e
        unfold px_eq at e
        rw [e, px_toInt h1 (by omega)] at hx
        omega
      have hj2 : os[j]? = some o := hj
      have hjl : j < os.length := (List.getElem?_eq_some_iff.mp hj2).1
      exact px_tsw_in os (v + 1) (h.2 hne) (by omega) (by omega) j o hj2 (by rw [hx]; omega)
theorem px_tsw_out {x : Int} {f : Int → Prop} {dflt : Int} : ∀ (os : List Int) (v : Int), px_tsw x f dflt v os → -2147483648 ≤ v → v + os.length ≤ 2147483648 → ((Int32.ofInt x).toInt < v ∨ v + os.length ≤ (Int32.ofInt x).toInt) → f dflt
  | [], v, h, h1, h2, hx => h
  | a :: os, v, h, h1, h2, hx => by
    have hl : (((a :: os).length : Nat) : Int) = os.length + 1 := by simp
    have hne : ¬ px_eq x v := by
      intro e
      unfold px_eq at e
      rw [e, px_toInt h1 (by omega)] at hx
      omega
    exact px_tsw_out os (v + 1) (h.2 hne) (by omega) (by omega) (by omega)
theorem px_switch {x dflt lo hi : Int} {offs : Array Int} {len : Nat} (hd : decode cc pc = .ok (.tableswitch dflt lo hi offs, len)) (h1 : -2147483648 ≤ lo ∧ hi + 1 ≤ 2147483648 ∧ lo + offs.toList.length = hi + 1) (k : px_tsw x (fun o => 0 ≤ (pc : Int) + o ∧ px_J G own cc nL ret d (px_tg pc o) lv st μ Q) dflt lo offs.toList) : px_J G own cc nL ret d pc lv (.inl x :: st) μ Q := by
  intro p e s m args below meth c C H locs hP hS ls hl
  by_cases hx : (Int32.ofInt x).toInt < lo ∨ hi < (Int32.ofInt x).toInt
  · obtain ⟨ht, hk⟩ := px_tsw_out _ _ k h1.1 (by omega) (by omega)
    exact lv_tableOut C.1 C.2.1 hd hx (Int.toNat_of_nonneg ht).symm (hk p e s m args below meth c C H locs hP hS ls hl)
  · have hj : ((Int32.ofInt x).toInt - lo).toNat < offs.toList.length := by omega
    obtain ⟨o, ho⟩ : ∃ o, offs.toList[((Int32.ofInt x).toInt - lo).toNat]? = some o := ⟨_, List.getElem?_eq_getElem hj⟩
    obtain ⟨ht, hk⟩ := px_tsw_in _ _ k h1.1 (by omega) _ o ho (by omega)
    exact lv_tableIn C.1 C.2.1 hd (fun h => hx (Or.inl h)) (fun h => hx (Or.inr h)) (by rw [← Array.getElem?_toList]; exact ho) (Int.toNat_of_nonneg ht).symm (hk p e s m args below meth c C H locs hP hS ls hl)
end PXC
end
section
/-! ===== the walk as a function: what is left to be shown of a stretch of code ===== -/
def px_s1 (st : List px_X) (f : Int → List px_X → Prop) : Prop := match st with
  | .inl x :: r => f x r
  | _ => False
def px_s2 (st : List px_X) (f : Int → Int → List px_X → Prop) : Prop := match st with
  | .inl y :: .inl x :: r => f x y r
  | _ => False
def px_sr (st : List px_X) (f : Nat → List px_X → Prop) : Prop := match st with
  | .inr (.inl (some o)) :: r => f o r
  | _ => False
def px_sq (st : List px_X) (f : Option Nat → List px_X → Prop) : Prop := match st with
  | .inr (.inl q) :: r => f q r
  | _ => False
def px_sir (st : List px_X) (f : Int → Nat → List px_X → Prop) : Prop := match st with
  | .inl i :: .inr (.inl (some a)) :: r => f i a r
  | _ => False
def px_siir (st : List px_X) (f : Int → Int → Nat → List px_X → Prop) : Prop := match st with
  | .inl x :: .inl i :: .inr (.inl (some a)) :: r => f x i a r
  | _ => False
def px_sl1 (st : List px_X) (f : Int → List px_X → Prop) : Prop := match st with
  | .inr (.inr x) :: r => f x r
  | _ => False
def px_sl2 (st : List px_X) (f : Int → Int → List px_X → Prop) : Prop := match st with
  | .inr (.inr y) :: .inr (.inr x) :: r => f x y r
  | _ => False
def px_sx (st : List px_X) (f : px_X → List px_X → Prop) : Prop := match st with
  | v :: r => f v r
  | _ => False
def px_sxr (st : List px_X) (f : px_X → Nat → List px_X → Prop) : Prop := match st with
  | v :: .inr (.inl (some o)) :: r => f v o r
  | _ => False
def px_sac (st : List px_X) (f : Int → Int → Nat → Int → Nat → List px_X → Prop) : Prop := match st with
  | .inl n :: .inl dp :: .inr (.inl (some a)) :: .inl sp :: .inr (.inl (some a0)) :: r => f n dp a sp a0 r
  | _ => False
theorem px_s1_inv {st : List px_X} {f : Int → List px_X → Prop} (h : px_s1 st f) : ∃ x r, st = .inl x :: r ∧ f x r := by
  unfold px_s1 at h; split at h
  · exact ⟨_, _, rfl, h⟩
  · exact h.elim
theorem px_s2_inv {st : List px_X} {f : Int → Int → List px_X → Prop} (h : px_s2 st f) : ∃ x y r, st = .inl y :: .inl x :: r ∧ f x y r := by
  unfold px_s2 at h; split at h
  · exact ⟨_, _, _, rfl, h⟩
  · exact h.elim
theorem px_sr_inv {st : List px_X} {f : Nat → List px_X → Prop} (h : px_sr st f) : ∃ o r, st = .inr (.inl (some o)) :: r ∧ f o r := by
  unfold px_sr at h; split at h
  · exact ⟨_, _, rfl, h⟩
  · exact h.elim
theorem px_sq_inv {st : List px_X} {f : Option Nat → List px_X → Prop} (h : px_sq st f) : ∃ q r, st = .inr (.inl q) :: r ∧ f q r := by
  unfold px_sq at h; split at h
  · exact ⟨_, _, rfl, h⟩
  · exact h.elim
theorem px_sir_inv {st : List px_X} {f : Int → Nat → List px_X → Prop} (h : px_sir st f) : ∃ i a r, st = .inl i :: .inr (.inl (some a)) :: r ∧ f i a r := by
  unfold px_sir at h; split at h
  · exact ⟨_, _, _, rfl, h⟩
  · exact h.elim
theorem px_siir_inv {st : List px_X} {f : Int → Int → Nat → List px_X → Prop} (h : px_siir st f) : ∃ x i a r, st = .inl x :: .inl i :: .inr (.inl (some a)) :: r ∧ f x i a r := by
  unfold px_siir at h; split at h
  · exact ⟨_, _, _, _, rfl, h⟩
  · exact h.elim
theorem px_sl1_inv {st : List px_X} {f : Int → List px_X → Prop} (h : px_sl1 st f) : ∃ x r, st = .inr (.inr x) :: r ∧ f x r := by
  unfold px_sl1 at h; split at h
  · exact ⟨_, _, rfl, h⟩
  · exact h.elim
theorem px_sl2_inv {st : List px_X} {f : Int → Int → List px_X → Prop} (h : px_sl2 st f) : ∃ x y r, st = .inr (.inr y) :: .inr (.inr x) :: r ∧ f x y r := by
  unfold px_sl2 at h; split at h
  · exact ⟨_, _, _, rfl, h⟩
  · exact h.elim
theorem px_sx_inv {st : List px_X} {f : px_X → List px_X → Prop} (h : px_sx st f) : ∃ v r, st = v :: r ∧ f v r := by
  unfold px_sx at h; split at h
  · exact ⟨_, _, rfl, h⟩
  · exact h.elim
theorem px_sxr_inv {st : List px_X} {f : px_X → Nat → List px_X → Prop} (h : px_sxr st f) : ∃ v o r, st = v :: .inr (.inl (some o)) :: r ∧ f v o r := by
  unfold px_sxr at h; split at h
  · exact ⟨_, _, _, rfl, h⟩
  · exact h.elim
theorem px_sac_inv {st : List px_X} {f : Int → Int → Nat → Int → Nat → List px_X → Prop} (h : px_sac st f) : ∃ n dp a sp a0 r, st = .inl n :: .inl dp :: .inr (.inl (some a)) :: .inl sp :: .inr (.inl (some a0)) :: r ∧ f n dp a sp a0 r := by
  unfold px_sac at h; split at h
  · exact ⟨_, _, _, _, _, _, rfl, h⟩
  · exact h.elim
def px_o {α : Type} (q : Option α) (f : α → Prop) : Prop := match q with
  | some a => f a
  | none => False
theorem px_o_inv {α : Type} {q : Option α} {f : α → Prop} (h : px_o q f) : ∃ a, q = some a ∧ f a := by
  cases q with
  | none => exact h.elim
  | some a => exact ⟨a, rfl, h⟩
def px_ld (lv : List (Option px_X)) (k : Nat) : Option px_X := (lv[k]?).getD none
theorem px_ld_inv {lv : List (Option px_X)} {k : Nat} {v : px_X} (h : px_ld lv k = some v) : lv[k]? = some (some v) := by
  unfold px_ld at h
  cases h1 : lv[k]? with
  | none => rw [h1] at h; cases h
  | some w => rw [h1] at h; simp only [Option.getD_some] at h; rw [h]
def px_wi (q : Option px_X) (f : Int → Prop) : Prop := match q with
  | some (.inl z) => f z
  | _ => False
theorem px_wi_inv {q : Option px_X} {f : Int → Prop} (h : px_wi q f) : ∃ z, q = some (.inl z) ∧ f z := by
  unfold px_wi at h; split at h
  · exact ⟨_, rfl, h⟩
  · exact h.elim
def px_wr (q : Option px_X) (f : Option Nat → Prop) : Prop := match q with
  | some (.inr (.inl r)) => f r
  | _ => False
theorem px_wr_inv {q : Option px_X} {f : Option Nat → Prop} (h : px_wr q f) : ∃ r, q = some (.inr (.inl r)) ∧ f r := by
  unfold px_wr at h; split at h
  · exact ⟨_, rfl, h⟩
  · exact h.elim
def px_nl (r : Option Nat) (a b : Nat) : Nat := match r with
  | none => a
  | some _ => b
def px_io (r : Option Nat) (ci : Nat) : Int := match r with
  | none => 0
  | some o => if px_kd o = ci then 1 else 0
def px_call (G : px_G) (d : Nat) (st : List px_X) (q : MethodName × ByteArray × Nat × Option FieldType × Nat × Nat × Bool × Nat) (μ : px_Mem) (f : List px_X → Option px_X → px_Mem → Prop) : Prop :=
  bif q.2.2.2.2.2.2.1 then q.2.2.2.2.1 < d ∧ (st.take q.2.2.2.2.2.1).length = q.2.2.2.2.2.1 ∧ (st.drop q.2.2.2.2.2.1).length ≤ 4 ∧ px_C G q.1 q.2.1 q.2.2.1 q.2.2.2.1 q.2.2.2.2.1 (st.take q.2.2.2.2.2.1).reverse μ (f (st.drop q.2.2.2.2.2.1))
  else q.2.2.2.2.1 < d ∧ (st.take q.2.2.2.2.2.1).length = q.2.2.2.2.2.1 ∧ px_sr (st.drop q.2.2.2.2.2.1) (fun o r => r.length ≤ 4 ∧ px_kd o = q.2.2.2.2.2.2.2 ∧ px_C G q.1 q.2.1 q.2.2.1 q.2.2.2.1 q.2.2.2.2.1 (.inr (.inl (some o)) :: (st.take q.2.2.2.2.2.1).reverse) μ (f r))
def px_step (G : px_G) (own : String) (cc : ByteArray) (nL : Nat) (ret : Option FieldType) (d : Nat) (Q : Option px_X → px_Mem → Prop) (K : Nat → List (Option px_X) → List px_X → px_Mem → Prop) (i : Instr) (len pc : Nat) (lv : List (Option px_X)) (st : List px_X) (μ : px_Mem) : Prop := match i, len with
  | .iconst n, 1 => K (pc + 1) lv (.inl n :: st) μ
  | .bipush n, 2 => (-128 ≤ n ∧ n ≤ 127) ∧ K (pc + 2) lv (.inl n :: st) μ
  | .sipush n, 3 => (-32768 ≤ n ∧ n ≤ 32767) ∧ K (pc + 3) lv (.inl n :: st) μ
  | .ldc idx, 2 => px_o (px_ct own idx) (fun q => q.2 = false ∧ K (pc + 2) lv (.inl q.1 :: st) μ)
  | .ldc2_w idx, 3 => px_o (px_ct own idx) (fun q => q.2 = true ∧ K (pc + 3) lv (.inr (.inr q.1) :: st) μ)
  | .aconst_null, 1 => K (pc + 1) lv (.inr (.inl none) :: st) μ
  | .iload k, 2 => px_wi (px_ld lv k) (fun z => K (pc + 2) lv (.inl z :: st) μ)
  | .iload_n k, 1 => px_wi (px_ld lv k) (fun z => K (pc + 1) lv (.inl z :: st) μ)
  | .aload k, 2 => px_wr (px_ld lv k) (fun r => K (pc + 2) lv (.inr (.inl r) :: st) μ)
  | .aload_n k, 1 => px_wr (px_ld lv k) (fun r => K (pc + 1) lv (.inr (.inl r) :: st) μ)
  | .istore k, 2 => px_s1 st (fun z r => k < nL ∧ K (pc + 2) (lv.set k (some (.inl z))) r μ)
  | .istore_n k, 1 => px_s1 st (fun z r => (k : Nat) < nL ∧ K (pc + 1) (lv.set k (some (.inl z))) r μ)
  | .astore k, 2 => px_sq st (fun q r => k < nL ∧ K (pc + 2) (lv.set k (some (.inr (.inl q)))) r μ)
  | .astore_n k, 1 => px_sq st (fun q r => (k : Nat) < nL ∧ K (pc + 1) (lv.set k (some (.inr (.inl q)))) r μ)
  | .iinc k n, 3 => px_wi (px_ld lv k) (fun z => k < nL ∧ K (pc + 3) (lv.set k (some (.inl (z + n)))) st μ)
  | .iadd, 1 => px_s2 st (fun x y r => K (pc + 1) lv (.inl (x + y) :: r) μ)
  | .isub, 1 => px_s2 st (fun x y r => K (pc + 1) lv (.inl (x - y) :: r) μ)
  | .imul, 1 => px_s2 st (fun x y r => K (pc + 1) lv (.inl (x * y) :: r) μ)
  | .iand, 1 => px_s2 st (fun x y r => K (pc + 1) lv (.inl (px_and x y) :: r) μ)
  | .ior, 1 => px_s2 st (fun x y r => K (pc + 1) lv (.inl (px_or x y) :: r) μ)
  | .ixor, 1 => px_s2 st (fun x y r => K (pc + 1) lv (.inl (px_xor x y) :: r) μ)
  | .ishl, 1 => px_s2 st (fun x y r => K (pc + 1) lv (.inl (px_shl x y) :: r) μ)
  | .ishr, 1 => px_s2 st (fun x y r => K (pc + 1) lv (.inl (px_shr x y) :: r) μ)
  | .idiv, 1 => px_s2 st (fun x y r => (0 ≤ x ∧ x < 2147483648 ∧ 0 < y ∧ y < 2147483648) ∧ K (pc + 1) lv (.inl (x / y) :: r) μ)
  | .irem, 1 => px_s2 st (fun x y r => (0 ≤ x ∧ x < 2147483648 ∧ 0 < y ∧ y < 2147483648) ∧ K (pc + 1) lv (.inl (x % y) :: r) μ)
  | .lmul, 1 => px_sl2 st (fun x y r => K (pc + 1) lv (.inr (.inr (x * y)) :: r) μ)
  | .lrem, 1 => px_sl2 st (fun x y r => (0 ≤ x ∧ x < 4611686018427387904 ∧ 0 < y ∧ y < 4611686018427387904) ∧ K (pc + 1) lv (.inr (.inr (x % y)) :: r) μ)
  | .i2l, 1 => px_s1 st (fun x r => (-2147483648 ≤ x ∧ x < 2147483648) ∧ K (pc + 1) lv (.inr (.inr x) :: r) μ)
  | .l2i, 1 => px_sl1 st (fun x r => K (pc + 1) lv (.inl x :: r) μ)
  | .dup, 1 => px_sx st (fun v r => px_c1 v ∧ K (pc + 1) lv (v :: v :: r) μ)
  | .pop, 1 => px_sx st (fun v r => px_c1 v ∧ K (pc + 1) lv r μ)
  | .dup2, 1 => px_sx st (fun v r0 => px_sx r0 (fun w r => px_c1 v ∧ px_c1 w ∧ K (pc + 1) lv (v :: w :: v :: w :: r) μ))
  | .ifCond c off, 3 => px_s1 st (fun x r => 0 ≤ (pc : Int) + off ∧ (px_cmp c x 0 → K (px_tg pc off) lv r μ) ∧ (¬ px_cmp c x 0 → K (pc + 3) lv r μ))
  | .if_icmp c off, 3 => px_s2 st (fun x y r => 0 ≤ (pc : Int) + off ∧ (px_cmp c x y → K (px_tg pc off) lv r μ) ∧ (¬ px_cmp c x y → K (pc + 3) lv r μ))
  | .goto off, 3 => 0 ≤ (pc : Int) + off ∧ K (px_tg pc off) lv st μ
  | .ifnull off, 3 => px_sq st (fun q r => 0 ≤ (pc : Int) + off ∧ K (px_nl q (px_tg pc off) (pc + 3)) lv r μ)
  | .ifnonnull off, 3 => px_sq st (fun q r => 0 ≤ (pc : Int) + off ∧ K (px_nl q (pc + 3) (px_tg pc off)) lv r μ)
  | .tableswitch dflt lo hi offs, _ => px_s1 st (fun x r => (-2147483648 ≤ lo ∧ hi + 1 ≤ 2147483648 ∧ lo + offs.toList.length = hi + 1) ∧ px_tsw x (fun o => 0 ≤ (pc : Int) + o ∧ K (px_tg pc o) lv r μ) dflt lo offs.toList)
  | .getfield idx, 3 => px_o (px_fd own idx) (fun q => px_sr st (fun o r => px_kd o = q.1 ∧ K (pc + 3) lv (px_fv q.1 q.2 o (μ o) :: r) μ))
  | .putfield idx, 3 => px_o (px_fd own idx) (fun q => px_sxr st (fun v o r => px_kd o = q.1 ∧ px_put (px_pf q.1 q.2) v o (fun z => K (pc + 3) lv r (px_up μ o q.2 z))))
  | .iaload, 1 => px_sir st (fun i a r => (px_kd a = 20 ∧ 0 ≤ i ∧ i < px_ln a) ∧ K (pc + 1) lv (.inl (μ a i) :: r) μ)
  | .baload, 1 => px_sir st (fun i a r => (px_kd a = 21 ∧ 0 ≤ i ∧ i < px_ln a) ∧ K (pc + 1) lv (.inl (μ a i) :: r) μ)
  | .aaload, 1 => px_sir st (fun i a r => ((22 ≤ px_kd a ∧ px_kd a ≤ 25) ∧ 0 ≤ i ∧ i < px_ln a) ∧ K (pc + 1) lv (.inr (.inl (some (px_el (px_kd a) a i.toNat))) :: r) μ)
  | .iastore, 1 => px_siir st (fun x i a r => (px_kd a = 20 ∧ 0 ≤ i ∧ i < px_ln a) ∧ K (pc + 1) lv r (px_up μ a i x))
  | .bastore, 1 => px_siir st (fun x i a r => (px_kd a = 21 ∧ 0 ≤ i ∧ i < px_ln a) ∧ (x = 0 ∨ x = 1) ∧ K (pc + 1) lv r (px_up μ a i x))
  | .checkcast idx, 3 => px_o (px_cl own idx) (fun ci => px_sr st (fun o r => px_kd o = ci ∧ K (pc + 3) lv (.inr (.inl (some o)) :: r) μ))
  | .instanceof idx, 3 => px_o (px_cl own idx) (fun ci => px_sq st (fun q r => (ci = 3 ∨ ci = 8) ∧ (∀ o, q = some o → px_kd o = 3 ∨ px_kd o = 8) ∧ K (pc + 3) lv (.inl (px_io q ci) :: r) μ))
  | .invokestatic idx, 3 => bif px_ac own idx then px_sac st (fun n dp a sp a0 r => 1 ≤ d ∧ (px_kd a0 = 20 ∧ px_kd a = 20) ∧ (0 ≤ sp ∧ 0 ≤ dp ∧ 0 ≤ n ∧ sp + n ≤ px_ln a0 ∧ dp + n ≤ px_ln a) ∧ r.length ≤ 4 ∧ K (pc + 3) lv r (px_cp μ a0 sp a dp n))
      else px_o (px_md own idx) (fun q => q.2.2.2.2.2.2.1 = true ∧ px_call G d st q μ (fun r v μ' => px_J G own cc nL ret d (pc + 3) lv (v.toList ++ r) μ' Q))
  | .invokevirtual idx, 3 => px_o (px_md own idx) (fun q => q.2.2.2.2.2.2.1 = false ∧ px_call G d st q μ (fun r v μ' => px_J G own cc nL ret d (pc + 3) lv (v.toList ++ r) μ' Q))
  | .ireturn, 1 => px_s1 st (fun x r => r = [] ∧ (ret = some .int ∨ (ret = some .boolean ∧ (x = 0 ∨ x = 1))) ∧ Q (some (.inl x)) μ)
  | .return_, 1 => st = [] ∧ ret = none ∧ Q none μ
  | .areturn, 1 => px_sr st (fun o r => r = [] ∧ ret = some (.object "PatchHouse$Writing") ∧ Q (some (.inr (.inl (some o)))) μ)
  | _, _ => False
theorem px_call_ok {G : px_G} {own : String} {cc : ByteArray} {nL d pc : Nat} {ret : Option FieldType} {lv : List (Option px_X)} {st : List px_X} {μ : px_Mem} {Q : Option px_X → px_Mem → Prop} {idx : Nat} {q : MethodName × ByteArray × Nat × Option FieldType × Nat × Nat × Bool × Nat} (hm : px_md own idx = some q)
    (hd : decode cc pc = .ok (if q.2.2.2.2.2.2.1 then .invokestatic idx else .invokevirtual idx, 3)) (h : px_call G d st q μ (fun r v μ' => px_J G own cc nL ret d (pc + 3) lv (v.toList ++ r) μ' Q)) : px_J G own cc nL ret d pc lv st μ Q := by
  obtain ⟨y, cc', nL', ret', d', na, s, ci⟩ := q
  unfold px_call at h
  dsimp only at h hd
  cases s
  · obtain ⟨h1, h2, h3⟩ := h
    obtain ⟨o, r, e1, h4, h5, h6⟩ := px_sr_inv h3
    have := px_callV (as := (st.take na).reverse) (st := r) hd hm h1 (by rw [List.length_reverse]; exact h2) h5 h4 h6
    rw [List.reverse_reverse, ← e1, List.take_append_drop] at this
    exact this
  · obtain ⟨h1, h2, h3, h4⟩ := h
    have := px_callS (as := (st.take na).reverse) (st := st.drop na) hd hm h1 (by rw [List.length_reverse]; exact h2) h3 h4
    rw [List.reverse_reverse, List.take_append_drop] at this
    exact this
theorem px_step_ok {G : px_G} {own : String} {cc : ByteArray} {nL d pc : Nat} {ret : Option FieldType} {lv : List (Option px_X)} {st : List px_X} {μ : px_Mem} {Q : Option px_X → px_Mem → Prop} {K : Nat → List (Option px_X) → List px_X → px_Mem → Prop} {i : Instr} {len : Nat}
    (hK : ∀ pc lv st μ, K pc lv st μ → px_J G own cc nL ret d pc lv st μ Q) (hd : decode cc pc = .ok (i, len)) (h : px_step G own cc nL ret d Q K i len pc lv st μ) : px_J G own cc nL ret d pc lv st μ Q := by
  unfold px_step at h
  split at h
  · exact px_iconst hd (hK _ _ _ _ h)
  · exact px_bipush hd h.1 (hK _ _ _ _ h.2)
  · exact px_sipush hd h.1 (hK _ _ _ _ h.2)
  · obtain ⟨⟨v, b⟩, h1, h2, h3⟩ := px_o_inv h
    dsimp only at h2
    subst h2
    exact px_ldc hd h1 (hK _ _ _ _ h3)
  · obtain ⟨⟨v, b⟩, h1, h2, h3⟩ := px_o_inv h
    dsimp only at h2
    subst h2
    exact px_ldc2 hd h1 (hK _ _ _ _ h3)
  · exact px_null hd (hK _ _ _ _ h)
  · obtain ⟨z, h1, h2⟩ := px_wi_inv h
    exact px_iload hd (px_ld_inv h1) (hK _ _ _ _ h2)
  · obtain ⟨z, h1, h2⟩ := px_wi_inv h
    exact px_iload_n hd (px_ld_inv h1) (hK _ _ _ _ h2)
  · obtain ⟨z, h1, h2⟩ := px_wr_inv h
    exact px_aload hd (px_ld_inv h1) (hK _ _ _ _ h2)
  · obtain ⟨z, h1, h2⟩ := px_wr_inv h
    exact px_aload_n hd (px_ld_inv h1) (hK _ _ _ _ h2)
  · obtain ⟨z, r, rfl, h1, h2⟩ := px_s1_inv h
    exact px_istore hd h1 (hK _ _ _ _ h2)
  · obtain ⟨z, r, rfl, h1, h2⟩ := px_s1_inv h
    exact px_istore_n hd h1 (hK _ _ _ _ h2)
  · obtain ⟨z, r, rfl, h1, h2⟩ := px_sq_inv h
    exact px_astore hd h1 (hK _ _ _ _ h2)
  · obtain ⟨z, r, rfl, h1, h2⟩ := px_sq_inv h
    exact px_astore_n hd h1 (hK _ _ _ _ h2)
  · obtain ⟨z, h1, h2, h3⟩ := px_wi_inv h
    exact px_iinc hd (px_ld_inv h1) h2 (hK _ _ _ _ h3)
  · obtain ⟨x, y, r, rfl, h1⟩ := px_s2_inv h
    exact px_iadd hd (hK _ _ _ _ h1)
  · obtain ⟨x, y, r, rfl, h1⟩ := px_s2_inv h
    exact px_isub hd (hK _ _ _ _ h1)
  · obtain ⟨x, y, r, rfl, h1⟩ := px_s2_inv h
    exact px_imul hd (hK _ _ _ _ h1)
  · obtain ⟨x, y, r, rfl, h1⟩ := px_s2_inv h
    exact px_iand hd (hK _ _ _ _ h1)
  · obtain ⟨x, y, r, rfl, h1⟩ := px_s2_inv h
    exact px_ior hd (hK _ _ _ _ h1)
  · obtain ⟨x, y, r, rfl, h1⟩ := px_s2_inv h
    exact px_ixor hd (hK _ _ _ _ h1)
  · obtain ⟨x, y, r, rfl, h1⟩ := px_s2_inv h
    exact px_ishl hd (hK _ _ _ _ h1)
  · obtain ⟨x, y, r, rfl, h1⟩ := px_s2_inv h
    exact px_ishr hd (hK _ _ _ _ h1)
  · obtain ⟨x, y, r, rfl, h1, h2⟩ := px_s2_inv h
    exact px_idiv hd h1 (hK _ _ _ _ h2)
  · obtain ⟨x, y, r, rfl, h1, h2⟩ := px_s2_inv h
    exact px_irem hd h1 (hK _ _ _ _ h2)
  · obtain ⟨x, y, r, rfl, h1⟩ := px_sl2_inv h
    exact px_lmul hd (hK _ _ _ _ h1)
  · obtain ⟨x, y, r, rfl, h1, h2⟩ := px_sl2_inv h
    exact px_lrem hd h1 (hK _ _ _ _ h2)
  · obtain ⟨x, r, rfl, h1, h2⟩ := px_s1_inv h
    exact px_i2l_ hd h1 (hK _ _ _ _ h2)
  · obtain ⟨x, r, rfl, h1⟩ := px_sl1_inv h
    exact px_l2i_ hd (hK _ _ _ _ h1)
  · obtain ⟨v, r, rfl, h1, h2⟩ := px_sx_inv h
    exact px_dup_ hd h1 (hK _ _ _ _ h2)
  · obtain ⟨v, r, rfl, h1, h2⟩ := px_sx_inv h
    exact px_pop_ hd h1 (hK _ _ _ _ h2)
  · obtain ⟨v, r, rfl, h1⟩ := px_sx_inv h
    obtain ⟨w, r, rfl, h2, h3, h4⟩ := px_sx_inv h1
    exact px_dup2_ hd h2 h3 (hK _ _ _ _ h4)
  · obtain ⟨x, r, rfl, h1, h2, h3⟩ := px_s1_inv h
    exact px_if hd h1 (fun q => hK _ _ _ _ (h2 q)) (fun q => hK _ _ _ _ (h3 q))
  · obtain ⟨x, y, r, rfl, h1, h2, h3⟩ := px_s2_inv h
    exact px_icmp hd h1 (fun q => hK _ _ _ _ (h2 q)) (fun q => hK _ _ _ _ (h3 q))
  · exact px_goto hd h.1 (hK _ _ _ _ h.2)
  · obtain ⟨q, r, rfl, h1, h2⟩ := px_sq_inv h
    refine px_ifnull hd h1 ?_
    cases q <;> exact hK _ _ _ _ h2
  · obtain ⟨q, r, rfl, h1, h2⟩ := px_sq_inv h
    refine px_ifnonnull hd h1 ?_
    cases q <;> exact hK _ _ _ _ h2
  · obtain ⟨x, r, rfl, h1, h2⟩ := px_s1_inv h
    refine px_switch hd h1 ?_
    have key : ∀ (os : List Int) (v : Int) (f g : Int → Prop) (dflt : Int), (∀ o, f o → g o) → px_tsw x f dflt v os → px_tsw x g dflt v os := by
      intro os
      induction os with
      | nil => intro v f g dflt hfg h; exact hfg _ h
      | cons a os ih => intro v f g dflt hfg h; exact ⟨fun q => hfg _ (h.1 q), fun q => ih _ _ _ _ hfg (h.2 q)⟩
    exact key _ _ _ _ _ (fun o ho => ⟨ho.1, hK _ _ _ _ ho.2⟩) h2
  · obtain ⟨⟨ci, k⟩, h1, h2⟩ := px_o_inv h
    obtain ⟨o, r, rfl, h3, h4⟩ := px_sr_inv h2
    exact px_getf hd h1 h3 (hK _ _ _ _ h4)
  · obtain ⟨⟨ci, k⟩, h1, h2⟩ := px_o_inv h
    obtain ⟨v, o, r, rfl, h3, h4⟩ := px_sxr_inv h2
    refine px_putf hd h1 h3 ?_
    have key : ∀ (t : Nat) (f g : Int → Prop), (∀ z, f z → g z) → px_put t v o f → px_put t v o g := by
      intro t f g hfg h
      unfold px_put at h ⊢
      split at h
      · exact hfg _ h
      · exact hfg _ h
      · exact hfg _ h
      · exact ⟨h.1, hfg _ h.2⟩
      · exact h.elim
    exact key _ _ _ (fun z hz => hK _ _ _ _ hz) h4
  · obtain ⟨i, a, r, rfl, h1, h2⟩ := px_sir_inv h
    exact px_iald hd h1 (hK _ _ _ _ h2)
  · obtain ⟨i, a, r, rfl, h1, h2⟩ := px_sir_inv h
    exact px_bald hd h1 (hK _ _ _ _ h2)
  · obtain ⟨i, a, r, rfl, h1, h2⟩ := px_sir_inv h
    exact px_aald hd h1 (hK _ _ _ _ h2)
  · obtain ⟨x, i, a, r, rfl, h1, h2⟩ := px_siir_inv h
    exact px_iast hd h1 (hK _ _ _ _ h2)
  · obtain ⟨x, i, a, r, rfl, h1, h2, h3⟩ := px_siir_inv h
    exact px_bast hd h1 h2 (hK _ _ _ _ h3)
  · obtain ⟨ci, h1, h2⟩ := px_o_inv h
    obtain ⟨o, r, rfl, h3, h4⟩ := px_sr_inv h2
    exact px_cast hd h1 h3 (hK _ _ _ _ h4)
  · obtain ⟨ci, h1, h2⟩ := px_o_inv h
    obtain ⟨q, r, rfl, h3, h4, h5⟩ := px_sq_inv h2
    refine px_inst hd h1 h3 h4 ?_
    cases q <;> exact hK _ _ _ _ h5
  · rename_i idx
    cases hac : px_ac own idx with
    | true =>
      rw [hac] at h
      obtain ⟨n, dp, a, sp, a0, r, rfl, h1, h2, h3, h4, h5⟩ := px_sac_inv h
      exact px_acopy hd hac h1 h2 h3 h4 (hK _ _ _ _ h5)
    | false =>
      rw [hac] at h
      obtain ⟨q, h1, h2, h3⟩ := px_o_inv h
      exact px_call_ok h1 (by rw [h2]; exact hd) h3
  · obtain ⟨q, h1, h2, h3⟩ := px_o_inv h
    exact px_call_ok h1 (by rw [h2]; exact hd) h3
  · obtain ⟨x, r, rfl, rfl, h1, h2⟩ := px_s1_inv h
    exact px_iret hd h1 h2
  · obtain ⟨rfl, h1, h2⟩ := h
    exact px_vret hd h1 h2
  · obtain ⟨o, r, rfl, rfl, h1, h2⟩ := px_sr_inv h
    exact px_aret hd h1 h2
  · exact h.elim
def px_dec {ε : Type} (x : Except ε (Instr × Nat)) (f : Instr → Nat → Prop) : Prop := match x with
  | .ok q => f q.1 q.2
  | .error _ => False
theorem px_dec_ok {ε : Type} (q : Instr × Nat) (f : Instr → Nat → Prop) : px_dec (.ok q : Except ε (Instr × Nat)) f = f q.1 q.2 := rfl
def px_run (cut : Nat → Bool) (G : px_G) (own : String) (cc : ByteArray) (nL : Nat) (ret : Option FieldType) (d : Nat) (Q : Option px_X → px_Mem → Prop) : Nat → Nat → List (Option px_X) → List px_X → px_Mem → Prop
  | 0, pc, lv, st, μ => px_J G own cc nL ret d pc lv st μ Q
  | n + 1, pc, lv, st, μ => bif cut pc then px_J G own cc nL ret d pc lv st μ Q else px_dec (decode cc pc) (fun i len => px_step G own cc nL ret d Q (px_run cut G own cc nL ret d Q n) i len pc lv st μ)
theorem px_run_ok {cut : Nat → Bool} {G : px_G} {own : String} {cc : ByteArray} {nL d : Nat} {ret : Option FieldType} {Q : Option px_X → px_Mem → Prop} : ∀ (n pc : Nat) (lv : List (Option px_X)) (st : List px_X) (μ : px_Mem), px_run cut G own cc nL ret d Q n pc lv st μ → px_J G own cc nL ret d pc lv st μ Q
  | 0, pc, lv, st, μ, h => h
  | n + 1, pc, lv, st, μ, h => by
    unfold px_run at h
    cases hc : cut pc with
    | true => rw [hc] at h; exact h
    | false =>
      rw [hc] at h
      cases hd : decode cc pc with
      | error e => rw [hd] at h; exact h.elim
      | ok q =>
        rw [hd] at h
        exact px_step_ok (fun pc lv st μ hk => px_run_ok n pc lv st μ hk) hd h
/-- the walk from a point on, up to the next points of the cut -/
theorem px_go {G : px_G} {own : String} {cc : ByteArray} {nL d pc : Nat} {ret : Option FieldType} {Q : Option px_X → px_Mem → Prop} {lv : List (Option px_X)} {st : List px_X} {μ : px_Mem} (cut : Nat → Bool) (n : Nat) (h : px_dec (decode cc pc) (fun i len => px_step G own cc nL ret d Q (px_run cut G own cc nL ret d Q n) i len pc lv st μ)) : px_J G own cc nL ret d pc lv st μ Q := by
  cases hd : decode cc pc with
  | error e => rw [hd] at h; exact h.elim
  | ok q =>
    rw [hd] at h
    exact px_step_ok (fun pc lv st μ hk => px_run_ok n pc lv st μ hk) hd h
end
section
theorem px_rule_is : ∀ (G : px_G) (own : String) (cc : ByteArray) (nL : Nat) (ret : Option FieldType) (d : Nat) (Q : Option px_X → px_Mem → Prop) (K : Nat → List (Option px_X) → List px_X → px_Mem → Prop) (pc : Nat) (lv : List (Option px_X)) (st : List px_X) (μ : px_Mem) (idx : Nat), px_step G own cc nL ret d Q K (.invokestatic idx) 3 pc lv (st) μ = (if px_ac own idx = true then px_sac st (fun n dp a sp a0 r => 1 ≤ d ∧ (px_kd a0 = 20 ∧ px_kd a = 20) ∧ (0 ≤ sp ∧ 0 ≤ dp ∧ 0 ≤ n ∧ sp + n ≤ px_ln a0 ∧ dp + n ≤ px_ln a) ∧ r.length ≤ 4 ∧ K (pc + 3) lv r (px_cp μ a0 sp a dp n)) else px_o (px_md own idx) (fun q => q.2.2.2.2.2.2.1 = true ∧ px_call G d st q μ (fun r v μ2 => px_J G own cc nL ret d (pc + 3) lv (v.toList ++ r) μ2 Q))) := by
  intro G own cc nL ret d Q K pc lv st μ idx
  show (bif px_ac own idx then _ else _) = _
  cases px_ac own idx <;> rfl
set_option maxRecDepth 100000 in
theorem px_rules : (∀ (G : px_G) (own : String) (cc : ByteArray) (nL : Nat) (ret : Option FieldType) (d : Nat) (Q : Option px_X → px_Mem → Prop) (K : Nat → List (Option px_X) → List px_X → px_Mem → Prop) (pc : Nat) (lv : List (Option px_X)) (st : List px_X) (μ : px_Mem) (n : Int), (px_step G own cc nL ret d Q K (.iconst n) 1 pc lv (st) μ) = (K (pc + 1) lv (.inl n :: st) μ)) ∧ (∀ (G : px_G) (own : String) (cc : ByteArray) (nL : Nat) (ret : Option FieldType) (d : Nat) (Q : Option px_X → px_Mem → Prop) (K : Nat → List (Option px_X) → List px_X → px_Mem → Prop) (pc : Nat) (lv : List (Option px_X)) (st : List px_X) (μ : px_Mem) (n : Int), (px_step G own cc nL ret d Q K (.bipush n) 2 pc lv (st) μ) = (((-128 ≤ n ∧ n ≤ 127) ∧ K (pc + 2) lv (.inl n :: st) μ))) ∧ (∀ (G : px_G) (own : String) (cc : ByteArray) (nL : Nat) (ret : Option FieldType) (d : Nat) (Q : Option px_X → px_Mem → Prop) (K : Nat → List (Option px_X) → List px_X → px_Mem → Prop) (pc : Nat) (lv : List (Option px_X)) (st : List px_X) (μ : px_Mem) (n : Int), (px_step G own cc nL ret d Q K (.sipush n) 3 pc lv (st) μ) = (((-32768 ≤ n ∧ n ≤ 32767) ∧ K (pc + 3) lv (.inl n :: st) μ))) ∧ (∀ (G : px_G) (own : String) (cc : ByteArray) (nL : Nat) (ret : Option FieldType) (d : Nat) (Q : Option px_X → px_Mem → Prop) (K : Nat → List (Option px_X) → List px_X → px_Mem → Prop) (pc : Nat) (lv : List (Option px_X)) (st : List px_X) (μ : px_Mem) (n : Nat), (px_step G own cc nL ret d Q K (.ldc n) 2 pc lv (st) μ) = (px_o (px_ct own n) (fun q => q.2 = false ∧ K (pc + 2) lv (.inl q.1 :: st) μ))) ∧ (∀ (G : px_G) (own : String) (cc : ByteArray) (nL : Nat) (ret : Option FieldType) (d : Nat) (Q : Option px_X → px_Mem → Prop) (K : Nat → List (Option px_X) → List px_X → px_Mem → Prop) (pc : Nat) (lv : List (Option px_X)) (st : List px_X) (μ : px_Mem) (n : Nat), (px_step G own cc nL ret d Q K (.ldc2_w n) 3 pc lv (st) μ) = (px_o (px_ct own n) (fun q => q.2 = true ∧ K (pc + 3) lv (.inr (.inr q.1) :: st) μ))) ∧ (∀ (G : px_G) (own : String) (cc : ByteArray) (nL : Nat) (ret : Option FieldType) (d : Nat) (Q : Option px_X → px_Mem → Prop) (K : Nat → List (Option px_X) → List px_X → px_Mem → Prop) (pc : Nat) (lv : List (Option px_X)) (st : List px_X) (μ : px_Mem), (px_step G own cc nL ret d Q K (.aconst_null) 1 pc lv (st) μ) = (K (pc + 1) lv (.inr (.inl none) :: st) μ)) ∧ (∀ (G : px_G) (own : String) (cc : ByteArray) (nL : Nat) (ret : Option FieldType) (d : Nat) (Q : Option px_X → px_Mem → Prop) (K : Nat → List (Option px_X) → List px_X → px_Mem → Prop) (pc : Nat) (lv : List (Option px_X)) (st : List px_X) (μ : px_Mem) (k : Nat), (px_step G own cc nL ret d Q K (.iload k) 2 pc lv (st) μ) = (px_wi (px_ld lv k) (fun z => K (pc + 2) lv (.inl z :: st) μ))) ∧ (∀ (G : px_G) (own : String) (cc : ByteArray) (nL : Nat) (ret : Option FieldType) (d : Nat) (Q : Option px_X → px_Mem → Prop) (K : Nat → List (Option px_X) → List px_X → px_Mem → Prop) (pc : Nat) (lv : List (Option px_X)) (st : List px_X) (μ : px_Mem) (k : Nat), (px_step G own cc nL ret d Q K (.aload k) 2 pc lv (st) μ) = (px_wr (px_ld lv k) (fun z => K (pc + 2) lv (.inr (.inl z) :: st) μ))) ∧ (∀ (G : px_G) (own : String) (cc : ByteArray) (nL : Nat) (ret : Option FieldType) (d : Nat) (Q : Option px_X → px_Mem → Prop) (K : Nat → List (Option px_X) → List px_X → px_Mem → Prop) (pc : Nat) (lv : List (Option px_X)) (st : List px_X) (μ : px_Mem), (px_step G own cc nL ret d Q K (.iload_n 0) 1 pc lv (st) μ) = (px_wi (px_ld lv 0) (fun z => K (pc + 1) lv (.inl z :: st) μ))) ∧ (∀ (G : px_G) (own : String) (cc : ByteArray) (nL : Nat) (ret : Option FieldType) (d : Nat) (Q : Option px_X → px_Mem → Prop) (K : Nat → List (Option px_X) → List px_X → px_Mem → Prop) (pc : Nat) (lv : List (Option px_X)) (st : List px_X) (μ : px_Mem), (px_step G own cc nL ret d Q K (.aload_n 0) 1 pc lv (st) μ) = (px_wr (px_ld lv 0) (fun z => K (pc + 1) lv (.inr (.inl z) :: st) μ))) ∧ (∀ (G : px_G) (own : String) (cc : ByteArray) (nL : Nat) (ret : Option FieldType) (d : Nat) (Q : Option px_X → px_Mem → Prop) (K : Nat → List (Option px_X) → List px_X → px_Mem → Prop) (pc : Nat) (lv : List (Option px_X)) (st : List px_X) (μ : px_Mem) (z : Int), (px_step G own cc nL ret d Q K (.istore_n 0) 1 pc lv (.inl z :: st) μ) = ((0 < nL ∧ K (pc + 1) (lv.set 0 (some (.inl z))) st μ))) ∧ (∀ (G : px_G) (own : String) (cc : ByteArray) (nL : Nat) (ret : Option FieldType) (d : Nat) (Q : Option px_X → px_Mem → Prop) (K : Nat → List (Option px_X) → List px_X → px_Mem → Prop) (pc : Nat) (lv : List (Option px_X)) (st : List px_X) (μ : px_Mem) (z : Option Nat), (px_step G own cc nL ret d Q K (.astore_n 0) 1 pc lv (.inr (.inl z) :: st) μ) = ((0 < nL ∧ K (pc + 1) (lv.set 0 (some (.inr (.inl z)))) st μ))) ∧ (∀ (G : px_G) (own : String) (cc : ByteArray) (nL : Nat) (ret : Option FieldType) (d : Nat) (Q : Option px_X → px_Mem → Prop) (K : Nat → List (Option px_X) → List px_X → px_Mem → Prop) (pc : Nat) (lv : List (Option px_X)) (st : List px_X) (μ : px_Mem), (px_step G own cc nL ret d Q K (.iload_n 1) 1 pc lv (st) μ) = (px_wi (px_ld lv 1) (fun z => K (pc + 1) lv (.inl z :: st) μ))) ∧ (∀ (G : px_G) (own : String) (cc : ByteArray) (nL : Nat) (ret : Option FieldType) (d : Nat) (Q : Option px_X → px_Mem → Prop) (K : Nat → List (Option px_X) → List px_X → px_Mem → Prop) (pc : Nat) (lv : List (Option px_X)) (st : List px_X) (μ : px_Mem), (px_step G own cc nL ret d Q K (.aload_n 1) 1 pc lv (st) μ) = (px_wr (px_ld lv 1) (fun z => K (pc + 1) lv (.inr (.inl z) :: st) μ))) ∧ (∀ (G : px_G) (own : String) (cc : ByteArray) (nL : Nat) (ret : Option FieldType) (d : Nat) (Q : Option px_X → px_Mem → Prop) (K : Nat → List (Option px_X) → List px_X → px_Mem → Prop) (pc : Nat) (lv : List (Option px_X)) (st : List px_X) (μ : px_Mem) (z : Int), (px_step G own cc nL ret d Q K (.istore_n 1) 1 pc lv (.inl z :: st) μ) = ((1 < nL ∧ K (pc + 1) (lv.set 1 (some (.inl z))) st μ))) ∧ (∀ (G : px_G) (own : String) (cc : ByteArray) (nL : Nat) (ret : Option FieldType) (d : Nat) (Q : Option px_X → px_Mem → Prop) (K : Nat → List (Option px_X) → List px_X → px_Mem → Prop) (pc : Nat) (lv : List (Option px_X)) (st : List px_X) (μ : px_Mem) (z : Option Nat), (px_step G own cc nL ret d Q K (.astore_n 1) 1 pc lv (.inr (.inl z) :: st) μ) = ((1 < nL ∧ K (pc + 1) (lv.set 1 (some (.inr (.inl z)))) st μ))) ∧ (∀ (G : px_G) (own : String) (cc : ByteArray) (nL : Nat) (ret : Option FieldType) (d : Nat) (Q : Option px_X → px_Mem → Prop) (K : Nat → List (Option px_X) → List px_X → px_Mem → Prop) (pc : Nat) (lv : List (Option px_X)) (st : List px_X) (μ : px_Mem), (px_step G own cc nL ret d Q K (.iload_n 2) 1 pc lv (st) μ) = (px_wi (px_ld lv 2) (fun z => K (pc + 1) lv (.inl z :: st) μ))) ∧ (∀ (G : px_G) (own : String) (cc : ByteArray) (nL : Nat) (ret : Option FieldType) (d : Nat) (Q : Option px_X → px_Mem → Prop) (K : Nat → List (Option px_X) → List px_X → px_Mem → Prop) (pc : Nat) (lv : List (Option px_X)) (st : List px_X) (μ : px_Mem), (px_step G own cc nL ret d Q K (.aload_n 2) 1 pc lv (st) μ) = (px_wr (px_ld lv 2) (fun z => K (pc + 1) lv (.inr (.inl z) :: st) μ))) ∧ (∀ (G : px_G) (own : String) (cc : ByteArray) (nL : Nat) (ret : Option FieldType) (d : Nat) (Q : Option px_X → px_Mem → Prop) (K : Nat → List (Option px_X) → List px_X → px_Mem → Prop) (pc : Nat) (lv : List (Option px_X)) (st : List px_X) (μ : px_Mem) (z : Int), (px_step G own cc nL ret d Q K (.istore_n 2) 1 pc lv (.inl z :: st) μ) = ((2 < nL ∧ K (pc + 1) (lv.set 2 (some (.inl z))) st μ))) ∧ (∀ (G : px_G) (own : String) (cc : ByteArray) (nL : Nat) (ret : Option FieldType) (d : Nat) (Q : Option px_X → px_Mem → Prop) (K : Nat → List (Option px_X) → List px_X → px_Mem → Prop) (pc : Nat) (lv : List (Option px_X)) (st : List px_X) (μ : px_Mem) (z : Option Nat), (px_step G own cc nL ret d Q K (.astore_n 2) 1 pc lv (.inr (.inl z) :: st) μ) = ((2 < nL ∧ K (pc + 1) (lv.set 2 (some (.inr (.inl z)))) st μ))) ∧ (∀ (G : px_G) (own : String) (cc : ByteArray) (nL : Nat) (ret : Option FieldType) (d : Nat) (Q : Option px_X → px_Mem → Prop) (K : Nat → List (Option px_X) → List px_X → px_Mem → Prop) (pc : Nat) (lv : List (Option px_X)) (st : List px_X) (μ : px_Mem), (px_step G own cc nL ret d Q K (.iload_n 3) 1 pc lv (st) μ) = (px_wi (px_ld lv 3) (fun z => K (pc + 1) lv (.inl z :: st) μ))) ∧ (∀ (G : px_G) (own : String) (cc : ByteArray) (nL : Nat) (ret : Option FieldType) (d : Nat) (Q : Option px_X → px_Mem → Prop) (K : Nat → List (Option px_X) → List px_X → px_Mem → Prop) (pc : Nat) (lv : List (Option px_X)) (st : List px_X) (μ : px_Mem), (px_step G own cc nL ret d Q K (.aload_n 3) 1 pc lv (st) μ) = (px_wr (px_ld lv 3) (fun z => K (pc + 1) lv (.inr (.inl z) :: st) μ))) ∧ (∀ (G : px_G) (own : String) (cc : ByteArray) (nL : Nat) (ret : Option FieldType) (d : Nat) (Q : Option px_X → px_Mem → Prop) (K : Nat → List (Option px_X) → List px_X → px_Mem → Prop) (pc : Nat) (lv : List (Option px_X)) (st : List px_X) (μ : px_Mem) (z : Int), (px_step G own cc nL ret d Q K (.istore_n 3) 1 pc lv (.inl z :: st) μ) = ((3 < nL ∧ K (pc + 1) (lv.set 3 (some (.inl z))) st μ))) ∧ (∀ (G : px_G) (own : String) (cc : ByteArray) (nL : Nat) (ret : Option FieldType) (d : Nat) (Q : Option px_X → px_Mem → Prop) (K : Nat → List (Option px_X) → List px_X → px_Mem → Prop) (pc : Nat) (lv : List (Option px_X)) (st : List px_X) (μ : px_Mem) (z : Option Nat), (px_step G own cc nL ret d Q K (.astore_n 3) 1 pc lv (.inr (.inl z) :: st) μ) = ((3 < nL ∧ K (pc + 1) (lv.set 3 (some (.inr (.inl z)))) st μ))) ∧ (∀ (G : px_G) (own : String) (cc : ByteArray) (nL : Nat) (ret : Option FieldType) (d : Nat) (Q : Option px_X → px_Mem → Prop) (K : Nat → List (Option px_X) → List px_X → px_Mem → Prop) (pc : Nat) (lv : List (Option px_X)) (st : List px_X) (μ : px_Mem) (k : Nat) (z : Int), (px_step G own cc nL ret d Q K (.istore k) 2 pc lv (.inl z :: st) μ) = ((k < nL ∧ K (pc + 2) (lv.set k (some (.inl z))) st μ))) ∧ (∀ (G : px_G) (own : String) (cc : ByteArray) (nL : Nat) (ret : Option FieldType) (d : Nat) (Q : Option px_X → px_Mem → Prop) (K : Nat → List (Option px_X) → List px_X → px_Mem → Prop) (pc : Nat) (lv : List (Option px_X)) (st : List px_X) (μ : px_Mem) (k : Nat) (z : Option Nat), (px_step G own cc nL ret d Q K (.astore k) 2 pc lv (.inr (.inl z) :: st) μ) = ((k < nL ∧ K (pc + 2) (lv.set k (some (.inr (.inl z)))) st μ))) ∧ (∀ (G : px_G) (own : String) (cc : ByteArray) (nL : Nat) (ret : Option FieldType) (d : Nat) (Q : Option px_X → px_Mem → Prop) (K : Nat → List (Option px_X) → List px_X → px_Mem → Prop) (pc : Nat) (lv : List (Option px_X)) (st : List px_X) (μ : px_Mem) (k : Nat) (n : Int), (px_step G own cc nL ret d Q K (.iinc k n) 3 pc lv (st) μ) = (px_wi (px_ld lv k) (fun z => k < nL ∧ K (pc + 3) (lv.set k (some (.inl (z + n)))) st μ))) ∧ (∀ (G : px_G) (own : String) (cc : ByteArray) (nL : Nat) (ret : Option FieldType) (d : Nat) (Q : Option px_X → px_Mem → Prop) (K : Nat → List (Option px_X) → List px_X → px_Mem → Prop) (pc : Nat) (lv : List (Option px_X)) (st : List px_X) (μ : px_Mem) (x y : Int), (px_step G own cc nL ret d Q K (.iadd) 1 pc lv (.inl y :: .inl x :: st) μ) = (K (pc + 1) lv (.inl (x + y) :: st) μ)) ∧ (∀ (G : px_G) (own : String) (cc : ByteArray) (nL : Nat) (ret : Option FieldType) (d : Nat) (Q : Option px_X → px_Mem → Prop) (K : Nat → List (Option px_X) → List px_X → px_Mem → Prop) (pc : Nat) (lv : List (Option px_X)) (st : List px_X) (μ : px_Mem) (x y : Int), (px_step G own cc nL ret d Q K (.isub) 1 pc lv (.inl y :: .inl x :: st) μ) = (K (pc + 1) lv (.inl (x - y) :: st) μ)) ∧ (∀ (G : px_G) (own : String) (cc : ByteArray) (nL : Nat) (ret : Option FieldType) (d : Nat) (Q : Option px_X → px_Mem → Prop) (K : Nat → List (Option px_X) → List px_X → px_Mem → Prop) (pc : Nat) (lv : List (Option px_X)) (st : List px_X) (μ : px_Mem) (x y : Int), (px_step G own cc nL ret d Q K (.imul) 1 pc lv (.inl y :: .inl x :: st) μ) = (K (pc + 1) lv (.inl (x * y) :: st) μ)) ∧ (∀ (G : px_G) (own : String) (cc : ByteArray) (nL : Nat) (ret : Option FieldType) (d : Nat) (Q : Option px_X → px_Mem → Prop) (K : Nat → List (Option px_X) → List px_X → px_Mem → Prop) (pc : Nat) (lv : List (Option px_X)) (st : List px_X) (μ : px_Mem) (x y : Int), (px_step G own cc nL ret d Q K (.iand) 1 pc lv (.inl y :: .inl x :: st) μ) = (K (pc + 1) lv (.inl (px_and x y) :: st) μ)) ∧ (∀ (G : px_G) (own : String) (cc : ByteArray) (nL : Nat) (ret : Option FieldType) (d : Nat) (Q : Option px_X → px_Mem → Prop) (K : Nat → List (Option px_X) → List px_X → px_Mem → Prop) (pc : Nat) (lv : List (Option px_X)) (st : List px_X) (μ : px_Mem) (x y : Int), (px_step G own cc nL ret d Q K (.ior) 1 pc lv (.inl y :: .inl x :: st) μ) = (K (pc + 1) lv (.inl (px_or x y) :: st) μ)) ∧ (∀ (G : px_G) (own : String) (cc : ByteArray) (nL : Nat) (ret : Option FieldType) (d : Nat) (Q : Option px_X → px_Mem → Prop) (K : Nat → List (Option px_X) → List px_X → px_Mem → Prop) (pc : Nat) (lv : List (Option px_X)) (st : List px_X) (μ : px_Mem) (x y : Int), (px_step G own cc nL ret d Q K (.ixor) 1 pc lv (.inl y :: .inl x :: st) μ) = (K (pc + 1) lv (.inl (px_xor x y) :: st) μ)) ∧ (∀ (G : px_G) (own : String) (cc : ByteArray) (nL : Nat) (ret : Option FieldType) (d : Nat) (Q : Option px_X → px_Mem → Prop) (K : Nat → List (Option px_X) → List px_X → px_Mem → Prop) (pc : Nat) (lv : List (Option px_X)) (st : List px_X) (μ : px_Mem) (x y : Int), (px_step G own cc nL ret d Q K (.ishl) 1 pc lv (.inl y :: .inl x :: st) μ) = (K (pc + 1) lv (.inl (px_shl x y) :: st) μ)) ∧ (∀ (G : px_G) (own : String) (cc : ByteArray) (nL : Nat) (ret : Option FieldType) (d : Nat) (Q : Option px_X → px_Mem → Prop) (K : Nat → List (Option px_X) → List px_X → px_Mem → Prop) (pc : Nat) (lv : List (Option px_X)) (st : List px_X) (μ : px_Mem) (x y : Int), (px_step G own cc nL ret d Q K (.ishr) 1 pc lv (.inl y :: .inl x :: st) μ) = (K (pc + 1) lv (.inl (px_shr x y) :: st) μ)) ∧ (∀ (G : px_G) (own : String) (cc : ByteArray) (nL : Nat) (ret : Option FieldType) (d : Nat) (Q : Option px_X → px_Mem → Prop) (K : Nat → List (Option px_X) → List px_X → px_Mem → Prop) (pc : Nat) (lv : List (Option px_X)) (st : List px_X) (μ : px_Mem) (x y : Int), (px_step G own cc nL ret d Q K (.idiv) 1 pc lv (.inl y :: .inl x :: st) μ) = (((0 ≤ x ∧ x < 2147483648 ∧ 0 < y ∧ y < 2147483648) ∧ K (pc + 1) lv (.inl (x / y) :: st) μ))) ∧ (∀ (G : px_G) (own : String) (cc : ByteArray) (nL : Nat) (ret : Option FieldType) (d : Nat) (Q : Option px_X → px_Mem → Prop) (K : Nat → List (Option px_X) → List px_X → px_Mem → Prop) (pc : Nat) (lv : List (Option px_X)) (st : List px_X) (μ : px_Mem) (x y : Int), (px_step G own cc nL ret d Q K (.irem) 1 pc lv (.inl y :: .inl x :: st) μ) = (((0 ≤ x ∧ x < 2147483648 ∧ 0 < y ∧ y < 2147483648) ∧ K (pc + 1) lv (.inl (x % y) :: st) μ))) ∧ (∀ (G : px_G) (own : String) (cc : ByteArray) (nL : Nat) (ret : Option FieldType) (d : Nat) (Q : Option px_X → px_Mem → Prop) (K : Nat → List (Option px_X) → List px_X → px_Mem → Prop) (pc : Nat) (lv : List (Option px_X)) (st : List px_X) (μ : px_Mem) (x y : Int), (px_step G own cc nL ret d Q K (.lmul) 1 pc lv (.inr (.inr y) :: .inr (.inr x) :: st) μ) = (K (pc + 1) lv (.inr (.inr (x * y)) :: st) μ)) ∧ (∀ (G : px_G) (own : String) (cc : ByteArray) (nL : Nat) (ret : Option FieldType) (d : Nat) (Q : Option px_X → px_Mem → Prop) (K : Nat → List (Option px_X) → List px_X → px_Mem → Prop) (pc : Nat) (lv : List (Option px_X)) (st : List px_X) (μ : px_Mem) (x y : Int), (px_step G own cc nL ret d Q K (.lrem) 1 pc lv (.inr (.inr y) :: .inr (.inr x) :: st) μ) = (((0 ≤ x ∧ x < 4611686018427387904 ∧ 0 < y ∧ y < 4611686018427387904) ∧ K (pc + 1) lv (.inr (.inr (x % y)) :: st) μ))) ∧ (∀ (G : px_G) (own : String) (cc : ByteArray) (nL : Nat) (ret : Option FieldType) (d : Nat) (Q : Option px_X → px_Mem → Prop) (K : Nat → List (Option px_X) → List px_X → px_Mem → Prop) (pc : Nat) (lv : List (Option px_X)) (st : List px_X) (μ : px_Mem) (x : Int), (px_step G own cc nL ret d Q K (.i2l) 1 pc lv (.inl x :: st) μ) = (((-2147483648 ≤ x ∧ x < 2147483648) ∧ K (pc + 1) lv (.inr (.inr x) :: st) μ))) ∧ (∀ (G : px_G) (own : String) (cc : ByteArray) (nL : Nat) (ret : Option FieldType) (d : Nat) (Q : Option px_X → px_Mem → Prop) (K : Nat → List (Option px_X) → List px_X → px_Mem → Prop) (pc : Nat) (lv : List (Option px_X)) (st : List px_X) (μ : px_Mem) (x : Int), (px_step G own cc nL ret d Q K (.l2i) 1 pc lv (.inr (.inr x) :: st) μ) = (K (pc + 1) lv (.inl x :: st) μ)) ∧ (∀ (G : px_G) (own : String) (cc : ByteArray) (nL : Nat) (ret : Option FieldType) (d : Nat) (Q : Option px_X → px_Mem → Prop) (K : Nat → List (Option px_X) → List px_X → px_Mem → Prop) (pc : Nat) (lv : List (Option px_X)) (st : List px_X) (μ : px_Mem) (x : Int), (px_step G own cc nL ret d Q K (.dup) 1 pc lv (.inl x :: st) μ) = ((True ∧ K (pc + 1) lv (.inl x :: .inl x :: st) μ))) ∧ (∀ (G : px_G) (own : String) (cc : ByteArray) (nL : Nat) (ret : Option FieldType) (d : Nat) (Q : Option px_X → px_Mem → Prop) (K : Nat → List (Option px_X) → List px_X → px_Mem → Prop) (pc : Nat) (lv : List (Option px_X)) (st : List px_X) (μ : px_Mem) (x : Int), (px_step G own cc nL ret d Q K (.pop) 1 pc lv (.inl x :: st) μ) = ((True ∧ K (pc + 1) lv st μ))) ∧ (∀ (G : px_G) (own : String) (cc : ByteArray) (nL : Nat) (ret : Option FieldType) (d : Nat) (Q : Option px_X → px_Mem → Prop) (K : Nat → List (Option px_X) → List px_X → px_Mem → Prop) (pc : Nat) (lv : List (Option px_X)) (st : List px_X) (μ : px_Mem) (x : Option Nat), (px_step G own cc nL ret d Q K (.dup) 1 pc lv (.inr (.inl x) :: st) μ) = ((True ∧ K (pc + 1) lv (.inr (.inl x) :: .inr (.inl x) :: st) μ))) ∧ (∀ (G : px_G) (own : String) (cc : ByteArray) (nL : Nat) (ret : Option FieldType) (d : Nat) (Q : Option px_X → px_Mem → Prop) (K : Nat → List (Option px_X) → List px_X → px_Mem → Prop) (pc : Nat) (lv : List (Option px_X)) (st : List px_X) (μ : px_Mem) (x : Option Nat), (px_step G own cc nL ret d Q K (.pop) 1 pc lv (.inr (.inl x) :: st) μ) = ((True ∧ K (pc + 1) lv st μ))) ∧ (∀ (G : px_G) (own : String) (cc : ByteArray) (nL : Nat) (ret : Option FieldType) (d : Nat) (Q : Option px_X → px_Mem → Prop) (K : Nat → List (Option px_X) → List px_X → px_Mem → Prop) (pc : Nat) (lv : List (Option px_X)) (st : List px_X) (μ : px_Mem) (x : Int) (y : Option Nat), (px_step G own cc nL ret d Q K (.dup2) 1 pc lv (.inl x :: .inr (.inl y) :: st) μ) = ((True ∧ True ∧ K (pc + 1) lv (.inl x :: .inr (.inl y) :: .inl x :: .inr (.inl y) :: st) μ))) ∧ (∀ (G : px_G) (own : String) (cc : ByteArray) (nL : Nat) (ret : Option FieldType) (d : Nat) (Q : Option px_X → px_Mem → Prop) (K : Nat → List (Option px_X) → List px_X → px_Mem → Prop) (pc : Nat) (lv : List (Option px_X)) (st : List px_X) (μ : px_Mem) (off x : Int), (px_step G own cc nL ret d Q K (.ifCond .eq off) 3 pc lv (.inl x :: st) μ) = ((0 ≤ (pc : Int) + off ∧ (px_eq x 0 → K (px_tg pc off) lv st μ) ∧ (¬ (px_eq x 0) → K (pc + 3) lv st μ)))) ∧ (∀ (G : px_G) (own : String) (cc : ByteArray) (nL : Nat) (ret : Option FieldType) (d : Nat) (Q : Option px_X → px_Mem → Prop) (K : Nat → List (Option px_X) → List px_X → px_Mem → Prop) (pc : Nat) (lv : List (Option px_X)) (st : List px_X) (μ : px_Mem) (off x y : Int), (px_step G own cc nL ret d Q K (.if_icmp .eq off) 3 pc lv (.inl y :: .inl x :: st) μ) = ((0 ≤ (pc : Int) + off ∧ (px_eq x y → K (px_tg pc off) lv st μ) ∧ (¬ (px_eq x y) → K (pc + 3) lv st μ)))) ∧ (∀ (G : px_G) (own : String) (cc : ByteArray) (nL : Nat) (ret : Option FieldType) (d : Nat) (Q : Option px_X → px_Mem → Prop) (K : Nat → List (Option px_X) → List px_X → px_Mem → Prop) (pc : Nat) (lv : List (Option px_X)) (st : List px_X) (μ : px_Mem) (off x : Int), (px_step G own cc nL ret d Q K (.ifCond .ne off) 3 pc lv (.inl x :: st) μ) = ((0 ≤ (pc : Int) + off ∧ (¬ px_eq x 0 → K (px_tg pc off) lv st μ) ∧ (¬ (¬ px_eq x 0) → K (pc + 3) lv st μ)))) ∧ (∀ (G : px_G) (own : String) (cc : ByteArray) (nL : Nat) (ret : Option FieldType) (d : Nat) (Q : Option px_X → px_Mem → Prop) (K : Nat → List (Option px_X) → List px_X → px_Mem → Prop) (pc : Nat) (lv : List (Option px_X)) (st : List px_X) (μ : px_Mem) (off x y : Int), (px_step G own cc nL ret d Q K (.if_icmp .ne off) 3 pc lv (.inl y :: .inl x :: st) μ) = ((0 ≤ (pc : Int) + off ∧ (¬ px_eq x y → K (px_tg pc off) lv st μ) ∧ (¬ (¬ px_eq x y) → K (pc + 3) lv st μ)))) ∧ (∀ (G : px_G) (own : String) (cc : ByteArray) (nL : Nat) (ret : Option FieldType) (d : Nat) (Q : Option px_X → px_Mem → Prop) (K : Nat → List (Option px_X) → List px_X → px_Mem → Prop) (pc : Nat) (lv : List (Option px_X)) (st : List px_X) (μ : px_Mem) (off x : Int), (px_step G own cc nL ret d Q K (.ifCond .lt off) 3 pc lv (.inl x :: st) μ) = ((0 ≤ (pc : Int) + off ∧ (px_lt x 0 → K (px_tg pc off) lv st μ) ∧ (¬ (px_lt x 0) → K (pc + 3) lv st μ)))) ∧ (∀ (G : px_G) (own : String) (cc : ByteArray) (nL : Nat) (ret : Option FieldType) (d : Nat) (Q : Option px_X → px_Mem → Prop) (K : Nat → List (Option px_X) → List px_X → px_Mem → Prop) (pc : Nat) (lv : List (Option px_X)) (st : List px_X) (μ : px_Mem) (off x y : Int), (px_step G own cc nL ret d Q K (.if_icmp .lt off) 3 pc lv (.inl y :: .inl x :: st) μ) = ((0 ≤ (pc : Int) + off ∧ (px_lt x y → K (px_tg pc off) lv st μ) ∧ (¬ (px_lt x y) → K (pc + 3) lv st μ)))) ∧ (∀ (G : px_G) (own : String) (cc : ByteArray) (nL : Nat) (ret : Option FieldType) (d : Nat) (Q : Option px_X → px_Mem → Prop) (K : Nat → List (Option px_X) → List px_X → px_Mem → Prop) (pc : Nat) (lv : List (Option px_X)) (st : List px_X) (μ : px_Mem) (off x : Int), (px_step G own cc nL ret d Q K (.ifCond .ge off) 3 pc lv (.inl x :: st) μ) = ((0 ≤ (pc : Int) + off ∧ (px_le 0 x → K (px_tg pc off) lv st μ) ∧ (¬ (px_le 0 x) → K (pc + 3) lv st μ)))) ∧ (∀ (G : px_G) (own : String) (cc : ByteArray) (nL : Nat) (ret : Option FieldType) (d : Nat) (Q : Option px_X → px_Mem → Prop) (K : Nat → List (Option px_X) → List px_X → px_Mem → Prop) (pc : Nat) (lv : List (Option px_X)) (st : List px_X) (μ : px_Mem) (off x y : Int), (px_step G own cc nL ret d Q K (.if_icmp .ge off) 3 pc lv (.inl y :: .inl x :: st) μ) = ((0 ≤ (pc : Int) + off ∧ (px_le y x → K (px_tg pc off) lv st μ) ∧ (¬ (px_le y x) → K (pc + 3) lv st μ)))) ∧ (∀ (G : px_G) (own : String) (cc : ByteArray) (nL : Nat) (ret : Option FieldType) (d : Nat) (Q : Option px_X → px_Mem → Prop) (K : Nat → List (Option px_X) → List px_X → px_Mem → Prop) (pc : Nat) (lv : List (Option px_X)) (st : List px_X) (μ : px_Mem) (off x : Int), (px_step G own cc nL ret d Q K (.ifCond .gt off) 3 pc lv (.inl x :: st) μ) = ((0 ≤ (pc : Int) + off ∧ (px_lt 0 x → K (px_tg pc off) lv st μ) ∧ (¬ (px_lt 0 x) → K (pc + 3) lv st μ)))) ∧ (∀ (G : px_G) (own : String) (cc : ByteArray) (nL : Nat) (ret : Option FieldType) (d : Nat) (Q : Option px_X → px_Mem → Prop) (K : Nat → List (Option px_X) → List px_X → px_Mem → Prop) (pc : Nat) (lv : List (Option px_X)) (st : List px_X) (μ : px_Mem) (off x y : Int), (px_step G own cc nL ret d Q K (.if_icmp .gt off) 3 pc lv (.inl y :: .inl x :: st) μ) = ((0 ≤ (pc : Int) + off ∧ (px_lt y x → K (px_tg pc off) lv st μ) ∧ (¬ (px_lt y x) → K (pc + 3) lv st μ)))) ∧ (∀ (G : px_G) (own : String) (cc : ByteArray) (nL : Nat) (ret : Option FieldType) (d : Nat) (Q : Option px_X → px_Mem → Prop) (K : Nat → List (Option px_X) → List px_X → px_Mem → Prop) (pc : Nat) (lv : List (Option px_X)) (st : List px_X) (μ : px_Mem) (off x : Int), (px_step G own cc nL ret d Q K (.ifCond .le off) 3 pc lv (.inl x :: st) μ) = ((0 ≤ (pc : Int) + off ∧ (px_le x 0 → K (px_tg pc off) lv st μ) ∧ (¬ (px_le x 0) → K (pc + 3) lv st μ)))) ∧ (∀ (G : px_G) (own : String) (cc : ByteArray) (nL : Nat) (ret : Option FieldType) (d : Nat) (Q : Option px_X → px_Mem → Prop) (K : Nat → List (Option px_X) → List px_X → px_Mem → Prop) (pc : Nat) (lv : List (Option px_X)) (st : List px_X) (μ : px_Mem) (off x y : Int), (px_step G own cc nL ret d Q K (.if_icmp .le off) 3 pc lv (.inl y :: .inl x :: st) μ) = ((0 ≤ (pc : Int) + off ∧ (px_le x y → K (px_tg pc off) lv st μ) ∧ (¬ (px_le x y) → K (pc + 3) lv st μ)))) ∧ (∀ (G : px_G) (own : String) (cc : ByteArray) (nL : Nat) (ret : Option FieldType) (d : Nat) (Q : Option px_X → px_Mem → Prop) (K : Nat → List (Option px_X) → List px_X → px_Mem → Prop) (pc : Nat) (lv : List (Option px_X)) (st : List px_X) (μ : px_Mem) (off : Int), (px_step G own cc nL ret d Q K (.goto off) 3 pc lv (st) μ) = ((0 ≤ (pc : Int) + off ∧ K (px_tg pc off) lv st μ))) ∧ (∀ (G : px_G) (own : String) (cc : ByteArray) (nL : Nat) (ret : Option FieldType) (d : Nat) (Q : Option px_X → px_Mem → Prop) (K : Nat → List (Option px_X) → List px_X → px_Mem → Prop) (pc : Nat) (lv : List (Option px_X)) (st : List px_X) (μ : px_Mem) (off : Int), (px_step G own cc nL ret d Q K (.ifnull off) 3 pc lv (.inr (.inl none) :: st) μ) = ((0 ≤ (pc : Int) + off ∧ K (px_tg pc off) lv st μ))) ∧ (∀ (G : px_G) (own : String) (cc : ByteArray) (nL : Nat) (ret : Option FieldType) (d : Nat) (Q : Option px_X → px_Mem → Prop) (K : Nat → List (Option px_X) → List px_X → px_Mem → Prop) (pc : Nat) (lv : List (Option px_X)) (st : List px_X) (μ : px_Mem) (off : Int) (o : Nat), (px_step G own cc nL ret d Q K (.ifnull off) 3 pc lv (.inr (.inl (some o)) :: st) μ) = ((0 ≤ (pc : Int) + off ∧ K (pc + 3) lv st μ))) ∧ (∀ (G : px_G) (own : String) (cc : ByteArray) (nL : Nat) (ret : Option FieldType) (d : Nat) (Q : Option px_X → px_Mem → Prop) (K : Nat → List (Option px_X) → List px_X → px_Mem → Prop) (pc : Nat) (lv : List (Option px_X)) (st : List px_X) (μ : px_Mem) (off : Int), (px_step G own cc nL ret d Q K (.ifnonnull off) 3 pc lv (.inr (.inl none) :: st) μ) = ((0 ≤ (pc : Int) + off ∧ K (pc + 3) lv st μ))) ∧ (∀ (G : px_G) (own : String) (cc : ByteArray) (nL : Nat) (ret : Option FieldType) (d : Nat) (Q : Option px_X → px_Mem → Prop) (K : Nat → List (Option px_X) → List px_X → px_Mem → Prop) (pc : Nat) (lv : List (Option px_X)) (st : List px_X) (μ : px_Mem) (off : Int) (o : Nat), (px_step G own cc nL ret d Q K (.ifnonnull off) 3 pc lv (.inr (.inl (some o)) :: st) μ) = ((0 ≤ (pc : Int) + off ∧ K (px_tg pc off) lv st μ))) ∧ (∀ (G : px_G) (own : String) (cc : ByteArray) (nL : Nat) (ret : Option FieldType) (d : Nat) (Q : Option px_X → px_Mem → Prop) (K : Nat → List (Option px_X) → List px_X → px_Mem → Prop) (pc : Nat) (lv : List (Option px_X)) (st : List px_X) (μ : px_Mem) (dflt lo hi x : Int) (offs : List Int) (len : Nat), (px_step G own cc nL ret d Q K (.tableswitch dflt lo hi offs.toArray) len pc lv (.inl x :: st) μ) = (((-2147483648 ≤ lo ∧ hi + 1 ≤ 2147483648 ∧ lo + offs.length = hi + 1) ∧ px_tsw x (fun o => 0 ≤ (pc : Int) + o ∧ K (px_tg pc o) lv st μ) dflt lo offs))) ∧ (∀ (G : px_G) (own : String) (cc : ByteArray) (nL : Nat) (ret : Option FieldType) (d : Nat) (Q : Option px_X → px_Mem → Prop) (K : Nat → List (Option px_X) → List px_X → px_Mem → Prop) (pc : Nat) (lv : List (Option px_X)) (st : List px_X) (μ : px_Mem) (idx o : Nat), (px_step G own cc nL ret d Q K (.getfield idx) 3 pc lv (.inr (.inl (some o)) :: st) μ) = (px_o (px_fd own idx) (fun q => px_kd o = q.1 ∧ K (pc + 3) lv (px_fv q.1 q.2 o (μ o) :: st) μ))) ∧ (∀ (G : px_G) (own : String) (cc : ByteArray) (nL : Nat) (ret : Option FieldType) (d : Nat) (Q : Option px_X → px_Mem → Prop) (K : Nat → List (Option px_X) → List px_X → px_Mem → Prop) (pc : Nat) (lv : List (Option px_X)) (st : List px_X) (μ : px_Mem) (idx o : Nat) (v : px_X), (px_step G own cc nL ret d Q K (.putfield idx) 3 pc lv (v :: .inr (.inl (some o)) :: st) μ) = (px_o (px_fd own idx) (fun q => px_kd o = q.1 ∧ px_put (px_pf q.1 q.2) v o (fun z => K (pc + 3) lv st (px_up μ o q.2 z))))) ∧ (∀ (G : px_G) (own : String) (cc : ByteArray) (nL : Nat) (ret : Option FieldType) (d : Nat) (Q : Option px_X → px_Mem → Prop) (K : Nat → List (Option px_X) → List px_X → px_Mem → Prop) (pc : Nat) (lv : List (Option px_X)) (st : List px_X) (μ : px_Mem) (i : Int) (a : Nat), (px_step G own cc nL ret d Q K (.iaload) 1 pc lv (.inl i :: .inr (.inl (some a)) :: st) μ) = (((px_kd a = 20 ∧ 0 ≤ i ∧ i < px_ln a) ∧ K (pc + 1) lv (.inl (μ a i) :: st) μ))) ∧ (∀ (G : px_G) (own : String) (cc : ByteArray) (nL : Nat) (ret : Option FieldType) (d : Nat) (Q : Option px_X → px_Mem → Prop) (K : Nat → List (Option px_X) → List px_X → px_Mem → Prop) (pc : Nat) (lv : List (Option px_X)) (st : List px_X) (μ : px_Mem) (i : Int) (a : Nat), (px_step G own cc nL ret d Q K (.baload) 1 pc lv (.inl i :: .inr (.inl (some a)) :: st) μ) = (((px_kd a = 21 ∧ 0 ≤ i ∧ i < px_ln a) ∧ K (pc + 1) lv (.inl (μ a i) :: st) μ))) ∧ (∀ (G : px_G) (own : String) (cc : ByteArray) (nL : Nat) (ret : Option FieldType) (d : Nat) (Q : Option px_X → px_Mem → Prop) (K : Nat → List (Option px_X) → List px_X → px_Mem → Prop) (pc : Nat) (lv : List (Option px_X)) (st : List px_X) (μ : px_Mem) (i : Int) (a : Nat), (px_step G own cc nL ret d Q K (.aaload) 1 pc lv (.inl i :: .inr (.inl (some a)) :: st) μ) = ((((22 ≤ px_kd a ∧ px_kd a ≤ 25) ∧ 0 ≤ i ∧ i < px_ln a) ∧ K (pc + 1) lv (.inr (.inl (some (px_el (px_kd a) a i.toNat))) :: st) μ))) ∧ (∀ (G : px_G) (own : String) (cc : ByteArray) (nL : Nat) (ret : Option FieldType) (d : Nat) (Q : Option px_X → px_Mem → Prop) (K : Nat → List (Option px_X) → List px_X → px_Mem → Prop) (pc : Nat) (lv : List (Option px_X)) (st : List px_X) (μ : px_Mem) (x i : Int) (a : Nat), (px_step G own cc nL ret d Q K (.iastore) 1 pc lv (.inl x :: .inl i :: .inr (.inl (some a)) :: st) μ) = (((px_kd a = 20 ∧ 0 ≤ i ∧ i < px_ln a) ∧ K (pc + 1) lv st (px_up μ a i x)))) ∧ (∀ (G : px_G) (own : String) (cc : ByteArray) (nL : Nat) (ret : Option FieldType) (d : Nat) (Q : Option px_X → px_Mem → Prop) (K : Nat → List (Option px_X) → List px_X → px_Mem → Prop) (pc : Nat) (lv : List (Option px_X)) (st : List px_X) (μ : px_Mem) (x i : Int) (a : Nat), (px_step G own cc nL ret d Q K (.bastore) 1 pc lv (.inl x :: .inl i :: .inr (.inl (some a)) :: st) μ) = (((px_kd a = 21 ∧ 0 ≤ i ∧ i < px_ln a) ∧ (x = 0 ∨ x = 1) ∧ K (pc + 1) lv st (px_up μ a i x)))) ∧ (∀ (G : px_G) (own : String) (cc : ByteArray) (nL : Nat) (ret : Option FieldType) (d : Nat) (Q : Option px_X → px_Mem → Prop) (K : Nat → List (Option px_X) → List px_X → px_Mem → Prop) (pc : Nat) (lv : List (Option px_X)) (st : List px_X) (μ : px_Mem) (idx o : Nat), (px_step G own cc nL ret d Q K (.checkcast idx) 3 pc lv (.inr (.inl (some o)) :: st) μ) = (px_o (px_cl own idx) (fun ci => px_kd o = ci ∧ K (pc + 3) lv (.inr (.inl (some o)) :: st) μ))) ∧ (∀ (G : px_G) (own : String) (cc : ByteArray) (nL : Nat) (ret : Option FieldType) (d : Nat) (Q : Option px_X → px_Mem → Prop) (K : Nat → List (Option px_X) → List px_X → px_Mem → Prop) (pc : Nat) (lv : List (Option px_X)) (st : List px_X) (μ : px_Mem) (idx o : Nat), (px_step G own cc nL ret d Q K (.instanceof idx) 3 pc lv (.inr (.inl (some o)) :: st) μ) = (px_o (px_cl own idx) (fun ci => (ci = 3 ∨ ci = 8) ∧ (∀ o1, some o = some o1 → px_kd o1 = 3 ∨ px_kd o1 = 8) ∧ K (pc + 3) lv (.inl (if px_kd o = ci then 1 else 0) :: st) μ))) ∧ (∀ (G : px_G) (own : String) (cc : ByteArray) (nL : Nat) (ret : Option FieldType) (d : Nat) (Q : Option px_X → px_Mem → Prop) (K : Nat → List (Option px_X) → List px_X → px_Mem → Prop) (pc : Nat) (lv : List (Option px_X)) (st : List px_X) (μ : px_Mem) (idx : Nat), (px_step G own cc nL ret d Q K (.invokevirtual idx) 3 pc lv (st) μ) = (px_o (px_md own idx) (fun q => q.2.2.2.2.2.2.1 = false ∧ px_call G d st q μ (fun r v μ2 => px_J G own cc nL ret d (pc + 3) lv (v.toList ++ r) μ2 Q)))) ∧ (∀ (G : px_G) (own : String) (cc : ByteArray) (nL : Nat) (ret : Option FieldType) (d : Nat) (Q : Option px_X → px_Mem → Prop) (K : Nat → List (Option px_X) → List px_X → px_Mem → Prop) (pc : Nat) (lv : List (Option px_X)) (st : List px_X) (μ : px_Mem) (x : Int), (px_step G own cc nL ret d Q K (.ireturn) 1 pc lv (.inl x :: st) μ) = ((st = [] ∧ (ret = some .int ∨ (ret = some .boolean ∧ (x = 0 ∨ x = 1))) ∧ Q (some (.inl x)) μ))) ∧ (∀ (G : px_G) (own : String) (cc : ByteArray) (nL : Nat) (ret : Option FieldType) (d : Nat) (Q : Option px_X → px_Mem → Prop) (K : Nat → List (Option px_X) → List px_X → px_Mem → Prop) (pc : Nat) (lv : List (Option px_X)) (st : List px_X) (μ : px_Mem), (px_step G own cc nL ret d Q K (.return_) 1 pc lv (st) μ) = ((st = [] ∧ ret = none ∧ Q none μ))) ∧ (∀ (G : px_G) (own : String) (cc : ByteArray) (nL : Nat) (ret : Option FieldType) (d : Nat) (Q : Option px_X → px_Mem → Prop) (K : Nat → List (Option px_X) → List px_X → px_Mem → Prop) (pc : Nat) (lv : List (Option px_X)) (st : List px_X) (μ : px_Mem) (o : Nat), (px_step G own cc nL ret d Q K (.areturn) 1 pc lv (.inr (.inl (some o)) :: st) μ) = ((st = [] ∧ ret = some (.object "PatchHouse$Writing") ∧ Q (some (.inr (.inl (some o)))) μ))) := by
  refine ⟨?_, ?_, ?_, ?_, ?_, ?_, ?_, ?_, ?_, ?_, ?_, ?_, ?_, ?_, ?_, ?_, ?_, ?_, ?_, ?_, ?_, ?_, ?_, ?_, ?_, ?_, ?_, ?_, ?_, ?_, ?_, ?_, ?_, ?_, ?_, ?_, ?_, ?_, ?_, ?_, ?_, ?_, ?_, ?_, ?_, ?_, ?_, ?_, ?_, ?_, ?_, ?_, ?_, ?_, ?_, ?_, ?_, ?_, ?_, ?_, ?_, ?_, ?_, ?_, ?_, ?_, ?_, ?_, ?_, ?_, ?_, ?_, ?_, ?_, ?_, ?_, ?_⟩ <;> intros <;> rfl
set_option maxRecDepth 100000 in
theorem px_mats : (∀ (z : Int) (f : Int → Prop), (px_wi (some (.inl z)) f) = (f z)) ∧ (∀ (z : Option Nat) (f : Option Nat → Prop), (px_wr (some (.inr (.inl z))) f) = (f z)) ∧ (∀ (n dp sp : Int) (a a0 : Nat) (r : List px_X) (f : Int → Int → Nat → Int → Nat → List px_X → Prop), (px_sac (.inl n :: .inl dp :: .inr (.inl (some a)) :: .inl sp :: .inr (.inl (some a0)) :: r) f) = (f n dp a sp a0 r)) ∧ (∀ (a0 : Option px_X) (r : List (Option px_X)), (px_ld (a0 :: r) 0) = (a0)) ∧ (∀ (a0 : Option px_X) (r : List (Option px_X)) (v : Option px_X), ((a0 :: r).set 0 v) = (v :: r)) ∧ (∀ (a0 a1 : Option px_X) (r : List (Option px_X)), (px_ld (a0 :: a1 :: r) 1) = (a1)) ∧ (∀ (a0 a1 : Option px_X) (r : List (Option px_X)) (v : Option px_X), ((a0 :: a1 :: r).set 1 v) = (a0 :: v :: r)) ∧ (∀ (a0 a1 a2 : Option px_X) (r : List (Option px_X)), (px_ld (a0 :: a1 :: a2 :: r) 2) = (a2)) ∧ (∀ (a0 a1 a2 : Option px_X) (r : List (Option px_X)) (v : Option px_X), ((a0 :: a1 :: a2 :: r).set 2 v) = (a0 :: a1 :: v :: r)) ∧ (∀ (a0 a1 a2 a3 : Option px_X) (r : List (Option px_X)), (px_ld (a0 :: a1 :: a2 :: a3 :: r) 3) = (a3)) ∧ (∀ (a0 a1 a2 a3 : Option px_X) (r : List (Option px_X)) (v : Option px_X), ((a0 :: a1 :: a2 :: a3 :: r).set 3 v) = (a0 :: a1 :: a2 :: v :: r)) ∧ (∀ (a0 a1 a2 a3 a4 : Option px_X) (r : List (Option px_X)), (px_ld (a0 :: a1 :: a2 :: a3 :: a4 :: r) 4) = (a4)) ∧ (∀ (a0 a1 a2 a3 a4 : Option px_X) (r : List (Option px_X)) (v : Option px_X), ((a0 :: a1 :: a2 :: a3 :: a4 :: r).set 4 v) = (a0 :: a1 :: a2 :: a3 :: v :: r)) ∧ (∀ (a0 a1 a2 a3 a4 a5 : Option px_X) (r : List (Option px_X)), (px_ld (a0 :: a1 :: a2 :: a3 :: a4 :: a5 :: r) 5) = (a5)) ∧ (∀ (a0 a1 a2 a3 a4 a5 : Option px_X) (r : List (Option px_X)) (v : Option px_X), ((a0 :: a1 :: a2 :: a3 :: a4 :: a5 :: r).set 5 v) = (a0 :: a1 :: a2 :: a3 :: a4 :: v :: r)) ∧ (∀ (a0 a1 a2 a3 a4 a5 a6 : Option px_X) (r : List (Option px_X)), (px_ld (a0 :: a1 :: a2 :: a3 :: a4 :: a5 :: a6 :: r) 6) = (a6)) ∧ (∀ (a0 a1 a2 a3 a4 a5 a6 : Option px_X) (r : List (Option px_X)) (v : Option px_X), ((a0 :: a1 :: a2 :: a3 :: a4 :: a5 :: a6 :: r).set 6 v) = (a0 :: a1 :: a2 :: a3 :: a4 :: a5 :: v :: r)) ∧ (∀ (a0 a1 a2 a3 a4 a5 a6 a7 : Option px_X) (r : List (Option px_X)), (px_ld (a0 :: a1 :: a2 :: a3 :: a4 :: a5 :: a6 :: a7 :: r) 7) = (a7)) ∧ (∀ (a0 a1 a2 a3 a4 a5 a6 a7 : Option px_X) (r : List (Option px_X)) (v : Option px_X), ((a0 :: a1 :: a2 :: a3 :: a4 :: a5 :: a6 :: a7 :: r).set 7 v) = (a0 :: a1 :: a2 :: a3 :: a4 :: a5 :: a6 :: v :: r)) ∧ (∀ (a0 a1 a2 a3 a4 a5 a6 a7 a8 : Option px_X) (r : List (Option px_X)), (px_ld (a0 :: a1 :: a2 :: a3 :: a4 :: a5 :: a6 :: a7 :: a8 :: r) 8) = (a8)) ∧ (∀ (a0 a1 a2 a3 a4 a5 a6 a7 a8 : Option px_X) (r : List (Option px_X)) (v : Option px_X), ((a0 :: a1 :: a2 :: a3 :: a4 :: a5 :: a6 :: a7 :: a8 :: r).set 8 v) = (a0 :: a1 :: a2 :: a3 :: a4 :: a5 :: a6 :: a7 :: v :: r)) ∧ (∀ (z : Int) (o : Nat) (f : Int → Prop), (px_put 0 (.inl z) o f) = (f z)) ∧ (∀ (z : Int) (o : Nat) (f : Int → Prop), (px_put 1 (.inr (.inr z)) o f) = (f z)) ∧ (∀ (o : Nat) (f : Int → Prop), (px_put 3 (.inr (.inl none)) o f) = (f 0)) ∧ (∀ (o a : Nat) (f : Int → Prop), (px_put 3 (.inr (.inl (some a))) o f) = ((o < a ∧ f ((a : Int) - o)))) ∧ (∀ (x : Int) (f : Int → Prop) (dflt v : Int), (px_tsw x f dflt v []) = (f dflt)) ∧ (∀ (x : Int) (f : Int → Prop) (dflt v o : Int) (os : List Int), (px_tsw x f dflt v (o :: os)) = (((px_eq x v → f o) ∧ (¬ px_eq x v → px_tsw x f dflt (v + 1) os)))) := by
  refine ⟨?_, ?_, ?_, ?_, ?_, ?_, ?_, ?_, ?_, ?_, ?_, ?_, ?_, ?_, ?_, ?_, ?_, ?_, ?_, ?_, ?_, ?_, ?_, ?_, ?_, ?_, ?_⟩ <;> intros <;> rfl
set_option maxRecDepth 100000 in
theorem px_calls : (∀ (G : px_G) (d : Nat) (r : List px_X) (y : MethodName) (cc : ByteArray) (nL : Nat) (ret : Option FieldType) (d2 ci : Nat) (μ : px_Mem) (f : List px_X → Option px_X → px_Mem → Prop), (px_call G d (r) (y, cc, nL, ret, d2, 0, true, ci) μ f) = ((d2 < d ∧ r.length ≤ 4 ∧ px_C G y cc nL ret d2 [] μ (f r)))) ∧ (∀ (G : px_G) (d : Nat) (r : List px_X) (y : MethodName) (cc : ByteArray) (nL : Nat) (ret : Option FieldType) (d2 ci : Nat) (μ : px_Mem) (f : List px_X → Option px_X → px_Mem → Prop) (o : Nat), (px_call G d (.inr (.inl (some o)) :: r) (y, cc, nL, ret, d2, 0, false, ci) μ f) = ((d2 < d ∧ r.length ≤ 4 ∧ px_kd o = ci ∧ px_C G y cc nL ret d2 (.inr (.inl (some o)) :: []) μ (f r)))) ∧ (∀ (G : px_G) (d : Nat) (r : List px_X) (y : MethodName) (cc : ByteArray) (nL : Nat) (ret : Option FieldType) (d2 ci : Nat) (μ : px_Mem) (f : List px_X → Option px_X → px_Mem → Prop) (x0 : px_X), (px_call G d (x0 :: r) (y, cc, nL, ret, d2, 1, true, ci) μ f) = ((d2 < d ∧ r.length ≤ 4 ∧ px_C G y cc nL ret d2 [x0] μ (f r)))) ∧ (∀ (G : px_G) (d : Nat) (r : List px_X) (y : MethodName) (cc : ByteArray) (nL : Nat) (ret : Option FieldType) (d2 ci : Nat) (μ : px_Mem) (f : List px_X → Option px_X → px_Mem → Prop) (x0 : px_X) (o : Nat), (px_call G d (x0 :: .inr (.inl (some o)) :: r) (y, cc, nL, ret, d2, 1, false, ci) μ f) = ((d2 < d ∧ r.length ≤ 4 ∧ px_kd o = ci ∧ px_C G y cc nL ret d2 (.inr (.inl (some o)) :: [x0]) μ (f r)))) ∧ (∀ (G : px_G) (d : Nat) (r : List px_X) (y : MethodName) (cc : ByteArray) (nL : Nat) (ret : Option FieldType) (d2 ci : Nat) (μ : px_Mem) (f : List px_X → Option px_X → px_Mem → Prop) (x0 x1 : px_X), (px_call G d (x1 :: x0 :: r) (y, cc, nL, ret, d2, 2, true, ci) μ f) = ((d2 < d ∧ r.length ≤ 4 ∧ px_C G y cc nL ret d2 [x0, x1] μ (f r)))) ∧ (∀ (G : px_G) (d : Nat) (r : List px_X) (y : MethodName) (cc : ByteArray) (nL : Nat) (ret : Option FieldType) (d2 ci : Nat) (μ : px_Mem) (f : List px_X → Option px_X → px_Mem → Prop) (x0 x1 : px_X) (o : Nat), (px_call G d (x1 :: x0 :: .inr (.inl (some o)) :: r) (y, cc, nL, ret, d2, 2, false, ci) μ f) = ((d2 < d ∧ r.length ≤ 4 ∧ px_kd o = ci ∧ px_C G y cc nL ret d2 (.inr (.inl (some o)) :: [x0, x1]) μ (f r)))) ∧ (∀ (G : px_G) (d : Nat) (r : List px_X) (y : MethodName) (cc : ByteArray) (nL : Nat) (ret : Option FieldType) (d2 ci : Nat) (μ : px_Mem) (f : List px_X → Option px_X → px_Mem → Prop) (x0 x1 x2 : px_X), (px_call G d (x2 :: x1 :: x0 :: r) (y, cc, nL, ret, d2, 3, true, ci) μ f) = ((d2 < d ∧ r.length ≤ 4 ∧ px_C G y cc nL ret d2 [x0, x1, x2] μ (f r)))) ∧ (∀ (G : px_G) (d : Nat) (r : List px_X) (y : MethodName) (cc : ByteArray) (nL : Nat) (ret : Option FieldType) (d2 ci : Nat) (μ : px_Mem) (f : List px_X → Option px_X → px_Mem → Prop) (x0 x1 x2 : px_X) (o : Nat), (px_call G d (x2 :: x1 :: x0 :: .inr (.inl (some o)) :: r) (y, cc, nL, ret, d2, 3, false, ci) μ f) = ((d2 < d ∧ r.length ≤ 4 ∧ px_kd o = ci ∧ px_C G y cc nL ret d2 (.inr (.inl (some o)) :: [x0, x1, x2]) μ (f r)))) ∧ (∀ (G : px_G) (d : Nat) (r : List px_X) (y : MethodName) (cc : ByteArray) (nL : Nat) (ret : Option FieldType) (d2 ci : Nat) (μ : px_Mem) (f : List px_X → Option px_X → px_Mem → Prop) (x0 x1 x2 x3 : px_X), (px_call G d (x3 :: x2 :: x1 :: x0 :: r) (y, cc, nL, ret, d2, 4, true, ci) μ f) = ((d2 < d ∧ r.length ≤ 4 ∧ px_C G y cc nL ret d2 [x0, x1, x2, x3] μ (f r)))) ∧ (∀ (G : px_G) (d : Nat) (r : List px_X) (y : MethodName) (cc : ByteArray) (nL : Nat) (ret : Option FieldType) (d2 ci : Nat) (μ : px_Mem) (f : List px_X → Option px_X → px_Mem → Prop) (x0 x1 x2 x3 : px_X) (o : Nat), (px_call G d (x3 :: x2 :: x1 :: x0 :: .inr (.inl (some o)) :: r) (y, cc, nL, ret, d2, 4, false, ci) μ f) = ((d2 < d ∧ r.length ≤ 4 ∧ px_kd o = ci ∧ px_C G y cc nL ret d2 (.inr (.inl (some o)) :: [x0, x1, x2, x3]) μ (f r)))) ∧ (∀ (G : px_G) (d : Nat) (r : List px_X) (y : MethodName) (cc : ByteArray) (nL : Nat) (ret : Option FieldType) (d2 ci : Nat) (μ : px_Mem) (f : List px_X → Option px_X → px_Mem → Prop) (x0 x1 x2 x3 x4 : px_X), (px_call G d (x4 :: x3 :: x2 :: x1 :: x0 :: r) (y, cc, nL, ret, d2, 5, true, ci) μ f) = ((d2 < d ∧ r.length ≤ 4 ∧ px_C G y cc nL ret d2 [x0, x1, x2, x3, x4] μ (f r)))) ∧ (∀ (G : px_G) (d : Nat) (r : List px_X) (y : MethodName) (cc : ByteArray) (nL : Nat) (ret : Option FieldType) (d2 ci : Nat) (μ : px_Mem) (f : List px_X → Option px_X → px_Mem → Prop) (x0 x1 x2 x3 x4 : px_X) (o : Nat), (px_call G d (x4 :: x3 :: x2 :: x1 :: x0 :: .inr (.inl (some o)) :: r) (y, cc, nL, ret, d2, 5, false, ci) μ f) = ((d2 < d ∧ r.length ≤ 4 ∧ px_kd o = ci ∧ px_C G y cc nL ret d2 (.inr (.inl (some o)) :: [x0, x1, x2, x3, x4]) μ (f r)))) := by
  refine ⟨?_, ?_, ?_, ?_, ?_, ?_, ?_, ?_, ?_, ?_, ?_, ?_⟩ <;> intros <;> simp [px_call, px_sr]
theorem px_run_s (cut : Nat → Bool) (G : px_G) (own : String) (cc : ByteArray) (nL : Nat) (ret : Option FieldType) (d : Nat) (Q : Option px_X → px_Mem → Prop) (n pc : Nat) (lv : List (Option px_X)) (st : List px_X) (μ : px_Mem) : px_run cut G own cc nL ret d Q (n + 1) pc lv st μ = if cut pc = true then px_J G own cc nL ret d pc lv st μ Q else px_dec (decode cc pc) (fun i len => px_step G own cc nL ret d Q (px_run cut G own cc nL ret d Q n) i len pc lv st μ) := by
  show (bif cut pc then _ else _) = _
  cases cut pc <;> rfl
theorem px_run_0 (cut : Nat → Bool) (G : px_G) (own : String) (cc : ByteArray) (nL : Nat) (ret : Option FieldType) (d : Nat) (Q : Option px_X → px_Mem → Prop) (pc : Nat) (lv : List (Option px_X)) (st : List px_X) (μ : px_Mem) : px_run cut G own cc nL ret d Q 0 pc lv st μ = px_J G own cc nL ret d pc lv st μ Q := rfl
theorem px_o_some {α : Type} (a : α) (f : α → Prop) : px_o (some a) f = f a := rfl
theorem px_lits : (px_eq 1 0 = False) ∧ (px_eq 0 1 = False) ∧ (px_eq (-1) 0 = False) ∧ (px_eq 0 (-1) = False) ∧ (px_eq 2 0 = False) ∧ (∀ x, px_eq x x = True) ∧ (∀ x, px_lt x x = False) ∧ (∀ x, px_le x x = True) := by
  refine ⟨?_, ?_, ?_, ?_, ?_, ?_, ?_, ?_⟩
  · exact eq_false (fun h => absurd ((px_eq_iff (by omega)).mp h) (by decide))
  · exact eq_false (fun h => absurd ((px_eq_iff (by omega)).mp h) (by decide))
  · exact eq_false (fun h => absurd ((px_eq_iff (by omega)).mp h) (by decide))
  · exact eq_false (fun h => absurd ((px_eq_iff (by omega)).mp h) (by decide))
  · exact eq_false (fun h => absurd ((px_eq_iff (by omega)).mp h) (by decide))
  · exact fun x => eq_true rfl
  · exact fun x => eq_false (fun h => by have := Int32.lt_iff_toInt_lt.mp h; omega)
  · exact fun x => eq_true (Int32.le_iff_toInt_le.mpr (by omega))
end
section
/-! ===== small methods of the class: what they answer ===== -/
set_option maxHeartbeats 4000000 in
set_option maxRecDepth 100000 in
theorem c_X10_isHouse {G : px_G} {x : Int} {μ : px_Mem} {Q : Option px_X → px_Mem → Prop} (hx : -2147483648 ≤ x ∧ x < 2147483648) (h1 : 0 ≤ x ∧ x < 2 → Q (some (.inl 1)) μ) (h0 : ¬ (0 ≤ x ∧ x < 2) → Q (some (.inl 0)) μ) : px_C G yX10_isHouse cX10_isHouse 1 (some .boolean) 0 [.inl x] μ Q := by
  refine px_enter RX10 (by decide +kernel) rfl (by simp) (by simp [px_c1]) ?_
  simp only [List.map_cons, List.map_nil, List.length_cons, List.length_nil, List.replicate, List.append_nil, Nat.reduceAdd, Nat.reduceSub, List.cons_append, List.nil_append]
  refine px_go (fun _ => false) 400 ?_
  simp only [px_lits, false_implies, true_implies, px_dec_ok, px_run_s, px_rules, px_rule_is, px_mats, px_calls, ↓reduceIte, eq_self, Bool.false_eq_true, px_flds, px_o_some, px_fvs, px_pfs, px_cts, px_cls, px_acs_, px_acn, true_and, and_true, true_or, or_true, false_or, or_false, and_self, not_true_eq_false, not_false_eq_true, Classical.not_not, Nat.reduceAdd, Nat.reduceSub, Nat.reduceBEq, Nat.reduceLT, Nat.reduceLeDiff, Nat.lt_add_one, px_tg, Int.cast_ofNat_Int, Int.reduceAdd, Int.reduceSub, Int.reduceMul, Int.reduceToNat, Int.reduceLE, Int.reduceLT, Int.reduceNeg, Int.reduceEq, Bool.or_false, Bool.false_or, Bool.or_true, Bool.true_or, List.length_cons, List.length_nil, List.nil_append, List.cons_append, Option.toList_some, Option.toList_none, reduceCtorEq, Option.some.injEq, Nat.zero_le, Nat.reduceMul, Nat.mul_zero, Nat.add_zero, Int.reduceDiv, Int.reduceMod, Int.toNat_natCast, Nat.lt_irrefl, Int.natCast_add, Int.cast_ofNat_Int, px_mds_RX10_0, px_mds_RX10_1, dec_X10_isHouse]
  simp (disch := omega) only [px_lt_iff, px_le_iff]
  exact ⟨fun _ => h0 (by omega), fun _ => ⟨fun _ => h0 (by omega), fun _ => h1 (by omega)⟩⟩
set_option maxHeartbeats 4000000 in
set_option maxRecDepth 100000 in
theorem c_X10_isShelf {G : px_G} {x : Int} {μ : px_Mem} {Q : Option px_X → px_Mem → Prop} (hx : -2147483648 ≤ x ∧ x < 2147483648) (h1 : 0 ≤ x ∧ x < 4 → Q (some (.inl 1)) μ) (h0 : ¬ (0 ≤ x ∧ x < 4) → Q (some (.inl 0)) μ) : px_C G yX10_isShelf cX10_isShelf 1 (some .boolean) 0 [.inl x] μ Q := by
  refine px_enter RX10 (by decide +kernel) rfl (by simp) (by simp [px_c1]) ?_
  simp only [List.map_cons, List.map_nil, List.length_cons, List.length_nil, List.replicate, List.append_nil, Nat.reduceAdd, Nat.reduceSub, List.cons_append, List.nil_append]
  refine px_go (fun _ => false) 400 ?_
  simp only [px_lits, false_implies, true_implies, px_dec_ok, px_run_s, px_rules, px_rule_is, px_mats, px_calls, ↓reduceIte, eq_self, Bool.false_eq_true, px_flds, px_o_some, px_fvs, px_pfs, px_cts, px_cls, px_acs_, px_acn, true_and, and_true, true_or, or_true, false_or, or_false, and_self, not_true_eq_false, not_false_eq_true, Classical.not_not, Nat.reduceAdd, Nat.reduceSub, Nat.reduceBEq, Nat.reduceLT, Nat.reduceLeDiff, Nat.lt_add_one, px_tg, Int.cast_ofNat_Int, Int.reduceAdd, Int.reduceSub, Int.reduceMul, Int.reduceToNat, Int.reduceLE, Int.reduceLT, Int.reduceNeg, Int.reduceEq, Bool.or_false, Bool.false_or, Bool.or_true, Bool.true_or, List.length_cons, List.length_nil, List.nil_append, List.cons_append, Option.toList_some, Option.toList_none, reduceCtorEq, Option.some.injEq, Nat.zero_le, Nat.reduceMul, Nat.mul_zero, Nat.add_zero, Int.reduceDiv, Int.reduceMod, Int.toNat_natCast, Nat.lt_irrefl, Int.natCast_add, Int.cast_ofNat_Int, px_mds_RX10_0, px_mds_RX10_1, dec_X10_isShelf]
  simp (disch := omega) only [px_lt_iff, px_le_iff]
  exact ⟨fun _ => h0 (by omega), fun _ => ⟨fun _ => h0 (by omega), fun _ => h1 (by omega)⟩⟩
set_option maxHeartbeats 4000000 in
set_option maxRecDepth 100000 in
theorem c_X10_isImage {G : px_G} {x : Int} {μ : px_Mem} {Q : Option px_X → px_Mem → Prop} (hx : -2147483648 ≤ x ∧ x < 2147483648) (h1 : 0 ≤ x ∧ x < 2 → Q (some (.inl 1)) μ) (h0 : ¬ (0 ≤ x ∧ x < 2) → Q (some (.inl 0)) μ) : px_C G yX10_isImage cX10_isImage 1 (some .boolean) 0 [.inl x] μ Q := by
  refine px_enter RX10 (by decide +kernel) rfl (by simp) (by simp [px_c1]) ?_
  simp only [List.map_cons, List.map_nil, List.length_cons, List.length_nil, List.replicate, List.append_nil, Nat.reduceAdd, Nat.reduceSub, List.cons_append, List.nil_append]
  refine px_go (fun _ => false) 400 ?_
  simp only [px_lits, false_implies, true_implies, px_dec_ok, px_run_s, px_rules, px_rule_is, px_mats, px_calls, ↓reduceIte, eq_self, Bool.false_eq_true, px_flds, px_o_some, px_fvs, px_pfs, px_cts, px_cls, px_acs_, px_acn, true_and, and_true, true_or, or_true, false_or, or_false, and_self, not_true_eq_false, not_false_eq_true, Classical.not_not, Nat.reduceAdd, Nat.reduceSub, Nat.reduceBEq, Nat.reduceLT, Nat.reduceLeDiff, Nat.lt_add_one, px_tg, Int.cast_ofNat_Int, Int.reduceAdd, Int.reduceSub, Int.reduceMul, Int.reduceToNat, Int.reduceLE, Int.reduceLT, Int.reduceNeg, Int.reduceEq, Bool.or_false, Bool.false_or, Bool.or_true, Bool.true_or, List.length_cons, List.length_nil, List.nil_append, List.cons_append, Option.toList_some, Option.toList_none, reduceCtorEq, Option.some.injEq, Nat.zero_le, Nat.reduceMul, Nat.mul_zero, Nat.add_zero, Int.reduceDiv, Int.reduceMod, Int.toNat_natCast, Nat.lt_irrefl, Int.natCast_add, Int.cast_ofNat_Int, px_mds_RX10_0, px_mds_RX10_1, dec_X10_isImage]
  simp (disch := omega) only [px_lt_iff, px_le_iff]
  exact ⟨fun _ => h0 (by omega), fun _ => ⟨fun _ => h0 (by omega), fun _ => h1 (by omega)⟩⟩
set_option maxHeartbeats 4000000 in
set_option maxRecDepth 100000 in
theorem c_X10_isSort {G : px_G} {x : Int} {μ : px_Mem} {Q : Option px_X → px_Mem → Prop} (hx : -2147483648 ≤ x ∧ x < 2147483648) (h1 : x = 0 ∨ x = 1 → Q (some (.inl 1)) μ) (h0 : ¬ (x = 0 ∨ x = 1) → Q (some (.inl 0)) μ) : px_C G yX10_isSort cX10_isSort 1 (some .boolean) 0 [.inl x] μ Q := by
  refine px_enter RX10 (by decide +kernel) rfl (by simp) (by simp [px_c1]) ?_
  simp only [List.map_cons, List.map_nil, List.length_cons, List.length_nil, List.replicate, List.append_nil, Nat.reduceAdd, Nat.reduceSub, List.cons_append, List.nil_append]
  refine px_go (fun _ => false) 400 ?_
  simp only [px_lits, false_implies, true_implies, px_dec_ok, px_run_s, px_rules, px_rule_is, px_mats, px_calls, ↓reduceIte, eq_self, Bool.false_eq_true, px_flds, px_o_some, px_fvs, px_pfs, px_cts, px_cls, px_acs_, px_acn, true_and, and_true, true_or, or_true, false_or, or_false, and_self, not_true_eq_false, not_false_eq_true, Classical.not_not, Nat.reduceAdd, Nat.reduceSub, Nat.reduceBEq, Nat.reduceLT, Nat.reduceLeDiff, Nat.lt_add_one, px_tg, Int.cast_ofNat_Int, Int.reduceAdd, Int.reduceSub, Int.reduceMul, Int.reduceToNat, Int.reduceLE, Int.reduceLT, Int.reduceNeg, Int.reduceEq, Bool.or_false, Bool.false_or, Bool.or_true, Bool.true_or, List.length_cons, List.length_nil, List.nil_append, List.cons_append, Option.toList_some, Option.toList_none, reduceCtorEq, Option.some.injEq, Nat.zero_le, Nat.reduceMul, Nat.mul_zero, Nat.add_zero, Int.reduceDiv, Int.reduceMod, Int.toNat_natCast, Nat.lt_irrefl, Int.natCast_add, Int.cast_ofNat_Int, px_mds_RX10_0, px_mds_RX10_1, dec_X10_isSort]
  simp (disch := omega) only [px_eq_iff]
  exact ⟨fun _ => h1 (by omega), fun _ => ⟨fun _ => h0 (by omega), fun _ => h1 (by omega)⟩⟩
set_option maxHeartbeats 4000000 in
set_option maxRecDepth 100000 in
theorem c_X10_isLetter {G : px_G} {x : Int} {μ : px_Mem} {Q : Option px_X → px_Mem → Prop} (hx : -2147483648 ≤ x ∧ x < 2147483648) (h1 : 97 ≤ x ∧ x ≤ 122 → Q (some (.inl 1)) μ) (h0 : ¬ (97 ≤ x ∧ x ≤ 122) → Q (some (.inl 0)) μ) : px_C G yX10_isLetter cX10_isLetter 1 (some .boolean) 0 [.inl x] μ Q := by
  refine px_enter RX10 (by decide +kernel) rfl (by simp) (by simp [px_c1]) ?_
  simp only [List.map_cons, List.map_nil, List.length_cons, List.length_nil, List.replicate, List.append_nil, Nat.reduceAdd, Nat.reduceSub, List.cons_append, List.nil_append]
  refine px_go (fun _ => false) 400 ?_
  simp only [px_lits, false_implies, true_implies, px_dec_ok, px_run_s, px_rules, px_rule_is, px_mats, px_calls, ↓reduceIte, eq_self, Bool.false_eq_true, px_flds, px_o_some, px_fvs, px_pfs, px_cts, px_cls, px_acs_, px_acn, true_and, and_true, true_or, or_true, false_or, or_false, and_self, not_true_eq_false, not_false_eq_true, Classical.not_not, Nat.reduceAdd, Nat.reduceSub, Nat.reduceBEq, Nat.reduceLT, Nat.reduceLeDiff, Nat.lt_add_one, px_tg, Int.cast_ofNat_Int, Int.reduceAdd, Int.reduceSub, Int.reduceMul, Int.reduceToNat, Int.reduceLE, Int.reduceLT, Int.reduceNeg, Int.reduceEq, Bool.or_false, Bool.false_or, Bool.or_true, Bool.true_or, List.length_cons, List.length_nil, List.nil_append, List.cons_append, Option.toList_some, Option.toList_none, reduceCtorEq, Option.some.injEq, Nat.zero_le, Nat.reduceMul, Nat.mul_zero, Nat.add_zero, Int.reduceDiv, Int.reduceMod, Int.toNat_natCast, Nat.lt_irrefl, Int.natCast_add, Int.cast_ofNat_Int, px_mds_RX10_0, px_mds_RX10_1, dec_X10_isLetter]
  simp (disch := omega) only [px_lt_iff, px_le_iff]
  exact ⟨fun _ => h0 (by omega), fun _ => ⟨fun _ => h0 (by omega), fun _ => h1 (by omega)⟩⟩
set_option maxHeartbeats 4000000 in
set_option maxRecDepth 100000 in
theorem c_X10_opposite {G : px_G} {x : Int} {μ : px_Mem} {Q : Option px_X → px_Mem → Prop} (hx : x = 0 ∨ x = 1) (h : Q (some (.inl (1 - x))) μ) : px_C G yX10_opposite cX10_opposite 1 (some .int) 0 [.inl x] μ Q := by
  refine px_enter RX10 (by decide +kernel) rfl (by simp) (by simp [px_c1]) ?_
  simp only [List.map_cons, List.map_nil, List.length_cons, List.length_nil, List.replicate, List.append_nil, Nat.reduceAdd, Nat.reduceSub, List.cons_append, List.nil_append]
  refine px_go (fun _ => false) 400 ?_
  simp only [px_lits, false_implies, true_implies, px_dec_ok, px_run_s, px_rules, px_rule_is, px_mats, px_calls, ↓reduceIte, eq_self, Bool.false_eq_true, px_flds, px_o_some, px_fvs, px_pfs, px_cts, px_cls, px_acs_, px_acn, true_and, and_true, true_or, or_true, false_or, or_false, and_self, not_true_eq_false, not_false_eq_true, Classical.not_not, Nat.reduceAdd, Nat.reduceSub, Nat.reduceBEq, Nat.reduceLT, Nat.reduceLeDiff, Nat.lt_add_one, px_tg, Int.cast_ofNat_Int, Int.reduceAdd, Int.reduceSub, Int.reduceMul, Int.reduceToNat, Int.reduceLE, Int.reduceLT, Int.reduceNeg, Int.reduceEq, Bool.or_false, Bool.false_or, Bool.or_true, Bool.true_or, List.length_cons, List.length_nil, List.nil_append, List.cons_append, Option.toList_some, Option.toList_none, reduceCtorEq, Option.some.injEq, Nat.zero_le, Nat.reduceMul, Nat.mul_zero, Nat.add_zero, Int.reduceDiv, Int.reduceMod, Int.toNat_natCast, Nat.lt_irrefl, Int.natCast_add, Int.cast_ofNat_Int, px_mds_RX10_0, px_mds_RX10_1, dec_X10_opposite]
  simp (disch := omega) only [px_eq_iff]
  rcases hx with rfl | rfl
  · exact ⟨fun q => absurd rfl q, fun _ => h⟩
  · exact ⟨fun _ => h, fun q => absurd q (by decide)⟩
/-- TURNED ROUND: the place of the second one ahead, of the first one behind -/
def pc_tr (s i o j : Int) : Option (Int × Int) :=
  if s = 0 then (if o = 0 then (if j ≤ i then some (j, i + 1) else some (j - 1, i)) else (if j < i - 1 then some (j, i - 1) else if j > i + 1 then some (j - 1, i) else none))
  else (if o = 0 then (if j < i then some (j, i + 1) else if j > i then some (j + 1, i) else none) else (if j < i then some (j, i - 1) else some (j + 1, i)))
def pc_trz (s i o j : Int) : Int := match pc_tr s i o j with
  | none => -1
  | some q => 100 * q.1 + q.2
theorem pc_trz_z {s i o j z : Int} (h : pc_trz s i o j = z) {Q : Int → Prop} (hq : Q (pc_trz s i o j)) : Q z := h ▸ hq
set_option maxHeartbeats 4000000 in
set_option maxRecDepth 100000 in
theorem c_X10_turned {G : px_G} {s i o j : Int} {μ : px_Mem} {Q : Option px_X → px_Mem → Prop} (hs : s = 0 ∨ s = 1) (ho : o = 0 ∨ o = 1) (hi : 0 ≤ i ∧ i ≤ 1000) (hj : 0 ≤ j ∧ j ≤ 1000) (h : Q (some (.inl (pc_trz s i o j))) μ) : px_C G yX10_turned cX10_turned 4 (some .int) 0 [.inl s, .inl i, .inl o, .inl j] μ Q := by
  refine px_enter RX10 (by decide +kernel) rfl (by simp) (by simp [px_c1]) ?_
  simp only [List.map_cons, List.map_nil, List.length_cons, List.length_nil, List.replicate, List.append_nil, Nat.reduceAdd, Nat.reduceSub, List.cons_append, List.nil_append]
  refine px_go (fun _ => false) 400 ?_
  simp only [px_lits, false_implies, true_implies, px_dec_ok, px_run_s, px_rules, px_rule_is, px_mats, px_calls, ↓reduceIte, eq_self, Bool.false_eq_true, px_flds, px_o_some, px_fvs, px_pfs, px_cts, px_cls, px_acs_, px_acn, true_and, and_true, true_or, or_true, false_or, or_false, and_self, not_true_eq_false, not_false_eq_true, Classical.not_not, Nat.reduceAdd, Nat.reduceSub, Nat.reduceBEq, Nat.reduceLT, Nat.reduceLeDiff, Nat.lt_add_one, px_tg, Int.cast_ofNat_Int, Int.reduceAdd, Int.reduceSub, Int.reduceMul, Int.reduceToNat, Int.reduceLE, Int.reduceLT, Int.reduceNeg, Int.reduceEq, Bool.or_false, Bool.false_or, Bool.or_true, Bool.true_or, List.length_cons, List.length_nil, List.nil_append, List.cons_append, Option.toList_some, Option.toList_none, reduceCtorEq, Option.some.injEq, Nat.zero_le, Nat.reduceMul, Nat.mul_zero, Nat.add_zero, Int.reduceDiv, Int.reduceMod, Int.toNat_natCast, Nat.lt_irrefl, Int.natCast_add, Int.cast_ofNat_Int, px_mds_RX10_0, px_mds_RX10_1, dec_X10_turned]
  simp (disch := omega) only [px_lt_iff, px_le_iff, px_eq_iff]
  have key : ∀ z, pc_trz s i o j = z → Q (some (.inl z)) μ := fun z e => e ▸ h
  clear h
  rcases hs with rfl | rfl <;> rcases ho with rfl | rfl
  all_goals
    repeat' first | apply And.intro | intro _
    all_goals first | (exfalso; omega) | (apply key; unfold pc_trz pc_tr; simp (disch := omega) only [if_pos, if_neg, if_true, if_false, ite_true, ite_false]; done) | (apply key; unfold pc_trz pc_tr; simp (disch := omega) only [if_pos, if_neg, if_true, if_false, ite_true, ite_false]; omega)
end
section
/-! ===== a history of the class: four rows of sixteen, and how many ===== -/
theorem pc_hk {h : Nat} (hh : px_kd h = 0) : (px_kd (h + 1) = 20 ∧ px_kd (h + 2) = 20 ∧ px_kd (h + 3) = 20 ∧ px_kd (h + 4) = 20) ∧ (px_ln (h + 1) = 16 ∧ px_ln (h + 2) = 16 ∧ px_ln (h + 3) = 16 ∧ px_ln (h + 4) = 16) := by
  have h1 : h < 221 := px_kd_lt (by omega)
  have key : ∀ k : Fin 221, px_kd k = 0 → (px_kd (k + 1) = 20 ∧ px_kd (k + 2) = 20 ∧ px_kd (k + 3) = 20 ∧ px_kd (k + 4) = 20) ∧ (px_ln (k + 1) = 16 ∧ px_ln (k + 2) = 16 ∧ px_ln (k + 3) = 16 ∧ px_ln (k + 4) = 16) := by decide +kernel
  exact key ⟨h, h1⟩ hh
set_option maxHeartbeats 4000000 in
set_option maxRecDepth 100000 in
theorem c_X0_hasPlace {G : px_G} {h : Nat} {x : Int} {μ : px_Mem} {Q : Option px_X → px_Mem → Prop} (hh : px_kd h = 0) (hn : 0 ≤ μ h 4 ∧ μ h 4 ≤ 16) (hx : -2147483648 ≤ x ∧ x < 2147483648) (h1 : 0 ≤ x ∧ x < μ h 4 → Q (some (.inl 1)) μ) (h0 : ¬ (0 ≤ x ∧ x < μ h 4) → Q (some (.inl 0)) μ) : px_C G yX0_hasPlace cX0_hasPlace 2 (some .boolean) 0 [.inr (.inl (some h)), .inl x] μ Q := by
  refine px_enter RX0 (by decide +kernel) rfl (by simp) (by simp [px_c1]) ?_
  simp only [List.map_cons, List.map_nil, List.length_cons, List.length_nil, List.replicate, List.append_nil, Nat.reduceAdd, Nat.reduceSub, List.cons_append, List.nil_append]
  refine px_go (fun _ => false) 400 ?_
  simp only [px_lits, false_implies, true_implies, px_dec_ok, px_run_s, px_rules, px_rule_is, px_mats, px_calls, ↓reduceIte, eq_self, Bool.false_eq_true, px_flds, px_o_some, px_fvs, px_pfs, px_cts, px_cls, px_acs_, px_acn, true_and, and_true, true_or, or_true, false_or, or_false, and_self, not_true_eq_false, not_false_eq_true, Classical.not_not, Nat.reduceAdd, Nat.reduceSub, Nat.reduceBEq, Nat.reduceLT, Nat.reduceLeDiff, Nat.lt_add_one, px_tg, Int.cast_ofNat_Int, Int.reduceAdd, Int.reduceSub, Int.reduceMul, Int.reduceToNat, Int.reduceLE, Int.reduceLT, Int.reduceNeg, Int.reduceEq, Bool.or_false, Bool.false_or, Bool.or_true, Bool.true_or, List.length_cons, List.length_nil, List.nil_append, List.cons_append, Option.toList_some, Option.toList_none, reduceCtorEq, Option.some.injEq, Nat.zero_le, Nat.reduceMul, Nat.mul_zero, Nat.add_zero, Int.reduceDiv, Int.reduceMod, Int.toNat_natCast, Nat.lt_irrefl, Int.natCast_add, Int.cast_ofNat_Int, px_mds_RX0_0, dec_X0_hasPlace, hh]
  simp (disch := omega) only [px_lt_iff, px_le_iff]
  exact ⟨fun _ => h0 (by omega), fun _ => ⟨fun _ => h0 (by omega), fun _ => h1 (by omega)⟩⟩
set_option maxHeartbeats 4000000 in
set_option maxRecDepth 100000 in
theorem c_X0_hasPair {G : px_G} {h : Nat} {x : Int} {μ : px_Mem} {Q : Option px_X → px_Mem → Prop} (hh : px_kd h = 0) (hn : 0 ≤ μ h 4 ∧ μ h 4 ≤ 16) (hx : -2147483648 ≤ x ∧ x < 2147483648) (h1 : 0 ≤ x ∧ x < μ h 4 - 1 → Q (some (.inl 1)) μ) (h0 : ¬ (0 ≤ x ∧ x < μ h 4 - 1) → Q (some (.inl 0)) μ) : px_C G yX0_hasPair cX0_hasPair 2 (some .boolean) 0 [.inr (.inl (some h)), .inl x] μ Q := by
  refine px_enter RX0 (by decide +kernel) rfl (by simp) (by simp [px_c1]) ?_
  simp only [List.map_cons, List.map_nil, List.length_cons, List.length_nil, List.replicate, List.append_nil, Nat.reduceAdd, Nat.reduceSub, List.cons_append, List.nil_append]
  refine px_go (fun _ => false) 400 ?_
  simp only [px_lits, false_implies, true_implies, px_dec_ok, px_run_s, px_rules, px_rule_is, px_mats, px_calls, ↓reduceIte, eq_self, Bool.false_eq_true, px_flds, px_o_some, px_fvs, px_pfs, px_cts, px_cls, px_acs_, px_acn, true_and, and_true, true_or, or_true, false_or, or_false, and_self, not_true_eq_false, not_false_eq_true, Classical.not_not, Nat.reduceAdd, Nat.reduceSub, Nat.reduceBEq, Nat.reduceLT, Nat.reduceLeDiff, Nat.lt_add_one, px_tg, Int.cast_ofNat_Int, Int.reduceAdd, Int.reduceSub, Int.reduceMul, Int.reduceToNat, Int.reduceLE, Int.reduceLT, Int.reduceNeg, Int.reduceEq, Bool.or_false, Bool.false_or, Bool.or_true, Bool.true_or, List.length_cons, List.length_nil, List.nil_append, List.cons_append, Option.toList_some, Option.toList_none, reduceCtorEq, Option.some.injEq, Nat.zero_le, Nat.reduceMul, Nat.mul_zero, Nat.add_zero, Int.reduceDiv, Int.reduceMod, Int.toNat_natCast, Nat.lt_irrefl, Int.natCast_add, Int.cast_ofNat_Int, px_mds_RX0_0, dec_X0_hasPair, hh]
  simp (disch := omega) only [px_lt_iff, px_le_iff]
  exact ⟨fun _ => h0 (by omega), fun _ => ⟨fun _ => h0 (by omega), fun _ => h1 (by omega)⟩⟩
set_option maxHeartbeats 4000000 in
set_option maxRecDepth 100000 in
theorem c_X0_find {G : px_G} {h : Nat} {x : Int} {μ : px_Mem} {Q : Option px_X → px_Mem → Prop} (hh : px_kd h = 0) (hn : 0 ≤ μ h 4 ∧ μ h 4 ≤ 16) (hx : -2147483648 ≤ x ∧ x < 2147483648) (hr : ∀ i, 0 ≤ i → i < μ h 4 → 0 ≤ μ (h + 1) i ∧ μ (h + 1) i < 24)
    (hq : ∀ z, (z = -1 ∧ (∀ j, 0 ≤ j → j < μ h 4 → μ (h + 1) j ≠ x)) ∨ (0 ≤ z ∧ z < μ h 4 ∧ μ (h + 1) z = x ∧ ∀ j, 0 ≤ j → j < z → μ (h + 1) j ≠ x) → Q (some (.inl z)) μ) : px_C G yX0_find cX0_find 3 (some .int) 0 [.inr (.inl (some h)), .inl x] μ Q := by
  obtain ⟨hk, hl⟩ := pc_hk hh
  have loop : ∀ (n : Nat) (i : Int), 0 ≤ i → i + n = μ h 4 → (∀ j, 0 ≤ j → j < i → μ (h + 1) j ≠ x) → px_J G RX0 cX0_find 3 (some .int) 0 2 [some (.inr (.inl (some h))), some (.inl x), some (.inl i)] [] μ Q := by
    intro n
    induction n with
    | zero =>
      intro i h0 hi hj
      refine px_go (fun p => p == 2) 400 ?_
      simp only [px_lits, false_implies, true_implies, px_dec_ok, px_run_s, px_rules, px_rule_is, px_mats, px_calls, ↓reduceIte, eq_self, Bool.false_eq_true, px_flds, px_o_some, px_fvs, px_pfs, px_cts, px_cls, px_acs_, px_acn, true_and, and_true, true_or, or_true, false_or, or_false, and_self, not_true_eq_false, not_false_eq_true, Classical.not_not, Nat.reduceAdd, Nat.reduceSub, Nat.reduceBEq, Nat.reduceLT, Nat.reduceLeDiff, Nat.lt_add_one, px_tg, Int.cast_ofNat_Int, Int.reduceAdd, Int.reduceSub, Int.reduceMul, Int.reduceToNat, Int.reduceLE, Int.reduceLT, Int.reduceNeg, Int.reduceEq, Bool.or_false, Bool.false_or, Bool.or_true, Bool.true_or, List.length_cons, List.length_nil, List.nil_append, List.cons_append, Option.toList_some, Option.toList_none, reduceCtorEq, Option.some.injEq, Nat.zero_le, Nat.reduceMul, Nat.mul_zero, Nat.add_zero, Int.reduceDiv, Int.reduceMod, Int.toNat_natCast, Nat.lt_irrefl, Int.natCast_add, Int.cast_ofNat_Int, px_mds_RX0_0, dec_X0_find, hh, hk.1, hl.1]
      simp (disch := omega) only [px_lt_iff, px_le_iff]
      refine ⟨fun _ => hq _ (Or.inl ⟨rfl, fun j a b => hj j a (by omega)⟩), fun q => absurd (by omega) q⟩
    | succ n ih =>
      intro i h0 hi hj
      refine px_go (fun p => p == 2) 400 ?_
      simp only [px_lits, false_implies, true_implies, px_dec_ok, px_run_s, px_rules, px_rule_is, px_mats, px_calls, ↓reduceIte, eq_self, Bool.false_eq_true, px_flds, px_o_some, px_fvs, px_pfs, px_cts, px_cls, px_acs_, px_acn, true_and, and_true, true_or, or_true, false_or, or_false, and_self, not_true_eq_false, not_false_eq_true, Classical.not_not, Nat.reduceAdd, Nat.reduceSub, Nat.reduceBEq, Nat.reduceLT, Nat.reduceLeDiff, Nat.lt_add_one, px_tg, Int.cast_ofNat_Int, Int.reduceAdd, Int.reduceSub, Int.reduceMul, Int.reduceToNat, Int.reduceLE, Int.reduceLT, Int.reduceNeg, Int.reduceEq, Bool.or_false, Bool.false_or, Bool.or_true, Bool.true_or, List.length_cons, List.length_nil, List.nil_append, List.cons_append, Option.toList_some, Option.toList_none, reduceCtorEq, Option.some.injEq, Nat.zero_le, Nat.reduceMul, Nat.mul_zero, Nat.add_zero, Int.reduceDiv, Int.reduceMod, Int.toNat_natCast, Nat.lt_irrefl, Int.natCast_add, Int.cast_ofNat_Int, px_mds_RX0_0, dec_X0_find, hh, hk.1, hl.1]
      have := hr i h0 (by omega)
      simp (disch := omega) only [px_lt_iff, px_le_iff, px_eq_iff]
      refine ⟨fun q => absurd q (by omega), fun _ => ⟨by omega, fun q => ?_, fun q => hq _ (Or.inr ⟨h0, by omega, q, hj⟩)⟩⟩
      refine ih (i + 1) (by omega) (by omega) (fun j a b => ?_)
      by_cases e : j = i
      · rw [e]; exact q
      · exact hj j a (by omega)
  refine px_enter RX0 (by decide +kernel) rfl (by simp) (by simp [px_c1]) ?_
  simp only [List.map_cons, List.map_nil, List.length_cons, List.length_nil, List.replicate, List.append_nil, Nat.reduceAdd, Nat.reduceSub, List.cons_append, List.nil_append]
  refine px_go (fun p => p == 2) 400 ?_
  simp only [px_lits, false_implies, true_implies, px_dec_ok, px_run_s, px_rules, px_rule_is, px_mats, px_calls, ↓reduceIte, eq_self, Bool.false_eq_true, px_flds, px_o_some, px_fvs, px_pfs, px_cts, px_cls, px_acs_, px_acn, true_and, and_true, true_or, or_true, false_or, or_false, and_self, not_true_eq_false, not_false_eq_true, Classical.not_not, Nat.reduceAdd, Nat.reduceSub, Nat.reduceBEq, Nat.reduceLT, Nat.reduceLeDiff, Nat.lt_add_one, px_tg, Int.cast_ofNat_Int, Int.reduceAdd, Int.reduceSub, Int.reduceMul, Int.reduceToNat, Int.reduceLE, Int.reduceLT, Int.reduceNeg, Int.reduceEq, Bool.or_false, Bool.false_or, Bool.or_true, Bool.true_or, List.length_cons, List.length_nil, List.nil_append, List.cons_append, Option.toList_some, Option.toList_none, reduceCtorEq, Option.some.injEq, Nat.zero_le, Nat.reduceMul, Nat.mul_zero, Nat.add_zero, Int.reduceDiv, Int.reduceMod, Int.toNat_natCast, Nat.lt_irrefl, Int.natCast_add, Int.cast_ofNat_Int, px_mds_RX0_0, dec_X0_find, hh]
  exact loop (μ h 4).toNat 0 (by omega) (by omega) (fun j a b => by omega)
end
section
/-! ===== changes, texts, histories: what they are, and what turning round keeps ===== -/
abbrev pc_Ch : Type := Int × Int × Int × Int
def pc_sw2 (a b : pc_Ch) : Option (pc_Ch × pc_Ch) := (pc_tr a.2.1 a.2.2.1 b.2.1 b.2.2.1).map (fun q => ((b.1, b.2.1, q.1, b.2.2.2), (a.1, a.2.1, q.2, a.2.2.2)))
def pc_sw (L : List pc_Ch) (i : Nat) : Option (List pc_Ch) := match L[i]?, L[i + 1]? with
  | some a, some b => (pc_sw2 a b).map (fun q => (L.set i q.1).set (i + 1) q.2)
  | _, _ => none
def pc_do (T : List Int) (c : pc_Ch) : Option (List Int) :=
  if c.2.1 = 0 then (if 0 ≤ c.2.2.1 ∧ c.2.2.1 ≤ T.length then some (T.insertIdx c.2.2.1.toNat c.2.2.2) else none)
  else (if 0 ≤ c.2.2.1 ∧ T[c.2.2.1.toNat]? = some c.2.2.2 then some (T.eraseIdx c.2.2.1.toNat) else none)
def pc_dos : List Int → List pc_Ch → Option (List Int)
  | T, [] => some T
  | T, c :: r => (pc_do T c).bind (fun T1 => pc_dos T1 r)
def pc_el (c : pc_Ch) : Prop := (0 ≤ c.1 ∧ c.1 < 24) ∧ (c.2.1 = 0 ∨ c.2.1 = 1) ∧ (97 ≤ c.2.2.2 ∧ c.2.2.2 ≤ 122)
def pc_V (X : List pc_Ch) : Prop := ∃ T T1 : List Int, T.length + X.length ≤ 28 ∧ pc_dos T X = some T1 ∧ ∀ c ∈ X, pc_el c
theorem pc_dos_app (T : List Int) (P R : List pc_Ch) : pc_dos T (P ++ R) = (pc_dos T P).bind (fun T1 => pc_dos T1 R) := by
  induction P generalizing T with
  | nil => rfl
  | cons c P ih =>
    show (pc_do T c).bind _ = ((pc_do T c).bind _).bind _
    cases pc_do T c with
    | none => rfl
    | some T1 => exact ih T1
theorem pc_do_len {T T1 : List Int} {c : pc_Ch} (h : pc_do T c = some T1) : T1.length ≤ T.length + 1 ∧ 0 ≤ c.2.2.1 ∧ c.2.2.1 ≤ T.length := by
  unfold pc_do at h
  split at h
  · split at h
    · rename_i h1
      cases h
      refine ⟨?_, h1⟩
      rw [List.length_insertIdx]
      split <;> omega
    · cases h
  · split at h
    · rename_i h1
      cases h
      have h2 := (List.getElem?_eq_some_iff.mp h1.2).1
      refine ⟨?_, h1.1, by omega⟩
      have := List.length_eraseIdx_le T c.2.2.1.toNat
      omega
    · cases h
theorem pc_dos_len {T T1 : List Int} {L : List pc_Ch} (h : pc_dos T L = some T1) : T1.length ≤ T.length + L.length := by
  induction L generalizing T with
  | nil => cases h; simp
  | cons c r ih =>
    unfold pc_dos at h
    cases h1 : pc_do T c with
    | none => rw [h1] at h; cases h
    | some T2 =>
      rw [h1] at h
      have h2 := ih h
      have h3 := (pc_do_len h1).1
      simp only [List.length_cons]
      omega
theorem pc_dos_place {T T1 : List Int} {L : List pc_Ch} (h : pc_dos T L = some T1) : ∀ c ∈ L, 0 ≤ c.2.2.1 ∧ c.2.2.1 + 1 ≤ T.length + L.length := by
  induction L generalizing T with
  | nil => intro c hc; cases hc
  | cons a r ih =>
    unfold pc_dos at h
    cases h1 : pc_do T a with
    | none => rw [h1] at h; cases h
    | some T2 =>
      rw [h1] at h
      have h3 := pc_do_len h1
      intro c hc
      simp only [List.length_cons]
      rcases List.mem_cons.mp hc with rfl | hc
      · omega
      · have := ih h c hc
        omega
theorem pc_V.place {X : List pc_Ch} (h : pc_V X) {c : pc_Ch} (hc : c ∈ X) : 0 ≤ c.2.2.1 ∧ c.2.2.1 ≤ 27 := by
  obtain ⟨T, T1, h1, h2, -⟩ := h
  have := pc_dos_place h2 c hc
  omega
theorem pc_V.el {X : List pc_Ch} (h : pc_V X) {c : pc_Ch} (hc : c ∈ X) : pc_el c := by
  obtain ⟨T, T1, h1, h2, h3⟩ := h
  exact h3 c hc
theorem pc_V.mid {P X R : List pc_Ch} (h : pc_V (P ++ X ++ R)) : pc_V X := by
  obtain ⟨T, T1, h1, h2, h3⟩ := h
  rw [pc_dos_app, pc_dos_app] at h2
  cases h4 : pc_dos T P with
  | none => rw [h4] at h2; cases h2
  | some T2 =>
    rw [h4] at h2
    have h6 := pc_dos_len h4
    simp only [Option.bind_some] at h2
    cases h5 : pc_dos T2 X with
    | none => rw [h5] at h2; cases h2
    | some T3 =>
      refine ⟨T2, T3, ?_, h5, fun c hc => h3 c ?_⟩
      · simp only [List.length_append] at h1
        omega
      · simp [hc]
/-- two that are turned round: the text behind both is the same -/
theorem pc_do_sw {a b a1 b1 : pc_Ch} {T T2 : List Int} (ha : a.2.1 = 0 ∨ a.2.1 = 1) (hb : b.2.1 = 0 ∨ b.2.1 = 1) (hs : pc_sw2 a b = some (b1, a1)) (h : (pc_do T a).bind (fun T1 => pc_do T1 b) = some T2) : (pc_do T b1).bind (fun T1 => pc_do T1 a1) = some T2 := by
  obtain ⟨an, as, ap, al⟩ := a
  obtain ⟨bn, bs, bp, bl⟩ := b
  simp only at ha hb
  unfold pc_sw2 at hs
  simp only [Option.map_eq_some_iff, Prod.mk.injEq] at hs
  obtain ⟨⟨k, m⟩, h1, rfl, rfl⟩ := hs
  cases h2 : pc_do T (an, as, ap, al) with
  | none => rw [h2] at h; cases h
  | some T1 =>
    rw [h2] at h
    simp only [Option.bind_some] at h
    unfold pc_do at h2 h ⊢
    unfold pc_tr at h1
    rcases ha with rfl | rfl <;> rcases hb with rfl | rfl
    · simp only [if_true, ite_true] at h1 h2 h ⊢
      split at h2
      · rename_i g1
        cases h2
        split at h
        · rename_i g2
          cases h
          rw [List.length_insertIdx, if_pos (by omega)] at g2
          split at h1 <;> cases h1
          · rw [if_pos (by omega)]
            simp only [Option.bind_some]
            rw [if_pos (by rw [List.length_insertIdx]; split <;> omega)]
            congr 1
            apply List.ext_getElem?
            intro n
            simp only [List.getElem?_insertIdx, List.length_insertIdx]
            repeat' split
            all_goals first | rfl | omega | (congr 1; omega) | (exfalso; omega)
          · rw [if_pos (by omega)]
            simp only [Option.bind_some]
            rw [if_pos (by rw [List.length_insertIdx]; split <;> omega)]
            congr 1
            apply List.ext_getElem?
            intro n
            simp only [List.getElem?_insertIdx, List.length_insertIdx]
            repeat' split
            all_goals first | rfl | omega | (congr 1; omega) | (exfalso; omega)
        · cases h
      · cases h2
    · simp only [if_true, ite_true, Int.reduceEq, if_false, ite_false] at h1 h2 h ⊢
      split at h2
      · rename_i g1
        cases h2
        split at h
        · rename_i g2
          cases h
          obtain ⟨g2, g3⟩ := g2
          rw [List.getElem?_insertIdx] at g3
          split at h1
          · cases h1
            rw [if_pos (by omega)] at g3
            have g4 := (List.getElem?_eq_some_iff.mp g3).1
            rw [if_pos ⟨g2, g3⟩]
            simp only [Option.bind_some]
            rw [if_pos (by rw [List.length_eraseIdx_of_lt g4]; omega)]
            congr 1
            apply List.ext_getElem?
            intro n
            simp only [List.getElem?_insertIdx, List.getElem?_eraseIdx, List.length_eraseIdx_of_lt g4]
            repeat' split
            all_goals first | rfl | omega | (congr 1; omega) | (exfalso; omega)
          · split at h1
            · cases h1
              rw [if_neg (by omega), if_neg (by omega)] at g3
              have g4 := (List.getElem?_eq_some_iff.mp g3).1
              have e1 : (bp - 1).toNat = bp.toNat - 1 := by omega
              rw [if_pos ⟨by omega, by rw [e1]; exact g3⟩]
              simp only [Option.bind_some]
              rw [if_pos (by rw [List.length_eraseIdx_of_lt (by omega)]; omega)]
              congr 1
              apply List.ext_getElem?
              intro n
              have e2 := List.length_eraseIdx_of_lt (l := T) (i := (bp - 1).toNat) (by omega)
              simp only [List.getElem?_insertIdx, List.getElem?_eraseIdx, e2]
              repeat' split
              all_goals first | rfl | omega | (congr 1; omega) | (exfalso; omega)
            · cases h1
        · cases h
      · cases h2
    · simp only [if_true, ite_true, Int.reduceEq, if_false, ite_false] at h1 h2 h ⊢
      split at h2
      · rename_i g1
        cases h2
        obtain ⟨g0, g1⟩ := g1
        have g4 := (List.getElem?_eq_some_iff.mp g1).1
        split at h
        · rename_i g2
          cases h
          rw [List.length_eraseIdx_of_lt g4] at g2
          split at h1
          · cases h1
            rw [if_pos (by omega)]
            simp only [Option.bind_some]
            rw [if_pos ⟨by omega, by
              rw [List.getElem?_insertIdx, if_neg (by omega), if_neg (by omega), show (ap + 1).toNat - 1 = ap.toNat by omega]; exact g1⟩]
            congr 1
            apply List.ext_getElem?
            intro n
            simp only [List.getElem?_insertIdx, List.getElem?_eraseIdx, List.length_eraseIdx_of_lt g4]
            repeat' split
            all_goals first | rfl | omega | (congr 1; omega) | (exfalso; omega)
          · split at h1
            · cases h1
              rw [if_pos (by omega)]
              simp only [Option.bind_some]
              rw [if_pos ⟨by omega, by
                rw [List.getElem?_insertIdx, if_pos (by omega)]; exact g1⟩]
              congr 1
              apply List.ext_getElem?
              intro n
              simp only [List.getElem?_insertIdx, List.getElem?_eraseIdx, List.length_eraseIdx_of_lt g4]
              repeat' split
              all_goals first | rfl | omega | (congr 1; omega) | (exfalso; omega)
            · cases h1
        · cases h
      · cases h2
    · simp only [Int.reduceEq, if_false, ite_false] at h1 h2 h ⊢
      split at h2
      · rename_i g1
        cases h2
        obtain ⟨g0, g1⟩ := g1
        have g4 := (List.getElem?_eq_some_iff.mp g1).1
        split at h
        · rename_i g2
          cases h
          obtain ⟨g2, g3⟩ := g2
          rw [List.getElem?_eraseIdx] at g3
          split at h1
          · cases h1
            rw [if_pos (by omega)] at g3
            rw [if_pos ⟨g2, g3⟩]
            simp only [Option.bind_some]
            rw [if_pos ⟨by omega, by
              rw [List.getElem?_eraseIdx, if_neg (by omega), show (ap - 1).toNat + 1 = ap.toNat by omega]; exact g1⟩]
            congr 1
            apply List.ext_getElem?
            intro n
            simp only [List.getElem?_eraseIdx]
            repeat' split
            all_goals first | rfl | omega | (congr 1; omega) | (exfalso; omega)
          · cases h1
            rw [if_neg (by omega)] at g3
            rw [if_pos ⟨by omega, by rw [show (bp + 1).toNat = bp.toNat + 1 by omega]; exact g3⟩]
            simp only [Option.bind_some]
            rw [if_pos ⟨by omega, by rw [List.getElem?_eraseIdx, if_pos (by omega)]; exact g1⟩]
            congr 1
            apply List.ext_getElem?
            intro n
            simp only [List.getElem?_eraseIdx]
            repeat' split
            all_goals first | rfl | omega | (congr 1; omega) | (exfalso; omega)
        · cases h
      · cases h2
theorem pc_sw_form {L L1 : List pc_Ch} {i : Nat} (h : pc_sw L i = some L1) : ∃ P a b R a1 b1, L = P ++ a :: b :: R ∧ P.length = i ∧ pc_sw2 a b = some (b1, a1) ∧ L1 = P ++ b1 :: a1 :: R := by
  unfold pc_sw at h
  split at h
  · rename_i a b ha hb
    simp only [Option.map_eq_some_iff] at h
    obtain ⟨⟨b1, a1⟩, h1, rfl⟩ := h
    have hi := (List.getElem?_eq_some_iff.mp ha).1
    have hi1 := (List.getElem?_eq_some_iff.mp hb).1
    have e1 : L = L.take i ++ a :: b :: L.drop (i + 2) := by
      apply List.ext_getElem?
      intro n
      rw [List.getElem?_append]
      simp only [List.length_take]
      rw [Nat.min_eq_left (by omega)]
      by_cases c1 : n < i
      · rw [if_pos c1, List.getElem?_take, if_pos c1]
      · rw [if_neg c1]
        by_cases c2 : n = i
        · subst c2; simp [ha]
        · by_cases c3 : n = i + 1
          · subst c3
            rw [show i + 1 - i = 1 by omega, hb]
            rfl
          · obtain ⟨k, rfl⟩ : ∃ k, n = i + 2 + k := ⟨n - (i + 2), by omega⟩
            rw [show i + 2 + k - i = k + 1 + 1 by omega, List.getElem?_cons_succ, List.getElem?_cons_succ, List.getElem?_drop]
    have hl : (L.take i).length = i := by rw [List.length_take]; omega
    refine ⟨L.take i, a, b, L.drop (i + 2), a1, b1, e1, hl, h1, ?_⟩
    apply List.ext_getElem?
    intro n
    rw [List.getElem?_append, hl, List.getElem?_set, List.getElem?_set]
    simp only [List.length_set]
    by_cases c1 : n < i
    · rw [if_neg (by omega), if_neg (by omega), if_pos c1, List.getElem?_take, if_pos c1]
    · rw [if_neg c1]
      by_cases c2 : n = i
      · subst c2; rw [if_neg (by omega), if_pos rfl, if_pos hi]; simp
      · by_cases c3 : n = i + 1
        · subst c3
          rw [if_pos rfl, if_pos hi1, show i + 1 - i = 1 by omega]
          rfl
        · obtain ⟨k, rfl⟩ : ∃ k, n = i + 2 + k := ⟨n - (i + 2), by omega⟩
          rw [if_neg (by omega), if_neg (by omega), show i + 2 + k - i = k + 1 + 1 by omega, List.getElem?_cons_succ, List.getElem?_cons_succ, List.getElem?_drop]
  · cases h
theorem pc_sw_app {P R : List pc_Ch} {a b : pc_Ch} : pc_sw (P ++ a :: b :: R) P.length = (pc_sw2 a b).map (fun q => P ++ q.1 :: q.2 :: R) := by
  unfold pc_sw
  have h1 : (P ++ a :: b :: R)[P.length]? = some a := by simp
  have h2 : (P ++ a :: b :: R)[P.length + 1]? = some b := by simp
  rw [h1, h2]
  simp only
  cases pc_sw2 a b with
  | none => rfl
  | some q => simp
theorem pc_sw2_el {a b a1 b1 : pc_Ch} (h : pc_sw2 a b = some (b1, a1)) (ha : pc_el a) (hb : pc_el b) : pc_el a1 ∧ pc_el b1 := by
  unfold pc_sw2 at h
  simp only [Option.map_eq_some_iff, Prod.mk.injEq] at h
  obtain ⟨⟨k, m⟩, -, rfl, rfl⟩ := h
  exact ⟨ha, hb⟩
theorem pc_sw_dos {L L1 : List pc_Ch} {i : Nat} {T T1 : List Int} (h : pc_sw L i = some L1) (he : ∀ c ∈ L, pc_el c) (hd : pc_dos T L = some T1) : pc_dos T L1 = some T1 := by
  obtain ⟨P, a, b, R, a1, b1, rfl, hP, h1, rfl⟩ := pc_sw_form h
  rw [pc_dos_app] at hd ⊢
  cases h2 : pc_dos T P with
  | none => rw [h2] at hd; cases hd
  | some T2 =>
    rw [h2] at hd
    simp only [Option.bind_some] at hd ⊢
    have ha := he a (by simp)
    have hb := he b (by simp)
    have e : ∀ (x y : pc_Ch), pc_dos T2 (x :: y :: R) = ((pc_do T2 x).bind (fun T1 => pc_do T1 y)).bind (fun T3 => pc_dos T3 R) := by
      intro x y
      show (pc_do T2 x).bind (fun T1 => (pc_do T1 y).bind (fun T3 => pc_dos T3 R)) = _
      cases pc_do T2 x <;> rfl
    rw [e] at hd ⊢
    cases h3 : (pc_do T2 a).bind (fun T1 => pc_do T1 b) with
    | none => rw [h3] at hd; cases hd
    | some T3 =>
      rw [h3] at hd
      rw [pc_do_sw ha.2.1 hb.2.1 h1 h3]
      exact hd
theorem pc_sw_len {L L1 : List pc_Ch} {i : Nat} (h : pc_sw L i = some L1) : L1.length = L.length := by
  obtain ⟨P, a, b, R, a1, b1, rfl, hP, h1, rfl⟩ := pc_sw_form h
  simp
theorem pc_sw_V {L L1 : List pc_Ch} {i : Nat} (h : pc_sw L i = some L1) (hv : pc_V L) : pc_V L1 := by
  obtain ⟨T, T1, h1, h2, h3⟩ := hv
  refine ⟨T, T1, by rw [pc_sw_len h]; exact h1, pc_sw_dos h h3 h2, ?_⟩
  obtain ⟨P, a, b, R, a1, b1, rfl, hP, g1, rfl⟩ := pc_sw_form h
  obtain ⟨e1, e2⟩ := pc_sw2_el g1 (h3 a (by simp)) (h3 b (by simp))
  intro c hc
  simp only [List.mem_append, List.mem_cons] at hc
  rcases hc with hc | rfl | rfl | hc
  · exact h3 c (by simp [hc])
  · exact e2
  · exact e1
  · exact h3 c (by simp [hc])
/-- so many steps towards the end, from a place; towards the front -/
def pc_brF : Nat → List pc_Ch → Nat → Option (List pc_Ch)
  | 0, L, _ => some L
  | n + 1, L, i => (pc_sw L i).bind (fun L1 => pc_brF n L1 (i + 1))
def pc_brB : Nat → List pc_Ch → Nat → Option (List pc_Ch)
  | 0, L, _ => some L
  | n + 1, L, i => (pc_sw L (i - 1)).bind (fun L1 => pc_brB n L1 (i - 1))
theorem pc_brF_snoc (n : Nat) (L : List pc_Ch) (i : Nat) : pc_brF (n + 1) L i = (pc_brF n L i).bind (fun L1 => pc_sw L1 (i + n)) := by
  induction n generalizing L i with
  | zero =>
    show (pc_sw L i).bind (fun L1 => some L1) = pc_sw L i
    cases pc_sw L i <;> rfl
  | succ n ih =>
    show (pc_sw L i).bind (fun L1 => pc_brF (n + 1) L1 (i + 1)) = ((pc_sw L i).bind (fun L1 => pc_brF n L1 (i + 1))).bind _
    cases pc_sw L i with
    | none => rfl
    | some L1 =>
      simp only [Option.bind_some]
      rw [ih, show i + 1 + n = i + (n + 1) by omega]
theorem pc_brB_snoc (n : Nat) (L : List pc_Ch) (i : Nat) : pc_brB (n + 1) L i = (pc_brB n L i).bind (fun L1 => pc_sw L1 (i - n - 1)) := by
  induction n generalizing L i with
  | zero =>
    show (pc_sw L (i - 1)).bind (fun L1 => some L1) = pc_sw L (i - 1)
    cases pc_sw L (i - 1) <;> rfl
  | succ n ih =>
    show (pc_sw L (i - 1)).bind (fun L1 => pc_brB (n + 1) L1 (i - 1)) = ((pc_sw L (i - 1)).bind (fun L1 => pc_brB n L1 (i - 1))).bind _
    cases pc_sw L (i - 1) with
    | none => rfl
    | some L1 =>
      simp only [Option.bind_some]
      rw [ih, show i - 1 - n - 1 = i - (n + 1) - 1 by omega]
theorem pc_brF_keep {n : Nat} {L L1 : List pc_Ch} {i : Nat} (h : pc_brF n L i = some L1) : L1.length = L.length ∧ (pc_V L → pc_V L1) ∧ ∀ T T1, (∀ c ∈ L, pc_el c) → pc_dos T L = some T1 → pc_dos T L1 = some T1 ∧ ∀ c ∈ L1, pc_el c := by
  induction n generalizing L i with
  | zero => cases h; exact ⟨rfl, id, fun T T1 a b => ⟨b, a⟩⟩
  | succ n ih =>
    unfold pc_brF at h
    cases h1 : pc_sw L i with
    | none => rw [h1] at h; cases h
    | some L2 =>
      rw [h1] at h
      obtain ⟨g1, g2, g3⟩ := ih h
      refine ⟨by rw [g1, pc_sw_len h1], fun hv => g2 (pc_sw_V h1 hv), fun T T1 a b => g3 T T1 ?_ (pc_sw_dos h1 a b)⟩
      obtain ⟨P, x, y, R, x1, y1, rfl, hP, q1, rfl⟩ := pc_sw_form h1
      obtain ⟨e1, e2⟩ := pc_sw2_el q1 (a x (by simp)) (a y (by simp))
      intro c hc
      simp only [List.mem_append, List.mem_cons] at hc
      rcases hc with hc | rfl | rfl | hc
      · exact a c (by simp [hc])
      · exact e2
      · exact e1
      · exact a c (by simp [hc])
theorem pc_brB_keep {n : Nat} {L L1 : List pc_Ch} {i : Nat} (h : pc_brB n L i = some L1) : L1.length = L.length ∧ (pc_V L → pc_V L1) ∧ ∀ T T1, (∀ c ∈ L, pc_el c) → pc_dos T L = some T1 → pc_dos T L1 = some T1 ∧ ∀ c ∈ L1, pc_el c := by
  induction n generalizing L i with
  | zero => cases h; exact ⟨rfl, id, fun T T1 a b => ⟨b, a⟩⟩
  | succ n ih =>
    unfold pc_brB at h
    cases h1 : pc_sw L (i - 1) with
    | none => rw [h1] at h; cases h
    | some L2 =>
      rw [h1] at h
      obtain ⟨g1, g2, g3⟩ := ih h
      refine ⟨by rw [g1, pc_sw_len h1], fun hv => g2 (pc_sw_V h1 hv), fun T T1 a b => g3 T T1 ?_ (pc_sw_dos h1 a b)⟩
      obtain ⟨P, x, y, R, x1, y1, rfl, hP, q1, rfl⟩ := pc_sw_form h1
      obtain ⟨e1, e2⟩ := pc_sw2_el q1 (a x (by simp)) (a y (by simp))
      intro c hc
      simp only [List.mem_append, List.mem_cons] at hc
      rcases hc with hc | rfl | rfl | hc
      · exact a c (by simp [hc])
      · exact e2
      · exact e1
      · exact a c (by simp [hc])
end
section
/-! ===== a history as a list; turning, going, bringing ===== -/
theorem px_up_eq {μ : px_Mem} {o : Nat} {i z i1 : Int} (h : i1 = i) : px_up μ o i z o i1 = z := by simp [px_up, h]
theorem px_up_ne {μ : px_Mem} {o : Nat} {i z i1 : Int} (h : i1 ≠ i) : px_up μ o i z o i1 = μ o i1 := by simp [px_up, h]
def pc_hl (μ : px_Mem) (h : Nat) : List pc_Ch := (List.range (μ h 4).toNat).map (fun i : Nat => (μ (h + 1) i, μ (h + 2) i, μ (h + 3) i, μ (h + 4) i))
theorem pc_hl_len {μ : px_Mem} {h : Nat} : (pc_hl μ h).length = (μ h 4).toNat := by unfold pc_hl; rw [List.length_map, List.length_range]
theorem pc_hl_get {μ : px_Mem} {h : Nat} {n : Nat} : (pc_hl μ h)[n]? = if n < (μ h 4).toNat then some (μ (h + 1) n, μ (h + 2) n, μ (h + 3) n, μ (h + 4) n) else none := by
  unfold pc_hl
  rw [List.getElem?_map]
  split
  · rename_i h1
    rw [List.getElem?_range h1]
    rfl
  · rename_i h1
    rw [List.getElem?_eq_none (by rw [List.length_range]; omega)]
    rfl
theorem pc_hl_at {μ : px_Mem} {h : Nat} {i : Int} (h0 : 0 ≤ i) (h1 : i < μ h 4) : (pc_hl μ h)[i.toNat]? = some (μ (h + 1) i, μ (h + 2) i, μ (h + 3) i, μ (h + 4) i) := by
  rw [pc_hl_get, if_pos (by omega), Int.toNat_of_nonneg h0]
theorem pc_hl_mem {μ : px_Mem} {h : Nat} {i : Int} (h0 : 0 ≤ i) (h1 : i < μ h 4) : (μ (h + 1) i, μ (h + 2) i, μ (h + 3) i, μ (h + 4) i) ∈ pc_hl μ h := List.mem_of_getElem? (pc_hl_at h0 h1)
theorem pc_hl_congr {μ μ1 : px_Mem} {h g : Nat} (hn : μ1 g 4 = μ h 4) (he : ∀ i : Int, 0 ≤ i → i < μ h 4 → μ1 (g + 1) i = μ (h + 1) i ∧ μ1 (g + 2) i = μ (h + 2) i ∧ μ1 (g + 3) i = μ (h + 3) i ∧ μ1 (g + 4) i = μ (h + 4) i) : pc_hl μ1 g = pc_hl μ h := by
  apply List.ext_getElem?
  intro n
  rw [pc_hl_get, pc_hl_get, hn]
  split
  · obtain ⟨e1, e2, e3, e4⟩ := he n (by omega) (by omega)
    rw [e1, e2, e3, e4]
  · rfl
theorem pc_hl_same {μ μ1 : px_Mem} {h : Nat} (h0 : μ1 h = μ h) (h1 : μ1 (h + 1) = μ (h + 1)) (h2 : μ1 (h + 2) = μ (h + 2)) (h3 : μ1 (h + 3) = μ (h + 3)) (h4 : μ1 (h + 4) = μ (h + 4)) : pc_hl μ1 h = pc_hl μ h := by
  unfold pc_hl
  rw [h0, h1, h2, h3, h4]
theorem pc_tr_bd {s i o j k m : Int} (h : pc_tr s i o j = some (k, m)) (hi : 0 ≤ i) (hj : 0 ≤ j) : 0 ≤ k ∧ k ≤ j + 1 ∧ 0 ≤ m ∧ m ≤ i + 1 := by
  unfold pc_tr at h
  repeat' split at h
  all_goals first | (cases h; omega) | cases h
theorem pc_trz_none {s i o j : Int} (h : pc_tr s i o j = none) : pc_trz s i o j = -1 := by unfold pc_trz; rw [h]
theorem pc_trz_some {s i o j k m : Int} (h : pc_tr s i o j = some (k, m)) : pc_trz s i o j = 100 * k + m := by unfold pc_trz; rw [h]
set_option maxHeartbeats 4000000 in
set_option maxRecDepth 100000 in
theorem c_X0_pairAt {G : px_G} {h : Nat} {i : Int} {μ : px_Mem} {Q : Option px_X → px_Mem → Prop} (hh : px_kd h = 0) (hn : 0 ≤ μ h 4 ∧ μ h 4 ≤ 16) (hi : -2147483648 ≤ i ∧ i < 2147483648) (hv : pc_V (pc_hl μ h))
    (h1 : 0 ≤ i → i < μ h 4 - 1 → Q (some (.inl (pc_trz (μ (h + 2) i) (μ (h + 3) i) (μ (h + 2) (i + 1)) (μ (h + 3) (i + 1))))) μ) (h0 : ¬ (0 ≤ i ∧ i < μ h 4 - 1) → Q (some (.inl (-1))) μ) : px_C G yX0_pairAt cX0_pairAt 2 (some .int) 1 [.inr (.inl (some h)), .inl i] μ Q := by
  obtain ⟨hk, hl⟩ := pc_hk hh
  refine px_enter RX0 (by decide +kernel) rfl (by simp) (by simp [px_c1]) ?_
  simp only [List.map_cons, List.map_nil, List.length_cons, List.length_nil, List.replicate, List.append_nil, Nat.reduceAdd, Nat.reduceSub, List.cons_append, List.nil_append]
  refine px_go (fun _ => false) 400 ?_
  simp only [px_lits, false_implies, true_implies, px_dec_ok, px_run_s, px_rules, px_rule_is, px_mats, px_calls, ↓reduceIte, eq_self, Bool.false_eq_true, px_flds, px_o_some, px_fvs, px_pfs, px_cts, px_cls, px_acs_, px_acn, true_and, and_true, true_or, or_true, false_or, or_false, and_self, not_true_eq_false, not_false_eq_true, Classical.not_not, Nat.reduceAdd, Nat.reduceSub, Nat.reduceBEq, Nat.reduceLT, Nat.reduceLeDiff, Nat.lt_add_one, px_tg, Int.cast_ofNat_Int, Int.reduceAdd, Int.reduceSub, Int.reduceMul, Int.reduceToNat, Int.reduceLE, Int.reduceLT, Int.reduceNeg, Int.reduceEq, Bool.or_false, Bool.false_or, Bool.or_true, Bool.true_or, List.length_cons, List.length_nil, List.nil_append, List.cons_append, Option.toList_some, Option.toList_none, reduceCtorEq, Option.some.injEq, Nat.zero_le, Nat.reduceMul, Nat.mul_zero, Nat.add_zero, Int.reduceDiv, Int.reduceMod, Int.toNat_natCast, Nat.lt_irrefl, Int.natCast_add, Int.cast_ofNat_Int, px_mds_RX0_0, dec_X0_pairAt, hh]
  refine c_X0_hasPair hh hn hi (fun q => ?_) (fun q => ?_)
  · have e1 := hv.el (pc_hl_mem (i := i) q.1 (by omega))
    have e2 := hv.el (pc_hl_mem (i := i + 1) (by omega) (by omega))
    have p1 := hv.place (pc_hl_mem (i := i) q.1 (by omega))
    have p2 := hv.place (pc_hl_mem (i := i + 1) (by omega) (by omega))
    dsimp only [pc_el] at e1 e2 p1 p2
    refine px_go (fun _ => false) 400 ?_
    simp only [px_lits, false_implies, true_implies, px_dec_ok, px_run_s, px_rules, px_rule_is, px_mats, px_calls, ↓reduceIte, eq_self, Bool.false_eq_true, px_flds, px_o_some, px_fvs, px_pfs, px_cts, px_cls, px_acs_, px_acn, true_and, and_true, true_or, or_true, false_or, or_false, and_self, not_true_eq_false, not_false_eq_true, Classical.not_not, Nat.reduceAdd, Nat.reduceSub, Nat.reduceBEq, Nat.reduceLT, Nat.reduceLeDiff, Nat.lt_add_one, px_tg, Int.cast_ofNat_Int, Int.reduceAdd, Int.reduceSub, Int.reduceMul, Int.reduceToNat, Int.reduceLE, Int.reduceLT, Int.reduceNeg, Int.reduceEq, Bool.or_false, Bool.false_or, Bool.or_true, Bool.true_or, List.length_cons, List.length_nil, List.nil_append, List.cons_append, Option.toList_some, Option.toList_none, reduceCtorEq, Option.some.injEq, Nat.zero_le, Nat.reduceMul, Nat.mul_zero, Nat.add_zero, Int.reduceDiv, Int.reduceMod, Int.toNat_natCast, Nat.lt_irrefl, Int.natCast_add, Int.cast_ofNat_Int, px_mds_RX0_0, dec_X0_pairAt, hh, hk, hl]
    repeat refine ⟨by omega, ?_⟩
    refine c_X10_turned e1.2.1 e2.2.1 (by omega) (by omega) ?_
    refine px_go (fun _ => false) 400 ?_
    simp only [px_lits, false_implies, true_implies, px_dec_ok, px_run_s, px_rules, px_rule_is, px_mats, px_calls, ↓reduceIte, eq_self, Bool.false_eq_true, px_flds, px_o_some, px_fvs, px_pfs, px_cts, px_cls, px_acs_, px_acn, true_and, and_true, true_or, or_true, false_or, or_false, and_self, not_true_eq_false, not_false_eq_true, Classical.not_not, Nat.reduceAdd, Nat.reduceSub, Nat.reduceBEq, Nat.reduceLT, Nat.reduceLeDiff, Nat.lt_add_one, px_tg, Int.cast_ofNat_Int, Int.reduceAdd, Int.reduceSub, Int.reduceMul, Int.reduceToNat, Int.reduceLE, Int.reduceLT, Int.reduceNeg, Int.reduceEq, Bool.or_false, Bool.false_or, Bool.or_true, Bool.true_or, List.length_cons, List.length_nil, List.nil_append, List.cons_append, Option.toList_some, Option.toList_none, reduceCtorEq, Option.some.injEq, Nat.zero_le, Nat.reduceMul, Nat.mul_zero, Nat.add_zero, Int.reduceDiv, Int.reduceMod, Int.toNat_natCast, Nat.lt_irrefl, Int.natCast_add, Int.cast_ofNat_Int, px_mds_RX0_0, dec_X0_pairAt, hh, hk, hl]
    exact h1 q.1 q.2
  · refine px_go (fun _ => false) 400 ?_
    simp only [px_lits, false_implies, true_implies, px_dec_ok, px_run_s, px_rules, px_rule_is, px_mats, px_calls, ↓reduceIte, eq_self, Bool.false_eq_true, px_flds, px_o_some, px_fvs, px_pfs, px_cts, px_cls, px_acs_, px_acn, true_and, and_true, true_or, or_true, false_or, or_false, and_self, not_true_eq_false, not_false_eq_true, Classical.not_not, Nat.reduceAdd, Nat.reduceSub, Nat.reduceBEq, Nat.reduceLT, Nat.reduceLeDiff, Nat.lt_add_one, px_tg, Int.cast_ofNat_Int, Int.reduceAdd, Int.reduceSub, Int.reduceMul, Int.reduceToNat, Int.reduceLE, Int.reduceLT, Int.reduceNeg, Int.reduceEq, Bool.or_false, Bool.false_or, Bool.or_true, Bool.true_or, List.length_cons, List.length_nil, List.nil_append, List.cons_append, Option.toList_some, Option.toList_none, reduceCtorEq, Option.some.injEq, Nat.zero_le, Nat.reduceMul, Nat.mul_zero, Nat.add_zero, Int.reduceDiv, Int.reduceMod, Int.toNat_natCast, Nat.lt_irrefl, Int.natCast_add, Int.cast_ofNat_Int, px_mds_RX0_0, dec_X0_pairAt, hh, hk, hl]
    exact h0 q
set_option maxHeartbeats 4000000 in
set_option maxRecDepth 100000 in
theorem c_X0_swap {G : px_G} {h : Nat} {i : Int} {μ : px_Mem} {Q : Option px_X → px_Mem → Prop} (hh : px_kd h = 0) (hn : 0 ≤ μ h 4 ∧ μ h 4 ≤ 16) (hi : 0 ≤ i ∧ i < 2147483648) (hv : pc_V (pc_hl μ h))
    (h1 : ∀ (L1 : List pc_Ch) (μ1 : px_Mem), pc_sw (pc_hl μ h) i.toNat = some L1 → (∀ o, (o < h + 1 ∨ h + 4 < o) → μ1 o = μ o) → pc_hl μ1 h = L1 → Q (some (.inl 1)) μ1) (h0 : pc_sw (pc_hl μ h) i.toNat = none → Q (some (.inl 0)) μ) : px_C G yX0_swap cX0_swap 6 (some .boolean) 1 [.inr (.inl (some h)), .inl i] μ Q := by
  obtain ⟨hk, hl⟩ := pc_hk hh
  refine px_enter RX0 (by decide +kernel) rfl (by simp) (by simp [px_c1]) ?_
  simp only [List.map_cons, List.map_nil, List.length_cons, List.length_nil, List.replicate, List.append_nil, Nat.reduceAdd, Nat.reduceSub, List.cons_append, List.nil_append]
  refine px_go (fun _ => false) 400 ?_
  simp only [px_lits, false_implies, true_implies, px_dec_ok, px_run_s, px_rules, px_rule_is, px_mats, px_calls, ↓reduceIte, eq_self, Bool.false_eq_true, px_flds, px_o_some, px_fvs, px_pfs, px_cts, px_cls, px_acs_, px_acn, true_and, and_true, true_or, or_true, false_or, or_false, and_self, not_true_eq_false, not_false_eq_true, Classical.not_not, Nat.reduceAdd, Nat.reduceSub, Nat.reduceBEq, Nat.reduceLT, Nat.reduceLeDiff, Nat.lt_add_one, px_tg, Int.cast_ofNat_Int, Int.reduceAdd, Int.reduceSub, Int.reduceMul, Int.reduceToNat, Int.reduceLE, Int.reduceLT, Int.reduceNeg, Int.reduceEq, Bool.or_false, Bool.false_or, Bool.or_true, Bool.true_or, List.length_cons, List.length_nil, List.nil_append, List.cons_append, Option.toList_some, Option.toList_none, reduceCtorEq, Option.some.injEq, Nat.zero_le, Nat.reduceMul, Nat.mul_zero, Nat.add_zero, Int.reduceDiv, Int.reduceMod, Int.toNat_natCast, Nat.lt_irrefl, Int.natCast_add, Int.cast_ofNat_Int, px_mds_RX0_0, dec_X0_swap, hh]
  refine c_X0_hasPair hh hn (by omega) (fun q => ?_) (fun q => ?_)
  · have g1 := pc_hl_at (μ := μ) (h := h) (i := i) q.1 (by omega)
    have g2 := pc_hl_at (μ := μ) (h := h) (i := i + 1) (by omega) (by omega)
    rw [show (i + 1).toNat = i.toNat + 1 by omega] at g2
    have e1 := hv.el (List.mem_of_getElem? g1)
    have e2 := hv.el (List.mem_of_getElem? g2)
    have p1 := hv.place (List.mem_of_getElem? g1)
    have p2 := hv.place (List.mem_of_getElem? g2)
    dsimp only [pc_el] at e1 e2 p1 p2
    refine px_go (fun _ => false) 400 ?_
    simp only [px_lits, false_implies, true_implies, px_dec_ok, px_run_s, px_rules, px_rule_is, px_mats, px_calls, ↓reduceIte, eq_self, Bool.false_eq_true, px_flds, px_o_some, px_fvs, px_pfs, px_cts, px_cls, px_acs_, px_acn, true_and, and_true, true_or, or_true, false_or, or_false, and_self, not_true_eq_false, not_false_eq_true, Classical.not_not, Nat.reduceAdd, Nat.reduceSub, Nat.reduceBEq, Nat.reduceLT, Nat.reduceLeDiff, Nat.lt_add_one, px_tg, Int.cast_ofNat_Int, Int.reduceAdd, Int.reduceSub, Int.reduceMul, Int.reduceToNat, Int.reduceLE, Int.reduceLT, Int.reduceNeg, Int.reduceEq, Bool.or_false, Bool.false_or, Bool.or_true, Bool.true_or, List.length_cons, List.length_nil, List.nil_append, List.cons_append, Option.toList_some, Option.toList_none, reduceCtorEq, Option.some.injEq, Nat.zero_le, Nat.reduceMul, Nat.mul_zero, Nat.add_zero, Int.reduceDiv, Int.reduceMod, Int.toNat_natCast, Nat.lt_irrefl, Int.natCast_add, Int.cast_ofNat_Int, px_mds_RX0_0, dec_X0_swap, hh, hk, hl]
    repeat refine ⟨by omega, ?_⟩
    refine c_X10_turned e1.2.1 e2.2.1 (by omega) (by omega) ?_
    cases ht : pc_tr (μ (h + 2) i) (μ (h + 3) i) (μ (h + 2) (i + 1)) (μ (h + 3) (i + 1)) with
    | none =>
      rw [pc_trz_none ht]
      refine px_go (fun _ => false) 400 ?_
      simp only [px_lits, false_implies, true_implies, px_dec_ok, px_run_s, px_rules, px_rule_is, px_mats, px_calls, ↓reduceIte, eq_self, Bool.false_eq_true, px_flds, px_o_some, px_fvs, px_pfs, px_cts, px_cls, px_acs_, px_acn, true_and, and_true, true_or, or_true, false_or, or_false, and_self, not_true_eq_false, not_false_eq_true, Classical.not_not, Nat.reduceAdd, Nat.reduceSub, Nat.reduceBEq, Nat.reduceLT, Nat.reduceLeDiff, Nat.lt_add_one, px_tg, Int.cast_ofNat_Int, Int.reduceAdd, Int.reduceSub, Int.reduceMul, Int.reduceToNat, Int.reduceLE, Int.reduceLT, Int.reduceNeg, Int.reduceEq, Bool.or_false, Bool.false_or, Bool.or_true, Bool.true_or, List.length_cons, List.length_nil, List.nil_append, List.cons_append, Option.toList_some, Option.toList_none, reduceCtorEq, Option.some.injEq, Nat.zero_le, Nat.reduceMul, Nat.mul_zero, Nat.add_zero, Int.reduceDiv, Int.reduceMod, Int.toNat_natCast, Nat.lt_irrefl, Int.natCast_add, Int.cast_ofNat_Int, px_mds_RX0_0, dec_X0_swap, hh, hk, hl]
      refine h0 ?_
      unfold pc_sw
      rw [g1, g2]
      simp only [pc_sw2, ht]
      rfl
    | some km =>
      obtain ⟨k, m⟩ := km
      have hb := pc_tr_bd ht p1.1 p2.1
      rw [pc_trz_some ht]
      have d1 : (100 * k + m) / 100 = k := by omega
      have d2 : (100 * k + m) % 100 = m := by omega
      refine px_go (fun _ => false) 400 ?_
      simp only [px_lits, false_implies, true_implies, px_dec_ok, px_run_s, px_rules, px_rule_is, px_mats, px_calls, ↓reduceIte, eq_self, Bool.false_eq_true, px_flds, px_o_some, px_fvs, px_pfs, px_cts, px_cls, px_acs_, px_acn, true_and, and_true, true_or, or_true, false_or, or_false, and_self, not_true_eq_false, not_false_eq_true, Classical.not_not, Nat.reduceAdd, Nat.reduceSub, Nat.reduceBEq, Nat.reduceLT, Nat.reduceLeDiff, Nat.lt_add_one, px_tg, Int.cast_ofNat_Int, Int.reduceAdd, Int.reduceSub, Int.reduceMul, Int.reduceToNat, Int.reduceLE, Int.reduceLT, Int.reduceNeg, Int.reduceEq, Bool.or_false, Bool.false_or, Bool.or_true, Bool.true_or, List.length_cons, List.length_nil, List.nil_append, List.cons_append, Option.toList_some, Option.toList_none, reduceCtorEq, Option.some.injEq, Nat.zero_le, Nat.reduceMul, Nat.mul_zero, Nat.add_zero, Int.reduceDiv, Int.reduceMod, Int.toNat_natCast, Nat.lt_irrefl, Int.natCast_add, Int.cast_ofNat_Int, px_mds_RX0_0, dec_X0_swap, hh, hk, hl, d1, d2]
      simp (disch := omega) only [px_eq_iff]
      refine ⟨fun _ => ?_, fun q => by omega⟩
      repeat refine ⟨by omega, ?_⟩
      refine h1 _ _ (by unfold pc_sw; rw [g1, g2]; simp only [pc_sw2, ht, Option.map_some]; rfl) (fun o ho => ?_) ?_
      · simp (disch := omega) only [px_up_o]
      · apply List.ext_getElem?
        intro n
        rw [List.getElem?_set, List.getElem?_set, pc_hl_get, pc_hl_get]
        simp only [List.length_set, pc_hl_len]
        simp (disch := omega) only [px_up_o]
        by_cases c1 : i.toNat + 1 = n
        · rw [if_pos c1, if_pos (by omega), if_pos (by omega)]
          simp (disch := omega) only [px_up_o, px_up_eq, px_up_ne]
        · rw [if_neg c1]
          by_cases c2 : i.toNat = n
          · rw [if_pos c2, if_pos (by omega), if_pos (by omega)]
            simp (disch := omega) only [px_up_o, px_up_eq, px_up_ne]
          · rw [if_neg c2]
            split
            · simp (disch := omega) only [px_up_o, px_up_eq, px_up_ne]
            · rfl
  · refine px_go (fun _ => false) 400 ?_
    simp only [px_lits, false_implies, true_implies, px_dec_ok, px_run_s, px_rules, px_rule_is, px_mats, px_calls, ↓reduceIte, eq_self, Bool.false_eq_true, px_flds, px_o_some, px_fvs, px_pfs, px_cts, px_cls, px_acs_, px_acn, true_and, and_true, true_or, or_true, false_or, or_false, and_self, not_true_eq_false, not_false_eq_true, Classical.not_not, Nat.reduceAdd, Nat.reduceSub, Nat.reduceBEq, Nat.reduceLT, Nat.reduceLeDiff, Nat.lt_add_one, px_tg, Int.cast_ofNat_Int, Int.reduceAdd, Int.reduceSub, Int.reduceMul, Int.reduceToNat, Int.reduceLE, Int.reduceLT, Int.reduceNeg, Int.reduceEq, Bool.or_false, Bool.false_or, Bool.or_true, Bool.true_or, List.length_cons, List.length_nil, List.nil_append, List.cons_append, Option.toList_some, Option.toList_none, reduceCtorEq, Option.some.injEq, Nat.zero_le, Nat.reduceMul, Nat.mul_zero, Nat.add_zero, Int.reduceDiv, Int.reduceMod, Int.toNat_natCast, Nat.lt_irrefl, Int.natCast_add, Int.cast_ofNat_Int, px_mds_RX0_0, dec_X0_swap, hh, hk, hl]
    refine h0 ?_
    unfold pc_sw
    rw [pc_hl_get (n := i.toNat + 1), if_neg (by omega)]
    cases (pc_hl μ h)[i.toNat]? <;> rfl
end
section
theorem pc_sw_at {L : List pc_Ch} {i : Nat} {a b : pc_Ch} (ha : L[i]? = some a) (hb : L[i + 1]? = some b) : pc_sw L i = (pc_sw2 a b).map (fun q => (L.set i q.1).set (i + 1) q.2) := by
  unfold pc_sw
  rw [ha, hb]
theorem pc_brF_none {n : Nat} {L : List pc_Ch} {i : Nat} (h : pc_brF n L i = none) (k : Nat) : pc_brF (n + k) L i = none := by
  induction k with
  | zero => exact h
  | succ k ih =>
    rw [show n + (k + 1) = (n + k) + 1 by omega, pc_brF_snoc, ih]
    rfl
theorem pc_brB_none {n : Nat} {L : List pc_Ch} {i : Nat} (h : pc_brB n L i = none) (k : Nat) : pc_brB (n + k) L i = none := by
  induction k with
  | zero => exact h
  | succ k ih =>
    rw [show n + (k + 1) = (n + k) + 1 by omega, pc_brB_snoc, ih]
    rfl
set_option maxHeartbeats 4000000 in
set_option maxRecDepth 100000 in
theorem c_X0_canGoBehind {G : px_G} {h : Nat} {f t : Int} {μ : px_Mem} {Q : Option px_X → px_Mem → Prop} (hh : px_kd h = 0) (hn : 0 ≤ μ h 4 ∧ μ h 4 ≤ 16) (hf : 0 ≤ f ∧ f ≤ t) (ht : t < μ h 4) (hv : pc_V (pc_hl μ h))
    (h1 : ∀ L1, pc_brF (t - f).toNat (pc_hl μ h) f.toNat = some L1 → Q (some (.inl 1)) μ) (h0 : pc_brF (t - f).toNat (pc_hl μ h) f.toNat = none → Q (some (.inl 0)) μ) : px_C G yX0_canGoBehind cX0_canGoBehind 6 (some .boolean) 1 [.inr (.inl (some h)), .inl f, .inl t] μ Q := by
  obtain ⟨hk, hl⟩ := pc_hk hh
  have fr := hv.el (pc_hl_mem (i := f) hf.1 (by omega))
  dsimp only [pc_el] at fr
  have loop : ∀ (n : Nat) (i p : Int) (L1 : List pc_Ch), f < i → i + n = t + 1 → pc_brF (i - 1 - f).toNat (pc_hl μ h) f.toNat = some L1 → L1[(i - 1).toNat]? = some (μ (h + 1) f, μ (h + 2) f, p, μ (h + 4) f) → (∀ j : Nat, i ≤ j → L1[j]? = (pc_hl μ h)[j]?) →
      ∀ x5 : Option px_X, px_J G RX0 cX0_canGoBehind 6 (some .boolean) 1 30 [some (.inr (.inl (some h))), some (.inl f), some (.inl t), some (.inl p), some (.inl i), x5] [] μ Q := by
    intro n
    induction n with
    | zero =>
      intro i p L1 hfi hin hb hp hj x5
      refine px_go (fun p => p == 30) 400 ?_
      simp only [px_lits, false_implies, true_implies, px_dec_ok, px_run_s, px_rules, px_rule_is, px_mats, px_calls, ↓reduceIte, eq_self, Bool.false_eq_true, px_flds, px_o_some, px_fvs, px_pfs, px_cts, px_cls, px_acs_, px_acn, true_and, and_true, true_or, or_true, false_or, or_false, and_self, not_true_eq_false, not_false_eq_true, Classical.not_not, Nat.reduceAdd, Nat.reduceSub, Nat.reduceBEq, Nat.reduceLT, Nat.reduceLeDiff, Nat.lt_add_one, px_tg, Int.cast_ofNat_Int, Int.reduceAdd, Int.reduceSub, Int.reduceMul, Int.reduceToNat, Int.reduceLE, Int.reduceLT, Int.reduceNeg, Int.reduceEq, Bool.or_false, Bool.false_or, Bool.or_true, Bool.true_or, List.length_cons, List.length_nil, List.nil_append, List.cons_append, Option.toList_some, Option.toList_none, reduceCtorEq, Option.some.injEq, Nat.zero_le, Nat.reduceMul, Nat.mul_zero, Nat.add_zero, Int.reduceDiv, Int.reduceMod, Int.toNat_natCast, Nat.lt_irrefl, Int.natCast_add, Int.cast_ofNat_Int, px_mds_RX0_0, dec_X0_canGoBehind, hh, hk, hl]
      simp (disch := omega) only [px_lt_iff]
      exact ⟨fun _ => h1 L1 (by rw [show t - f = i - 1 - f by omega]; exact hb), fun q => absurd (by omega) q⟩
    | succ n ih =>
      intro i p L1 hfi hin hb hp hj x5
      have hv1 := (pc_brF_keep hb).2.1 hv
      have g2 : L1[(i - 1).toNat + 1]? = some (μ (h + 1) i, μ (h + 2) i, μ (h + 3) i, μ (h + 4) i) := by
        rw [show (i - 1).toNat + 1 = i.toNat by omega, hj i.toNat (by omega)]
        exact pc_hl_at (by omega) (by omega)
      have e2 := hv1.el (List.mem_of_getElem? g2)
      have p1 := hv1.place (List.mem_of_getElem? hp)
      have p2 := hv1.place (List.mem_of_getElem? g2)
      dsimp only [pc_el] at e2 p1 p2
      have hsw := pc_sw_at hp g2
      have hsn := pc_brF_snoc (i - 1 - f).toNat (pc_hl μ h) f.toNat
      rw [hb, Option.bind_some, show f.toNat + (i - 1 - f).toNat = (i - 1).toNat by omega, hsw] at hsn
      refine px_go (fun p => p == 30) 400 ?_
      simp only [px_lits, false_implies, true_implies, px_dec_ok, px_run_s, px_rules, px_rule_is, px_mats, px_calls, ↓reduceIte, eq_self, Bool.false_eq_true, px_flds, px_o_some, px_fvs, px_pfs, px_cts, px_cls, px_acs_, px_acn, true_and, and_true, true_or, or_true, false_or, or_false, and_self, not_true_eq_false, not_false_eq_true, Classical.not_not, Nat.reduceAdd, Nat.reduceSub, Nat.reduceBEq, Nat.reduceLT, Nat.reduceLeDiff, Nat.lt_add_one, px_tg, Int.cast_ofNat_Int, Int.reduceAdd, Int.reduceSub, Int.reduceMul, Int.reduceToNat, Int.reduceLE, Int.reduceLT, Int.reduceNeg, Int.reduceEq, Bool.or_false, Bool.false_or, Bool.or_true, Bool.true_or, List.length_cons, List.length_nil, List.nil_append, List.cons_append, Option.toList_some, Option.toList_none, reduceCtorEq, Option.some.injEq, Nat.zero_le, Nat.reduceMul, Nat.mul_zero, Nat.add_zero, Int.reduceDiv, Int.reduceMod, Int.toNat_natCast, Nat.lt_irrefl, Int.natCast_add, Int.cast_ofNat_Int, px_mds_RX0_0, dec_X0_canGoBehind, hh, hk, hl]
      simp (disch := omega) only [px_lt_iff]
      refine ⟨fun q => by omega, fun _ => ?_⟩
      repeat refine ⟨by omega, ?_⟩
      refine c_X10_turned fr.2.1 e2.2.1 (by omega) (by omega) ?_
      cases htr : pc_tr (μ (h + 2) f) p (μ (h + 2) i) (μ (h + 3) i) with
      | none =>
        rw [pc_trz_none htr]
        refine px_go (fun p => p == 30) 400 ?_
        simp only [px_lits, false_implies, true_implies, px_dec_ok, px_run_s, px_rules, px_rule_is, px_mats, px_calls, ↓reduceIte, eq_self, Bool.false_eq_true, px_flds, px_o_some, px_fvs, px_pfs, px_cts, px_cls, px_acs_, px_acn, true_and, and_true, true_or, or_true, false_or, or_false, and_self, not_true_eq_false, not_false_eq_true, Classical.not_not, Nat.reduceAdd, Nat.reduceSub, Nat.reduceBEq, Nat.reduceLT, Nat.reduceLeDiff, Nat.lt_add_one, px_tg, Int.cast_ofNat_Int, Int.reduceAdd, Int.reduceSub, Int.reduceMul, Int.reduceToNat, Int.reduceLE, Int.reduceLT, Int.reduceNeg, Int.reduceEq, Bool.or_false, Bool.false_or, Bool.or_true, Bool.true_or, List.length_cons, List.length_nil, List.nil_append, List.cons_append, Option.toList_some, Option.toList_none, reduceCtorEq, Option.some.injEq, Nat.zero_le, Nat.reduceMul, Nat.mul_zero, Nat.add_zero, Int.reduceDiv, Int.reduceMod, Int.toNat_natCast, Nat.lt_irrefl, Int.natCast_add, Int.cast_ofNat_Int, px_mds_RX0_0, dec_X0_canGoBehind, hh, hk, hl]
        refine h0 ?_
        simp only [pc_sw2, htr, Option.map_none] at hsn
        have := pc_brF_none hsn (t - i).toNat
        rw [show (i - 1 - f).toNat + 1 + (t - i).toNat = (t - f).toNat by omega] at this
        exact this
      | some km =>
        obtain ⟨k, m⟩ := km
        have hb9 := pc_tr_bd htr p1.1 p2.1
        rw [pc_trz_some htr]
        have d2 : (100 * k + m) % 100 = m := by omega
        refine px_go (fun p => p == 30) 400 ?_
        simp only [px_lits, false_implies, true_implies, px_dec_ok, px_run_s, px_rules, px_rule_is, px_mats, px_calls, ↓reduceIte, eq_self, Bool.false_eq_true, px_flds, px_o_some, px_fvs, px_pfs, px_cts, px_cls, px_acs_, px_acn, true_and, and_true, true_or, or_true, false_or, or_false, and_self, not_true_eq_false, not_false_eq_true, Classical.not_not, Nat.reduceAdd, Nat.reduceSub, Nat.reduceBEq, Nat.reduceLT, Nat.reduceLeDiff, Nat.lt_add_one, px_tg, Int.cast_ofNat_Int, Int.reduceAdd, Int.reduceSub, Int.reduceMul, Int.reduceToNat, Int.reduceLE, Int.reduceLT, Int.reduceNeg, Int.reduceEq, Bool.or_false, Bool.false_or, Bool.or_true, Bool.true_or, List.length_cons, List.length_nil, List.nil_append, List.cons_append, Option.toList_some, Option.toList_none, reduceCtorEq, Option.some.injEq, Nat.zero_le, Nat.reduceMul, Nat.mul_zero, Nat.add_zero, Int.reduceDiv, Int.reduceMod, Int.toNat_natCast, Nat.lt_irrefl, Int.natCast_add, Int.cast_ofNat_Int, px_mds_RX0_0, dec_X0_canGoBehind, hh, hk, hl, d2]
        simp (disch := omega) only [px_eq_iff]
        refine ⟨fun _ => ⟨by omega, ?_⟩, fun q => by omega⟩
        simp only [pc_sw2, htr, Option.map_some] at hsn
        refine ih (i + 1) m _ (by omega) (by omega) (by rw [show (i + 1 - 1 - f).toNat = (i - 1 - f).toNat + 1 by omega]; exact hsn) ?_ ?_ _
        · rw [List.getElem?_set, if_pos (by omega), if_pos]
          have := (List.getElem?_eq_some_iff.mp g2).1
          simp only [List.length_set]
          omega
        · intro j hj2
          rw [List.getElem?_set, if_neg (by omega), List.getElem?_set, if_neg (by omega)]
          exact hj j (by omega)
  refine px_enter RX0 (by decide +kernel) rfl (by simp) (by simp [px_c1]) ?_
  simp only [List.map_cons, List.map_nil, List.length_cons, List.length_nil, List.replicate, List.append_nil, Nat.reduceAdd, Nat.reduceSub, List.cons_append, List.nil_append]
  refine px_go (fun p => p == 30) 400 ?_
  simp only [px_lits, false_implies, true_implies, px_dec_ok, px_run_s, px_rules, px_rule_is, px_mats, px_calls, ↓reduceIte, eq_self, Bool.false_eq_true, px_flds, px_o_some, px_fvs, px_pfs, px_cts, px_cls, px_acs_, px_acn, true_and, and_true, true_or, or_true, false_or, or_false, and_self, not_true_eq_false, not_false_eq_true, Classical.not_not, Nat.reduceAdd, Nat.reduceSub, Nat.reduceBEq, Nat.reduceLT, Nat.reduceLeDiff, Nat.lt_add_one, px_tg, Int.cast_ofNat_Int, Int.reduceAdd, Int.reduceSub, Int.reduceMul, Int.reduceToNat, Int.reduceLE, Int.reduceLT, Int.reduceNeg, Int.reduceEq, Bool.or_false, Bool.false_or, Bool.or_true, Bool.true_or, List.length_cons, List.length_nil, List.nil_append, List.cons_append, Option.toList_some, Option.toList_none, reduceCtorEq, Option.some.injEq, Nat.zero_le, Nat.reduceMul, Nat.mul_zero, Nat.add_zero, Int.reduceDiv, Int.reduceMod, Int.toNat_natCast, Nat.lt_irrefl, Int.natCast_add, Int.cast_ofNat_Int, px_mds_RX0_0, dec_X0_canGoBehind, hh]
  refine c_X0_hasPlace hh hn (by omega) (fun q => ?_) (fun q => absurd ⟨hf.1, by omega⟩ q)
  refine px_go (fun p => p == 30) 400 ?_
  simp only [px_lits, false_implies, true_implies, px_dec_ok, px_run_s, px_rules, px_rule_is, px_mats, px_calls, ↓reduceIte, eq_self, Bool.false_eq_true, px_flds, px_o_some, px_fvs, px_pfs, px_cts, px_cls, px_acs_, px_acn, true_and, and_true, true_or, or_true, false_or, or_false, and_self, not_true_eq_false, not_false_eq_true, Classical.not_not, Nat.reduceAdd, Nat.reduceSub, Nat.reduceBEq, Nat.reduceLT, Nat.reduceLeDiff, Nat.lt_add_one, px_tg, Int.cast_ofNat_Int, Int.reduceAdd, Int.reduceSub, Int.reduceMul, Int.reduceToNat, Int.reduceLE, Int.reduceLT, Int.reduceNeg, Int.reduceEq, Bool.or_false, Bool.false_or, Bool.or_true, Bool.true_or, List.length_cons, List.length_nil, List.nil_append, List.cons_append, Option.toList_some, Option.toList_none, reduceCtorEq, Option.some.injEq, Nat.zero_le, Nat.reduceMul, Nat.mul_zero, Nat.add_zero, Int.reduceDiv, Int.reduceMod, Int.toNat_natCast, Nat.lt_irrefl, Int.natCast_add, Int.cast_ofNat_Int, px_mds_RX0_0, dec_X0_canGoBehind, hh]
  refine c_X0_hasPlace hh hn (by omega) (fun q => ?_) (fun q => absurd ⟨by omega, ht⟩ q)
  refine px_go (fun p => p == 30) 400 ?_
  simp only [px_lits, false_implies, true_implies, px_dec_ok, px_run_s, px_rules, px_rule_is, px_mats, px_calls, ↓reduceIte, eq_self, Bool.false_eq_true, px_flds, px_o_some, px_fvs, px_pfs, px_cts, px_cls, px_acs_, px_acn, true_and, and_true, true_or, or_true, false_or, or_false, and_self, not_true_eq_false, not_false_eq_true, Classical.not_not, Nat.reduceAdd, Nat.reduceSub, Nat.reduceBEq, Nat.reduceLT, Nat.reduceLeDiff, Nat.lt_add_one, px_tg, Int.cast_ofNat_Int, Int.reduceAdd, Int.reduceSub, Int.reduceMul, Int.reduceToNat, Int.reduceLE, Int.reduceLT, Int.reduceNeg, Int.reduceEq, Bool.or_false, Bool.false_or, Bool.or_true, Bool.true_or, List.length_cons, List.length_nil, List.nil_append, List.cons_append, Option.toList_some, Option.toList_none, reduceCtorEq, Option.some.injEq, Nat.zero_le, Nat.reduceMul, Nat.mul_zero, Nat.add_zero, Int.reduceDiv, Int.reduceMod, Int.toNat_natCast, Nat.lt_irrefl, Int.natCast_add, Int.cast_ofNat_Int, px_mds_RX0_0, dec_X0_canGoBehind, hh, hk, hl]
  refine ⟨by omega, ?_⟩
  refine loop (t - f).toNat (f + 1) (μ (h + 3) f) (pc_hl μ h) (by omega) (by omega) (by rw [show (f + 1 - 1 - f).toNat = 0 by omega]; rfl) ?_ (fun _ _ => rfl) _
  rw [show f + 1 - 1 = f by omega]
  exact pc_hl_at hf.1 (by omega)
set_option maxHeartbeats 4000000 in
set_option maxRecDepth 100000 in
theorem c_X0_canGoToEnd {G : px_G} {h : Nat} {f : Int} {μ : px_Mem} {Q : Option px_X → px_Mem → Prop} (hh : px_kd h = 0) (hn : 0 ≤ μ h 4 ∧ μ h 4 ≤ 16) (hf : 0 ≤ f ∧ f < μ h 4) (hv : pc_V (pc_hl μ h))
    (h1 : ∀ L1, pc_brF (μ h 4 - 1 - f).toNat (pc_hl μ h) f.toNat = some L1 → Q (some (.inl 1)) μ) (h0 : pc_brF (μ h 4 - 1 - f).toNat (pc_hl μ h) f.toNat = none → Q (some (.inl 0)) μ) : px_C G yX0_canGoToEnd cX0_canGoToEnd 2 (some .boolean) 2 [.inr (.inl (some h)), .inl f] μ Q := by
  refine px_enter RX0 (by decide +kernel) rfl (by simp) (by simp [px_c1]) ?_
  simp only [List.map_cons, List.map_nil, List.length_cons, List.length_nil, List.replicate, List.append_nil, Nat.reduceAdd, Nat.reduceSub, List.cons_append, List.nil_append]
  refine px_go (fun _ => false) 400 ?_
  simp only [px_lits, false_implies, true_implies, px_dec_ok, px_run_s, px_rules, px_rule_is, px_mats, px_calls, ↓reduceIte, eq_self, Bool.false_eq_true, px_flds, px_o_some, px_fvs, px_pfs, px_cts, px_cls, px_acs_, px_acn, true_and, and_true, true_or, or_true, false_or, or_false, and_self, not_true_eq_false, not_false_eq_true, Classical.not_not, Nat.reduceAdd, Nat.reduceSub, Nat.reduceBEq, Nat.reduceLT, Nat.reduceLeDiff, Nat.lt_add_one, px_tg, Int.cast_ofNat_Int, Int.reduceAdd, Int.reduceSub, Int.reduceMul, Int.reduceToNat, Int.reduceLE, Int.reduceLT, Int.reduceNeg, Int.reduceEq, Bool.or_false, Bool.false_or, Bool.or_true, Bool.true_or, List.length_cons, List.length_nil, List.nil_append, List.cons_append, Option.toList_some, Option.toList_none, reduceCtorEq, Option.some.injEq, Nat.zero_le, Nat.reduceMul, Nat.mul_zero, Nat.add_zero, Int.reduceDiv, Int.reduceMod, Int.toNat_natCast, Nat.lt_irrefl, Int.natCast_add, Int.cast_ofNat_Int, px_mds_RX0_0, dec_X0_canGoToEnd, hh]
  refine c_X0_canGoBehind hh hn (by omega) (by omega) hv (fun L1 q => ?_) (fun q => ?_)
  · refine px_go (fun _ => false) 400 ?_
    simp only [px_lits, false_implies, true_implies, px_dec_ok, px_run_s, px_rules, px_rule_is, px_mats, px_calls, ↓reduceIte, eq_self, Bool.false_eq_true, px_flds, px_o_some, px_fvs, px_pfs, px_cts, px_cls, px_acs_, px_acn, true_and, and_true, true_or, or_true, false_or, or_false, and_self, not_true_eq_false, not_false_eq_true, Classical.not_not, Nat.reduceAdd, Nat.reduceSub, Nat.reduceBEq, Nat.reduceLT, Nat.reduceLeDiff, Nat.lt_add_one, px_tg, Int.cast_ofNat_Int, Int.reduceAdd, Int.reduceSub, Int.reduceMul, Int.reduceToNat, Int.reduceLE, Int.reduceLT, Int.reduceNeg, Int.reduceEq, Bool.or_false, Bool.false_or, Bool.or_true, Bool.true_or, List.length_cons, List.length_nil, List.nil_append, List.cons_append, Option.toList_some, Option.toList_none, reduceCtorEq, Option.some.injEq, Nat.zero_le, Nat.reduceMul, Nat.mul_zero, Nat.add_zero, Int.reduceDiv, Int.reduceMod, Int.toNat_natCast, Nat.lt_irrefl, Int.natCast_add, Int.cast_ofNat_Int, px_mds_RX0_0, dec_X0_canGoToEnd, hh]
    exact h1 L1 q
  · refine px_go (fun _ => false) 400 ?_
    simp only [px_lits, false_implies, true_implies, px_dec_ok, px_run_s, px_rules, px_rule_is, px_mats, px_calls, ↓reduceIte, eq_self, Bool.false_eq_true, px_flds, px_o_some, px_fvs, px_pfs, px_cts, px_cls, px_acs_, px_acn, true_and, and_true, true_or, or_true, false_or, or_false, and_self, not_true_eq_false, not_false_eq_true, Classical.not_not, Nat.reduceAdd, Nat.reduceSub, Nat.reduceBEq, Nat.reduceLT, Nat.reduceLeDiff, Nat.lt_add_one, px_tg, Int.cast_ofNat_Int, Int.reduceAdd, Int.reduceSub, Int.reduceMul, Int.reduceToNat, Int.reduceLE, Int.reduceLT, Int.reduceNeg, Int.reduceEq, Bool.or_false, Bool.false_or, Bool.or_true, Bool.true_or, List.length_cons, List.length_nil, List.nil_append, List.cons_append, Option.toList_some, Option.toList_none, reduceCtorEq, Option.some.injEq, Nat.zero_le, Nat.reduceMul, Nat.mul_zero, Nat.add_zero, Int.reduceDiv, Int.reduceMod, Int.toNat_natCast, Nat.lt_irrefl, Int.natCast_add, Int.cast_ofNat_Int, px_mds_RX0_0, dec_X0_canGoToEnd, hh]
    exact h0 q
-- towards the end
set_option maxHeartbeats 4000000 in
set_option maxRecDepth 100000 in
theorem c_X0_bringF {G : px_G} {h : Nat} {f t : Int} {μ : px_Mem} {Q : Option px_X → px_Mem → Prop} (hh : px_kd h = 0) (hn : 0 ≤ μ h 4 ∧ μ h 4 ≤ 16) (hf : 0 ≤ f ∧ f ≤ t) (ht : t < μ h 4) (hv : pc_V (pc_hl μ h))
    (h1 : ∀ (L1 : List pc_Ch) (μ1 : px_Mem), pc_brF (t - f).toNat (pc_hl μ h) f.toNat = some L1 → (∀ o, (o < h + 1 ∨ h + 4 < o) → μ1 o = μ o) → pc_hl μ1 h = L1 → Q (some (.inl 1)) μ1)
    (h0 : ∀ μ1 : px_Mem, pc_brF (t - f).toNat (pc_hl μ h) f.toNat = none → (∀ o, (o < h + 1 ∨ h + 4 < o) → μ1 o = μ o) → Q (some (.inl 0)) μ1) : px_C G yX0_bring cX0_bring 5 (some .boolean) 2 [.inr (.inl (some h)), .inl f, .inl t] μ Q := by
  have loop : ∀ (n : Nat) (i : Int) (μ1 : px_Mem), f ≤ i → i + n = t → (∀ o, (o < h + 1 ∨ h + 4 < o) → μ1 o = μ o) → pc_brF (i - f).toNat (pc_hl μ h) f.toNat = some (pc_hl μ1 h) →
      px_J G RX0 cX0_bring 5 (some .boolean) 2 5 [some (.inr (.inl (some h))), some (.inl f), some (.inl t), some (.inl 1), some (.inl i)] [] μ1 Q := by
    intro n
    induction n with
    | zero =>
      intro i μ1 hfi hin hfr hb
      refine px_go (fun p => p == 5) 400 ?_
      simp only [px_lits, false_implies, true_implies, px_dec_ok, px_run_s, px_rules, px_rule_is, px_mats, px_calls, ↓reduceIte, eq_self, Bool.false_eq_true, px_flds, px_o_some, px_fvs, px_pfs, px_cts, px_cls, px_acs_, px_acn, true_and, and_true, true_or, or_true, false_or, or_false, and_self, not_true_eq_false, not_false_eq_true, Classical.not_not, Nat.reduceAdd, Nat.reduceSub, Nat.reduceBEq, Nat.reduceLT, Nat.reduceLeDiff, Nat.lt_add_one, px_tg, Int.cast_ofNat_Int, Int.reduceAdd, Int.reduceSub, Int.reduceMul, Int.reduceToNat, Int.reduceLE, Int.reduceLT, Int.reduceNeg, Int.reduceEq, Bool.or_false, Bool.false_or, Bool.or_true, Bool.true_or, List.length_cons, List.length_nil, List.nil_append, List.cons_append, Option.toList_some, Option.toList_none, reduceCtorEq, Option.some.injEq, Nat.zero_le, Nat.reduceMul, Nat.mul_zero, Nat.add_zero, Int.reduceDiv, Int.reduceMod, Int.toNat_natCast, Nat.lt_irrefl, Int.natCast_add, Int.cast_ofNat_Int, px_mds_RX0_0, dec_X0_bring, hh]
      simp (disch := omega) only [px_le_iff]
      refine ⟨fun _ => ⟨fun _ => ?_, fun q => absurd hf.2 q⟩, fun q => absurd (by omega) q⟩
      exact h1 _ μ1 (by rw [show t - f = i - f by omega]; exact hb) hfr rfl
    | succ n ih =>
      intro i μ1 hfi hin hfr hb
      have hv1 := (pc_brF_keep hb).2.1 hv
      have hs4 : μ1 h 4 = μ h 4 := by rw [hfr h (by omega)]
      have hsn := pc_brF_snoc (i - f).toNat (pc_hl μ h) f.toNat
      rw [hb, Option.bind_some, show f.toNat + (i - f).toNat = i.toNat by omega] at hsn
      refine px_go (fun p => p == 5) 400 ?_
      simp only [px_lits, false_implies, true_implies, px_dec_ok, px_run_s, px_rules, px_rule_is, px_mats, px_calls, ↓reduceIte, eq_self, Bool.false_eq_true, px_flds, px_o_some, px_fvs, px_pfs, px_cts, px_cls, px_acs_, px_acn, true_and, and_true, true_or, or_true, false_or, or_false, and_self, not_true_eq_false, not_false_eq_true, Classical.not_not, Nat.reduceAdd, Nat.reduceSub, Nat.reduceBEq, Nat.reduceLT, Nat.reduceLeDiff, Nat.lt_add_one, px_tg, Int.cast_ofNat_Int, Int.reduceAdd, Int.reduceSub, Int.reduceMul, Int.reduceToNat, Int.reduceLE, Int.reduceLT, Int.reduceNeg, Int.reduceEq, Bool.or_false, Bool.false_or, Bool.or_true, Bool.true_or, List.length_cons, List.length_nil, List.nil_append, List.cons_append, Option.toList_some, Option.toList_none, reduceCtorEq, Option.some.injEq, Nat.zero_le, Nat.reduceMul, Nat.mul_zero, Nat.add_zero, Int.reduceDiv, Int.reduceMod, Int.toNat_natCast, Nat.lt_irrefl, Int.natCast_add, Int.cast_ofNat_Int, px_mds_RX0_0, dec_X0_bring, hh]
      simp (disch := omega) only [px_le_iff]
      refine ⟨fun q => by omega, fun _ => ?_⟩
      refine c_X0_swap hh (by rw [hs4]; exact hn) (by omega) hv1 (fun L2 μ2 e1 e2 e3 => ?_) (fun e1 => ?_)
      · refine px_go (fun p => p == 5) 400 ?_
        simp only [px_lits, false_implies, true_implies, px_dec_ok, px_run_s, px_rules, px_rule_is, px_mats, px_calls, ↓reduceIte, eq_self, Bool.false_eq_true, px_flds, px_o_some, px_fvs, px_pfs, px_cts, px_cls, px_acs_, px_acn, true_and, and_true, true_or, or_true, false_or, or_false, and_self, not_true_eq_false, not_false_eq_true, Classical.not_not, Nat.reduceAdd, Nat.reduceSub, Nat.reduceBEq, Nat.reduceLT, Nat.reduceLeDiff, Nat.lt_add_one, px_tg, Int.cast_ofNat_Int, Int.reduceAdd, Int.reduceSub, Int.reduceMul, Int.reduceToNat, Int.reduceLE, Int.reduceLT, Int.reduceNeg, Int.reduceEq, Bool.or_false, Bool.false_or, Bool.or_true, Bool.true_or, List.length_cons, List.length_nil, List.nil_append, List.cons_append, Option.toList_some, Option.toList_none, reduceCtorEq, Option.some.injEq, Nat.zero_le, Nat.reduceMul, Nat.mul_zero, Nat.add_zero, Int.reduceDiv, Int.reduceMod, Int.toNat_natCast, Nat.lt_irrefl, Int.natCast_add, Int.cast_ofNat_Int, px_mds_RX0_0, dec_X0_bring, hh]
        refine ih (i + 1) μ2 (by omega) (by omega) (fun o ho => by rw [e2 o ho, hfr o ho]) ?_
        rw [show (i + 1 - f).toNat = (i - f).toNat + 1 by omega, hsn, e1, e3]
      · refine px_go (fun p => p == 5) 400 ?_
        simp only [px_lits, false_implies, true_implies, px_dec_ok, px_run_s, px_rules, px_rule_is, px_mats, px_calls, ↓reduceIte, eq_self, Bool.false_eq_true, px_flds, px_o_some, px_fvs, px_pfs, px_cts, px_cls, px_acs_, px_acn, true_and, and_true, true_or, or_true, false_or, or_false, and_self, not_true_eq_false, not_false_eq_true, Classical.not_not, Nat.reduceAdd, Nat.reduceSub, Nat.reduceBEq, Nat.reduceLT, Nat.reduceLeDiff, Nat.lt_add_one, px_tg, Int.cast_ofNat_Int, Int.reduceAdd, Int.reduceSub, Int.reduceMul, Int.reduceToNat, Int.reduceLE, Int.reduceLT, Int.reduceNeg, Int.reduceEq, Bool.or_false, Bool.false_or, Bool.or_true, Bool.true_or, List.length_cons, List.length_nil, List.nil_append, List.cons_append, Option.toList_some, Option.toList_none, reduceCtorEq, Option.some.injEq, Nat.zero_le, Nat.reduceMul, Nat.mul_zero, Nat.add_zero, Int.reduceDiv, Int.reduceMod, Int.toNat_natCast, Nat.lt_irrefl, Int.natCast_add, Int.cast_ofNat_Int, px_mds_RX0_0, dec_X0_bring, hh]
        have hno : pc_brF (t - f).toNat (pc_hl μ h) f.toNat = none := by
          rw [e1] at hsn
          have := pc_brF_none hsn n
          rw [show (i - f).toNat + 1 + n = (t - f).toNat by omega] at this
          exact this
        refine px_go (fun p => p == 31) 400 ?_
        simp only [px_lits, false_implies, true_implies, px_dec_ok, px_run_s, px_rules, px_rule_is, px_mats, px_calls, ↓reduceIte, eq_self, Bool.false_eq_true, px_flds, px_o_some, px_fvs, px_pfs, px_cts, px_cls, px_acs_, px_acn, true_and, and_true, true_or, or_true, false_or, or_false, and_self, not_true_eq_false, not_false_eq_true, Classical.not_not, Nat.reduceAdd, Nat.reduceSub, Nat.reduceBEq, Nat.reduceLT, Nat.reduceLeDiff, Nat.lt_add_one, px_tg, Int.cast_ofNat_Int, Int.reduceAdd, Int.reduceSub, Int.reduceMul, Int.reduceToNat, Int.reduceLE, Int.reduceLT, Int.reduceNeg, Int.reduceEq, Bool.or_false, Bool.false_or, Bool.or_true, Bool.true_or, List.length_cons, List.length_nil, List.nil_append, List.cons_append, Option.toList_some, Option.toList_none, reduceCtorEq, Option.some.injEq, Nat.zero_le, Nat.reduceMul, Nat.mul_zero, Nat.add_zero, Int.reduceDiv, Int.reduceMod, Int.toNat_natCast, Nat.lt_irrefl, Int.natCast_add, Int.cast_ofNat_Int, px_mds_RX0_0, dec_X0_bring, hh]
        simp (disch := omega) only [px_le_iff]
        have fin := h0 μ1 hno hfr
        refine ⟨fun _ => ?_, fun _ => ?_⟩
        · refine px_go (fun _ => false) 400 ?_
          simp only [px_lits, false_implies, true_implies, px_dec_ok, px_run_s, px_rules, px_rule_is, px_mats, px_calls, ↓reduceIte, eq_self, Bool.false_eq_true, px_flds, px_o_some, px_fvs, px_pfs, px_cts, px_cls, px_acs_, px_acn, true_and, and_true, true_or, or_true, false_or, or_false, and_self, not_true_eq_false, not_false_eq_true, Classical.not_not, Nat.reduceAdd, Nat.reduceSub, Nat.reduceBEq, Nat.reduceLT, Nat.reduceLeDiff, Nat.lt_add_one, px_tg, Int.cast_ofNat_Int, Int.reduceAdd, Int.reduceSub, Int.reduceMul, Int.reduceToNat, Int.reduceLE, Int.reduceLT, Int.reduceNeg, Int.reduceEq, Bool.or_false, Bool.false_or, Bool.or_true, Bool.true_or, List.length_cons, List.length_nil, List.nil_append, List.cons_append, Option.toList_some, Option.toList_none, reduceCtorEq, Option.some.injEq, Nat.zero_le, Nat.reduceMul, Nat.mul_zero, Nat.add_zero, Int.reduceDiv, Int.reduceMod, Int.toNat_natCast, Nat.lt_irrefl, Int.natCast_add, Int.cast_ofNat_Int, px_mds_RX0_0, dec_X0_bring, hh]
          simp (disch := omega) only [px_le_iff]
          exact ⟨fun _ => fin, fun q => absurd hf.2 q⟩
        · refine px_go (fun _ => false) 400 ?_
          simp only [px_lits, false_implies, true_implies, px_dec_ok, px_run_s, px_rules, px_rule_is, px_mats, px_calls, ↓reduceIte, eq_self, Bool.false_eq_true, px_flds, px_o_some, px_fvs, px_pfs, px_cts, px_cls, px_acs_, px_acn, true_and, and_true, true_or, or_true, false_or, or_false, and_self, not_true_eq_false, not_false_eq_true, Classical.not_not, Nat.reduceAdd, Nat.reduceSub, Nat.reduceBEq, Nat.reduceLT, Nat.reduceLeDiff, Nat.lt_add_one, px_tg, Int.cast_ofNat_Int, Int.reduceAdd, Int.reduceSub, Int.reduceMul, Int.reduceToNat, Int.reduceLE, Int.reduceLT, Int.reduceNeg, Int.reduceEq, Bool.or_false, Bool.false_or, Bool.or_true, Bool.true_or, List.length_cons, List.length_nil, List.nil_append, List.cons_append, Option.toList_some, Option.toList_none, reduceCtorEq, Option.some.injEq, Nat.zero_le, Nat.reduceMul, Nat.mul_zero, Nat.add_zero, Int.reduceDiv, Int.reduceMod, Int.toNat_natCast, Nat.lt_irrefl, Int.natCast_add, Int.cast_ofNat_Int, px_mds_RX0_0, dec_X0_bring, hh]
          simp (disch := omega) only [px_le_iff]
          exact ⟨fun _ => fin, fun q => absurd hf.2 q⟩
  refine px_enter RX0 (by decide +kernel) rfl (by simp) (by simp [px_c1]) ?_
  simp only [List.map_cons, List.map_nil, List.length_cons, List.length_nil, List.replicate, List.append_nil, Nat.reduceAdd, Nat.reduceSub, List.cons_append, List.nil_append]
  refine px_go (fun p => p == 5) 400 ?_
  simp only [px_lits, false_implies, true_implies, px_dec_ok, px_run_s, px_rules, px_rule_is, px_mats, px_calls, ↓reduceIte, eq_self, Bool.false_eq_true, px_flds, px_o_some, px_fvs, px_pfs, px_cts, px_cls, px_acs_, px_acn, true_and, and_true, true_or, or_true, false_or, or_false, and_self, not_true_eq_false, not_false_eq_true, Classical.not_not, Nat.reduceAdd, Nat.reduceSub, Nat.reduceBEq, Nat.reduceLT, Nat.reduceLeDiff, Nat.lt_add_one, px_tg, Int.cast_ofNat_Int, Int.reduceAdd, Int.reduceSub, Int.reduceMul, Int.reduceToNat, Int.reduceLE, Int.reduceLT, Int.reduceNeg, Int.reduceEq, Bool.or_false, Bool.false_or, Bool.or_true, Bool.true_or, List.length_cons, List.length_nil, List.nil_append, List.cons_append, Option.toList_some, Option.toList_none, reduceCtorEq, Option.some.injEq, Nat.zero_le, Nat.reduceMul, Nat.mul_zero, Nat.add_zero, Int.reduceDiv, Int.reduceMod, Int.toNat_natCast, Nat.lt_irrefl, Int.natCast_add, Int.cast_ofNat_Int, px_mds_RX0_0, dec_X0_bring, hh]
  exact loop (t - f).toNat f μ (by omega) (by omega) (fun _ _ => rfl) (by rw [show (f - f).toNat = 0 by omega]; rfl)
-- towards the front
set_option maxHeartbeats 4000000 in
set_option maxRecDepth 100000 in
theorem c_X0_bringB {G : px_G} {h : Nat} {f t : Int} {μ : px_Mem} {Q : Option px_X → px_Mem → Prop} (hh : px_kd h = 0) (hn : 0 ≤ μ h 4 ∧ μ h 4 ≤ 16) (hf : 0 ≤ t ∧ t ≤ f) (ht : f < μ h 4) (hv : pc_V (pc_hl μ h))
    (h1 : ∀ (L1 : List pc_Ch) (μ1 : px_Mem), pc_brB (f - t).toNat (pc_hl μ h) f.toNat = some L1 → (∀ o, (o < h + 1 ∨ h + 4 < o) → μ1 o = μ o) → pc_hl μ1 h = L1 → Q (some (.inl 1)) μ1)
    (h0 : ∀ μ1 : px_Mem, pc_brB (f - t).toNat (pc_hl μ h) f.toNat = none → (∀ o, (o < h + 1 ∨ h + 4 < o) → μ1 o = μ o) → Q (some (.inl 0)) μ1) : px_C G yX0_bring cX0_bring 5 (some .boolean) 2 [.inr (.inl (some h)), .inl f, .inl t] μ Q := by
  have loop : ∀ (n : Nat) (i : Int) (μ1 : px_Mem), i ≤ f → t + n = i → (∀ o, (o < h + 1 ∨ h + 4 < o) → μ1 o = μ o) → pc_brB (f - i).toNat (pc_hl μ h) f.toNat = some (pc_hl μ1 h) →
      px_J G RX0 cX0_bring 5 (some .boolean) 2 31 [some (.inr (.inl (some h))), some (.inl f), some (.inl t), some (.inl 1), some (.inl i)] [] μ1 Q := by
    intro n
    induction n with
    | zero =>
      intro i μ1 hfi hin hfr hb
      refine px_go (fun p => p == 31) 400 ?_
      simp only [px_lits, false_implies, true_implies, px_dec_ok, px_run_s, px_rules, px_rule_is, px_mats, px_calls, ↓reduceIte, eq_self, Bool.false_eq_true, px_flds, px_o_some, px_fvs, px_pfs, px_cts, px_cls, px_acs_, px_acn, true_and, and_true, true_or, or_true, false_or, or_false, and_self, not_true_eq_false, not_false_eq_true, Classical.not_not, Nat.reduceAdd, Nat.reduceSub, Nat.reduceBEq, Nat.reduceLT, Nat.reduceLeDiff, Nat.lt_add_one, px_tg, Int.cast_ofNat_Int, Int.reduceAdd, Int.reduceSub, Int.reduceMul, Int.reduceToNat, Int.reduceLE, Int.reduceLT, Int.reduceNeg, Int.reduceEq, Bool.or_false, Bool.false_or, Bool.or_true, Bool.true_or, List.length_cons, List.length_nil, List.nil_append, List.cons_append, Option.toList_some, Option.toList_none, reduceCtorEq, Option.some.injEq, Nat.zero_le, Nat.reduceMul, Nat.mul_zero, Nat.add_zero, Int.reduceDiv, Int.reduceMod, Int.toNat_natCast, Nat.lt_irrefl, Int.natCast_add, Int.cast_ofNat_Int, px_mds_RX0_0, dec_X0_bring, hh]
      simp (disch := omega) only [px_le_iff]
      refine ⟨fun _ => h1 _ μ1 (by rw [show f - t = f - i by omega]; exact hb) hfr rfl, fun q => absurd (by omega) q⟩
    | succ n ih =>
      intro i μ1 hfi hin hfr hb
      have hv1 := (pc_brB_keep hb).2.1 hv
      have hs4 : μ1 h 4 = μ h 4 := by rw [hfr h (by omega)]
      have hsn := pc_brB_snoc (f - i).toNat (pc_hl μ h) f.toNat
      rw [hb, Option.bind_some, show f.toNat - (f - i).toNat - 1 = (i - 1).toNat by omega] at hsn
      refine px_go (fun p => p == 31) 400 ?_
      simp only [px_lits, false_implies, true_implies, px_dec_ok, px_run_s, px_rules, px_rule_is, px_mats, px_calls, ↓reduceIte, eq_self, Bool.false_eq_true, px_flds, px_o_some, px_fvs, px_pfs, px_cts, px_cls, px_acs_, px_acn, true_and, and_true, true_or, or_true, false_or, or_false, and_self, not_true_eq_false, not_false_eq_true, Classical.not_not, Nat.reduceAdd, Nat.reduceSub, Nat.reduceBEq, Nat.reduceLT, Nat.reduceLeDiff, Nat.lt_add_one, px_tg, Int.cast_ofNat_Int, Int.reduceAdd, Int.reduceSub, Int.reduceMul, Int.reduceToNat, Int.reduceLE, Int.reduceLT, Int.reduceNeg, Int.reduceEq, Bool.or_false, Bool.false_or, Bool.or_true, Bool.true_or, List.length_cons, List.length_nil, List.nil_append, List.cons_append, Option.toList_some, Option.toList_none, reduceCtorEq, Option.some.injEq, Nat.zero_le, Nat.reduceMul, Nat.mul_zero, Nat.add_zero, Int.reduceDiv, Int.reduceMod, Int.toNat_natCast, Nat.lt_irrefl, Int.natCast_add, Int.cast_ofNat_Int, px_mds_RX0_0, dec_X0_bring, hh]
      simp (disch := omega) only [px_le_iff]
      refine ⟨fun q => by omega, fun _ => ?_⟩
      refine c_X0_swap hh (by rw [hs4]; exact hn) (by omega) hv1 (fun L2 μ2 e1 e2 e3 => ?_) (fun e1 => ?_)
      · refine px_go (fun p => p == 31) 400 ?_
        simp only [px_lits, false_implies, true_implies, px_dec_ok, px_run_s, px_rules, px_rule_is, px_mats, px_calls, ↓reduceIte, eq_self, Bool.false_eq_true, px_flds, px_o_some, px_fvs, px_pfs, px_cts, px_cls, px_acs_, px_acn, true_and, and_true, true_or, or_true, false_or, or_false, and_self, not_true_eq_false, not_false_eq_true, Classical.not_not, Nat.reduceAdd, Nat.reduceSub, Nat.reduceBEq, Nat.reduceLT, Nat.reduceLeDiff, Nat.lt_add_one, px_tg, Int.cast_ofNat_Int, Int.reduceAdd, Int.reduceSub, Int.reduceMul, Int.reduceToNat, Int.reduceLE, Int.reduceLT, Int.reduceNeg, Int.reduceEq, Bool.or_false, Bool.false_or, Bool.or_true, Bool.true_or, List.length_cons, List.length_nil, List.nil_append, List.cons_append, Option.toList_some, Option.toList_none, reduceCtorEq, Option.some.injEq, Nat.zero_le, Nat.reduceMul, Nat.mul_zero, Nat.add_zero, Int.reduceDiv, Int.reduceMod, Int.toNat_natCast, Nat.lt_irrefl, Int.natCast_add, Int.cast_ofNat_Int, px_mds_RX0_0, dec_X0_bring, hh]
        refine ih (i + -1) μ2 (by omega) (by omega) (fun o ho => by rw [e2 o ho, hfr o ho]) ?_
        rw [show (f - (i + -1)).toNat = (f - i).toNat + 1 by omega, hsn, e1, e3]
      · have hno : pc_brB (f - t).toNat (pc_hl μ h) f.toNat = none := by
          rw [e1] at hsn
          have := pc_brB_none hsn n
          rw [show (f - i).toNat + 1 + n = (f - t).toNat by omega] at this
          exact this
        have fin := h0 μ1 hno hfr
        refine px_go (fun p => p == 31) 400 ?_
        simp only [px_lits, false_implies, true_implies, px_dec_ok, px_run_s, px_rules, px_rule_is, px_mats, px_calls, ↓reduceIte, eq_self, Bool.false_eq_true, px_flds, px_o_some, px_fvs, px_pfs, px_cts, px_cls, px_acs_, px_acn, true_and, and_true, true_or, or_true, false_or, or_false, and_self, not_true_eq_false, not_false_eq_true, Classical.not_not, Nat.reduceAdd, Nat.reduceSub, Nat.reduceBEq, Nat.reduceLT, Nat.reduceLeDiff, Nat.lt_add_one, px_tg, Int.cast_ofNat_Int, Int.reduceAdd, Int.reduceSub, Int.reduceMul, Int.reduceToNat, Int.reduceLE, Int.reduceLT, Int.reduceNeg, Int.reduceEq, Bool.or_false, Bool.false_or, Bool.or_true, Bool.true_or, List.length_cons, List.length_nil, List.nil_append, List.cons_append, Option.toList_some, Option.toList_none, reduceCtorEq, Option.some.injEq, Nat.zero_le, Nat.reduceMul, Nat.mul_zero, Nat.add_zero, Int.reduceDiv, Int.reduceMod, Int.toNat_natCast, Nat.lt_irrefl, Int.natCast_add, Int.cast_ofNat_Int, px_mds_RX0_0, dec_X0_bring, hh]
        refine px_go (fun _ => false) 400 ?_
        simp only [px_lits, false_implies, true_implies, px_dec_ok, px_run_s, px_rules, px_rule_is, px_mats, px_calls, ↓reduceIte, eq_self, Bool.false_eq_true, px_flds, px_o_some, px_fvs, px_pfs, px_cts, px_cls, px_acs_, px_acn, true_and, and_true, true_or, or_true, false_or, or_false, and_self, not_true_eq_false, not_false_eq_true, Classical.not_not, Nat.reduceAdd, Nat.reduceSub, Nat.reduceBEq, Nat.reduceLT, Nat.reduceLeDiff, Nat.lt_add_one, px_tg, Int.cast_ofNat_Int, Int.reduceAdd, Int.reduceSub, Int.reduceMul, Int.reduceToNat, Int.reduceLE, Int.reduceLT, Int.reduceNeg, Int.reduceEq, Bool.or_false, Bool.false_or, Bool.or_true, Bool.true_or, List.length_cons, List.length_nil, List.nil_append, List.cons_append, Option.toList_some, Option.toList_none, reduceCtorEq, Option.some.injEq, Nat.zero_le, Nat.reduceMul, Nat.mul_zero, Nat.add_zero, Int.reduceDiv, Int.reduceMod, Int.toNat_natCast, Nat.lt_irrefl, Int.natCast_add, Int.cast_ofNat_Int, px_mds_RX0_0, dec_X0_bring, hh]
        simp (disch := omega) only [px_le_iff]
        exact ⟨fun _ => fin, fun _ => fin⟩
  refine px_enter RX0 (by decide +kernel) rfl (by simp) (by simp [px_c1]) ?_
  simp only [List.map_cons, List.map_nil, List.length_cons, List.length_nil, List.replicate, List.append_nil, Nat.reduceAdd, Nat.reduceSub, List.cons_append, List.nil_append]
  refine px_go (fun p => p == 5) 400 ?_
  simp only [px_lits, false_implies, true_implies, px_dec_ok, px_run_s, px_rules, px_rule_is, px_mats, px_calls, ↓reduceIte, eq_self, Bool.false_eq_true, px_flds, px_o_some, px_fvs, px_pfs, px_cts, px_cls, px_acs_, px_acn, true_and, and_true, true_or, or_true, false_or, or_false, and_self, not_true_eq_false, not_false_eq_true, Classical.not_not, Nat.reduceAdd, Nat.reduceSub, Nat.reduceBEq, Nat.reduceLT, Nat.reduceLeDiff, Nat.lt_add_one, px_tg, Int.cast_ofNat_Int, Int.reduceAdd, Int.reduceSub, Int.reduceMul, Int.reduceToNat, Int.reduceLE, Int.reduceLT, Int.reduceNeg, Int.reduceEq, Bool.or_false, Bool.false_or, Bool.or_true, Bool.true_or, List.length_cons, List.length_nil, List.nil_append, List.cons_append, Option.toList_some, Option.toList_none, reduceCtorEq, Option.some.injEq, Nat.zero_le, Nat.reduceMul, Nat.mul_zero, Nat.add_zero, Int.reduceDiv, Int.reduceMod, Int.toNat_natCast, Nat.lt_irrefl, Int.natCast_add, Int.cast_ofNat_Int, px_mds_RX0_0, dec_X0_bring, hh]
  refine px_go (fun p => p == 31) 400 ?_
  simp only [px_lits, false_implies, true_implies, px_dec_ok, px_run_s, px_rules, px_rule_is, px_mats, px_calls, ↓reduceIte, eq_self, Bool.false_eq_true, px_flds, px_o_some, px_fvs, px_pfs, px_cts, px_cls, px_acs_, px_acn, true_and, and_true, true_or, or_true, false_or, or_false, and_self, not_true_eq_false, not_false_eq_true, Classical.not_not, Nat.reduceAdd, Nat.reduceSub, Nat.reduceBEq, Nat.reduceLT, Nat.reduceLeDiff, Nat.lt_add_one, px_tg, Int.cast_ofNat_Int, Int.reduceAdd, Int.reduceSub, Int.reduceMul, Int.reduceToNat, Int.reduceLE, Int.reduceLT, Int.reduceNeg, Int.reduceEq, Bool.or_false, Bool.false_or, Bool.or_true, Bool.true_or, List.length_cons, List.length_nil, List.nil_append, List.cons_append, Option.toList_some, Option.toList_none, reduceCtorEq, Option.some.injEq, Nat.zero_le, Nat.reduceMul, Nat.mul_zero, Nat.add_zero, Int.reduceDiv, Int.reduceMod, Int.toNat_natCast, Nat.lt_irrefl, Int.natCast_add, Int.cast_ofNat_Int, px_mds_RX0_0, dec_X0_bring, hh]
  simp (disch := omega) only [px_le_iff]
  refine ⟨fun _ => ?_, fun q => absurd hf.2 q⟩
  exact loop (f - t).toNat f μ (by omega) (by omega) (fun _ _ => rfl) (by rw [show (f - f).toNat = 0 by omega]; rfl)
end
section
/-! ===== what one needs; what is brought to the front; sets ===== -/
theorem pc_sw_loc {P X R : List pc_Ch} {i : Nat} (h : i + 1 < X.length) : pc_sw (P ++ X ++ R) (P.length + i) = (pc_sw X i).map (fun Y => P ++ Y ++ R) := by
  have ha : X[i]? = some X[i] := List.getElem?_eq_getElem (by omega)
  have hb : X[i + 1]? = some X[i + 1] := List.getElem?_eq_getElem h
  have ha1 : (P ++ X ++ R)[P.length + i]? = some X[i] := by
    rw [List.append_assoc, List.getElem?_append_right (by omega), show P.length + i - P.length = i by omega, List.getElem?_append_left (by omega), ha]
  have hb1 : (P ++ X ++ R)[P.length + i + 1]? = some X[i + 1] := by
    rw [List.append_assoc, List.getElem?_append_right (by omega), show P.length + i + 1 - P.length = i + 1 by omega, List.getElem?_append_left (by omega), hb]
  rw [pc_sw_at ha1 hb1, pc_sw_at ha hb]
  cases pc_sw2 X[i] X[i + 1] with
  | none => rfl
  | some q =>
    simp only [Option.map_some, Option.some.injEq]
    rw [List.append_assoc, List.set_append_right _ _ (by omega), List.set_append_right _ _ (by omega), show P.length + i - P.length = i by omega, show P.length + i + 1 - P.length = i + 1 by omega, List.set_append_left _ _ (by omega), List.set_append_left _ _ (by rw [List.length_set]; omega), List.append_assoc]
theorem pc_brF_loc {P R : List pc_Ch} : ∀ (n : Nat) (X : List pc_Ch) (i : Nat), i + n < X.length → pc_brF n (P ++ X ++ R) (P.length + i) = (pc_brF n X i).map (fun Y => P ++ Y ++ R)
  | 0, X, i, h => rfl
  | n + 1, X, i, h => by
    unfold pc_brF
    rw [pc_sw_loc (by omega)]
    cases h1 : pc_sw X i with
    | none => rfl
    | some Y =>
      simp only [Option.map_some, Option.bind_some]
      have := pc_brF_loc (P := P) (R := R) n Y (i + 1) (by rw [pc_sw_len h1]; omega)
      rw [show P.length + (i + 1) = P.length + i + 1 by omega] at this
      exact this
/-- what the last one of a row needs, and itself, in their order, with the places that they have side by side -/
def pc_gb : List pc_Ch → List pc_Ch
  | [] => []
  | [c] => [c]
  | c :: d :: X => match pc_brF (pc_gb (d :: X)).length (c :: pc_gb (d :: X)) 0 with
    | some T => T.take (pc_gb (d :: X)).length
    | none => c :: pc_gb (d :: X)
theorem pc_gb_ne {X : List pc_Ch} (h : X ≠ []) : 0 < (pc_gb X).length := by
  induction X with
  | nil => exact absurd rfl h
  | cons c X ih =>
    cases X with
    | nil => exact Nat.zero_lt_one
    | cons d X =>
      have := ih (by simp)
      unfold pc_gb
      split
      · rename_i T hT
        have h9 := (pc_brF_keep hT).1
        rw [List.length_take, h9, List.length_cons]
        omega
      · simp
theorem pc_gb_step {c : pc_Ch} {X : List pc_Ch} (h : X ≠ []) : pc_gb (c :: X) = match pc_brF (pc_gb X).length (c :: pc_gb X) 0 with
    | some T => T.take (pc_gb X).length
    | none => c :: pc_gb X := by
  cases X with
  | nil => exact absurd rfl h
  | cons d X => rfl
set_option maxHeartbeats 4000000 in
set_option maxRecDepth 100000 in
theorem c_X0_gather {G : px_G} {h : Nat} {a f : Int} {μ : px_Mem} {Q : Option px_X → px_Mem → Prop} (hh : px_kd h = 0) (hn : 0 ≤ μ h 4 ∧ μ h 4 ≤ 16) (hf : 0 ≤ f ∧ f ≤ a) (ha : a < μ h 4) (hv : pc_V (pc_hl μ h))
    (h1 : ∀ (B R : List pc_Ch) (μ1 : px_Mem), B = pc_gb (((pc_hl μ h).take (a.toNat + 1)).drop f.toNat) → (∀ o, (o < h + 1 ∨ h + 4 < o) → μ1 o = μ o) → pc_hl μ1 h = (pc_hl μ h).take f.toNat ++ B ++ R → pc_V (pc_hl μ1 h) → Q (some (.inl (B.length - 1))) μ1) : px_C G yX0_gather cX0_gather 5 (some .int) 3 [.inr (.inl (some h)), .inl a, .inl f] μ Q := by
  have hlen : (pc_hl μ h).length = (μ h 4).toNat := pc_hl_len
  have loop : ∀ (n : Nat) (i last : Int) (B R : List pc_Ch) (μ1 : px_Mem), f ≤ i + 1 → i < a → i + 1 = f + n → B = pc_gb (((pc_hl μ h).take (a.toNat + 1)).drop (i + 1).toNat) → last = i + B.length → (∀ o, (o < h + 1 ∨ h + 4 < o) → μ1 o = μ o) → pc_hl μ1 h = (pc_hl μ h).take (i + 1).toNat ++ B ++ R → pc_V (pc_hl μ1 h) →
      px_J G RX0 cX0_gather 5 (some .int) 3 7 [some (.inr (.inl (some h))), some (.inl a), some (.inl f), some (.inl last), some (.inl i)] [] μ1 Q := by
    intro n
    induction n with
    | zero =>
      intro i last B R μ1 h2 h3 h4 h5 h6 h7 h8 h9
      have hB : B.length ≤ 16 := by
        have e1 := congrArg List.length h8
        simp only [List.length_append, pc_hl_len] at e1
        rw [h7 h (by omega)] at e1
        omega
      refine px_go (fun p => p == 7) 400 ?_
      simp only [px_lits, false_implies, true_implies, px_dec_ok, px_run_s, px_rules, px_rule_is, px_mats, px_calls, ↓reduceIte, eq_self, Bool.false_eq_true, px_flds, px_o_some, px_fvs, px_pfs, px_cts, px_cls, px_acs_, px_acn, true_and, and_true, true_or, or_true, false_or, or_false, and_self, not_true_eq_false, not_false_eq_true, Classical.not_not, Nat.reduceAdd, Nat.reduceSub, Nat.reduceBEq, Nat.reduceLT, Nat.reduceLeDiff, Nat.lt_add_one, px_tg, Int.cast_ofNat_Int, Int.reduceAdd, Int.reduceSub, Int.reduceMul, Int.reduceToNat, Int.reduceLE, Int.reduceLT, Int.reduceNeg, Int.reduceEq, Bool.or_false, Bool.false_or, Bool.or_true, Bool.true_or, List.length_cons, List.length_nil, List.nil_append, List.cons_append, Option.toList_some, Option.toList_none, reduceCtorEq, Option.some.injEq, Nat.zero_le, Nat.reduceMul, Nat.mul_zero, Nat.add_zero, Int.reduceDiv, Int.reduceMod, Int.toNat_natCast, Nat.lt_irrefl, Int.natCast_add, Int.cast_ofNat_Int, px_mds_RX0_0, dec_X0_gather, hh]
      simp (disch := omega) only [px_lt_iff]
      refine ⟨fun _ => ?_, fun q => absurd (by omega) q⟩
      have e1 : i + 1 = f := by omega
      rw [e1] at h5 h8
      have := h1 B R μ1 h5 h7 h8 h9
      rw [show last - f = (B.length : Int) - 1 by omega]
      exact this
    | succ n ih =>
      intro i last B R μ1 h2 h3 h4 h5 h6 h7 h8 h9
      have hs4 : μ1 h 4 = μ h 4 := by rw [h7 h (by omega)]
      have e0 := congrArg List.length h8
      simp only [List.length_append, pc_hl_len, hs4, List.length_take] at e0
      have hXn : ((pc_hl μ h).take (a.toNat + 1)).drop (i + 1).toNat ≠ [] := by
        intro q
        have := congrArg List.length q
        simp only [List.length_drop, List.length_take, hlen, List.length_nil] at this
        omega
      have hBp : 0 < B.length := by rw [h5]; exact pc_gb_ne hXn
      -- the one at i
      obtain ⟨c, hc⟩ : ∃ c, (pc_hl μ h)[i.toNat]? = some c := ⟨_, List.getElem?_eq_getElem (by rw [hlen]; omega)⟩
      have hci := (List.getElem?_eq_some_iff.mp hc).1
      have ht : (pc_hl μ h).take (i + 1).toNat = (pc_hl μ h).take i.toNat ++ [c] := by
        rw [show (i + 1).toNat = i.toNat + 1 by omega, List.take_add_one, hc]
        rfl
      have hX : ((pc_hl μ h).take (a.toNat + 1)).drop i.toNat = c :: ((pc_hl μ h).take (a.toNat + 1)).drop (i + 1).toNat := by
        rw [show (i + 1).toNat = i.toNat + 1 by omega]
        refine (List.drop_eq_getElem_cons (by rw [List.length_take]; omega)).trans ?_
        congr 1
        have := (List.getElem?_eq_some_iff.mp hc).2
        rw [List.getElem_take]
        exact this
      have hPl : ((pc_hl μ h).take i.toNat).length = i.toNat := by rw [List.length_take]; omega
      have h8a : pc_hl μ1 h = (pc_hl μ h).take i.toNat ++ (c :: B) ++ R := by
        rw [h8, ht]
        simp
      have hloc := pc_brF_loc (P := (pc_hl μ h).take i.toNat) (R := R) B.length (c :: B) 0 (by simp)
      rw [hPl, Nat.add_zero, ← h8a] at hloc
      have hst := pc_gb_step (c := c) hXn
      rw [← h5, ← hX] at hst
      have hll : (last - i).toNat = B.length := by omega
      refine px_go (fun p => p == 7) 400 ?_
      simp only [px_lits, false_implies, true_implies, px_dec_ok, px_run_s, px_rules, px_rule_is, px_mats, px_calls, ↓reduceIte, eq_self, Bool.false_eq_true, px_flds, px_o_some, px_fvs, px_pfs, px_cts, px_cls, px_acs_, px_acn, true_and, and_true, true_or, or_true, false_or, or_false, and_self, not_true_eq_false, not_false_eq_true, Classical.not_not, Nat.reduceAdd, Nat.reduceSub, Nat.reduceBEq, Nat.reduceLT, Nat.reduceLeDiff, Nat.lt_add_one, px_tg, Int.cast_ofNat_Int, Int.reduceAdd, Int.reduceSub, Int.reduceMul, Int.reduceToNat, Int.reduceLE, Int.reduceLT, Int.reduceNeg, Int.reduceEq, Bool.or_false, Bool.false_or, Bool.or_true, Bool.true_or, List.length_cons, List.length_nil, List.nil_append, List.cons_append, Option.toList_some, Option.toList_none, reduceCtorEq, Option.some.injEq, Nat.zero_le, Nat.reduceMul, Nat.mul_zero, Nat.add_zero, Int.reduceDiv, Int.reduceMod, Int.toNat_natCast, Nat.lt_irrefl, Int.natCast_add, Int.cast_ofNat_Int, px_mds_RX0_0, dec_X0_gather, hh]
      simp (disch := omega) only [px_lt_iff]
      refine ⟨fun q => by omega, fun _ => ?_⟩
      refine c_X0_canGoBehind hh (by rw [hs4]; exact hn) (by omega) (by omega) h9 (fun L1 q => ?_) (fun q => ?_)
      · refine px_go (fun p => p == 7) 400 ?_
        simp only [px_lits, false_implies, true_implies, px_dec_ok, px_run_s, px_rules, px_rule_is, px_mats, px_calls, ↓reduceIte, eq_self, Bool.false_eq_true, px_flds, px_o_some, px_fvs, px_pfs, px_cts, px_cls, px_acs_, px_acn, true_and, and_true, true_or, or_true, false_or, or_false, and_self, not_true_eq_false, not_false_eq_true, Classical.not_not, Nat.reduceAdd, Nat.reduceSub, Nat.reduceBEq, Nat.reduceLT, Nat.reduceLeDiff, Nat.lt_add_one, px_tg, Int.cast_ofNat_Int, Int.reduceAdd, Int.reduceSub, Int.reduceMul, Int.reduceToNat, Int.reduceLE, Int.reduceLT, Int.reduceNeg, Int.reduceEq, Bool.or_false, Bool.false_or, Bool.or_true, Bool.true_or, List.length_cons, List.length_nil, List.nil_append, List.cons_append, Option.toList_some, Option.toList_none, reduceCtorEq, Option.some.injEq, Nat.zero_le, Nat.reduceMul, Nat.mul_zero, Nat.add_zero, Int.reduceDiv, Int.reduceMod, Int.toNat_natCast, Nat.lt_irrefl, Int.natCast_add, Int.cast_ofNat_Int, px_mds_RX0_0, dec_X0_gather, hh]
        refine c_X0_bringF hh (by rw [hs4]; exact hn) (by omega) (by omega) h9 (fun L2 μ2 q1 q2 q3 => ?_) (fun μ2 q1 => ?_)
        · refine px_go (fun p => p == 7) 400 ?_
          simp only [px_lits, false_implies, true_implies, px_dec_ok, px_run_s, px_rules, px_rule_is, px_mats, px_calls, ↓reduceIte, eq_self, Bool.false_eq_true, px_flds, px_o_some, px_fvs, px_pfs, px_cts, px_cls, px_acs_, px_acn, true_and, and_true, true_or, or_true, false_or, or_false, and_self, not_true_eq_false, not_false_eq_true, Classical.not_not, Nat.reduceAdd, Nat.reduceSub, Nat.reduceBEq, Nat.reduceLT, Nat.reduceLeDiff, Nat.lt_add_one, px_tg, Int.cast_ofNat_Int, Int.reduceAdd, Int.reduceSub, Int.reduceMul, Int.reduceToNat, Int.reduceLE, Int.reduceLT, Int.reduceNeg, Int.reduceEq, Bool.or_false, Bool.false_or, Bool.or_true, Bool.true_or, List.length_cons, List.length_nil, List.nil_append, List.cons_append, Option.toList_some, Option.toList_none, reduceCtorEq, Option.some.injEq, Nat.zero_le, Nat.reduceMul, Nat.mul_zero, Nat.add_zero, Int.reduceDiv, Int.reduceMod, Int.toNat_natCast, Nat.lt_irrefl, Int.natCast_add, Int.cast_ofNat_Int, px_mds_RX0_0, dec_X0_gather, hh]
          rw [hll, hloc] at q1
          cases hT : pc_brF B.length (c :: B) 0 with
          | none => rw [hT] at q1; cases q1
          | some T =>
            rw [hT] at q1 hst
            simp only [Option.map_some, Option.some.injEq] at q1
            dsimp only at hst
            have hTl := (pc_brF_keep hT).1
            rw [List.length_cons] at hTl
            refine ih (i + -1) (last + -1) (T.take B.length) (T.drop B.length ++ R) μ2 (by omega) (by omega) (by omega) (by rw [show (i + -1 + 1).toNat = i.toNat by omega]; exact hst.symm) (by rw [List.length_take, hTl]; omega) (fun o ho => by rw [q2 o ho, h7 o ho]) ?_ ?_
            · rw [q3, ← q1, show (i + -1 + 1).toNat = i.toNat by omega]
              simp only [List.append_assoc]
              rw [← List.append_assoc (List.take B.length T), List.take_append_drop]
            · rw [q3]
              have hb2 : pc_brF B.length (pc_hl μ1 h) i.toNat = some L2 := by rw [hloc, hT, ← q1]; rfl
              exact (pc_brF_keep hb2).2.1 h9
        · rw [q] at q1
          cases q1
      · refine px_go (fun p => p == 7) 400 ?_
        simp only [px_lits, false_implies, true_implies, px_dec_ok, px_run_s, px_rules, px_rule_is, px_mats, px_calls, ↓reduceIte, eq_self, Bool.false_eq_true, px_flds, px_o_some, px_fvs, px_pfs, px_cts, px_cls, px_acs_, px_acn, true_and, and_true, true_or, or_true, false_or, or_false, and_self, not_true_eq_false, not_false_eq_true, Classical.not_not, Nat.reduceAdd, Nat.reduceSub, Nat.reduceBEq, Nat.reduceLT, Nat.reduceLeDiff, Nat.lt_add_one, px_tg, Int.cast_ofNat_Int, Int.reduceAdd, Int.reduceSub, Int.reduceMul, Int.reduceToNat, Int.reduceLE, Int.reduceLT, Int.reduceNeg, Int.reduceEq, Bool.or_false, Bool.false_or, Bool.or_true, Bool.true_or, List.length_cons, List.length_nil, List.nil_append, List.cons_append, Option.toList_some, Option.toList_none, reduceCtorEq, Option.some.injEq, Nat.zero_le, Nat.reduceMul, Nat.mul_zero, Nat.add_zero, Int.reduceDiv, Int.reduceMod, Int.toNat_natCast, Nat.lt_irrefl, Int.natCast_add, Int.cast_ofNat_Int, px_mds_RX0_0, dec_X0_gather, hh]
        rw [hll, hloc] at q
        have hT : pc_brF B.length (c :: B) 0 = none := by
          cases hT : pc_brF B.length (c :: B) 0 with
          | none => rfl
          | some T => rw [hT] at q; cases q
        rw [hT] at hst
        dsimp only at hst
        refine ih (i + -1) last (c :: B) R μ1 (by omega) (by omega) (by omega) (by rw [show (i + -1 + 1).toNat = i.toNat by omega]; exact hst.symm) (by rw [List.length_cons]; omega) h7 ?_ h9
        rw [h8a, show (i + -1 + 1).toNat = i.toNat by omega]
  obtain ⟨c, hc⟩ : ∃ c, (pc_hl μ h)[a.toNat]? = some c := ⟨_, List.getElem?_eq_getElem (by rw [hlen]; omega)⟩
  have hci := (List.getElem?_eq_some_iff.mp hc).1
  refine px_enter RX0 (by decide +kernel) rfl (by simp) (by simp [px_c1]) ?_
  simp only [List.map_cons, List.map_nil, List.length_cons, List.length_nil, List.replicate, List.append_nil, Nat.reduceAdd, Nat.reduceSub, List.cons_append, List.nil_append]
  refine px_go (fun p => p == 7) 400 ?_
  simp only [px_lits, false_implies, true_implies, px_dec_ok, px_run_s, px_rules, px_rule_is, px_mats, px_calls, ↓reduceIte, eq_self, Bool.false_eq_true, px_flds, px_o_some, px_fvs, px_pfs, px_cts, px_cls, px_acs_, px_acn, true_and, and_true, true_or, or_true, false_or, or_false, and_self, not_true_eq_false, not_false_eq_true, Classical.not_not, Nat.reduceAdd, Nat.reduceSub, Nat.reduceBEq, Nat.reduceLT, Nat.reduceLeDiff, Nat.lt_add_one, px_tg, Int.cast_ofNat_Int, Int.reduceAdd, Int.reduceSub, Int.reduceMul, Int.reduceToNat, Int.reduceLE, Int.reduceLT, Int.reduceNeg, Int.reduceEq, Bool.or_false, Bool.false_or, Bool.or_true, Bool.true_or, List.length_cons, List.length_nil, List.nil_append, List.cons_append, Option.toList_some, Option.toList_none, reduceCtorEq, Option.some.injEq, Nat.zero_le, Nat.reduceMul, Nat.mul_zero, Nat.add_zero, Int.reduceDiv, Int.reduceMod, Int.toNat_natCast, Nat.lt_irrefl, Int.natCast_add, Int.cast_ofNat_Int, px_mds_RX0_0, dec_X0_gather, hh]
  refine loop (a - f).toNat (a - 1) a [c] ((pc_hl μ h).drop (a.toNat + 1)) μ (by omega) (by omega) (by omega) ?_ (by simp) (fun _ _ => rfl) ?_ hv
  · rw [show (a - 1 + 1).toNat = a.toNat by omega]
    have : ((pc_hl μ h).take (a.toNat + 1)).drop a.toNat = [c] := by
      rw [List.take_add_one, hc, List.drop_append_of_le_length (by rw [List.length_take]; omega), List.drop_eq_nil_of_le (by rw [List.length_take]; omega)]
      rfl
    rw [this]
    rfl
  · rw [show (a - 1 + 1).toNat = a.toNat by omega]
    have := List.take_append_drop (a.toNat + 1) (pc_hl μ h)
    rw [List.take_add_one, hc] at this
    exact this.symm
theorem px_and_r (x y : Int) : -2147483648 ≤ px_and x y ∧ px_and x y < 2147483648 := ⟨Int32.le_toInt _, Int32.toInt_lt _⟩
theorem px_or_r (x y : Int) : -2147483648 ≤ px_or x y ∧ px_or x y < 2147483648 := ⟨Int32.le_toInt _, Int32.toInt_lt _⟩
/-- those of a set are brought to the front, in their order -/
def pc_fr (set : Int) : Nat → Nat → List pc_Ch → Nat → Option (List pc_Ch × Nat)
  | 0, _, L, f => some (L, f)
  | n + 1, i, L, f => match L[i]? with
    | none => none
    | some c => if px_and (px_shr set c.1) 1 = 1 then (pc_brB (i - f) L i).bind (fun L1 => pc_fr set n (i + 1) L1 (f + 1)) else pc_fr set n (i + 1) L f
theorem pc_fr_step {set : Int} {n i : Nat} {L : List pc_Ch} {f : Nat} {c : pc_Ch} (h : L[i]? = some c) : pc_fr set (n + 1) i L f = if px_and (px_shr set c.1) 1 = 1 then (pc_brB (i - f) L i).bind (fun L1 => pc_fr set n (i + 1) L1 (f + 1)) else pc_fr set n (i + 1) L f := by
  show (match L[i]? with
    | none => none
    | some c => if px_and (px_shr set c.1) 1 = 1 then (pc_brB (i - f) L i).bind (fun L1 => pc_fr set n (i + 1) L1 (f + 1)) else pc_fr set n (i + 1) L f) = _
  rw [h]
set_option maxHeartbeats 4000000 in
set_option maxRecDepth 100000 in
theorem c_X0_bringToFront {G : px_G} {h : Nat} {set : Int} {μ : px_Mem} {Q : Option px_X → px_Mem → Prop} (hh : px_kd h = 0) (hn : 0 ≤ μ h 4 ∧ μ h 4 ≤ 16) (hv : pc_V (pc_hl μ h))
    (h1 : ∀ (L1 : List pc_Ch) (f : Nat) (μ1 : px_Mem), pc_fr set (pc_hl μ h).length 0 (pc_hl μ h) 0 = some (L1, f) → (∀ o, (o < h + 1 ∨ h + 4 < o) → μ1 o = μ o) → pc_hl μ1 h = L1 → pc_V L1 → Q (some (.inl f)) μ1)
    (h0 : ∀ μ1 : px_Mem, pc_fr set (pc_hl μ h).length 0 (pc_hl μ h) 0 = none → (∀ o, (o < h + 1 ∨ h + 4 < o) → μ1 o = μ o) → Q (some (.inl (-1))) μ1) : px_C G yX0_bringToFront cX0_bringToFront 4 (some .int) 3 [.inr (.inl (some h)), .inl set] μ Q := by
  obtain ⟨hk, hl⟩ := pc_hk hh
  have hlen : (pc_hl μ h).length = (μ h 4).toNat := pc_hl_len
  have loop : ∀ (n i f : Nat) (μ1 : px_Mem), i + n = (μ h 4).toNat → f ≤ i → (∀ o, (o < h + 1 ∨ h + 4 < o) → μ1 o = μ o) → pc_V (pc_hl μ1 h) → pc_fr set (pc_hl μ h).length 0 (pc_hl μ h) 0 = pc_fr set n i (pc_hl μ1 h) f →
      px_J G RX0 cX0_bringToFront 4 (some .int) 3 4 [some (.inr (.inl (some h))), some (.inl set), some (.inl f), some (.inl i)] [] μ1 Q := by
    intro n
    induction n with
    | zero =>
      intro i f μ1 h2 h3 h4 h5 h6
      have hs4 : μ1 h 4 = μ h 4 := by rw [h4 h (by omega)]
      refine px_go (fun p => p == 4) 400 ?_
      simp only [px_lits, false_implies, true_implies, px_dec_ok, px_run_s, px_rules, px_rule_is, px_mats, px_calls, ↓reduceIte, eq_self, Bool.false_eq_true, px_flds, px_o_some, px_fvs, px_pfs, px_cts, px_cls, px_acs_, px_acn, true_and, and_true, true_or, or_true, false_or, or_false, and_self, not_true_eq_false, not_false_eq_true, Classical.not_not, Nat.reduceAdd, Nat.reduceSub, Nat.reduceBEq, Nat.reduceLT, Nat.reduceLeDiff, Nat.lt_add_one, px_tg, Int.cast_ofNat_Int, Int.reduceAdd, Int.reduceSub, Int.reduceMul, Int.reduceToNat, Int.reduceLE, Int.reduceLT, Int.reduceNeg, Int.reduceEq, Bool.or_false, Bool.false_or, Bool.or_true, Bool.true_or, List.length_cons, List.length_nil, List.nil_append, List.cons_append, Option.toList_some, Option.toList_none, reduceCtorEq, Option.some.injEq, Nat.zero_le, Nat.reduceMul, Nat.mul_zero, Nat.add_zero, Int.reduceDiv, Int.reduceMod, Int.toNat_natCast, Nat.lt_irrefl, Int.natCast_add, Int.cast_ofNat_Int, px_mds_RX0_0, dec_X0_bringToFront, hh, hk, hl]
      rw [hs4]
      simp (disch := omega) only [px_le_iff]
      exact ⟨fun _ => h1 _ f μ1 h6 h4 rfl h5, fun q => absurd (by omega) q⟩
    | succ n ih =>
      intro i f μ1 h2 h3 h4 h5 h6
      have hs4 : μ1 h 4 = μ h 4 := by rw [h4 h (by omega)]
      have hg := pc_hl_at (μ := μ1) (h := h) (i := i) (by omega) (by omega)
      rw [Int.toNat_natCast] at hg
      have hgi := (List.getElem?_eq_some_iff.mp hg).1
      rw [pc_fr_step hg] at h6
      have hr := px_and_r (px_shr set (μ1 (h + 1) i)) 1
      refine px_go (fun p => p == 4) 400 ?_
      simp only [px_lits, false_implies, true_implies, px_dec_ok, px_run_s, px_rules, px_rule_is, px_mats, px_calls, ↓reduceIte, eq_self, Bool.false_eq_true, px_flds, px_o_some, px_fvs, px_pfs, px_cts, px_cls, px_acs_, px_acn, true_and, and_true, true_or, or_true, false_or, or_false, and_self, not_true_eq_false, not_false_eq_true, Classical.not_not, Nat.reduceAdd, Nat.reduceSub, Nat.reduceBEq, Nat.reduceLT, Nat.reduceLeDiff, Nat.lt_add_one, px_tg, Int.cast_ofNat_Int, Int.reduceAdd, Int.reduceSub, Int.reduceMul, Int.reduceToNat, Int.reduceLE, Int.reduceLT, Int.reduceNeg, Int.reduceEq, Bool.or_false, Bool.false_or, Bool.or_true, Bool.true_or, List.length_cons, List.length_nil, List.nil_append, List.cons_append, Option.toList_some, Option.toList_none, reduceCtorEq, Option.some.injEq, Nat.zero_le, Nat.reduceMul, Nat.mul_zero, Nat.add_zero, Int.reduceDiv, Int.reduceMod, Int.toNat_natCast, Nat.lt_irrefl, Int.natCast_add, Int.cast_ofNat_Int, px_mds_RX0_0, dec_X0_bringToFront, hh, hk, hl]
      rw [hs4]
      simp (disch := omega) only [px_le_iff, px_eq_iff]
      refine ⟨fun q => by omega, fun _ => ⟨by omega, fun q => ?_, fun q => ?_⟩⟩
      · rw [if_neg q] at h6
        have := ih (i + 1) f μ1 (by omega) (by omega) h4 h5 h6
        rwa [Int.natCast_add] at this
      · rw [if_pos q] at h6
        refine c_X0_bringB hh (by rw [hs4]; exact hn) (by omega) (by omega) h5 (fun L1 μ2 q1 q2 q3 => ?_) (fun μ2 q1 q2 => ?_)
        · refine px_go (fun p => p == 4) 400 ?_
          simp only [px_lits, false_implies, true_implies, px_dec_ok, px_run_s, px_rules, px_rule_is, px_mats, px_calls, ↓reduceIte, eq_self, Bool.false_eq_true, px_flds, px_o_some, px_fvs, px_pfs, px_cts, px_cls, px_acs_, px_acn, true_and, and_true, true_or, or_true, false_or, or_false, and_self, not_true_eq_false, not_false_eq_true, Classical.not_not, Nat.reduceAdd, Nat.reduceSub, Nat.reduceBEq, Nat.reduceLT, Nat.reduceLeDiff, Nat.lt_add_one, px_tg, Int.cast_ofNat_Int, Int.reduceAdd, Int.reduceSub, Int.reduceMul, Int.reduceToNat, Int.reduceLE, Int.reduceLT, Int.reduceNeg, Int.reduceEq, Bool.or_false, Bool.false_or, Bool.or_true, Bool.true_or, List.length_cons, List.length_nil, List.nil_append, List.cons_append, Option.toList_some, Option.toList_none, reduceCtorEq, Option.some.injEq, Nat.zero_le, Nat.reduceMul, Nat.mul_zero, Nat.add_zero, Int.reduceDiv, Int.reduceMod, Int.toNat_natCast, Nat.lt_irrefl, Int.natCast_add, Int.cast_ofNat_Int, px_mds_RX0_0, dec_X0_bringToFront, hh, hk, hl]
          rw [show ((i : Int) - f).toNat = i - f by omega, Int.toNat_natCast] at q1
          rw [q1, Option.bind_some] at h6
          have := ih (i + 1) (f + 1) μ2 (by omega) (by omega) (fun o ho => by rw [q2 o ho, h4 o ho]) (by rw [q3]; exact (pc_brB_keep q1).2.1 h5) (by rw [q3]; exact h6)
          rwa [Int.natCast_add, Int.natCast_add] at this
        · refine px_go (fun p => p == 4) 400 ?_
          simp only [px_lits, false_implies, true_implies, px_dec_ok, px_run_s, px_rules, px_rule_is, px_mats, px_calls, ↓reduceIte, eq_self, Bool.false_eq_true, px_flds, px_o_some, px_fvs, px_pfs, px_cts, px_cls, px_acs_, px_acn, true_and, and_true, true_or, or_true, false_or, or_false, and_self, not_true_eq_false, not_false_eq_true, Classical.not_not, Nat.reduceAdd, Nat.reduceSub, Nat.reduceBEq, Nat.reduceLT, Nat.reduceLeDiff, Nat.lt_add_one, px_tg, Int.cast_ofNat_Int, Int.reduceAdd, Int.reduceSub, Int.reduceMul, Int.reduceToNat, Int.reduceLE, Int.reduceLT, Int.reduceNeg, Int.reduceEq, Bool.or_false, Bool.false_or, Bool.or_true, Bool.true_or, List.length_cons, List.length_nil, List.nil_append, List.cons_append, Option.toList_some, Option.toList_none, reduceCtorEq, Option.some.injEq, Nat.zero_le, Nat.reduceMul, Nat.mul_zero, Nat.add_zero, Int.reduceDiv, Int.reduceMod, Int.toNat_natCast, Nat.lt_irrefl, Int.natCast_add, Int.cast_ofNat_Int, px_mds_RX0_0, dec_X0_bringToFront, hh, hk, hl]
          rw [show ((i : Int) - f).toNat = i - f by omega, Int.toNat_natCast] at q1
          rw [q1] at h6
          exact h0 μ2 h6 (fun o ho => by rw [q2 o ho, h4 o ho])
  refine px_enter RX0 (by decide +kernel) rfl (by simp) (by simp [px_c1]) ?_
  simp only [List.map_cons, List.map_nil, List.length_cons, List.length_nil, List.replicate, List.append_nil, Nat.reduceAdd, Nat.reduceSub, List.cons_append, List.nil_append]
  refine px_go (fun p => p == 4) 400 ?_
  simp only [px_lits, false_implies, true_implies, px_dec_ok, px_run_s, px_rules, px_rule_is, px_mats, px_calls, ↓reduceIte, eq_self, Bool.false_eq_true, px_flds, px_o_some, px_fvs, px_pfs, px_cts, px_cls, px_acs_, px_acn, true_and, and_true, true_or, or_true, false_or, or_false, and_self, not_true_eq_false, not_false_eq_true, Classical.not_not, Nat.reduceAdd, Nat.reduceSub, Nat.reduceBEq, Nat.reduceLT, Nat.reduceLeDiff, Nat.lt_add_one, px_tg, Int.cast_ofNat_Int, Int.reduceAdd, Int.reduceSub, Int.reduceMul, Int.reduceToNat, Int.reduceLE, Int.reduceLT, Int.reduceNeg, Int.reduceEq, Bool.or_false, Bool.false_or, Bool.or_true, Bool.true_or, List.length_cons, List.length_nil, List.nil_append, List.cons_append, Option.toList_some, Option.toList_none, reduceCtorEq, Option.some.injEq, Nat.zero_le, Nat.reduceMul, Nat.mul_zero, Nat.add_zero, Int.reduceDiv, Int.reduceMod, Int.toNat_natCast, Nat.lt_irrefl, Int.natCast_add, Int.cast_ofNat_Int, px_mds_RX0_0, dec_X0_bringToFront, hh, hk, hl]
  exact loop (μ h 4).toNat 0 0 μ (by omega) (by omega) (fun _ _ => rfl) hv (by rw [hlen])
def pc_set (L : List pc_Ch) : Int := L.foldl (fun s c => px_or s (px_shl 1 c.1)) 0
set_option maxHeartbeats 4000000 in
set_option maxRecDepth 100000 in
theorem c_X0_asSet {G : px_G} {h : Nat} {μ : px_Mem} {Q : Option px_X → px_Mem → Prop} (hh : px_kd h = 0) (hn : 0 ≤ μ h 4 ∧ μ h 4 ≤ 16) (h1 : Q (some (.inl (pc_set (pc_hl μ h)))) μ) : px_C G yX0_asSet cX0_asSet 3 (some .int) 0 [.inr (.inl (some h))] μ Q := by
  obtain ⟨hk, hl⟩ := pc_hk hh
  have hlen : (pc_hl μ h).length = (μ h 4).toNat := pc_hl_len
  have loop : ∀ (n i : Nat) (s : Int), i + n = (μ h 4).toNat → s = pc_set ((pc_hl μ h).take i) → px_J G RX0 cX0_asSet 3 (some .int) 0 4 [some (.inr (.inl (some h))), some (.inl s), some (.inl i)] [] μ Q := by
    intro n
    induction n with
    | zero =>
      intro i s h2 h3
      refine px_go (fun p => p == 4) 400 ?_
      simp only [px_lits, false_implies, true_implies, px_dec_ok, px_run_s, px_rules, px_rule_is, px_mats, px_calls, ↓reduceIte, eq_self, Bool.false_eq_true, px_flds, px_o_some, px_fvs, px_pfs, px_cts, px_cls, px_acs_, px_acn, true_and, and_true, true_or, or_true, false_or, or_false, and_self, not_true_eq_false, not_false_eq_true, Classical.not_not, Nat.reduceAdd, Nat.reduceSub, Nat.reduceBEq, Nat.reduceLT, Nat.reduceLeDiff, Nat.lt_add_one, px_tg, Int.cast_ofNat_Int, Int.reduceAdd, Int.reduceSub, Int.reduceMul, Int.reduceToNat, Int.reduceLE, Int.reduceLT, Int.reduceNeg, Int.reduceEq, Bool.or_false, Bool.false_or, Bool.or_true, Bool.true_or, List.length_cons, List.length_nil, List.nil_append, List.cons_append, Option.toList_some, Option.toList_none, reduceCtorEq, Option.some.injEq, Nat.zero_le, Nat.reduceMul, Nat.mul_zero, Nat.add_zero, Int.reduceDiv, Int.reduceMod, Int.toNat_natCast, Nat.lt_irrefl, Int.natCast_add, Int.cast_ofNat_Int, px_mds_RX0_0, dec_X0_asSet, hh, hk, hl]
      simp (disch := omega) only [px_le_iff]
      refine ⟨fun _ => ?_, fun q => absurd (by omega) q⟩
      rw [h3, List.take_of_length_le (by omega)]
      exact h1
    | succ n ih =>
      intro i s h2 h3
      have hg := pc_hl_at (μ := μ) (h := h) (i := i) (by omega) (by omega)
      rw [Int.toNat_natCast] at hg
      refine px_go (fun p => p == 4) 400 ?_
      simp only [px_lits, false_implies, true_implies, px_dec_ok, px_run_s, px_rules, px_rule_is, px_mats, px_calls, ↓reduceIte, eq_self, Bool.false_eq_true, px_flds, px_o_some, px_fvs, px_pfs, px_cts, px_cls, px_acs_, px_acn, true_and, and_true, true_or, or_true, false_or, or_false, and_self, not_true_eq_false, not_false_eq_true, Classical.not_not, Nat.reduceAdd, Nat.reduceSub, Nat.reduceBEq, Nat.reduceLT, Nat.reduceLeDiff, Nat.lt_add_one, px_tg, Int.cast_ofNat_Int, Int.reduceAdd, Int.reduceSub, Int.reduceMul, Int.reduceToNat, Int.reduceLE, Int.reduceLT, Int.reduceNeg, Int.reduceEq, Bool.or_false, Bool.false_or, Bool.or_true, Bool.true_or, List.length_cons, List.length_nil, List.nil_append, List.cons_append, Option.toList_some, Option.toList_none, reduceCtorEq, Option.some.injEq, Nat.zero_le, Nat.reduceMul, Nat.mul_zero, Nat.add_zero, Int.reduceDiv, Int.reduceMod, Int.toNat_natCast, Nat.lt_irrefl, Int.natCast_add, Int.cast_ofNat_Int, px_mds_RX0_0, dec_X0_asSet, hh, hk, hl]
      simp (disch := omega) only [px_le_iff]
      refine ⟨fun q => by omega, fun _ => ⟨by omega, ?_⟩⟩
      have := ih (i + 1) (px_or s (px_shl 1 (μ (h + 1) i))) (by omega) (by
        unfold pc_set
        rw [List.take_add_one, hg, List.foldl_append, h3]
        rfl)
      rwa [Int.natCast_add] at this
  refine px_enter RX0 (by decide +kernel) rfl (by simp) (by simp [px_c1]) ?_
  simp only [List.map_cons, List.map_nil, List.length_cons, List.length_nil, List.replicate, List.append_nil, Nat.reduceAdd, Nat.reduceSub, List.cons_append, List.nil_append]
  refine px_go (fun p => p == 4) 400 ?_
  simp only [px_lits, false_implies, true_implies, px_dec_ok, px_run_s, px_rules, px_rule_is, px_mats, px_calls, ↓reduceIte, eq_self, Bool.false_eq_true, px_flds, px_o_some, px_fvs, px_pfs, px_cts, px_cls, px_acs_, px_acn, true_and, and_true, true_or, or_true, false_or, or_false, and_self, not_true_eq_false, not_false_eq_true, Classical.not_not, Nat.reduceAdd, Nat.reduceSub, Nat.reduceBEq, Nat.reduceLT, Nat.reduceLeDiff, Nat.lt_add_one, px_tg, Int.cast_ofNat_Int, Int.reduceAdd, Int.reduceSub, Int.reduceMul, Int.reduceToNat, Int.reduceLE, Int.reduceLT, Int.reduceNeg, Int.reduceEq, Bool.or_false, Bool.false_or, Bool.or_true, Bool.true_or, List.length_cons, List.length_nil, List.nil_append, List.cons_append, Option.toList_some, Option.toList_none, reduceCtorEq, Option.some.injEq, Nat.zero_le, Nat.reduceMul, Nat.mul_zero, Nat.add_zero, Int.reduceDiv, Int.reduceMod, Int.toNat_natCast, Nat.lt_irrefl, Int.natCast_add, Int.cast_ofNat_Int, px_mds_RX0_0, dec_X0_asSet, hh, hk, hl]
  exact loop (μ h 4).toNat 0 0 (by omega) rfl
set_option maxHeartbeats 4000000 in
set_option maxRecDepth 100000 in
theorem c_X0_add {G : px_G} {h : Nat} {a b c d : Int} {μ : px_Mem} {Q : Option px_X → px_Mem → Prop} (hh : px_kd h = 0) (hn : 0 ≤ μ h 4 ∧ μ h 4 < 16)
    (h1 : ∀ μ1 : px_Mem, (∀ o, (o < h ∨ h + 4 < o) → μ1 o = μ o) → μ1 h 4 = μ h 4 + 1 → pc_hl μ1 h = pc_hl μ h ++ [(a, b, c, d)] → Q none μ1) : px_C G yX0_add cX0_add 5 none 0 [.inr (.inl (some h)), .inl a, .inl b, .inl c, .inl d] μ Q := by
  obtain ⟨hk, hl⟩ := pc_hk hh
  refine px_enter RX0 (by decide +kernel) rfl (by simp) (by simp [px_c1]) ?_
  simp only [List.map_cons, List.map_nil, List.length_cons, List.length_nil, List.replicate, List.append_nil, Nat.reduceAdd, Nat.reduceSub, List.cons_append, List.nil_append]
  refine px_go (fun _ => false) 400 ?_
  simp only [px_lits, false_implies, true_implies, px_dec_ok, px_run_s, px_rules, px_rule_is, px_mats, px_calls, ↓reduceIte, eq_self, Bool.false_eq_true, px_flds, px_o_some, px_fvs, px_pfs, px_cts, px_cls, px_acs_, px_acn, true_and, and_true, true_or, or_true, false_or, or_false, and_self, not_true_eq_false, not_false_eq_true, Classical.not_not, Nat.reduceAdd, Nat.reduceSub, Nat.reduceBEq, Nat.reduceLT, Nat.reduceLeDiff, Nat.lt_add_one, px_tg, Int.cast_ofNat_Int, Int.reduceAdd, Int.reduceSub, Int.reduceMul, Int.reduceToNat, Int.reduceLE, Int.reduceLT, Int.reduceNeg, Int.reduceEq, Bool.or_false, Bool.false_or, Bool.or_true, Bool.true_or, List.length_cons, List.length_nil, List.nil_append, List.cons_append, Option.toList_some, Option.toList_none, reduceCtorEq, Option.some.injEq, Nat.zero_le, Nat.reduceMul, Nat.mul_zero, Nat.add_zero, Int.reduceDiv, Int.reduceMod, Int.toNat_natCast, Nat.lt_irrefl, Int.natCast_add, Int.cast_ofNat_Int, px_mds_RX0_0, dec_X0_add, hh, hk, hl]
  simp (disch := omega) only [px_lt_iff, px_up_o]
  refine ⟨fun _ => ?_, fun q => absurd hn.2 q⟩
  repeat refine ⟨by omega, ?_⟩
  refine h1 _ (fun o ho => ?_) ?_ ?_
  · simp (disch := omega) only [px_up_o]
  · simp (disch := omega) only [px_up_o, px_up_eq]
  · apply List.ext_getElem?
    intro n
    rw [List.getElem?_append, pc_hl_get, pc_hl_get, pc_hl_len]
    simp (disch := omega) only [px_up_o, px_up_eq]
    by_cases c1 : n < (μ h 4).toNat
    · rw [if_pos (by omega), if_pos c1, if_pos c1]
      simp (disch := omega) only [px_up_o, px_up_eq, px_up_ne]
    · rw [if_neg c1]
      by_cases c2 : n = (μ h 4).toNat
      · rw [if_pos (by omega), c2, Nat.sub_self]
        simp (disch := omega) only [px_up_o, px_up_eq, px_up_ne]
        rfl
      · rw [if_neg (by omega), List.getElem?_eq_none (by simp; omega)]
theorem px_cp_in {μ : px_Mem} {a : Nat} {sp : Int} {c : Nat} {dp n i : Int} (h : dp ≤ i ∧ i < dp + n) : px_cp μ a sp c dp n c i = μ a (sp + (i - dp)) := by
  unfold px_cp
  rw [if_pos ⟨rfl, h⟩]
theorem px_cp_out {μ : px_Mem} {a : Nat} {sp : Int} {c : Nat} {dp n i : Int} (h : ¬ (dp ≤ i ∧ i < dp + n)) : px_cp μ a sp c dp n c i = μ c i := by
  unfold px_cp
  rw [if_neg (fun q => h q.2)]
theorem pc_hh {g h : Nat} (hg : px_kd g = 0) (hh : px_kd h = 0) : g = h ∨ g + 5 ≤ h ∨ h + 5 ≤ g := by
  obtain ⟨⟨a1, a2, a3, a4⟩, -⟩ := pc_hk hg
  obtain ⟨⟨b1, b2, b3, b4⟩, -⟩ := pc_hk hh
  by_cases e : g = h
  · exact Or.inl e
  · refine Or.inr ?_
    rcases Nat.lt_or_ge g h with q | q
    · refine Or.inl ?_
      rcases (show h = g + 1 ∨ h = g + 2 ∨ h = g + 3 ∨ h = g + 4 ∨ g + 5 ≤ h by omega) with rfl | rfl | rfl | rfl | q
      · omega
      · omega
      · omega
      · omega
      · exact q
    · refine Or.inr ?_
      rcases (show g = h + 1 ∨ g = h + 2 ∨ g = h + 3 ∨ g = h + 4 ∨ h + 5 ≤ g by omega) with rfl | rfl | rfl | rfl | q
      · omega
      · omega
      · omega
      · omega
      · exact q
set_option maxHeartbeats 4000000 in
set_option maxRecDepth 100000 in
theorem c_X0_copyFrom {G : px_G} {h g : Nat} {μ : px_Mem} {Q : Option px_X → px_Mem → Prop} (hh : px_kd h = 0) (hg : px_kd g = 0) (hne : g ≠ h) (hn : 0 ≤ μ g 4 ∧ μ g 4 ≤ 16)
    (h1 : ∀ μ1 : px_Mem, (∀ o, (o < h ∨ h + 4 < o) → μ1 o = μ o) → μ1 h 4 = μ g 4 → pc_hl μ1 h = pc_hl μ g → Q none μ1) : px_C G yX0_copyFrom cX0_copyFrom 2 none 1 [.inr (.inl (some h)), .inr (.inl (some g))] μ Q := by
  obtain ⟨hk, hl⟩ := pc_hk hh
  obtain ⟨gk, gl⟩ := pc_hk hg
  have hd := pc_hh hg hh
  refine px_enter RX0 (by decide +kernel) rfl (by simp) (by simp [px_c1]) ?_
  simp only [List.map_cons, List.map_nil, List.length_cons, List.length_nil, List.replicate, List.append_nil, Nat.reduceAdd, Nat.reduceSub, List.cons_append, List.nil_append]
  refine px_go (fun _ => false) 400 ?_
  simp only [px_lits, false_implies, true_implies, px_dec_ok, px_run_s, px_rules, px_rule_is, px_mats, px_calls, ↓reduceIte, eq_self, Bool.false_eq_true, px_flds, px_o_some, px_fvs, px_pfs, px_cts, px_cls, px_acs_, px_acn, true_and, and_true, true_or, or_true, false_or, or_false, and_self, not_true_eq_false, not_false_eq_true, Classical.not_not, Nat.reduceAdd, Nat.reduceSub, Nat.reduceBEq, Nat.reduceLT, Nat.reduceLeDiff, Nat.lt_add_one, px_tg, Int.cast_ofNat_Int, Int.reduceAdd, Int.reduceSub, Int.reduceMul, Int.reduceToNat, Int.reduceLE, Int.reduceLT, Int.reduceNeg, Int.reduceEq, Bool.or_false, Bool.false_or, Bool.or_true, Bool.true_or, List.length_cons, List.length_nil, List.nil_append, List.cons_append, Option.toList_some, Option.toList_none, reduceCtorEq, Option.some.injEq, Nat.zero_le, Nat.reduceMul, Nat.mul_zero, Nat.add_zero, Int.reduceDiv, Int.reduceMod, Int.toNat_natCast, Nat.lt_irrefl, Int.natCast_add, Int.cast_ofNat_Int, px_mds_RX0_0, dec_X0_copyFrom, hh, hk, hl, hg, gk, gl]
  simp (disch := omega) only [px_cp_o]
  repeat refine ⟨by omega, ?_⟩
  refine h1 _ (fun o ho => ?_) ?_ ?_
  · simp (disch := omega) only [px_up_o, px_cp_o]
  · simp (disch := omega) only [px_up_o, px_up_eq, px_cp_o]
  · refine pc_hl_congr ?_ (fun i i0 i1 => ?_)
    · simp (disch := omega) only [px_up_o, px_up_eq, px_cp_o]
    · simp (disch := omega) only [px_up_o, px_up_eq, px_cp_o, px_cp_in]
      rw [show (0 : Int) + (i - 0) = i by omega]
      exact ⟨rfl, rfl, rfl, rfl⟩
end
section
/-! ===== a text of the class: a row of twenty-eight, and how many ===== -/
theorem pc_wk {w : Nat} (hw : px_kd w = 8) : px_kd (w + 1) = 20 ∧ px_ln (w + 1) = 28 := by
  have h1 : w < 221 := px_kd_lt (by omega)
  have key : ∀ k : Fin 221, px_kd k = 8 → px_kd (k + 1) = 20 ∧ px_ln (k + 1) = 28 := by decide +kernel
  exact key ⟨w, h1⟩ hw
theorem pc_do_put {T : List Int} {n p c : Int} : pc_do T (n, 0, p, c) = if 0 ≤ p ∧ p ≤ T.length then some (T.insertIdx p.toNat c) else none := rfl
theorem pc_do_out {T : List Int} {n p c : Int} : pc_do T (n, 1, p, c) = if 0 ≤ p ∧ T[p.toNat]? = some c then some (T.eraseIdx p.toNat) else none := rfl
def pc_tx (μ : px_Mem) (w : Nat) : List Int := (List.range (μ w 1).toNat).map (fun i : Nat => μ (w + 1) i)
theorem pc_tx_len {μ : px_Mem} {w : Nat} : (pc_tx μ w).length = (μ w 1).toNat := by unfold pc_tx; rw [List.length_map, List.length_range]
theorem pc_tx_get {μ : px_Mem} {w n : Nat} : (pc_tx μ w)[n]? = if n < (μ w 1).toNat then some (μ (w + 1) n) else none := by
  unfold pc_tx
  rw [List.getElem?_map]
  split
  · rename_i h1
    rw [List.getElem?_range h1]
    rfl
  · rename_i h1
    rw [List.getElem?_eq_none (by rw [List.length_range]; omega)]
    rfl
theorem pc_tx_at {μ : px_Mem} {w : Nat} {i : Int} (h0 : 0 ≤ i) (h1 : i < μ w 1) : (pc_tx μ w)[i.toNat]? = some (μ (w + 1) i) := by
  rw [pc_tx_get, if_pos (by omega), Int.toNat_of_nonneg h0]
set_option maxHeartbeats 4000000 in
set_option maxRecDepth 100000 in
theorem c_X9_at {G : px_G} {w : Nat} {i : Int} {μ : px_Mem} {Q : Option px_X → px_Mem → Prop} (hw : px_kd w = 8) (hn : 0 ≤ μ w 1 ∧ μ w 1 ≤ 28) (hi : -2147483648 ≤ i ∧ i < 2147483648) (h1 : 0 ≤ i → i < μ w 1 → Q (some (.inl (μ (w + 1) i))) μ) (h0 : ¬ (0 ≤ i ∧ i < μ w 1) → Q (some (.inl (-1))) μ) : px_C G yX9_at cX9_at 2 (some .int) 0 [.inr (.inl (some w)), .inl i] μ Q := by
  obtain ⟨wk, wl⟩ := pc_wk hw
  refine px_enter RX9 (by decide +kernel) rfl (by simp) (by simp [px_c1]) ?_
  simp only [List.map_cons, List.map_nil, List.length_cons, List.length_nil, List.replicate, List.append_nil, Nat.reduceAdd, Nat.reduceSub, List.cons_append, List.nil_append]
  refine px_go (fun _ => false) 400 ?_
  simp only [px_lits, false_implies, true_implies, px_dec_ok, px_run_s, px_rules, px_rule_is, px_mats, px_calls, ↓reduceIte, eq_self, Bool.false_eq_true, px_flds, px_o_some, px_fvs, px_pfs, px_cts, px_cls, px_acs_, px_acn, true_and, and_true, true_or, or_true, false_or, or_false, and_self, not_true_eq_false, not_false_eq_true, Classical.not_not, Nat.reduceAdd, Nat.reduceSub, Nat.reduceBEq, Nat.reduceLT, Nat.reduceLeDiff, Nat.lt_add_one, px_tg, Int.cast_ofNat_Int, Int.reduceAdd, Int.reduceSub, Int.reduceMul, Int.reduceToNat, Int.reduceLE, Int.reduceLT, Int.reduceNeg, Int.reduceEq, Bool.or_false, Bool.false_or, Bool.or_true, Bool.true_or, List.length_cons, List.length_nil, List.nil_append, List.cons_append, Option.toList_some, Option.toList_none, reduceCtorEq, Option.some.injEq, Nat.zero_le, Nat.reduceMul, Nat.mul_zero, Nat.add_zero, Int.reduceDiv, Int.reduceMod, Int.toNat_natCast, Nat.lt_irrefl, Int.natCast_add, Int.cast_ofNat_Int, px_mds_RX9_0, dec_X9_at, hw, wk, wl]
  simp (disch := omega) only [px_lt_iff, px_le_iff]
  exact ⟨fun _ => h0 (by omega), fun _ => ⟨fun _ => h0 (by omega), fun _ => ⟨by omega, h1 (by omega) (by omega)⟩⟩⟩
set_option maxHeartbeats 4000000 in
set_option maxRecDepth 100000 in
theorem c_X9_hasPlace {G : px_G} {w : Nat} {s p : Int} {μ : px_Mem} {Q : Option px_X → px_Mem → Prop} (hw : px_kd w = 8) (hn : 0 ≤ μ w 1 ∧ μ w 1 ≤ 28) (hs : s = 0 ∨ s = 1) (hp : -2147483648 ≤ p ∧ p < 2147483648) (h1 : 0 ≤ p ∧ p + s ≤ μ w 1 → Q (some (.inl 1)) μ) (h0 : ¬ (0 ≤ p ∧ p + s ≤ μ w 1) → Q (some (.inl 0)) μ) : px_C G yX9_hasPlace cX9_hasPlace 3 (some .boolean) 0 [.inr (.inl (some w)), .inl s, .inl p] μ Q := by
  obtain ⟨wk, wl⟩ := pc_wk hw
  refine px_enter RX9 (by decide +kernel) rfl (by simp) (by simp [px_c1]) ?_
  simp only [List.map_cons, List.map_nil, List.length_cons, List.length_nil, List.replicate, List.append_nil, Nat.reduceAdd, Nat.reduceSub, List.cons_append, List.nil_append]
  refine px_go (fun _ => false) 400 ?_
  simp only [px_lits, false_implies, true_implies, px_dec_ok, px_run_s, px_rules, px_rule_is, px_mats, px_calls, ↓reduceIte, eq_self, Bool.false_eq_true, px_flds, px_o_some, px_fvs, px_pfs, px_cts, px_cls, px_acs_, px_acn, true_and, and_true, true_or, or_true, false_or, or_false, and_self, not_true_eq_false, not_false_eq_true, Classical.not_not, Nat.reduceAdd, Nat.reduceSub, Nat.reduceBEq, Nat.reduceLT, Nat.reduceLeDiff, Nat.lt_add_one, px_tg, Int.cast_ofNat_Int, Int.reduceAdd, Int.reduceSub, Int.reduceMul, Int.reduceToNat, Int.reduceLE, Int.reduceLT, Int.reduceNeg, Int.reduceEq, Bool.or_false, Bool.false_or, Bool.or_true, Bool.true_or, List.length_cons, List.length_nil, List.nil_append, List.cons_append, Option.toList_some, Option.toList_none, reduceCtorEq, Option.some.injEq, Nat.zero_le, Nat.reduceMul, Nat.mul_zero, Nat.add_zero, Int.reduceDiv, Int.reduceMod, Int.toNat_natCast, Nat.lt_irrefl, Int.natCast_add, Int.cast_ofNat_Int, px_mds_RX9_0, dec_X9_hasPlace, hw, wk, wl]
  simp (disch := omega) only [px_lt_iff, px_le_iff, px_eq_iff]
  repeat' first | apply And.intro | intro _
  all_goals first | (exact h1 (by omega)) | (exact h0 (by omega))
set_option maxHeartbeats 4000000 in
set_option maxRecDepth 100000 in
theorem c_X9_fits {G : px_G} {w : Nat} {n s p c : Int} {μ : px_Mem} {Q : Option px_X → px_Mem → Prop} (hw : px_kd w = 8) (hn : 0 ≤ μ w 1 ∧ μ w 1 ≤ 28) (hs : s = 0 ∨ s = 1) (hp : -2147483648 ≤ p ∧ p < 2147483648) (hc : -2147483648 ≤ c ∧ c < 2147483648) (hr : ∀ i, 0 ≤ i → i < μ w 1 → 97 ≤ μ (w + 1) i ∧ μ (w + 1) i ≤ 122)
    (h1 : ∀ T1, pc_do (pc_tx μ w) (n, s, p, c) = some T1 → Q (some (.inl 1)) μ) (h0 : pc_do (pc_tx μ w) (n, s, p, c) = none → Q (some (.inl 0)) μ) : px_C G yX9_fits cX9_fits 4 (some .boolean) 1 [.inr (.inl (some w)), .inl s, .inl p, .inl c] μ Q := by
  obtain ⟨wk, wl⟩ := pc_wk hw
  have hlen : (pc_tx μ w).length = (μ w 1).toNat := pc_tx_len
  refine px_enter RX9 (by decide +kernel) rfl (by simp) (by simp [px_c1]) ?_
  simp only [List.map_cons, List.map_nil, List.length_cons, List.length_nil, List.replicate, List.append_nil, Nat.reduceAdd, Nat.reduceSub, List.cons_append, List.nil_append]
  refine px_go (fun _ => false) 400 ?_
  simp only [px_lits, false_implies, true_implies, px_dec_ok, px_run_s, px_rules, px_rule_is, px_mats, px_calls, ↓reduceIte, eq_self, Bool.false_eq_true, px_flds, px_o_some, px_fvs, px_pfs, px_cts, px_cls, px_acs_, px_acn, true_and, and_true, true_or, or_true, false_or, or_false, and_self, not_true_eq_false, not_false_eq_true, Classical.not_not, Nat.reduceAdd, Nat.reduceSub, Nat.reduceBEq, Nat.reduceLT, Nat.reduceLeDiff, Nat.lt_add_one, px_tg, Int.cast_ofNat_Int, Int.reduceAdd, Int.reduceSub, Int.reduceMul, Int.reduceToNat, Int.reduceLE, Int.reduceLT, Int.reduceNeg, Int.reduceEq, Bool.or_false, Bool.false_or, Bool.or_true, Bool.true_or, List.length_cons, List.length_nil, List.nil_append, List.cons_append, Option.toList_some, Option.toList_none, reduceCtorEq, Option.some.injEq, Nat.zero_le, Nat.reduceMul, Nat.mul_zero, Nat.add_zero, Int.reduceDiv, Int.reduceMod, Int.toNat_natCast, Nat.lt_irrefl, Int.natCast_add, Int.cast_ofNat_Int, px_mds_RX9_0, dec_X9_fits, hw, wk, wl]
  refine c_X9_hasPlace hw hn hs hp (fun q => ?_) (fun q => ?_)
  · rcases hs with rfl | rfl
    · refine px_go (fun _ => false) 400 ?_
      simp only [px_lits, false_implies, true_implies, px_dec_ok, px_run_s, px_rules, px_rule_is, px_mats, px_calls, ↓reduceIte, eq_self, Bool.false_eq_true, px_flds, px_o_some, px_fvs, px_pfs, px_cts, px_cls, px_acs_, px_acn, true_and, and_true, true_or, or_true, false_or, or_false, and_self, not_true_eq_false, not_false_eq_true, Classical.not_not, Nat.reduceAdd, Nat.reduceSub, Nat.reduceBEq, Nat.reduceLT, Nat.reduceLeDiff, Nat.lt_add_one, px_tg, Int.cast_ofNat_Int, Int.reduceAdd, Int.reduceSub, Int.reduceMul, Int.reduceToNat, Int.reduceLE, Int.reduceLT, Int.reduceNeg, Int.reduceEq, Bool.or_false, Bool.false_or, Bool.or_true, Bool.true_or, List.length_cons, List.length_nil, List.nil_append, List.cons_append, Option.toList_some, Option.toList_none, reduceCtorEq, Option.some.injEq, Nat.zero_le, Nat.reduceMul, Nat.mul_zero, Nat.add_zero, Int.reduceDiv, Int.reduceMod, Int.toNat_natCast, Nat.lt_irrefl, Int.natCast_add, Int.cast_ofNat_Int, px_mds_RX9_0, dec_X9_fits, hw, wk, wl]
      exact h1 ((pc_tx μ w).insertIdx p.toNat c) (by rw [pc_do_put, if_pos (by rw [hlen]; omega)])
    · have := hr p q.1 (by omega)
      refine px_go (fun _ => false) 400 ?_
      simp only [px_lits, false_implies, true_implies, px_dec_ok, px_run_s, px_rules, px_rule_is, px_mats, px_calls, ↓reduceIte, eq_self, Bool.false_eq_true, px_flds, px_o_some, px_fvs, px_pfs, px_cts, px_cls, px_acs_, px_acn, true_and, and_true, true_or, or_true, false_or, or_false, and_self, not_true_eq_false, not_false_eq_true, Classical.not_not, Nat.reduceAdd, Nat.reduceSub, Nat.reduceBEq, Nat.reduceLT, Nat.reduceLeDiff, Nat.lt_add_one, px_tg, Int.cast_ofNat_Int, Int.reduceAdd, Int.reduceSub, Int.reduceMul, Int.reduceToNat, Int.reduceLE, Int.reduceLT, Int.reduceNeg, Int.reduceEq, Bool.or_false, Bool.false_or, Bool.or_true, Bool.true_or, List.length_cons, List.length_nil, List.nil_append, List.cons_append, Option.toList_some, Option.toList_none, reduceCtorEq, Option.some.injEq, Nat.zero_le, Nat.reduceMul, Nat.mul_zero, Nat.add_zero, Int.reduceDiv, Int.reduceMod, Int.toNat_natCast, Nat.lt_irrefl, Int.natCast_add, Int.cast_ofNat_Int, px_mds_RX9_0, dec_X9_fits, hw, wk, wl]
      simp (disch := omega) only [px_eq_iff]
      refine ⟨by omega, fun e => h0 ?_, fun e => h1 ((pc_tx μ w).eraseIdx p.toNat) ?_⟩
      · rw [pc_do_out, if_neg]
        rw [pc_tx_at q.1 (by omega)]
        rintro ⟨-, e2⟩
        exact e (Option.some.inj e2)
      · rw [pc_do_out, if_pos]
        rw [pc_tx_at q.1 (by omega), e]
        exact ⟨q.1, rfl⟩
  · refine px_go (fun _ => false) 400 ?_
    simp only [px_lits, false_implies, true_implies, px_dec_ok, px_run_s, px_rules, px_rule_is, px_mats, px_calls, ↓reduceIte, eq_self, Bool.false_eq_true, px_flds, px_o_some, px_fvs, px_pfs, px_cts, px_cls, px_acs_, px_acn, true_and, and_true, true_or, or_true, false_or, or_false, and_self, not_true_eq_false, not_false_eq_true, Classical.not_not, Nat.reduceAdd, Nat.reduceSub, Nat.reduceBEq, Nat.reduceLT, Nat.reduceLeDiff, Nat.lt_add_one, px_tg, Int.cast_ofNat_Int, Int.reduceAdd, Int.reduceSub, Int.reduceMul, Int.reduceToNat, Int.reduceLE, Int.reduceLT, Int.reduceNeg, Int.reduceEq, Bool.or_false, Bool.false_or, Bool.or_true, Bool.true_or, List.length_cons, List.length_nil, List.nil_append, List.cons_append, Option.toList_some, Option.toList_none, reduceCtorEq, Option.some.injEq, Nat.zero_le, Nat.reduceMul, Nat.mul_zero, Nat.add_zero, Int.reduceDiv, Int.reduceMod, Int.toNat_natCast, Nat.lt_irrefl, Int.natCast_add, Int.cast_ofNat_Int, px_mds_RX9_0, dec_X9_fits, hw, wk, wl]
    refine h0 ?_
    rcases hs with rfl | rfl
    · rw [pc_do_put, if_neg (by rw [hlen]; omega)]
    · rw [pc_do_out, if_neg]
      rw [pc_tx_get]
      rintro ⟨e1, e2⟩
      rw [if_neg (by omega)] at e2
      cases e2
set_option maxHeartbeats 4000000 in
set_option maxRecDepth 100000 in
theorem c_X9_apply {G : px_G} {w : Nat} {n s p c : Int} {T1 : List Int} {μ : px_Mem} {Q : Option px_X → px_Mem → Prop} (hw : px_kd w = 8) (hn : 0 ≤ μ w 1 ∧ μ w 1 ≤ 28) (hs : s = 0 ∨ s = 1) (hd : pc_do (pc_tx μ w) (n, s, p, c) = some T1) (hT : T1.length ≤ 28)
    (h1 : ∀ μ1 : px_Mem, (∀ o, o ≠ w → o ≠ w + 1 → μ1 o = μ o) → pc_tx μ1 w = T1 → μ1 w 1 = T1.length → Q none μ1) : px_C G yX9_apply cX9_apply 4 none 1 [.inr (.inl (some w)), .inl s, .inl p, .inl c] μ Q := by
  obtain ⟨wk, wl⟩ := pc_wk hw
  have hlen : (pc_tx μ w).length = (μ w 1).toNat := pc_tx_len
  have hb := (pc_do_len hd).2
  dsimp only at hb
  rw [hlen] at hb
  refine px_enter RX9 (by decide +kernel) rfl (by simp) (by simp [px_c1]) ?_
  simp only [List.map_cons, List.map_nil, List.length_cons, List.length_nil, List.replicate, List.append_nil, Nat.reduceAdd, Nat.reduceSub, List.cons_append, List.nil_append]
  refine px_go (fun _ => false) 400 ?_
  simp only [px_lits, false_implies, true_implies, px_dec_ok, px_run_s, px_rules, px_rule_is, px_mats, px_calls, ↓reduceIte, eq_self, Bool.false_eq_true, px_flds, px_o_some, px_fvs, px_pfs, px_cts, px_cls, px_acs_, px_acn, true_and, and_true, true_or, or_true, false_or, or_false, and_self, not_true_eq_false, not_false_eq_true, Classical.not_not, Nat.reduceAdd, Nat.reduceSub, Nat.reduceBEq, Nat.reduceLT, Nat.reduceLeDiff, Nat.lt_add_one, px_tg, Int.cast_ofNat_Int, Int.reduceAdd, Int.reduceSub, Int.reduceMul, Int.reduceToNat, Int.reduceLE, Int.reduceLT, Int.reduceNeg, Int.reduceEq, Bool.or_false, Bool.false_or, Bool.or_true, Bool.true_or, List.length_cons, List.length_nil, List.nil_append, List.cons_append, Option.toList_some, Option.toList_none, reduceCtorEq, Option.some.injEq, Nat.zero_le, Nat.reduceMul, Nat.mul_zero, Nat.add_zero, Int.reduceDiv, Int.reduceMod, Int.toNat_natCast, Nat.lt_irrefl, Int.natCast_add, Int.cast_ofNat_Int, px_mds_RX9_0, dec_X9_apply, hw, wk, wl]
  refine c_X9_hasPlace hw hn hs (by omega) (fun q => ?_) (fun q => ?_)
  · rcases hs with rfl | rfl
    · rw [pc_do_put, if_pos (by rw [hlen]; omega)] at hd
      cases hd
      have hTl : ((pc_tx μ w).insertIdx p.toNat c).length = (μ w 1).toNat + 1 := by rw [List.length_insertIdx, if_pos (by omega), hlen]
      rw [hTl] at hT
      refine px_go (fun _ => false) 400 ?_
      simp only [px_lits, false_implies, true_implies, px_dec_ok, px_run_s, px_rules, px_rule_is, px_mats, px_calls, ↓reduceIte, eq_self, Bool.false_eq_true, px_flds, px_o_some, px_fvs, px_pfs, px_cts, px_cls, px_acs_, px_acn, true_and, and_true, true_or, or_true, false_or, or_false, and_self, not_true_eq_false, not_false_eq_true, Classical.not_not, Nat.reduceAdd, Nat.reduceSub, Nat.reduceBEq, Nat.reduceLT, Nat.reduceLeDiff, Nat.lt_add_one, px_tg, Int.cast_ofNat_Int, Int.reduceAdd, Int.reduceSub, Int.reduceMul, Int.reduceToNat, Int.reduceLE, Int.reduceLT, Int.reduceNeg, Int.reduceEq, Bool.or_false, Bool.false_or, Bool.or_true, Bool.true_or, List.length_cons, List.length_nil, List.nil_append, List.cons_append, Option.toList_some, Option.toList_none, reduceCtorEq, Option.some.injEq, Nat.zero_le, Nat.reduceMul, Nat.mul_zero, Nat.add_zero, Int.reduceDiv, Int.reduceMod, Int.toNat_natCast, Nat.lt_irrefl, Int.natCast_add, Int.cast_ofNat_Int, px_mds_RX9_0, dec_X9_apply, hw, wk, wl]
      simp (disch := omega) only [px_le_iff, px_up_o, px_cp_o]
      refine ⟨fun q => by omega, fun _ => ?_⟩
      repeat refine ⟨by omega, ?_⟩
      refine h1 _ (fun o h2 h3 => ?_) ?_ ?_
      · simp (disch := omega) only [px_up_o, px_cp_o]
      · apply List.ext_getElem?
        intro k
        rw [pc_tx_get, List.getElem?_insertIdx, pc_tx_get, hlen]
        simp (disch := omega) only [px_up_o, px_up_eq, px_cp_o]
        by_cases c1 : k < p.toNat
        · rw [if_pos (by omega), if_pos c1, if_pos (by omega)]
          simp (disch := omega) only [px_up_o, px_up_ne, px_cp_out]
        · rw [if_neg c1]
          by_cases c2 : k = p.toNat
          · rw [if_pos (by omega), if_pos c2, if_pos (by omega)]
            simp (disch := omega) only [px_up_o, px_up_eq]
          · rw [if_neg c2, pc_tx_get]
            by_cases c3 : k < (μ w 1).toNat + 1
            · rw [if_pos (by omega), if_pos (by omega)]
              simp (disch := omega) only [px_up_o, px_up_ne, px_cp_in]
              rw [show p + ((k : Int) - (p + 1)) = ((k - 1 : Nat) : Int) by omega]
            · rw [if_neg (by omega), if_neg (by omega)]
      · simp (disch := omega) only [px_up_o, px_up_eq, px_cp_o]
        omega
    · rw [pc_do_out, pc_tx_at q.1 (by omega)] at hd
      split at hd
      · cases hd
        have hTl : ((pc_tx μ w).eraseIdx p.toNat).length = (μ w 1).toNat - 1 := by rw [List.length_eraseIdx_of_lt (by omega), hlen]
        refine px_go (fun _ => false) 400 ?_
        simp only [px_lits, false_implies, true_implies, px_dec_ok, px_run_s, px_rules, px_rule_is, px_mats, px_calls, ↓reduceIte, eq_self, Bool.false_eq_true, px_flds, px_o_some, px_fvs, px_pfs, px_cts, px_cls, px_acs_, px_acn, true_and, and_true, true_or, or_true, false_or, or_false, and_self, not_true_eq_false, not_false_eq_true, Classical.not_not, Nat.reduceAdd, Nat.reduceSub, Nat.reduceBEq, Nat.reduceLT, Nat.reduceLeDiff, Nat.lt_add_one, px_tg, Int.cast_ofNat_Int, Int.reduceAdd, Int.reduceSub, Int.reduceMul, Int.reduceToNat, Int.reduceLE, Int.reduceLT, Int.reduceNeg, Int.reduceEq, Bool.or_false, Bool.false_or, Bool.or_true, Bool.true_or, List.length_cons, List.length_nil, List.nil_append, List.cons_append, Option.toList_some, Option.toList_none, reduceCtorEq, Option.some.injEq, Nat.zero_le, Nat.reduceMul, Nat.mul_zero, Nat.add_zero, Int.reduceDiv, Int.reduceMod, Int.toNat_natCast, Nat.lt_irrefl, Int.natCast_add, Int.cast_ofNat_Int, px_mds_RX9_0, dec_X9_apply, hw, wk, wl]
        simp (disch := omega) only [px_le_iff, px_up_o, px_cp_o]
        repeat refine ⟨by omega, ?_⟩
        refine h1 _ (fun o h2 h3 => ?_) ?_ ?_
        · simp (disch := omega) only [px_up_o, px_cp_o]
        · apply List.ext_getElem?
          intro k
          rw [pc_tx_get, List.getElem?_eraseIdx, pc_tx_get, pc_tx_get]
          simp (disch := omega) only [px_up_o, px_up_eq, px_cp_o]
          by_cases c1 : k < p.toNat
          · rw [if_pos (by omega), if_pos c1, if_pos (by omega)]
            simp (disch := omega) only [px_up_o, px_cp_out]
          · rw [if_neg c1]
            by_cases c3 : k + 1 < (μ w 1).toNat
            · rw [if_pos (by omega), if_pos c3]
              simp (disch := omega) only [px_up_o, px_cp_in]
              rw [show p + 1 + ((k : Int) - p) = ((k + 1 : Nat) : Int) by omega]
            · rw [if_neg (by omega), if_neg c3]
        · simp (disch := omega) only [px_up_o, px_up_eq, px_cp_o]
          omega
      · cases hd
  · exfalso
    apply q
    rcases hs with rfl | rfl
    · omega
    · rw [pc_do_out] at hd
      split at hd
      · rename_i e
        have := (List.getElem?_eq_some_iff.mp e.2).1
        omega
      · cases hd
theorem pc_ww {v w : Nat} (hv : px_kd v = 8) (hw : px_kd w = 8) : v = w ∨ (v ≠ w ∧ v ≠ w + 1 ∧ v + 1 ≠ w) := by
  have a := (pc_wk hv).1
  have b := (pc_wk hw).1
  by_cases e : v = w
  · exact Or.inl e
  · refine Or.inr ⟨e, fun q => ?_, fun q => ?_⟩
    · rw [← q] at b; omega
    · rw [q] at a; omega
set_option maxHeartbeats 4000000 in
set_option maxRecDepth 100000 in
theorem c_X9_copyFrom {G : px_G} {w v : Nat} {μ : px_Mem} {Q : Option px_X → px_Mem → Prop} (hw : px_kd w = 8) (hv : px_kd v = 8) (hne : v ≠ w) (hn : 0 ≤ μ v 1 ∧ μ v 1 ≤ 28)
    (h1 : ∀ μ1 : px_Mem, (∀ o, o ≠ w → o ≠ w + 1 → μ1 o = μ o) → pc_tx μ1 w = pc_tx μ v → μ1 w 1 = μ v 1 → Q none μ1) : px_C G yX9_copyFrom cX9_copyFrom 2 none 1 [.inr (.inl (some w)), .inr (.inl (some v))] μ Q := by
  obtain ⟨wk, wl⟩ := pc_wk hw
  obtain ⟨vk, vl⟩ := pc_wk hv
  have hd := pc_ww hv hw
  refine px_enter RX9 (by decide +kernel) rfl (by simp) (by simp [px_c1]) ?_
  simp only [List.map_cons, List.map_nil, List.length_cons, List.length_nil, List.replicate, List.append_nil, Nat.reduceAdd, Nat.reduceSub, List.cons_append, List.nil_append]
  refine px_go (fun _ => false) 400 ?_
  simp only [px_lits, false_implies, true_implies, px_dec_ok, px_run_s, px_rules, px_rule_is, px_mats, px_calls, ↓reduceIte, eq_self, Bool.false_eq_true, px_flds, px_o_some, px_fvs, px_pfs, px_cts, px_cls, px_acs_, px_acn, true_and, and_true, true_or, or_true, false_or, or_false, and_self, not_true_eq_false, not_false_eq_true, Classical.not_not, Nat.reduceAdd, Nat.reduceSub, Nat.reduceBEq, Nat.reduceLT, Nat.reduceLeDiff, Nat.lt_add_one, px_tg, Int.cast_ofNat_Int, Int.reduceAdd, Int.reduceSub, Int.reduceMul, Int.reduceToNat, Int.reduceLE, Int.reduceLT, Int.reduceNeg, Int.reduceEq, Bool.or_false, Bool.false_or, Bool.or_true, Bool.true_or, List.length_cons, List.length_nil, List.nil_append, List.cons_append, Option.toList_some, Option.toList_none, reduceCtorEq, Option.some.injEq, Nat.zero_le, Nat.reduceMul, Nat.mul_zero, Nat.add_zero, Int.reduceDiv, Int.reduceMod, Int.toNat_natCast, Nat.lt_irrefl, Int.natCast_add, Int.cast_ofNat_Int, px_mds_RX9_0, dec_X9_copyFrom, hw, wk, wl, hv, vk, vl]
  simp (disch := omega) only [px_cp_o]
  repeat refine ⟨by omega, ?_⟩
  refine h1 _ (fun o h2 h3 => ?_) ?_ ?_
  · simp (disch := omega) only [px_up_o, px_cp_o]
  · apply List.ext_getElem?
    intro k
    rw [pc_tx_get, pc_tx_get]
    simp (disch := omega) only [px_up_o, px_up_eq, px_cp_o]
    split
    · simp (disch := omega) only [px_up_o, px_cp_in]
      rw [show (0 : Int) + ((k : Int) - 0) = k by omega]
    · rfl
  · simp (disch := omega) only [px_up_o, px_up_eq, px_cp_o]
set_option maxHeartbeats 4000000 in
set_option maxRecDepth 100000 in
theorem c_X9_isSame {G : px_G} {w v : Nat} {μ : px_Mem} {Q : Option px_X → px_Mem → Prop} (hw : px_kd w = 8) (hv : px_kd v = 8) (hn : 0 ≤ μ v 1 ∧ μ v 1 ≤ 28) (hm : 0 ≤ μ w 1 ∧ μ w 1 ≤ 28) (rw_ : ∀ i, 0 ≤ i → i < μ w 1 → 97 ≤ μ (w + 1) i ∧ μ (w + 1) i ≤ 122) (rv_ : ∀ i, 0 ≤ i → i < μ v 1 → 97 ≤ μ (v + 1) i ∧ μ (v + 1) i ≤ 122)
    (h1 : pc_tx μ w = pc_tx μ v → Q (some (.inl 1)) μ) (h0 : pc_tx μ w ≠ pc_tx μ v → Q (some (.inl 0)) μ) : px_C G yX9_isSame cX9_isSame 3 (some .boolean) 0 [.inr (.inl (some w)), .inr (.inl (some v))] μ Q := by
  obtain ⟨wk, wl⟩ := pc_wk hw
  obtain ⟨vk, vl⟩ := pc_wk hv
  have loop : μ w 1 = μ v 1 → ∀ (n i : Nat), i + n = (μ w 1).toNat → (∀ j : Nat, j < i → μ (w + 1) j = μ (v + 1) j) → px_J G RX9 cX9_isSame 3 (some .boolean) 0 15 [some (.inr (.inl (some w))), some (.inr (.inl (some v))), some (.inl i)] [] μ Q := by
    intro he n
    induction n with
    | zero =>
      intro i h2 h3
      refine px_go (fun p => p == 15) 400 ?_
      simp only [px_lits, false_implies, true_implies, px_dec_ok, px_run_s, px_rules, px_rule_is, px_mats, px_calls, ↓reduceIte, eq_self, Bool.false_eq_true, px_flds, px_o_some, px_fvs, px_pfs, px_cts, px_cls, px_acs_, px_acn, true_and, and_true, true_or, or_true, false_or, or_false, and_self, not_true_eq_false, not_false_eq_true, Classical.not_not, Nat.reduceAdd, Nat.reduceSub, Nat.reduceBEq, Nat.reduceLT, Nat.reduceLeDiff, Nat.lt_add_one, px_tg, Int.cast_ofNat_Int, Int.reduceAdd, Int.reduceSub, Int.reduceMul, Int.reduceToNat, Int.reduceLE, Int.reduceLT, Int.reduceNeg, Int.reduceEq, Bool.or_false, Bool.false_or, Bool.or_true, Bool.true_or, List.length_cons, List.length_nil, List.nil_append, List.cons_append, Option.toList_some, Option.toList_none, reduceCtorEq, Option.some.injEq, Nat.zero_le, Nat.reduceMul, Nat.mul_zero, Nat.add_zero, Int.reduceDiv, Int.reduceMod, Int.toNat_natCast, Nat.lt_irrefl, Int.natCast_add, Int.cast_ofNat_Int, px_mds_RX9_0, dec_X9_isSame, hw, wk, wl, hv, vk, vl]
      simp (disch := omega) only [px_le_iff]
      refine ⟨fun _ => h1 ?_, fun q => absurd (by omega) q⟩
      apply List.ext_getElem?
      intro k
      rw [pc_tx_get, pc_tx_get, he]
      split
      · rw [h3 k (by omega)]
      · rfl
    | succ n ih =>
      intro i h2 h3
      have r1 := rw_ i (by omega) (by omega)
      have r2 := rv_ i (by omega) (by omega)
      refine px_go (fun p => p == 15) 400 ?_
      simp only [px_lits, false_implies, true_implies, px_dec_ok, px_run_s, px_rules, px_rule_is, px_mats, px_calls, ↓reduceIte, eq_self, Bool.false_eq_true, px_flds, px_o_some, px_fvs, px_pfs, px_cts, px_cls, px_acs_, px_acn, true_and, and_true, true_or, or_true, false_or, or_false, and_self, not_true_eq_false, not_false_eq_true, Classical.not_not, Nat.reduceAdd, Nat.reduceSub, Nat.reduceBEq, Nat.reduceLT, Nat.reduceLeDiff, Nat.lt_add_one, px_tg, Int.cast_ofNat_Int, Int.reduceAdd, Int.reduceSub, Int.reduceMul, Int.reduceToNat, Int.reduceLE, Int.reduceLT, Int.reduceNeg, Int.reduceEq, Bool.or_false, Bool.false_or, Bool.or_true, Bool.true_or, List.length_cons, List.length_nil, List.nil_append, List.cons_append, Option.toList_some, Option.toList_none, reduceCtorEq, Option.some.injEq, Nat.zero_le, Nat.reduceMul, Nat.mul_zero, Nat.add_zero, Int.reduceDiv, Int.reduceMod, Int.toNat_natCast, Nat.lt_irrefl, Int.natCast_add, Int.cast_ofNat_Int, px_mds_RX9_0, dec_X9_isSame, hw, wk, wl, hv, vk, vl]
      simp (disch := omega) only [px_le_iff, px_eq_iff]
      refine ⟨fun q => by omega, fun _ => ⟨by omega, by omega, fun e => ?_, fun e => h0 (fun q => e ?_)⟩⟩
      · have := ih (i + 1) (by omega) (fun j hj => by
          by_cases e2 : j = i
          · rw [e2]; exact e
          · exact h3 j (by omega))
        rwa [Int.natCast_add] at this
      · have e1 := pc_tx_at (μ := μ) (w := w) (i := i) (by omega) (by omega)
        rw [q, pc_tx_at (by omega) (by omega)] at e1
        exact (Option.some.inj e1).symm
  refine px_enter RX9 (by decide +kernel) rfl (by simp) (by simp [px_c1]) ?_
  simp only [List.map_cons, List.map_nil, List.length_cons, List.length_nil, List.replicate, List.append_nil, Nat.reduceAdd, Nat.reduceSub, List.cons_append, List.nil_append]
  refine px_go (fun p => p == 15) 400 ?_
  simp only [px_lits, false_implies, true_implies, px_dec_ok, px_run_s, px_rules, px_rule_is, px_mats, px_calls, ↓reduceIte, eq_self, Bool.false_eq_true, px_flds, px_o_some, px_fvs, px_pfs, px_cts, px_cls, px_acs_, px_acn, true_and, and_true, true_or, or_true, false_or, or_false, and_self, not_true_eq_false, not_false_eq_true, Classical.not_not, Nat.reduceAdd, Nat.reduceSub, Nat.reduceBEq, Nat.reduceLT, Nat.reduceLeDiff, Nat.lt_add_one, px_tg, Int.cast_ofNat_Int, Int.reduceAdd, Int.reduceSub, Int.reduceMul, Int.reduceToNat, Int.reduceLE, Int.reduceLT, Int.reduceNeg, Int.reduceEq, Bool.or_false, Bool.false_or, Bool.or_true, Bool.true_or, List.length_cons, List.length_nil, List.nil_append, List.cons_append, Option.toList_some, Option.toList_none, reduceCtorEq, Option.some.injEq, Nat.zero_le, Nat.reduceMul, Nat.mul_zero, Nat.add_zero, Int.reduceDiv, Int.reduceMod, Int.toNat_natCast, Nat.lt_irrefl, Int.natCast_add, Int.cast_ofNat_Int, px_mds_RX9_0, dec_X9_isSame, hw, wk, wl, hv, vk, vl]
  simp (disch := omega) only [px_eq_iff]
  refine ⟨fun e => loop e (μ w 1).toNat 0 (by omega) (fun j hj => by omega), fun e => h0 (fun q => e ?_)⟩
  have := congrArg List.length q
  rw [pc_tx_len, pc_tx_len] at this
  omega
end
section
/-! ===== both houses: two histories, what is held, with which it clashes ===== -/
theorem pc_Hk {H : Nat} (hH : px_kd H = 1) : (px_kd (H + 1) = 22 ∧ px_kd (H + 2) = 20 ∧ px_kd (H + 3) = 20 ∧ px_kd (H + 4) = 0 ∧ px_kd (H + 9) = 0) ∧ (px_ln (H + 1) = 2 ∧ px_ln (H + 2) = 2 ∧ px_ln (H + 3) = 2) ∧ (px_el 22 (H + 1) 0 = H + 4 ∧ px_el 22 (H + 1) 1 = H + 9) := by
  have h1 : H < 221 := px_kd_lt (by omega)
  have key : ∀ k : Fin 221, px_kd k = 1 → (px_kd (k + 1) = 22 ∧ px_kd (k + 2) = 20 ∧ px_kd (k + 3) = 20 ∧ px_kd (k + 4) = 0 ∧ px_kd (k + 9) = 0) ∧ (px_ln (k + 1) = 2 ∧ px_ln (k + 2) = 2 ∧ px_ln (k + 3) = 2) := by decide +kernel
  obtain ⟨a, b⟩ := key ⟨H, h1⟩ hH
  exact ⟨a, b, rfl, rfl⟩
theorem pc_HH {H K : Nat} (hH : px_kd H = 1) (hK : px_kd K = 1) : H = K ∨ H + 14 ≤ K ∨ K + 14 ≤ H := by
  have key : ∀ k : Fin 221, px_kd k = 1 → (List.range 13).all (fun j => decide (px_kd (k + 1 + j) ≠ 1)) = true := by decide +kernel
  have far : ∀ A B : Nat, px_kd A = 1 → px_kd B = 1 → A < B → A + 14 ≤ B := by
    intro A B hA hB h
    have h1 : A < 221 := px_kd_lt (by omega)
    have h2 := key ⟨A, h1⟩ hA
    rcases Nat.lt_or_ge B (A + 14) with q | q
    · have := List.all_eq_true.mp h2 (B - A - 1) (List.mem_range.mpr (by omega))
      have e : A + 1 + (B - A - 1) = B := by omega
      simp only [decide_eq_true_eq, ne_eq] at this
      rw [e] at this
      exact absurd hB this
    · exact q
  rcases Nat.lt_trichotomy H K with h | h | h
  · exact Or.inr (Or.inl (far H K hH hK h))
  · exact Or.inl h
  · exact Or.inr (Or.inr (far K H hK hH h))
abbrev pc_HS : Type := (List pc_Ch × Int × Int) × (List pc_Ch × Int × Int)
def pc_hsv (μ : px_Mem) (H : Nat) : pc_HS := ((pc_hl μ (H + 4), μ (H + 2) 0, μ (H + 3) 0), (pc_hl μ (H + 9), μ (H + 2) 1, μ (H + 3) 1))
def pc_hsb (μ : px_Mem) (H : Nat) : Prop := (0 ≤ μ (H + 4) 4 ∧ μ (H + 4) 4 ≤ 16) ∧ (0 ≤ μ (H + 9) 4 ∧ μ (H + 9) 4 ≤ 16)
theorem pc_hsv_same {μ μ1 : px_Mem} {H : Nat} (h : ∀ o, H ≤ o → o ≤ H + 13 → μ1 o = μ o) : pc_hsv μ1 H = pc_hsv μ H ∧ (pc_hsb μ H → pc_hsb μ1 H) := by
  unfold pc_hsv pc_hsb pc_hl
  simp only [Nat.add_assoc, Nat.reduceAdd]
  rw [h (H + 2) (by omega) (by omega), h (H + 3) (by omega) (by omega), h (H + 4) (by omega) (by omega), h (H + 5) (by omega) (by omega), h (H + 6) (by omega) (by omega), h (H + 7) (by omega) (by omega), h (H + 8) (by omega) (by omega), h (H + 9) (by omega) (by omega), h (H + 10) (by omega) (by omega), h (H + 11) (by omega) (by omega), h (H + 12) (by omega) (by omega), h (H + 13) (by omega) (by omega)]
  exact ⟨rfl, id⟩
set_option maxHeartbeats 4000000 in
set_option maxRecDepth 100000 in
theorem c_X1_copyFrom {G : px_G} {H K : Nat} {μ : px_Mem} {Q : Option px_X → px_Mem → Prop} (hH : px_kd H = 1) (hK : px_kd K = 1) (hne : H ≠ K) (hb : pc_hsb μ K)
    (h1 : ∀ μ1 : px_Mem, (∀ o, (o < H ∨ H + 13 < o) → μ1 o = μ o) → pc_hsv μ1 H = pc_hsv μ K → pc_hsb μ1 H → Q none μ1) : px_C G yX1_copyFrom cX1_copyFrom 3 none 2 [.inr (.inl (some H)), .inr (.inl (some K))] μ Q := by
  obtain ⟨Hk, Hl, He⟩ := pc_Hk hH
  obtain ⟨Kk, Kl, Ke⟩ := pc_Hk hK
  have hd := pc_HH hH hK
  refine px_enter RX1 (by decide +kernel) rfl (by simp) (by simp [px_c1]) ?_
  simp only [List.map_cons, List.map_nil, List.length_cons, List.length_nil, List.replicate, List.append_nil, Nat.reduceAdd, Nat.reduceSub, List.cons_append, List.nil_append]
  refine px_go (fun _ => false) 400 ?_
  simp (disch := omega) only [px_lits, false_implies, true_implies, px_dec_ok, px_run_s, px_rules, px_rule_is, px_mats, px_calls, ↓reduceIte, eq_self, Bool.false_eq_true, px_flds, px_o_some, px_fvs, px_pfs, px_cts, px_cls, px_acs_, px_acn, true_and, and_true, true_or, or_true, false_or, or_false, and_self, not_true_eq_false, not_false_eq_true, Classical.not_not, Nat.reduceAdd, Nat.reduceSub, Nat.reduceBEq, Nat.reduceLT, Nat.reduceLeDiff, Nat.lt_add_one, px_tg, Int.cast_ofNat_Int, Int.reduceAdd, Int.reduceSub, Int.reduceMul, Int.reduceToNat, Int.reduceLE, Int.reduceLT, Int.reduceNeg, Int.reduceEq, Bool.or_false, Bool.false_or, Bool.or_true, Bool.true_or, List.length_cons, List.length_nil, List.nil_append, List.cons_append, Option.toList_some, Option.toList_none, reduceCtorEq, Option.some.injEq, Nat.zero_le, Nat.reduceMul, Nat.mul_zero, Nat.add_zero, Int.reduceDiv, Int.reduceMod, Int.toNat_natCast, Nat.lt_irrefl, Int.natCast_add, Int.cast_ofNat_Int, px_mds_RX1_0, dec_X1_copyFrom, px_eq_iff, px_lt_iff, px_le_iff, px_up_o, px_up_eq, px_up_ne, px_cp_o, hH, Hk, Hl, He, hK, Kk, Kl, Ke]
  refine c_X0_copyFrom Hk.2.2.2.1 Kk.2.2.2.1 (by omega) hb.1 (fun μ1 e1 e2 e3 => ?_)
  refine px_go (fun _ => false) 400 ?_
  simp (disch := omega) only [px_lits, false_implies, true_implies, px_dec_ok, px_run_s, px_rules, px_rule_is, px_mats, px_calls, ↓reduceIte, eq_self, Bool.false_eq_true, px_flds, px_o_some, px_fvs, px_pfs, px_cts, px_cls, px_acs_, px_acn, true_and, and_true, true_or, or_true, false_or, or_false, and_self, not_true_eq_false, not_false_eq_true, Classical.not_not, Nat.reduceAdd, Nat.reduceSub, Nat.reduceBEq, Nat.reduceLT, Nat.reduceLeDiff, Nat.lt_add_one, px_tg, Int.cast_ofNat_Int, Int.reduceAdd, Int.reduceSub, Int.reduceMul, Int.reduceToNat, Int.reduceLE, Int.reduceLT, Int.reduceNeg, Int.reduceEq, Bool.or_false, Bool.false_or, Bool.or_true, Bool.true_or, List.length_cons, List.length_nil, List.nil_append, List.cons_append, Option.toList_some, Option.toList_none, reduceCtorEq, Option.some.injEq, Nat.zero_le, Nat.reduceMul, Nat.mul_zero, Nat.add_zero, Int.reduceDiv, Int.reduceMod, Int.toNat_natCast, Nat.lt_irrefl, Int.natCast_add, Int.cast_ofNat_Int, px_mds_RX1_0, dec_X1_copyFrom, px_eq_iff, px_lt_iff, px_le_iff, px_up_o, px_up_eq, px_up_ne, px_cp_o, hH, Hk, Hl, He, hK, Kk, Kl, Ke]
  refine c_X0_copyFrom Hk.2.2.2.2 Kk.2.2.2.2 (by omega) (by simp (disch := omega) only [px_up_o]; rw [e1 (K + 9) (by omega)]; exact hb.2) (fun μ2 f1 f2 f3 => ?_)
  refine px_go (fun _ => false) 400 ?_
  simp (disch := omega) only [px_lits, false_implies, true_implies, px_dec_ok, px_run_s, px_rules, px_rule_is, px_mats, px_calls, ↓reduceIte, eq_self, Bool.false_eq_true, px_flds, px_o_some, px_fvs, px_pfs, px_cts, px_cls, px_acs_, px_acn, true_and, and_true, true_or, or_true, false_or, or_false, and_self, not_true_eq_false, not_false_eq_true, Classical.not_not, Nat.reduceAdd, Nat.reduceSub, Nat.reduceBEq, Nat.reduceLT, Nat.reduceLeDiff, Nat.lt_add_one, px_tg, Int.cast_ofNat_Int, Int.reduceAdd, Int.reduceSub, Int.reduceMul, Int.reduceToNat, Int.reduceLE, Int.reduceLT, Int.reduceNeg, Int.reduceEq, Bool.or_false, Bool.false_or, Bool.or_true, Bool.true_or, List.length_cons, List.length_nil, List.nil_append, List.cons_append, Option.toList_some, Option.toList_none, reduceCtorEq, Option.some.injEq, Nat.zero_le, Nat.reduceMul, Nat.mul_zero, Nat.add_zero, Int.reduceDiv, Int.reduceMod, Int.toNat_natCast, Nat.lt_irrefl, Int.natCast_add, Int.cast_ofNat_Int, px_mds_RX1_0, dec_X1_copyFrom, px_eq_iff, px_lt_iff, px_le_iff, px_up_o, px_up_eq, px_up_ne, px_cp_o, hH, Hk, Hl, He, hK, Kk, Kl, Ke]
  simp (disch := omega) only [px_up_o, px_up_eq, px_up_ne] at f2
  have fb : ∀ o, (o < H ∨ H + 13 < o) → μ2 o = μ o := fun o ho => by
    rw [f1 o (by omega)]
    simp (disch := omega) only [px_up_o]
    exact e1 o (by omega)
  have e8 : pc_hl (px_up (px_up μ1 (H + 2) 0 (μ1 (K + 2) 0)) (H + 3) 0 (μ1 (K + 3) 0)) (K + 9) = pc_hl μ (K + 9) := by
    refine pc_hl_same ?_ ?_ ?_ ?_ ?_
    all_goals
      simp (disch := omega) only [px_up_o]
      exact e1 _ (by omega)
  have e9 : pc_hl μ2 (H + 4) = pc_hl μ1 (H + 4) := by
    refine pc_hl_same ?_ ?_ ?_ ?_ ?_
    all_goals
      rw [f1 _ (by omega)]
      simp (disch := omega) only [px_up_o]
  refine h1 _ (fun o ho => ?_) ?_ ?_
  · simp (disch := omega) only [px_up_o]
    exact fb o ho
  · unfold pc_hsv
    have g1 : ∀ a b, pc_hl (px_up (px_up μ2 (H + 2) 1 a) (H + 3) 1 b) (H + 4) = pc_hl μ2 (H + 4) := fun a b => by
      refine pc_hl_same ?_ ?_ ?_ ?_ ?_ <;> simp (disch := omega) only [px_up_o]
    have g2 : ∀ a b, pc_hl (px_up (px_up μ2 (H + 2) 1 a) (H + 3) 1 b) (H + 9) = pc_hl μ2 (H + 9) := fun a b => by
      refine pc_hl_same ?_ ?_ ?_ ?_ ?_ <;> simp (disch := omega) only [px_up_o]
    rw [g1, g2, e9, f3, e8, e3]
    simp (disch := omega) only [px_up_o, px_up_eq, px_up_ne]
    rw [fb (K + 2) (by omega), fb (K + 3) (by omega), f1 (H + 2) (by omega), f1 (H + 3) (by omega)]
    simp (disch := omega) only [px_up_o, px_up_eq, px_up_ne]
    rw [e1 (K + 2) (by omega), e1 (K + 3) (by omega)]
  · unfold pc_hsb
    simp (disch := omega) only [px_up_o]
    rw [f2, f1 (H + 4) (by omega)]
    simp (disch := omega) only [px_up_o]
    rw [e2, e1 (K + 9) (by omega)]
    exact hb
set_option maxHeartbeats 4000000 in
set_option maxRecDepth 100000 in
theorem c_X1_clear {G : px_G} {H : Nat} {μ : px_Mem} {Q : Option px_X → px_Mem → Prop} (hH : px_kd H = 1)
    (h1 : ∀ μ1 : px_Mem, (∀ o, (o < H ∨ H + 13 < o) → μ1 o = μ o) → pc_hsv μ1 H = (([], -1, -1), ([], -1, -1)) → pc_hsb μ1 H → Q none μ1) : px_C G yX1_clear cX1_clear 2 none 0 [.inr (.inl (some H))] μ Q := by
  obtain ⟨Hk, Hl, He⟩ := pc_Hk hH
  refine px_enter RX1 (by decide +kernel) rfl (by simp) (by simp [px_c1]) ?_
  simp only [List.map_cons, List.map_nil, List.length_cons, List.length_nil, List.replicate, List.append_nil, Nat.reduceAdd, Nat.reduceSub, List.cons_append, List.nil_append]
  refine px_go (fun p => p == 2) 400 ?_
  simp (disch := omega) only [px_lits, false_implies, true_implies, px_dec_ok, px_run_s, px_rules, px_rule_is, px_mats, px_calls, ↓reduceIte, eq_self, Bool.false_eq_true, px_flds, px_o_some, px_fvs, px_pfs, px_cts, px_cls, px_acs_, px_acn, true_and, and_true, true_or, or_true, false_or, or_false, and_self, not_true_eq_false, not_false_eq_true, Classical.not_not, Nat.reduceAdd, Nat.reduceSub, Nat.reduceBEq, Nat.reduceLT, Nat.reduceLeDiff, Nat.lt_add_one, px_tg, Int.cast_ofNat_Int, Int.reduceAdd, Int.reduceSub, Int.reduceMul, Int.reduceToNat, Int.reduceLE, Int.reduceLT, Int.reduceNeg, Int.reduceEq, Bool.or_false, Bool.false_or, Bool.or_true, Bool.true_or, List.length_cons, List.length_nil, List.nil_append, List.cons_append, Option.toList_some, Option.toList_none, reduceCtorEq, Option.some.injEq, Nat.zero_le, Nat.reduceMul, Nat.mul_zero, Nat.add_zero, Int.reduceDiv, Int.reduceMod, Int.toNat_natCast, Nat.lt_irrefl, Int.natCast_add, Int.cast_ofNat_Int, px_mds_RX1_0, dec_X1_clear, px_eq_iff, px_lt_iff, px_le_iff, px_up_o, px_up_eq, px_up_ne, px_cp_o, hH, Hk, Hl, He]
  refine px_go (fun p => p == 2) 400 ?_
  simp (disch := omega) only [px_lits, false_implies, true_implies, px_dec_ok, px_run_s, px_rules, px_rule_is, px_mats, px_calls, ↓reduceIte, eq_self, Bool.false_eq_true, px_flds, px_o_some, px_fvs, px_pfs, px_cts, px_cls, px_acs_, px_acn, true_and, and_true, true_or, or_true, false_or, or_false, and_self, not_true_eq_false, not_false_eq_true, Classical.not_not, Nat.reduceAdd, Nat.reduceSub, Nat.reduceBEq, Nat.reduceLT, Nat.reduceLeDiff, Nat.lt_add_one, px_tg, Int.cast_ofNat_Int, Int.reduceAdd, Int.reduceSub, Int.reduceMul, Int.reduceToNat, Int.reduceLE, Int.reduceLT, Int.reduceNeg, Int.reduceEq, Bool.or_false, Bool.false_or, Bool.or_true, Bool.true_or, List.length_cons, List.length_nil, List.nil_append, List.cons_append, Option.toList_some, Option.toList_none, reduceCtorEq, Option.some.injEq, Nat.zero_le, Nat.reduceMul, Nat.mul_zero, Nat.add_zero, Int.reduceDiv, Int.reduceMod, Int.toNat_natCast, Nat.lt_irrefl, Int.natCast_add, Int.cast_ofNat_Int, px_mds_RX1_0, dec_X1_clear, px_eq_iff, px_lt_iff, px_le_iff, px_up_o, px_up_eq, px_up_ne, px_cp_o, hH, Hk, Hl, He]
  refine px_go (fun p => p == 2) 400 ?_
  simp (disch := omega) only [px_lits, false_implies, true_implies, px_dec_ok, px_run_s, px_rules, px_rule_is, px_mats, px_calls, ↓reduceIte, eq_self, Bool.false_eq_true, px_flds, px_o_some, px_fvs, px_pfs, px_cts, px_cls, px_acs_, px_acn, true_and, and_true, true_or, or_true, false_or, or_false, and_self, not_true_eq_false, not_false_eq_true, Classical.not_not, Nat.reduceAdd, Nat.reduceSub, Nat.reduceBEq, Nat.reduceLT, Nat.reduceLeDiff, Nat.lt_add_one, px_tg, Int.cast_ofNat_Int, Int.reduceAdd, Int.reduceSub, Int.reduceMul, Int.reduceToNat, Int.reduceLE, Int.reduceLT, Int.reduceNeg, Int.reduceEq, Bool.or_false, Bool.false_or, Bool.or_true, Bool.true_or, List.length_cons, List.length_nil, List.nil_append, List.cons_append, Option.toList_some, Option.toList_none, reduceCtorEq, Option.some.injEq, Nat.zero_le, Nat.reduceMul, Nat.mul_zero, Nat.add_zero, Int.reduceDiv, Int.reduceMod, Int.toNat_natCast, Nat.lt_irrefl, Int.natCast_add, Int.cast_ofNat_Int, px_mds_RX1_0, dec_X1_clear, px_eq_iff, px_lt_iff, px_le_iff, px_up_o, px_up_eq, px_up_ne, px_cp_o, hH, Hk, Hl, He]
  refine px_go (fun p => p == 2) 400 ?_
  simp (disch := omega) only [px_lits, false_implies, true_implies, px_dec_ok, px_run_s, px_rules, px_rule_is, px_mats, px_calls, ↓reduceIte, eq_self, Bool.false_eq_true, px_flds, px_o_some, px_fvs, px_pfs, px_cts, px_cls, px_acs_, px_acn, true_and, and_true, true_or, or_true, false_or, or_false, and_self, not_true_eq_false, not_false_eq_true, Classical.not_not, Nat.reduceAdd, Nat.reduceSub, Nat.reduceBEq, Nat.reduceLT, Nat.reduceLeDiff, Nat.lt_add_one, px_tg, Int.cast_ofNat_Int, Int.reduceAdd, Int.reduceSub, Int.reduceMul, Int.reduceToNat, Int.reduceLE, Int.reduceLT, Int.reduceNeg, Int.reduceEq, Bool.or_false, Bool.false_or, Bool.or_true, Bool.true_or, List.length_cons, List.length_nil, List.nil_append, List.cons_append, Option.toList_some, Option.toList_none, reduceCtorEq, Option.some.injEq, Nat.zero_le, Nat.reduceMul, Nat.mul_zero, Nat.add_zero, Int.reduceDiv, Int.reduceMod, Int.toNat_natCast, Nat.lt_irrefl, Int.natCast_add, Int.cast_ofNat_Int, px_mds_RX1_0, dec_X1_clear, px_eq_iff, px_lt_iff, px_le_iff, px_up_o, px_up_eq, px_up_ne, px_cp_o, hH, Hk, Hl, He]
  refine h1 _ (fun o ho => ?_) ?_ ?_
  · simp (disch := omega) only [px_up_o]
  · unfold pc_hsv
    have z : ∀ (m : px_Mem) (h : Nat), m h 4 = 0 → pc_hl m h = [] := fun m h e => by unfold pc_hl; rw [e]; rfl
    rw [z _ (H + 4) (by simp (disch := omega) only [px_up_o, px_up_eq]), z _ (H + 9) (by simp (disch := omega) only [px_up_o, px_up_eq])]
    simp (disch := omega) only [px_up_o, px_up_eq, px_up_ne]
  · unfold pc_hsb
    simp (disch := omega) only [px_up_o, px_up_eq]
    omega
/-! ===== what was done: a ring of eight ===== -/
theorem pc_row (j : Nat) (h : j < 8) : px_kd (19 + 14 * j) = 1 := by
  have key : ∀ k : Fin 8, px_kd (19 + 14 * k) = 1 := by decide +kernel
  exact key ⟨j, h⟩
theorem pc_past_k : px_kd 17 = 5 ∧ px_kd 18 = 23 ∧ px_ln 18 = 8 := by decide +kernel
def pc_ring (next k : Int) : Nat := 19 + 14 * ((next + 7 - k) % 8).toNat
def pc_past (μ : px_Mem) : List pc_HS := (List.range (μ 17 2).toNat).map (fun k : Nat => pc_hsv μ (pc_ring (μ 17 1) k))
def pc_pastb (μ : px_Mem) : Prop := (0 ≤ μ 17 1 ∧ μ 17 1 < 8) ∧ (0 ≤ μ 17 2 ∧ μ 17 2 ≤ 8) ∧ ∀ j : Nat, j < 8 → pc_hsb μ (19 + 14 * j)
set_option maxHeartbeats 4000000 in
set_option maxRecDepth 100000 in
theorem c_X5_push {G : px_G} {μ : px_Mem} {Q : Option px_X → px_Mem → Prop} (hp : pc_pastb μ) (hb : pc_hsb μ 3)
    (h1 : ∀ μ1 : px_Mem, (∀ o, (o < 17 ∨ 130 < o) → μ1 o = μ o) → pc_pastb μ1 → pc_past μ1 = (pc_hsv μ 3 :: pc_past μ).take 8 → Q none μ1) : px_C G yX5_push cX5_push 2 none 3 [.inr (.inl (some 17)), .inr (.inl (some 3))] μ Q := by
  obtain ⟨p1, p2, p3⟩ := pc_past_k
  have e0 : px_el 23 18 (μ 17 1).toNat = 19 + 14 * (μ 17 1).toNat := rfl
  have k0 := pc_row (μ 17 1).toNat (by have := hp.1; omega)
  have k3 : px_kd 3 = 1 := by decide +kernel
  have hp1 := hp.1
  have hp2 := hp.2.1
  refine px_enter RX5 (by decide +kernel) rfl (by simp) (by simp [px_c1]) ?_
  simp only [List.map_cons, List.map_nil, List.length_cons, List.length_nil, List.replicate, List.append_nil, Nat.reduceAdd, Nat.reduceSub, List.cons_append, List.nil_append]
  refine px_go (fun _ => false) 400 ?_
  simp (disch := omega) only [px_lits, false_implies, true_implies, px_dec_ok, px_run_s, px_rules, px_rule_is, px_mats, px_calls, ↓reduceIte, eq_self, Bool.false_eq_true, px_flds, px_o_some, px_fvs, px_pfs, px_cts, px_cls, px_acs_, px_acn, true_and, and_true, true_or, or_true, false_or, or_false, and_self, not_true_eq_false, not_false_eq_true, Classical.not_not, Nat.reduceAdd, Nat.reduceSub, Nat.reduceBEq, Nat.reduceLT, Nat.reduceLeDiff, Nat.lt_add_one, px_tg, Int.cast_ofNat_Int, Int.reduceAdd, Int.reduceSub, Int.reduceMul, Int.reduceToNat, Int.reduceLE, Int.reduceLT, Int.reduceNeg, Int.reduceEq, Bool.or_false, Bool.false_or, Bool.or_true, Bool.true_or, List.length_cons, List.length_nil, List.nil_append, List.cons_append, Option.toList_some, Option.toList_none, reduceCtorEq, Option.some.injEq, Nat.zero_le, Nat.reduceMul, Nat.mul_zero, Nat.add_zero, Int.reduceDiv, Int.reduceMod, Int.toNat_natCast, Nat.lt_irrefl, Int.natCast_add, Int.cast_ofNat_Int, px_mds_RX5_0, dec_X5_push, px_eq_iff, px_lt_iff, px_le_iff, px_up_o, px_up_eq, px_up_ne, px_cp_o, p1, p2, p3, e0, k0]
  refine ⟨hp1, ?_⟩
  refine c_X1_copyFrom k0 k3 (by omega) hb (fun μ1 f1 f2 f3 => ?_)
  have g17 : μ1 17 = μ 17 := f1 17 (by omega)
  have m1 : (μ 17 1 + 1) % 8 = (if μ 17 1 = 7 then 0 else μ 17 1 + 1) := by split <;> omega
  refine px_go (fun p => p == 35) 400 ?_
  simp (disch := omega) only [px_lits, false_implies, true_implies, px_dec_ok, px_run_s, px_rules, px_rule_is, px_mats, px_calls, ↓reduceIte, eq_self, Bool.false_eq_true, px_flds, px_o_some, px_fvs, px_pfs, px_cts, px_cls, px_acs_, px_acn, true_and, and_true, true_or, or_true, false_or, or_false, and_self, not_true_eq_false, not_false_eq_true, Classical.not_not, Nat.reduceAdd, Nat.reduceSub, Nat.reduceBEq, Nat.reduceLT, Nat.reduceLeDiff, Nat.lt_add_one, px_tg, Int.cast_ofNat_Int, Int.reduceAdd, Int.reduceSub, Int.reduceMul, Int.reduceToNat, Int.reduceLE, Int.reduceLT, Int.reduceNeg, Int.reduceEq, Bool.or_false, Bool.false_or, Bool.or_true, Bool.true_or, List.length_cons, List.length_nil, List.nil_append, List.cons_append, Option.toList_some, Option.toList_none, reduceCtorEq, Option.some.injEq, Nat.zero_le, Nat.reduceMul, Nat.mul_zero, Nat.add_zero, Int.reduceDiv, Int.reduceMod, Int.toNat_natCast, Nat.lt_irrefl, Int.natCast_add, Int.cast_ofNat_Int, px_mds_RX5_0, dec_X5_push, px_eq_iff, px_lt_iff, px_le_iff, px_up_o, px_up_eq, px_up_ne, px_cp_o, p1, p2, p3, e0, k0, g17]
  refine ⟨by omega, ?_⟩
  refine px_min rfl (by decide +kernel) (by decide) (by omega) (by simp) ?_
  refine px_go (fun _ => false) 400 ?_
  simp (disch := omega) only [px_lits, false_implies, true_implies, px_dec_ok, px_run_s, px_rules, px_rule_is, px_mats, px_calls, ↓reduceIte, eq_self, Bool.false_eq_true, px_flds, px_o_some, px_fvs, px_pfs, px_cts, px_cls, px_acs_, px_acn, true_and, and_true, true_or, or_true, false_or, or_false, and_self, not_true_eq_false, not_false_eq_true, Classical.not_not, Nat.reduceAdd, Nat.reduceSub, Nat.reduceBEq, Nat.reduceLT, Nat.reduceLeDiff, Nat.lt_add_one, px_tg, Int.cast_ofNat_Int, Int.reduceAdd, Int.reduceSub, Int.reduceMul, Int.reduceToNat, Int.reduceLE, Int.reduceLT, Int.reduceNeg, Int.reduceEq, Bool.or_false, Bool.false_or, Bool.or_true, Bool.true_or, List.length_cons, List.length_nil, List.nil_append, List.cons_append, Option.toList_some, Option.toList_none, reduceCtorEq, Option.some.injEq, Nat.zero_le, Nat.reduceMul, Nat.mul_zero, Nat.add_zero, Int.reduceDiv, Int.reduceMod, Int.toNat_natCast, Nat.lt_irrefl, Int.natCast_add, Int.cast_ofNat_Int, px_mds_RX5_0, dec_X5_push, px_eq_iff, px_lt_iff, px_le_iff, px_up_o, px_up_eq, px_up_ne, px_cp_o, p1, p2, p3, e0, k0, g17]
  have hc : (if (8 : Int) < μ 17 2 + 1 then 8 else μ 17 2 + 1) = if μ 17 2 = 8 then 8 else μ 17 2 + 1 := by split <;> split <;> omega
  rw [hc]
  have row : ∀ (a b c : Int) (j : Nat), j < 8 → j ≠ (μ 17 1).toNat → pc_hsv (px_up (px_up μ1 17 1 a) 17 2 b) (19 + 14 * j) = pc_hsv μ (19 + 14 * j) ∧ (pc_hsb μ (19 + 14 * j) → pc_hsb (px_up (px_up μ1 17 1 a) 17 2 b) (19 + 14 * j)) := by
    intro a b c j j1 j2
    refine pc_hsv_same (fun o o1 o2 => ?_)
    simp (disch := omega) only [px_up_o]
    exact f1 o (by omega)
  have rown : ∀ (a b : Int), pc_hsv (px_up (px_up μ1 17 1 a) 17 2 b) (19 + 14 * (μ 17 1).toNat) = pc_hsv μ1 (19 + 14 * (μ 17 1).toNat) ∧ (pc_hsb μ1 (19 + 14 * (μ 17 1).toNat) → pc_hsb (px_up (px_up μ1 17 1 a) 17 2 b) (19 + 14 * (μ 17 1).toNat)) := by
    intro a b
    refine pc_hsv_same (fun o o1 o2 => ?_)
    simp (disch := omega) only [px_up_o]
  refine h1 _ (fun o ho => ?_) ?_ ?_
  · simp (disch := omega) only [px_up_o]
    exact f1 o (by omega)
  · unfold pc_pastb
    simp (disch := omega) only [px_up_o, px_up_eq, px_up_ne]
    refine ⟨by omega, by split <;> omega, fun j hj => ?_⟩
    by_cases e : j = (μ 17 1).toNat
    · rw [e]
      exact (rown _ _).2 f3
    · exact (row _ _ 0 j hj e).2 (hp.2.2 j hj)
  · apply List.ext_getElem?
    intro k
    have hg : ∀ (m : px_Mem) (k : Nat), (pc_past m)[k]? = if k < (m 17 2).toNat then some (pc_hsv m (pc_ring (m 17 1) k)) else none := by
      intro m k
      unfold pc_past
      rw [List.getElem?_map]
      split
      · rename_i q
        rw [List.getElem?_range q]
        rfl
      · rename_i q
        rw [List.getElem?_eq_none (by rw [List.length_range]; omega)]
        rfl
    rw [hg, List.getElem?_take]
    simp (disch := omega) only [px_up_o, px_up_eq, px_up_ne]
    by_cases c1 : k < 8
    · rw [if_pos c1]
      cases k with
      | zero =>
        rw [if_pos (by split <;> omega), List.getElem?_cons_zero]
        have : pc_ring ((μ 17 1 + 1) % 8) ((0 : Nat) : Int) = 19 + 14 * (μ 17 1).toNat := by
          unfold pc_ring
          omega
        rw [this, (rown _ _).1, f2]
      | succ k =>
        rw [List.getElem?_cons_succ, hg]
        by_cases c2 : k < (μ 17 2).toNat
        · rw [if_pos (by split <;> omega), if_pos c2]
          have e5 : pc_ring ((μ 17 1 + 1) % 8) ((k + 1 : Nat) : Int) = pc_ring (μ 17 1) k := by
            unfold pc_ring
            omega
          rw [e5]
          unfold pc_ring
          rw [(row _ _ 0 _ (by omega) (by omega)).1]
        · rw [if_neg (by split <;> omega), if_neg c2]
    · rw [if_neg c1, if_neg (by split <;> omega)]
set_option maxHeartbeats 4000000 in
set_option maxRecDepth 100000 in
theorem c_X5_pop {G : px_G} {μ : px_Mem} {Q : Option px_X → px_Mem → Prop} (hp : pc_pastb μ) (h0 : 0 < μ 17 2)
    (h1 : ∀ μ1 : px_Mem, (∀ o, o ≠ 17 → (o < 3 ∨ 16 < o) → μ1 o = μ o) → pc_pastb μ1 → μ1 17 2 = μ 17 2 - 1 → pc_past μ = pc_hsv μ1 3 :: pc_past μ1 → pc_hsb μ1 3 → Q none μ1) : px_C G yX5_pop cX5_pop 2 none 3 [.inr (.inl (some 17)), .inr (.inl (some 3))] μ Q := by
  obtain ⟨p1, p2, p3⟩ := pc_past_k
  have hp1 := hp.1
  have hp2 := hp.2.1
  have k3 : px_kd 3 = 1 := by decide +kernel
  have k0 := pc_row ((μ 17 1 + 8 - 1) % 8).toNat (by omega)
  have e0 : px_el 23 18 ((μ 17 1 + 8 - 1) % 8).toNat = 19 + 14 * ((μ 17 1 + 8 - 1) % 8).toNat := rfl
  have rw7 : ∀ a : Int, ∀ j : Nat, pc_hsv (px_up μ 17 1 a) (19 + 14 * j) = pc_hsv μ (19 + 14 * j) ∧ (pc_hsb μ (19 + 14 * j) → pc_hsb (px_up μ 17 1 a) (19 + 14 * j)) := by
    intro a j
    refine pc_hsv_same (fun o o1 o2 => ?_)
    simp (disch := omega) only [px_up_o]
  refine px_enter RX5 (by decide +kernel) rfl (by simp) (by simp [px_c1]) ?_
  simp only [List.map_cons, List.map_nil, List.length_cons, List.length_nil, List.replicate, List.append_nil, Nat.reduceAdd, Nat.reduceSub, List.cons_append, List.nil_append]
  refine px_go (fun _ => false) 400 ?_
  simp (disch := omega) only [px_lits, false_implies, true_implies, px_dec_ok, px_run_s, px_rules, px_rule_is, px_mats, px_calls, ↓reduceIte, eq_self, Bool.false_eq_true, px_flds, px_o_some, px_fvs, px_pfs, px_cts, px_cls, px_acs_, px_acn, true_and, and_true, true_or, or_true, false_or, or_false, and_self, not_true_eq_false, not_false_eq_true, Classical.not_not, Nat.reduceAdd, Nat.reduceSub, Nat.reduceBEq, Nat.reduceLT, Nat.reduceLeDiff, Nat.lt_add_one, px_tg, Int.cast_ofNat_Int, Int.reduceAdd, Int.reduceSub, Int.reduceMul, Int.reduceToNat, Int.reduceLE, Int.reduceLT, Int.reduceNeg, Int.reduceEq, Bool.or_false, Bool.false_or, Bool.or_true, Bool.true_or, List.length_cons, List.length_nil, List.nil_append, List.cons_append, Option.toList_some, Option.toList_none, reduceCtorEq, Option.some.injEq, Nat.zero_le, Nat.reduceMul, Nat.mul_zero, Nat.add_zero, Int.reduceDiv, Int.reduceMod, Int.toNat_natCast, Nat.lt_irrefl, Int.natCast_add, Int.cast_ofNat_Int, px_mds_RX5_0, dec_X5_pop, px_eq_iff, px_lt_iff, px_le_iff, px_up_o, px_up_eq, px_up_ne, px_cp_o, p1, p2, p3, e0, k0]
  refine ⟨fun _ => ?_, fun q => by omega⟩
  repeat refine ⟨by omega, ?_⟩
  refine c_X1_copyFrom k3 k0 (by omega) ((rw7 _ _).2 (hp.2.2 _ (by omega))) (fun μ1 f1 f2 f3 => ?_)
  have g17 : μ1 17 = px_up μ 17 1 ((μ 17 1 + 8 - 1) % 8) 17 := f1 17 (by omega)
  have g1 : μ1 17 1 = (μ 17 1 + 8 - 1) % 8 := by rw [g17]; simp [px_up]
  have g2 : μ1 17 2 = μ 17 2 := by rw [g17]; simp [px_up]
  refine px_go (fun _ => false) 400 ?_
  simp (disch := omega) only [px_lits, false_implies, true_implies, px_dec_ok, px_run_s, px_rules, px_rule_is, px_mats, px_calls, ↓reduceIte, eq_self, Bool.false_eq_true, px_flds, px_o_some, px_fvs, px_pfs, px_cts, px_cls, px_acs_, px_acn, true_and, and_true, true_or, or_true, false_or, or_false, and_self, not_true_eq_false, not_false_eq_true, Classical.not_not, Nat.reduceAdd, Nat.reduceSub, Nat.reduceBEq, Nat.reduceLT, Nat.reduceLeDiff, Nat.lt_add_one, px_tg, Int.cast_ofNat_Int, Int.reduceAdd, Int.reduceSub, Int.reduceMul, Int.reduceToNat, Int.reduceLE, Int.reduceLT, Int.reduceNeg, Int.reduceEq, Bool.or_false, Bool.false_or, Bool.or_true, Bool.true_or, List.length_cons, List.length_nil, List.nil_append, List.cons_append, Option.toList_some, Option.toList_none, reduceCtorEq, Option.some.injEq, Nat.zero_le, Nat.reduceMul, Nat.mul_zero, Nat.add_zero, Int.reduceDiv, Int.reduceMod, Int.toNat_natCast, Nat.lt_irrefl, Int.natCast_add, Int.cast_ofNat_Int, px_mds_RX5_0, dec_X5_pop, px_eq_iff, px_lt_iff, px_le_iff, px_up_o, px_up_eq, px_up_ne, px_cp_o, p1, p2, p3, e0, k0, g2]
  have row : ∀ (b : Int) (j : Nat), pc_hsv (px_up μ1 17 2 b) (19 + 14 * j) = pc_hsv μ (19 + 14 * j) ∧ (pc_hsb μ (19 + 14 * j) → pc_hsb (px_up μ1 17 2 b) (19 + 14 * j)) := by
    intro b j
    refine pc_hsv_same (fun o o1 o2 => ?_)
    simp (disch := omega) only [px_up_o]
    rw [f1 o (by omega)]
    simp (disch := omega) only [px_up_o]
  have now : ∀ b : Int, pc_hsv (px_up μ1 17 2 b) 3 = pc_hsv μ1 3 ∧ (pc_hsb μ1 3 → pc_hsb (px_up μ1 17 2 b) 3) := by
    intro b
    refine pc_hsv_same (fun o o1 o2 => ?_)
    simp (disch := omega) only [px_up_o]
  refine h1 _ (fun o h2 h3 => ?_) ?_ ?_ ?_ ((now _).2 f3)
  · simp (disch := omega) only [px_up_o]
    rw [f1 o (by omega)]
    simp (disch := omega) only [px_up_o]
  · unfold pc_pastb
    simp (disch := omega) only [px_up_o, px_up_eq, px_up_ne]
    rw [g1]
    exact ⟨by omega, by omega, fun j hj => (row _ j).2 (hp.2.2 j hj)⟩
  · simp (disch := omega) only [px_up_o, px_up_eq, px_up_ne]
  · apply List.ext_getElem?
    intro k
    have hg : ∀ (m : px_Mem) (k : Nat), (pc_past m)[k]? = if k < (m 17 2).toNat then some (pc_hsv m (pc_ring (m 17 1) k)) else none := by
      intro m k
      unfold pc_past
      rw [List.getElem?_map]
      split
      · rename_i q
        rw [List.getElem?_range q]
        rfl
      · rename_i q
        rw [List.getElem?_eq_none (by rw [List.length_range]; omega)]
        rfl
    rw [hg]
    cases k with
    | zero =>
      rw [if_pos (by omega), List.getElem?_cons_zero, (now _).1, f2]
      have e5 : pc_ring (μ 17 1) ((0 : Nat) : Int) = 19 + 14 * ((μ 17 1 + 8 - 1) % 8).toNat := by
        unfold pc_ring
        omega
      rw [e5, (rw7 _ _).1]
    | succ k =>
      rw [List.getElem?_cons_succ, hg]
      simp (disch := omega) only [px_up_o, px_up_eq, px_up_ne]
      by_cases c2 : k + 1 < (μ 17 2).toNat
      · rw [if_pos c2, if_pos (by omega), g1]
        have e5 : pc_ring ((μ 17 1 + 8 - 1) % 8) (k : Int) = pc_ring (μ 17 1) ((k + 1 : Nat) : Int) := by
          unfold pc_ring
          omega
        rw [e5]
        unfold pc_ring
        rw [(row _ _).1]
      · rw [if_neg c2, if_neg (by omega)]
end
section
/-! ===== shelves, lots ===== -/
theorem pc_sk {S : Nat} (hS : px_kd S = 7) : px_kd (S + 1) = 3 ∧ px_kd (S + 2) = 8 := by
  have h1 : S < 221 := px_kd_lt (by omega)
  have key : ∀ k : Fin 221, px_kd k = 7 → px_kd (k + 1) = 3 ∧ px_kd (k + 2) = 8 := by decide +kernel
  exact key ⟨S, h1⟩ hS
def pc_shv (μ : px_Mem) (S : Nat) : Option (pc_Ch ⊕ List Int) := if μ S 2 = 0 then none else if μ S 2 = 1 then some (.inl (μ (S + 1) 0, μ (S + 1) 1, μ (S + 1) 2, μ (S + 1) 3)) else some (.inr (pc_tx μ (S + 2)))
def pc_shb (μ : px_Mem) (S : Nat) : Prop := (μ S 2 = 0 ∨ μ S 2 = 1 ∨ μ S 2 = 2) ∧ (0 ≤ μ (S + 2) 1 ∧ μ (S + 2) 1 ≤ 28)
set_option maxHeartbeats 4000000 in
set_option maxRecDepth 100000 in
theorem c_X7_holdChange {G : px_G} {S h : Nat} {i : Int} {μ : px_Mem} {Q : Option px_X → px_Mem → Prop} (hS : px_kd S = 7) (hh : px_kd h = 0) (hn : 0 ≤ μ h 4 ∧ μ h 4 ≤ 16) (hi : 0 ≤ i ∧ i < μ h 4) (hb : pc_shb μ S) (hne : h + 4 < S ∨ S + 1 < h)
    (h1 : ∀ (μ1 : px_Mem), (∀ o, o ≠ S → o ≠ S + 1 → μ1 o = μ o) → pc_shv μ1 S = some (.inl (μ (h + 1) i, μ (h + 2) i, μ (h + 3) i, μ (h + 4) i)) → pc_shb μ1 S → Q (some (.inl (μ (h + 1) i))) μ1) : px_C G yX7_holdChange cX7_holdChange 3 (some .int) 0 [.inr (.inl (some S)), .inr (.inl (some h)), .inl i] μ Q := by
  obtain ⟨hk, hl⟩ := pc_hk hh
  obtain ⟨s1, s2⟩ := pc_sk hS
  refine px_enter RX7 (by decide +kernel) rfl (by simp) (by simp [px_c1]) ?_
  simp only [List.map_cons, List.map_nil, List.length_cons, List.length_nil, List.replicate, List.append_nil, Nat.reduceAdd, Nat.reduceSub, List.cons_append, List.nil_append]
  refine px_go (fun _ => false) 400 ?_
  simp (disch := omega) only [px_lits, false_implies, true_implies, px_dec_ok, px_run_s, px_rules, px_rule_is, px_mats, px_calls, ↓reduceIte, eq_self, Bool.false_eq_true, px_flds, px_o_some, px_fvs, px_pfs, px_cts, px_cls, px_acs_, px_acn, true_and, and_true, true_or, or_true, false_or, or_false, and_self, not_true_eq_false, not_false_eq_true, Classical.not_not, Nat.reduceAdd, Nat.reduceSub, Nat.reduceBEq, Nat.reduceLT, Nat.reduceLeDiff, Nat.lt_add_one, px_tg, Int.cast_ofNat_Int, Int.reduceAdd, Int.reduceSub, Int.reduceMul, Int.reduceToNat, Int.reduceLE, Int.reduceLT, Int.reduceNeg, Int.reduceEq, Bool.or_false, Bool.false_or, Bool.or_true, Bool.true_or, List.length_cons, List.length_nil, List.nil_append, List.cons_append, Option.toList_some, Option.toList_none, reduceCtorEq, Option.some.injEq, Nat.zero_le, Nat.reduceMul, Nat.mul_zero, Nat.add_zero, Int.reduceDiv, Int.reduceMod, Int.toNat_natCast, Nat.lt_irrefl, Int.natCast_add, Int.cast_ofNat_Int, px_mds_RX7_0, dec_X7_holdChange, px_eq_iff, px_lt_iff, px_le_iff, px_up_o, px_up_eq, px_up_ne, px_cp_o, hS, s1, s2, hh, hk, hl]
  repeat refine ⟨by omega, ?_⟩
  rw [show (S : Int) + 1 - S = 1 by omega]
  refine h1 _ (fun o h2 h3 => ?_) ?_ ?_
  · simp (disch := omega) only [px_up_o]
  · unfold pc_shv
    simp (disch := omega) only [px_up_o, px_up_eq, px_up_ne]
    rfl
  · unfold pc_shb
    simp (disch := omega) only [px_up_o, px_up_eq, px_up_ne]
    exact ⟨by simp, hb.2⟩
set_option maxHeartbeats 4000000 in
set_option maxRecDepth 100000 in
theorem c_X7_holdWriting {G : px_G} {S w : Nat} {μ : px_Mem} {Q : Option px_X → px_Mem → Prop} (hS : px_kd S = 7) (hw : px_kd w = 8) (hn : 0 ≤ μ w 1 ∧ μ w 1 ≤ 28) (hne : w ≠ S + 2)
    (h1 : ∀ (μ1 : px_Mem), (∀ o, (o < S ∨ S + 3 < o) → μ1 o = μ o) → pc_shv μ1 S = some (.inr (pc_tx μ w)) → pc_shb μ1 S → Q (some (.inl (μ w 1))) μ1) : px_C G yX7_holdWriting cX7_holdWriting 2 (some .int) 2 [.inr (.inl (some S)), .inr (.inl (some w))] μ Q := by
  obtain ⟨s1, s2⟩ := pc_sk hS
  refine px_enter RX7 (by decide +kernel) rfl (by simp) (by simp [px_c1]) ?_
  simp only [List.map_cons, List.map_nil, List.length_cons, List.length_nil, List.replicate, List.append_nil, Nat.reduceAdd, Nat.reduceSub, List.cons_append, List.nil_append]
  refine px_go (fun _ => false) 400 ?_
  simp (disch := omega) only [px_lits, false_implies, true_implies, px_dec_ok, px_run_s, px_rules, px_rule_is, px_mats, px_calls, ↓reduceIte, eq_self, Bool.false_eq_true, px_flds, px_o_some, px_fvs, px_pfs, px_cts, px_cls, px_acs_, px_acn, true_and, and_true, true_or, or_true, false_or, or_false, and_self, not_true_eq_false, not_false_eq_true, Classical.not_not, Nat.reduceAdd, Nat.reduceSub, Nat.reduceBEq, Nat.reduceLT, Nat.reduceLeDiff, Nat.lt_add_one, px_tg, Int.cast_ofNat_Int, Int.reduceAdd, Int.reduceSub, Int.reduceMul, Int.reduceToNat, Int.reduceLE, Int.reduceLT, Int.reduceNeg, Int.reduceEq, Bool.or_false, Bool.false_or, Bool.or_true, Bool.true_or, List.length_cons, List.length_nil, List.nil_append, List.cons_append, Option.toList_some, Option.toList_none, reduceCtorEq, Option.some.injEq, Nat.zero_le, Nat.reduceMul, Nat.mul_zero, Nat.add_zero, Int.reduceDiv, Int.reduceMod, Int.toNat_natCast, Nat.lt_irrefl, Int.natCast_add, Int.cast_ofNat_Int, px_mds_RX7_0, dec_X7_holdWriting, px_eq_iff, px_lt_iff, px_le_iff, px_up_o, px_up_eq, px_up_ne, px_cp_o, hS, s1, s2, hw]
  refine c_X9_copyFrom s2 hw hne hn (fun μ1 f1 f2 f3 => ?_)
  refine px_go (fun _ => false) 400 ?_
  simp (disch := omega) only [px_lits, false_implies, true_implies, px_dec_ok, px_run_s, px_rules, px_rule_is, px_mats, px_calls, ↓reduceIte, eq_self, Bool.false_eq_true, px_flds, px_o_some, px_fvs, px_pfs, px_cts, px_cls, px_acs_, px_acn, true_and, and_true, true_or, or_true, false_or, or_false, and_self, not_true_eq_false, not_false_eq_true, Classical.not_not, Nat.reduceAdd, Nat.reduceSub, Nat.reduceBEq, Nat.reduceLT, Nat.reduceLeDiff, Nat.lt_add_one, px_tg, Int.cast_ofNat_Int, Int.reduceAdd, Int.reduceSub, Int.reduceMul, Int.reduceToNat, Int.reduceLE, Int.reduceLT, Int.reduceNeg, Int.reduceEq, Bool.or_false, Bool.false_or, Bool.or_true, Bool.true_or, List.length_cons, List.length_nil, List.nil_append, List.cons_append, Option.toList_some, Option.toList_none, reduceCtorEq, Option.some.injEq, Nat.zero_le, Nat.reduceMul, Nat.mul_zero, Nat.add_zero, Int.reduceDiv, Int.reduceMod, Int.toNat_natCast, Nat.lt_irrefl, Int.natCast_add, Int.cast_ofNat_Int, px_mds_RX7_0, dec_X7_holdWriting, px_eq_iff, px_lt_iff, px_le_iff, px_up_o, px_up_eq, px_up_ne, px_cp_o, hS, s1, s2, hw, f3]
  refine ⟨by omega, ?_⟩
  rw [show (S : Int) + 2 - S = 2 by omega]
  refine h1 _ (fun o ho => ?_) ?_ ?_
  · simp (disch := omega) only [px_up_o]
    exact f1 o (by omega) (by omega)
  · unfold pc_shv
    simp (disch := omega) only [px_up_o, px_up_eq, px_up_ne]
    rw [if_neg (by omega), if_neg (by omega), ← f2]
    unfold pc_tx
    simp (disch := omega) only [px_up_o, px_up_eq, px_up_ne]
  · unfold pc_shb
    simp (disch := omega) only [px_up_o, px_up_eq, px_up_ne]
    rw [f3]
    exact ⟨by simp, hn⟩
set_option maxHeartbeats 4000000 in
set_option maxRecDepth 100000 in
theorem c_X2_start {G : px_G} {x : Int} {μ : px_Mem} {Q : Option px_X → px_Mem → Prop} (hx : -2147483648 ≤ x ∧ x < 2147483648) (h1 : Q none (px_up μ 204 0 x)) : px_C G yX2_start cX2_start 2 none 0 [.inr (.inl (some 204)), .inl x] μ Q := by
  have k : px_kd 204 = 2 := by decide +kernel
  refine px_enter RX2 (by decide +kernel) rfl (by simp) (by simp [px_c1]) ?_
  simp only [List.map_cons, List.map_nil, List.length_cons, List.length_nil, List.replicate, List.append_nil, Nat.reduceAdd, Nat.reduceSub, List.cons_append, List.nil_append]
  refine px_go (fun _ => false) 400 ?_
  simp (disch := omega) only [px_lits, false_implies, true_implies, px_dec_ok, px_run_s, px_rules, px_rule_is, px_mats, px_calls, ↓reduceIte, eq_self, Bool.false_eq_true, px_flds, px_o_some, px_fvs, px_pfs, px_cts, px_cls, px_acs_, px_acn, true_and, and_true, true_or, or_true, false_or, or_false, and_self, not_true_eq_false, not_false_eq_true, Classical.not_not, Nat.reduceAdd, Nat.reduceSub, Nat.reduceBEq, Nat.reduceLT, Nat.reduceLeDiff, Nat.lt_add_one, px_tg, Int.cast_ofNat_Int, Int.reduceAdd, Int.reduceSub, Int.reduceMul, Int.reduceToNat, Int.reduceLE, Int.reduceLT, Int.reduceNeg, Int.reduceEq, Bool.or_false, Bool.false_or, Bool.or_true, Bool.true_or, List.length_cons, List.length_nil, List.nil_append, List.cons_append, Option.toList_some, Option.toList_none, reduceCtorEq, Option.some.injEq, Nat.zero_le, Nat.reduceMul, Nat.mul_zero, Nat.add_zero, Int.reduceDiv, Int.reduceMod, Int.toNat_natCast, Nat.lt_irrefl, Int.natCast_add, Int.cast_ofNat_Int, dec_X2_start, px_eq_iff, px_lt_iff, px_le_iff, px_up_o, px_up_eq, px_up_ne, px_cp_o, k]
  exact ⟨hx, h1⟩
set_option maxHeartbeats 4000000 in
set_option maxRecDepth 100000 in
theorem c_X2_next {G : px_G} {b : Int} {μ : px_Mem} {Q : Option px_X → px_Mem → Prop} (hx : 0 ≤ μ 204 0 ∧ μ 204 0 < 2147483647) (hb : 1 ≤ b ∧ b < 2147483648) (h1 : Q (some (.inl (μ 204 0 * 16807 % 2147483647 % b))) (px_up μ 204 0 (μ 204 0 * 16807 % 2147483647))) : px_C G yX2_next cX2_next 2 (some .int) 0 [.inr (.inl (some 204)), .inl b] μ Q := by
  have k : px_kd 204 = 2 := by decide +kernel
  refine px_enter RX2 (by decide +kernel) rfl (by simp) (by simp [px_c1]) ?_
  simp only [List.map_cons, List.map_nil, List.length_cons, List.length_nil, List.replicate, List.append_nil, Nat.reduceAdd, Nat.reduceSub, List.cons_append, List.nil_append]
  refine px_go (fun _ => false) 400 ?_
  simp (disch := omega) only [px_lits, false_implies, true_implies, px_dec_ok, px_run_s, px_rules, px_rule_is, px_mats, px_calls, ↓reduceIte, eq_self, Bool.false_eq_true, px_flds, px_o_some, px_fvs, px_pfs, px_cts, px_cls, px_acs_, px_acn, true_and, and_true, true_or, or_true, false_or, or_false, and_self, not_true_eq_false, not_false_eq_true, Classical.not_not, Nat.reduceAdd, Nat.reduceSub, Nat.reduceBEq, Nat.reduceLT, Nat.reduceLeDiff, Nat.lt_add_one, px_tg, Int.cast_ofNat_Int, Int.reduceAdd, Int.reduceSub, Int.reduceMul, Int.reduceToNat, Int.reduceLE, Int.reduceLT, Int.reduceNeg, Int.reduceEq, Bool.or_false, Bool.false_or, Bool.or_true, Bool.true_or, List.length_cons, List.length_nil, List.nil_append, List.cons_append, Option.toList_some, Option.toList_none, reduceCtorEq, Option.some.injEq, Nat.zero_le, Nat.reduceMul, Nat.mul_zero, Nat.add_zero, Int.reduceDiv, Int.reduceMod, Int.toNat_natCast, Nat.lt_irrefl, Int.natCast_add, Int.cast_ofNat_Int, dec_X2_next, px_eq_iff, px_lt_iff, px_le_iff, px_up_o, px_up_eq, px_up_ne, px_cp_o, k]
  repeat refine ⟨by omega, ?_⟩
  exact ⟨fun _ => ⟨by omega, by omega, h1⟩, fun q => absurd hb.1 q⟩
end
section
/-! ===== the class's own helpers: the text of a house, room, recording, needs ===== -/
theorem pc_k0 : px_kd 0 = 9 ∧ px_kd 1 = 8 ∧ px_kd 3 = 1 ∧ px_kd 4 = 22 ∧ px_kd 178 = 25 ∧ px_kd 183 = 0 := by decide +kernel
theorem pc_l0 : px_ln 4 = 2 ∧ px_ln 178 = 2 := by decide +kernel
theorem pc_kh {h : Nat} (hh : h < 2) : px_kd (7 + 5 * h) = 0 ∧ px_kd (179 + 2 * h) = 8 := by
  have key : ∀ k : Fin 2, px_kd (7 + 5 * k) = 0 ∧ px_kd (179 + 2 * k) = 8 := by decide +kernel
  exact key ⟨h, hh⟩
theorem pc_eh (h : Nat) : px_el 22 4 h = 7 + 5 * h ∧ px_el 25 178 h = 179 + 2 * h := ⟨rfl, rfl⟩
theorem pc_tx_same {μ μ1 : px_Mem} {w : Nat} (h0 : μ1 w = μ w) (h1 : μ1 (w + 1) = μ (w + 1)) : pc_tx μ1 w = pc_tx μ w := by
  unfold pc_tx
  rw [h0, h1]
theorem pc_dos_take {T T1 : List Int} {L : List pc_Ch} {i : Nat} {c : pc_Ch} (h : pc_dos T L = some T1) (hc : L[i]? = some c) : ∃ T2 T3, pc_dos T (L.take i) = some T2 ∧ pc_do T2 c = some T3 ∧ pc_dos T (L.take (i + 1)) = some T3 := by
  have hi := (List.getElem?_eq_some_iff.mp hc).1
  have e1 : L = L.take i ++ (c :: L.drop (i + 1)) := by
    have := List.take_append_drop i L
    rw [List.drop_eq_getElem_cons hi, (List.getElem?_eq_some_iff.mp hc).2] at this
    exact this.symm
  have e2 : L.take (i + 1) = L.take i ++ [c] := by rw [List.take_add_one, hc]; rfl
  rw [e1, pc_dos_app] at h
  rw [e2, pc_dos_app]
  cases h1 : pc_dos T (L.take i) with
  | none => rw [h1] at h; cases h
  | some T2 =>
    rw [h1] at h
    simp only [Option.bind_some] at h
    unfold pc_dos at h
    cases h2 : pc_do T2 c with
    | none => rw [h2] at h; cases h
    | some T3 =>
      refine ⟨T2, T3, rfl, h2, ?_⟩
      show (some T2).bind (fun T1 => pc_dos T1 [c]) = some T3
      show (pc_do T2 c).bind (fun T1 => some T1) = some T3
      rw [h2]
      rfl
set_option maxHeartbeats 4000000 in
set_option maxRecDepth 100000 in
theorem c_X10_readText {G : px_G} {h : Nat} {T : List Int} {μ : px_Mem} {Q : Option px_X → px_Mem → Prop} (hh : h < 2) (hn : 0 ≤ μ (7 + 5 * h) 4 ∧ μ (7 + 5 * h) 4 ≤ 16) (hb : 0 ≤ μ 1 1 ∧ μ 1 1 ≤ 12) (he : ∀ c ∈ pc_hl μ (7 + 5 * h), pc_el c) (hd : pc_dos (pc_tx μ 1) (pc_hl μ (7 + 5 * h)) = some T)
    (h1 : ∀ μ1 : px_Mem, (∀ o, o ≠ 179 + 2 * h → o ≠ 180 + 2 * h → μ1 o = μ o) → pc_tx μ1 (179 + 2 * h) = T → μ1 (179 + 2 * h) 1 = T.length → T.length ≤ 28 → Q (some (.inr (.inl (some (179 + 2 * h))))) μ1) : px_C G yX10_readText cX10_readText 5 (some (.object "PatchHouse$Writing")) 2 [.inr (.inl (some 0)), .inl h] μ Q := by
  obtain ⟨k1, k2⟩ := pc_kh hh
  obtain ⟨hk, hl⟩ := pc_hk k1
  obtain ⟨wk, wl⟩ := pc_wk k2
  obtain ⟨e1, e2⟩ := pc_eh h
  have hlen : (pc_hl μ (7 + 5 * h)).length = (μ (7 + 5 * h) 4).toNat := pc_hl_len
  have htl : (pc_tx μ 1).length = (μ 1 1).toNat := pc_tx_len
  have loop : ∀ (n i : Nat) (T2 : List Int) (μ1 : px_Mem), i + n = (μ (7 + 5 * h) 4).toNat → (∀ o, o ≠ 179 + 2 * h → o ≠ 180 + 2 * h → μ1 o = μ o) → pc_dos (pc_tx μ 1) ((pc_hl μ (7 + 5 * h)).take i) = some T2 → pc_tx μ1 (179 + 2 * h) = T2 → μ1 (179 + 2 * h) 1 = T2.length →
      px_J G RX10 cX10_readText 5 (some (.object "PatchHouse$Writing")) 2 28 [some (.inr (.inl (some 0))), some (.inl h), some (.inr (.inl (some (179 + 2 * h)))), some (.inr (.inl (some (7 + 5 * h)))), some (.inl i)] [] μ1 Q := by
    intro n
    induction n with
    | zero =>
      intro i T2 μ1 h2 h3 h4 h5 h6
      have g4 : μ1 (7 + 5 * h) = μ (7 + 5 * h) := h3 _ (by omega) (by omega)
      refine px_go (fun p => p == 28) 400 ?_
      simp (disch := omega) only [px_lits, false_implies, true_implies, px_dec_ok, px_run_s, px_rules, px_rule_is, px_mats, px_calls, ↓reduceIte, eq_self, Bool.false_eq_true, px_flds, px_o_some, px_fvs, px_pfs, px_cts, px_cls, px_acs_, px_acn, true_and, and_true, true_or, or_true, false_or, or_false, and_self, not_true_eq_false, not_false_eq_true, Classical.not_not, Nat.reduceAdd, Nat.reduceSub, Nat.reduceBEq, Nat.reduceLT, Nat.reduceLeDiff, Nat.lt_add_one, px_tg, Int.cast_ofNat_Int, Int.reduceAdd, Int.reduceSub, Int.reduceMul, Int.reduceToNat, Int.reduceLE, Int.reduceLT, Int.reduceNeg, Int.reduceEq, Bool.or_false, Bool.false_or, Bool.or_true, Bool.true_or, List.length_cons, List.length_nil, List.nil_append, List.cons_append, Option.toList_some, Option.toList_none, reduceCtorEq, Option.some.injEq, Nat.zero_le, Nat.reduceMul, Nat.mul_zero, Nat.add_zero, Int.reduceDiv, Int.reduceMod, Int.toNat_natCast, Nat.lt_irrefl, Int.natCast_add, Int.cast_ofNat_Int, px_mds_RX10_0, px_mds_RX10_1, dec_X10_readText, px_eq_iff, px_lt_iff, px_le_iff, px_up_o, px_up_eq, px_up_ne, px_cp_o, pc_k0, pc_l0, k1, k2, hk, hl, g4]
      refine ⟨fun _ => ?_, fun q => absurd (by omega) q⟩
      rw [List.take_of_length_le (by omega)] at h4
      have e : T2 = T := Option.some.inj (h4.symm.trans hd)
      subst e
      have := pc_dos_len hd
      exact h1 μ1 h3 h5 h6 (by omega)
    | succ n ih =>
      intro i T2 μ1 h2 h3 h4 h5 h6
      have g4 : μ1 (7 + 5 * h) = μ (7 + 5 * h) := h3 _ (by omega) (by omega)
      have g5 : μ1 (7 + 5 * h + 2) = μ (7 + 5 * h + 2) := h3 _ (by omega) (by omega)
      have g6 : μ1 (7 + 5 * h + 3) = μ (7 + 5 * h + 3) := h3 _ (by omega) (by omega)
      have g7 : μ1 (7 + 5 * h + 4) = μ (7 + 5 * h + 4) := h3 _ (by omega) (by omega)
      have hc := pc_hl_at (μ := μ) (h := 7 + 5 * h) (i := i) (by omega) (by omega)
      rw [Int.toNat_natCast] at hc
      have el := he _ (List.mem_of_getElem? hc)
      dsimp only [pc_el] at el
      obtain ⟨T3, T4, q1, q2, q3⟩ := pc_dos_take hd hc
      have e : T3 = T2 := Option.some.inj (q1.symm.trans h4)
      subst e
      have l3 := pc_dos_len q1
      have l4 := pc_dos_len q3
      simp only [List.length_take] at l3 l4
      refine px_go (fun p => p == 28) 400 ?_
      simp (disch := omega) only [px_lits, false_implies, true_implies, px_dec_ok, px_run_s, px_rules, px_rule_is, px_mats, px_calls, ↓reduceIte, eq_self, Bool.false_eq_true, px_flds, px_o_some, px_fvs, px_pfs, px_cts, px_cls, px_acs_, px_acn, true_and, and_true, true_or, or_true, false_or, or_false, and_self, not_true_eq_false, not_false_eq_true, Classical.not_not, Nat.reduceAdd, Nat.reduceSub, Nat.reduceBEq, Nat.reduceLT, Nat.reduceLeDiff, Nat.lt_add_one, px_tg, Int.cast_ofNat_Int, Int.reduceAdd, Int.reduceSub, Int.reduceMul, Int.reduceToNat, Int.reduceLE, Int.reduceLT, Int.reduceNeg, Int.reduceEq, Bool.or_false, Bool.false_or, Bool.or_true, Bool.true_or, List.length_cons, List.length_nil, List.nil_append, List.cons_append, Option.toList_some, Option.toList_none, reduceCtorEq, Option.some.injEq, Nat.zero_le, Nat.reduceMul, Nat.mul_zero, Nat.add_zero, Int.reduceDiv, Int.reduceMod, Int.toNat_natCast, Nat.lt_irrefl, Int.natCast_add, Int.cast_ofNat_Int, px_mds_RX10_0, px_mds_RX10_1, dec_X10_readText, px_eq_iff, px_lt_iff, px_le_iff, px_up_o, px_up_eq, px_up_ne, px_cp_o, pc_k0, pc_l0, k1, k2, hk, hl, g4, g5, g6, g7]
      refine ⟨fun q => by omega, fun _ => ?_⟩
      repeat refine ⟨by omega, ?_⟩
      refine c_X9_apply (n := μ (7 + 5 * h + 1) i) (T1 := T4) k2 (by omega) el.2.1 (by rw [h5]; exact q2) (by omega) (fun μ2 f1 f2 f3 => ?_)
      refine px_go (fun p => p == 28) 400 ?_
      simp (disch := omega) only [px_lits, false_implies, true_implies, px_dec_ok, px_run_s, px_rules, px_rule_is, px_mats, px_calls, ↓reduceIte, eq_self, Bool.false_eq_true, px_flds, px_o_some, px_fvs, px_pfs, px_cts, px_cls, px_acs_, px_acn, true_and, and_true, true_or, or_true, false_or, or_false, and_self, not_true_eq_false, not_false_eq_true, Classical.not_not, Nat.reduceAdd, Nat.reduceSub, Nat.reduceBEq, Nat.reduceLT, Nat.reduceLeDiff, Nat.lt_add_one, px_tg, Int.cast_ofNat_Int, Int.reduceAdd, Int.reduceSub, Int.reduceMul, Int.reduceToNat, Int.reduceLE, Int.reduceLT, Int.reduceNeg, Int.reduceEq, Bool.or_false, Bool.false_or, Bool.or_true, Bool.true_or, List.length_cons, List.length_nil, List.nil_append, List.cons_append, Option.toList_some, Option.toList_none, reduceCtorEq, Option.some.injEq, Nat.zero_le, Nat.reduceMul, Nat.mul_zero, Nat.add_zero, Int.reduceDiv, Int.reduceMod, Int.toNat_natCast, Nat.lt_irrefl, Int.natCast_add, Int.cast_ofNat_Int, px_mds_RX10_0, px_mds_RX10_1, dec_X10_readText, px_eq_iff, px_lt_iff, px_le_iff, px_up_o, px_up_eq, px_up_ne, px_cp_o, pc_k0, pc_l0, k1, k2, hk, hl]
      have := ih (i + 1) T4 μ2 (by omega) (fun o o1 o2 => by rw [f1 o o1 (by omega), h3 o o1 o2]) q3 f2 f3
      rwa [Int.natCast_add] at this
  refine px_enter RX10 (by decide +kernel) rfl (by simp) (by simp [px_c1]) ?_
  simp only [List.map_cons, List.map_nil, List.length_cons, List.length_nil, List.replicate, List.append_nil, Nat.reduceAdd, Nat.reduceSub, List.cons_append, List.nil_append]
  refine px_go (fun p => p == 28) 400 ?_
  simp (disch := omega) only [px_lits, false_implies, true_implies, px_dec_ok, px_run_s, px_rules, px_rule_is, px_mats, px_calls, ↓reduceIte, eq_self, Bool.false_eq_true, px_flds, px_o_some, px_fvs, px_pfs, px_cts, px_cls, px_acs_, px_acn, true_and, and_true, true_or, or_true, false_or, or_false, and_self, not_true_eq_false, not_false_eq_true, Classical.not_not, Nat.reduceAdd, Nat.reduceSub, Nat.reduceBEq, Nat.reduceLT, Nat.reduceLeDiff, Nat.lt_add_one, px_tg, Int.cast_ofNat_Int, Int.reduceAdd, Int.reduceSub, Int.reduceMul, Int.reduceToNat, Int.reduceLE, Int.reduceLT, Int.reduceNeg, Int.reduceEq, Bool.or_false, Bool.false_or, Bool.or_true, Bool.true_or, List.length_cons, List.length_nil, List.nil_append, List.cons_append, Option.toList_some, Option.toList_none, reduceCtorEq, Option.some.injEq, Nat.zero_le, Nat.reduceMul, Nat.mul_zero, Nat.add_zero, Int.reduceDiv, Int.reduceMod, Int.toNat_natCast, Nat.lt_irrefl, Int.natCast_add, Int.cast_ofNat_Int, px_mds_RX10_0, px_mds_RX10_1, dec_X10_readText, px_eq_iff, px_lt_iff, px_le_iff, px_up_o, px_up_eq, px_up_ne, px_cp_o, pc_k0, pc_l0, e1, e2, k1, k2]
  refine ⟨by omega, ?_⟩
  refine c_X9_copyFrom k2 pc_k0.2.1 (by omega) (by omega) (fun μ1 f1 f2 f3 => ?_)
  refine px_go (fun p => p == 28) 400 ?_
  simp (disch := omega) only [px_lits, false_implies, true_implies, px_dec_ok, px_run_s, px_rules, px_rule_is, px_mats, px_calls, ↓reduceIte, eq_self, Bool.false_eq_true, px_flds, px_o_some, px_fvs, px_pfs, px_cts, px_cls, px_acs_, px_acn, true_and, and_true, true_or, or_true, false_or, or_false, and_self, not_true_eq_false, not_false_eq_true, Classical.not_not, Nat.reduceAdd, Nat.reduceSub, Nat.reduceBEq, Nat.reduceLT, Nat.reduceLeDiff, Nat.lt_add_one, px_tg, Int.cast_ofNat_Int, Int.reduceAdd, Int.reduceSub, Int.reduceMul, Int.reduceToNat, Int.reduceLE, Int.reduceLT, Int.reduceNeg, Int.reduceEq, Bool.or_false, Bool.false_or, Bool.or_true, Bool.true_or, List.length_cons, List.length_nil, List.nil_append, List.cons_append, Option.toList_some, Option.toList_none, reduceCtorEq, Option.some.injEq, Nat.zero_le, Nat.reduceMul, Nat.mul_zero, Nat.add_zero, Int.reduceDiv, Int.reduceMod, Int.toNat_natCast, Nat.lt_irrefl, Int.natCast_add, Int.cast_ofNat_Int, px_mds_RX10_0, px_mds_RX10_1, dec_X10_readText, px_eq_iff, px_lt_iff, px_le_iff, px_up_o, px_up_eq, px_up_ne, px_cp_o, pc_k0, pc_l0, e1, e2, k1, k2]
  refine ⟨by omega, ?_⟩
  exact loop (μ (7 + 5 * h) 4).toNat 0 (pc_tx μ 1) μ1 (by omega) (fun o o1 o2 => f1 o o1 (by omega)) rfl f2 (by rw [f3, htl]; omega)
set_option maxHeartbeats 4000000 in
set_option maxRecDepth 100000 in
theorem c_X10_hasRoom {G : px_G} {h : Nat} {s : Int} {μ : px_Mem} {Q : Option px_X → px_Mem → Prop} (hh : h < 2) (hs : s = 0 ∨ s = 1) (hn : 0 ≤ μ (7 + 5 * h) 4 ∧ μ (7 + 5 * h) 4 ≤ 16) (hm : 0 ≤ μ 0 11 ∧ μ 0 11 ≤ 24) (hw : 0 ≤ μ (179 + 2 * h) 1 ∧ μ (179 + 2 * h) 1 ≤ 28)
    (h1 : μ 0 11 < 24 ∧ μ (7 + 5 * h) 4 < 16 ∧ (s = 1 ∨ μ (179 + 2 * h) 1 < 24) → Q (some (.inl 1)) μ) (h0 : ¬ (μ 0 11 < 24 ∧ μ (7 + 5 * h) 4 < 16 ∧ (s = 1 ∨ μ (179 + 2 * h) 1 < 24)) → Q (some (.inl 0)) μ) : px_C G yX10_hasRoom cX10_hasRoom 3 (some .boolean) 0 [.inr (.inl (some 0)), .inl h, .inl s] μ Q := by
  obtain ⟨k1, k2⟩ := pc_kh hh
  obtain ⟨e1, e2⟩ := pc_eh h
  refine px_enter RX10 (by decide +kernel) rfl (by simp) (by simp [px_c1]) ?_
  simp only [List.map_cons, List.map_nil, List.length_cons, List.length_nil, List.replicate, List.append_nil, Nat.reduceAdd, Nat.reduceSub, List.cons_append, List.nil_append]
  refine px_go (fun _ => false) 400 ?_
  simp (disch := omega) only [px_lits, false_implies, true_implies, px_dec_ok, px_run_s, px_rules, px_rule_is, px_mats, px_calls, ↓reduceIte, eq_self, Bool.false_eq_true, px_flds, px_o_some, px_fvs, px_pfs, px_cts, px_cls, px_acs_, px_acn, true_and, and_true, true_or, or_true, false_or, or_false, and_self, not_true_eq_false, not_false_eq_true, Classical.not_not, Nat.reduceAdd, Nat.reduceSub, Nat.reduceBEq, Nat.reduceLT, Nat.reduceLeDiff, Nat.lt_add_one, px_tg, Int.cast_ofNat_Int, Int.reduceAdd, Int.reduceSub, Int.reduceMul, Int.reduceToNat, Int.reduceLE, Int.reduceLT, Int.reduceNeg, Int.reduceEq, Bool.or_false, Bool.false_or, Bool.or_true, Bool.true_or, List.length_cons, List.length_nil, List.nil_append, List.cons_append, Option.toList_some, Option.toList_none, reduceCtorEq, Option.some.injEq, Nat.zero_le, Nat.reduceMul, Nat.mul_zero, Nat.add_zero, Int.reduceDiv, Int.reduceMod, Int.toNat_natCast, Nat.lt_irrefl, Int.natCast_add, Int.cast_ofNat_Int, px_mds_RX10_0, px_mds_RX10_1, dec_X10_hasRoom, px_eq_iff, px_lt_iff, px_le_iff, px_up_o, px_up_eq, px_up_ne, px_cp_o, pc_k0, pc_l0, e1, e2, k1, k2]
  repeat' first | apply And.intro | intro _
  all_goals first | omega | (exact h1 (by omega)) | (exact h0 (by omega))
set_option maxHeartbeats 4000000 in
set_option maxRecDepth 100000 in
theorem c_X10_append {G : px_G} {h : Nat} {s p c : Int} {μ : px_Mem} {Q : Option px_X → px_Mem → Prop} (hh : h < 2) (hs : s = 0 ∨ s = 1) (hn : 0 ≤ μ (7 + 5 * h) 4 ∧ μ (7 + 5 * h) 4 < 16) (hw : 0 ≤ μ (179 + 2 * h) 1 ∧ μ (179 + 2 * h) 1 ≤ 28) (hp : 0 ≤ p ∧ p + s ≤ μ (179 + 2 * h) 1)
    (h1 : ∀ μ1 : px_Mem, (∀ o, o ≠ 0 → (o < 7 + 5 * h ∨ 11 + 5 * h < o) → μ1 o = μ o) → (∀ i, i ≠ 11 → μ1 0 i = μ 0 i) → μ1 0 11 = μ 0 11 + 1 → μ1 (7 + 5 * h) 4 = μ (7 + 5 * h) 4 + 1 → pc_hl μ1 (7 + 5 * h) = pc_hl μ (7 + 5 * h) ++ [(μ 0 11, s, p, if s = 1 then μ (180 + 2 * h) p else c)] → Q (some (.inl (μ 0 11))) μ1) : px_C G yX10_append cX10_append 7 (some .int) 1 [.inr (.inl (some 0)), .inl h, .inl s, .inl p, .inl c] μ Q := by
  obtain ⟨k1, k2⟩ := pc_kh hh
  obtain ⟨e1, e2⟩ := pc_eh h
  have fin : ∀ r : Int, (r = if s = 1 then μ (180 + 2 * h) p else c) → px_J G RX10 cX10_append 7 (some .int) 1 20 [some (.inr (.inl (some 0))), some (.inl h), some (.inl s), some (.inl p), some (.inl c), none, none] [.inl r] μ Q := by
    intro r hr
    refine px_go (fun _ => false) 400 ?_
    simp (disch := omega) only [px_lits, false_implies, true_implies, px_dec_ok, px_run_s, px_rules, px_rule_is, px_mats, px_calls, ↓reduceIte, eq_self, Bool.false_eq_true, px_flds, px_o_some, px_fvs, px_pfs, px_cts, px_cls, px_acs_, px_acn, true_and, and_true, true_or, or_true, false_or, or_false, and_self, not_true_eq_false, not_false_eq_true, Classical.not_not, Nat.reduceAdd, Nat.reduceSub, Nat.reduceBEq, Nat.reduceLT, Nat.reduceLeDiff, Nat.lt_add_one, px_tg, Int.cast_ofNat_Int, Int.reduceAdd, Int.reduceSub, Int.reduceMul, Int.reduceToNat, Int.reduceLE, Int.reduceLT, Int.reduceNeg, Int.reduceEq, Bool.or_false, Bool.false_or, Bool.or_true, Bool.true_or, List.length_cons, List.length_nil, List.nil_append, List.cons_append, Option.toList_some, Option.toList_none, reduceCtorEq, Option.some.injEq, Nat.zero_le, Nat.reduceMul, Nat.mul_zero, Nat.add_zero, Int.reduceDiv, Int.reduceMod, Int.toNat_natCast, Nat.lt_irrefl, Int.natCast_add, Int.cast_ofNat_Int, px_mds_RX10_0, px_mds_RX10_1, dec_X10_append, px_eq_iff, px_lt_iff, px_le_iff, px_up_o, px_up_eq, px_up_ne, px_cp_o, pc_k0, pc_l0, e1, e2, k1, k2]
    refine ⟨by omega, ?_⟩
    refine c_X0_add k1 (by omega) (fun μ1 f1 f2 f3 => ?_)
    have g0 : μ1 0 = μ 0 := f1 0 (by omega)
    refine px_go (fun _ => false) 400 ?_
    simp (disch := omega) only [px_lits, false_implies, true_implies, px_dec_ok, px_run_s, px_rules, px_rule_is, px_mats, px_calls, ↓reduceIte, eq_self, Bool.false_eq_true, px_flds, px_o_some, px_fvs, px_pfs, px_cts, px_cls, px_acs_, px_acn, true_and, and_true, true_or, or_true, false_or, or_false, and_self, not_true_eq_false, not_false_eq_true, Classical.not_not, Nat.reduceAdd, Nat.reduceSub, Nat.reduceBEq, Nat.reduceLT, Nat.reduceLeDiff, Nat.lt_add_one, px_tg, Int.cast_ofNat_Int, Int.reduceAdd, Int.reduceSub, Int.reduceMul, Int.reduceToNat, Int.reduceLE, Int.reduceLT, Int.reduceNeg, Int.reduceEq, Bool.or_false, Bool.false_or, Bool.or_true, Bool.true_or, List.length_cons, List.length_nil, List.nil_append, List.cons_append, Option.toList_some, Option.toList_none, reduceCtorEq, Option.some.injEq, Nat.zero_le, Nat.reduceMul, Nat.mul_zero, Nat.add_zero, Int.reduceDiv, Int.reduceMod, Int.toNat_natCast, Nat.lt_irrefl, Int.natCast_add, Int.cast_ofNat_Int, px_mds_RX10_0, px_mds_RX10_1, dec_X10_append, px_eq_iff, px_lt_iff, px_le_iff, px_up_o, px_up_eq, px_up_ne, px_cp_o, pc_k0, pc_l0, e1, e2, k1, k2, g0]
    refine h1 _ (fun o o1 o2 => ?_) (fun i hi => ?_) ?_ ?_ ?_
    · simp (disch := omega) only [px_up_o]
      exact f1 o (by omega)
    · simp (disch := omega) only [px_up_ne]
      rw [g0]
    · simp (disch := omega) only [px_up_eq]
    · simp (disch := omega) only [px_up_o]
      exact f2
    · rw [← hr, ← f3]
      refine pc_hl_same ?_ ?_ ?_ ?_ ?_ <;> simp (disch := omega) only [px_up_o]
  refine px_enter RX10 (by decide +kernel) rfl (by simp) (by simp [px_c1]) ?_
  simp only [List.map_cons, List.map_nil, List.length_cons, List.length_nil, List.replicate, List.append_nil, Nat.reduceAdd, Nat.reduceSub, List.cons_append, List.nil_append]
  rcases hs with rfl | rfl
  · refine px_go (fun p => p == 20) 400 ?_
    simp (disch := omega) only [px_lits, false_implies, true_implies, px_dec_ok, px_run_s, px_rules, px_rule_is, px_mats, px_calls, ↓reduceIte, eq_self, Bool.false_eq_true, px_flds, px_o_some, px_fvs, px_pfs, px_cts, px_cls, px_acs_, px_acn, true_and, and_true, true_or, or_true, false_or, or_false, and_self, not_true_eq_false, not_false_eq_true, Classical.not_not, Nat.reduceAdd, Nat.reduceSub, Nat.reduceBEq, Nat.reduceLT, Nat.reduceLeDiff, Nat.lt_add_one, px_tg, Int.cast_ofNat_Int, Int.reduceAdd, Int.reduceSub, Int.reduceMul, Int.reduceToNat, Int.reduceLE, Int.reduceLT, Int.reduceNeg, Int.reduceEq, Bool.or_false, Bool.false_or, Bool.or_true, Bool.true_or, List.length_cons, List.length_nil, List.nil_append, List.cons_append, Option.toList_some, Option.toList_none, reduceCtorEq, Option.some.injEq, Nat.zero_le, Nat.reduceMul, Nat.mul_zero, Nat.add_zero, Int.reduceDiv, Int.reduceMod, Int.toNat_natCast, Nat.lt_irrefl, Int.natCast_add, Int.cast_ofNat_Int, px_mds_RX10_0, px_mds_RX10_1, dec_X10_append, px_eq_iff, px_lt_iff, px_le_iff, px_up_o, px_up_eq, px_up_ne, px_cp_o, pc_k0, pc_l0, e1, e2, k1, k2]
    exact fin c (by rw [if_neg (by decide)])
  · refine px_go (fun p => p == 20) 400 ?_
    simp (disch := omega) only [px_lits, false_implies, true_implies, px_dec_ok, px_run_s, px_rules, px_rule_is, px_mats, px_calls, ↓reduceIte, eq_self, Bool.false_eq_true, px_flds, px_o_some, px_fvs, px_pfs, px_cts, px_cls, px_acs_, px_acn, true_and, and_true, true_or, or_true, false_or, or_false, and_self, not_true_eq_false, not_false_eq_true, Classical.not_not, Nat.reduceAdd, Nat.reduceSub, Nat.reduceBEq, Nat.reduceLT, Nat.reduceLeDiff, Nat.lt_add_one, px_tg, Int.cast_ofNat_Int, Int.reduceAdd, Int.reduceSub, Int.reduceMul, Int.reduceToNat, Int.reduceLE, Int.reduceLT, Int.reduceNeg, Int.reduceEq, Bool.or_false, Bool.false_or, Bool.or_true, Bool.true_or, List.length_cons, List.length_nil, List.nil_append, List.cons_append, Option.toList_some, Option.toList_none, reduceCtorEq, Option.some.injEq, Nat.zero_le, Nat.reduceMul, Nat.mul_zero, Nat.add_zero, Int.reduceDiv, Int.reduceMod, Int.toNat_natCast, Nat.lt_irrefl, Int.natCast_add, Int.cast_ofNat_Int, px_mds_RX10_0, px_mds_RX10_1, dec_X10_append, px_eq_iff, px_lt_iff, px_le_iff, px_up_o, px_up_eq, px_up_ne, px_cp_o, pc_k0, pc_l0, e1, e2, k1, k2]
    refine ⟨by omega, ?_⟩
    refine c_X9_at k2 (by omega) (by omega) (fun q1 q2 => ?_) (fun q => absurd ⟨hp.1, by omega⟩ q)
    refine px_go (fun p => p == 20) 400 ?_
    simp (disch := omega) only [px_lits, false_implies, true_implies, px_dec_ok, px_run_s, px_rules, px_rule_is, px_mats, px_calls, ↓reduceIte, eq_self, Bool.false_eq_true, px_flds, px_o_some, px_fvs, px_pfs, px_cts, px_cls, px_acs_, px_acn, true_and, and_true, true_or, or_true, false_or, or_false, and_self, not_true_eq_false, not_false_eq_true, Classical.not_not, Nat.reduceAdd, Nat.reduceSub, Nat.reduceBEq, Nat.reduceLT, Nat.reduceLeDiff, Nat.lt_add_one, px_tg, Int.cast_ofNat_Int, Int.reduceAdd, Int.reduceSub, Int.reduceMul, Int.reduceToNat, Int.reduceLE, Int.reduceLT, Int.reduceNeg, Int.reduceEq, Bool.or_false, Bool.false_or, Bool.or_true, Bool.true_or, List.length_cons, List.length_nil, List.nil_append, List.cons_append, Option.toList_some, Option.toList_none, reduceCtorEq, Option.some.injEq, Nat.zero_le, Nat.reduceMul, Nat.mul_zero, Nat.add_zero, Int.reduceDiv, Int.reduceMod, Int.toNat_natCast, Nat.lt_irrefl, Int.natCast_add, Int.cast_ofNat_Int, px_mds_RX10_0, px_mds_RX10_1, dec_X10_append, px_eq_iff, px_lt_iff, px_le_iff, px_up_o, px_up_eq, px_up_ne, px_cp_o, pc_k0, pc_l0, e1, e2, k1, k2]
    exact fin _ (by rw [if_pos rfl, show 179 + 2 * h + 1 = 180 + 2 * h by omega])
end
section
/-! ===== what a change needs, what needs it ===== -/
def pc_nds (L : List pc_Ch) (i : Nat) : Int := pc_set ((pc_gb (L.take (i + 1))).dropLast)
theorem pc_set_snoc (L : List pc_Ch) (c : pc_Ch) : pc_set (L ++ [c]) = px_or (pc_set L) (px_shl 1 c.1) := by
  unfold pc_set
  rw [List.foldl_append]
  rfl
set_option maxHeartbeats 4000000 in
set_option maxRecDepth 100000 in
theorem c_X10_needsAt {G : px_G} {h : Nat} {a : Int} {μ : px_Mem} {Q : Option px_X → px_Mem → Prop} (hh : px_kd h = 0) (hne : h ≠ 183) (hn : 0 ≤ μ h 4 ∧ μ h 4 ≤ 16) (ha : 0 ≤ a ∧ a < μ h 4) (hv : pc_V (pc_hl μ h))
    (h1 : ∀ μ1 : px_Mem, (∀ o, (o < 183 ∨ 187 < o) → μ1 o = μ o) → Q (some (.inl (pc_nds (pc_hl μ h) a.toNat))) μ1) : px_C G yX10_needsAt cX10_needsAt 6 (some .int) 4 [.inr (.inl (some 0)), .inr (.inl (some h)), .inl a] μ Q := by
  have k183 : px_kd 183 = 0 := by decide +kernel
  obtain ⟨sk, sl⟩ := pc_hk k183
  have hd := pc_hh hh k183
  refine px_enter RX10 (by decide +kernel) rfl (by simp) (by simp [px_c1]) ?_
  simp only [List.map_cons, List.map_nil, List.length_cons, List.length_nil, List.replicate, List.append_nil, Nat.reduceAdd, Nat.reduceSub, List.cons_append, List.nil_append]
  refine px_go (fun _ => false) 400 ?_
  simp (disch := omega) only [px_lits, false_implies, true_implies, px_dec_ok, px_run_s, px_rules, px_rule_is, px_mats, px_calls, ↓reduceIte, eq_self, Bool.false_eq_true, px_flds, px_o_some, px_fvs, px_pfs, px_cts, px_cls, px_acs_, px_acn, true_and, and_true, true_or, or_true, false_or, or_false, and_self, not_true_eq_false, not_false_eq_true, Classical.not_not, Nat.reduceAdd, Nat.reduceSub, Nat.reduceBEq, Nat.reduceLT, Nat.reduceLeDiff, Nat.lt_add_one, px_tg, Int.cast_ofNat_Int, Int.reduceAdd, Int.reduceSub, Int.reduceMul, Int.reduceToNat, Int.reduceLE, Int.reduceLT, Int.reduceNeg, Int.reduceEq, Bool.or_false, Bool.false_or, Bool.or_true, Bool.true_or, List.length_cons, List.length_nil, List.nil_append, List.cons_append, Option.toList_some, Option.toList_none, reduceCtorEq, Option.some.injEq, Nat.zero_le, Nat.reduceMul, Nat.mul_zero, Nat.add_zero, Int.reduceDiv, Int.reduceMod, Int.toNat_natCast, Nat.lt_irrefl, Int.natCast_add, Int.cast_ofNat_Int, px_mds_RX10_0, px_mds_RX10_1, dec_X10_needsAt, px_eq_iff, px_lt_iff, px_le_iff, px_up_o, px_up_eq, px_up_ne, px_cp_o, pc_k0, k183, hh]
  refine c_X0_copyFrom k183 hh hne hn (fun μ1 f1 f2 f3 => ?_)
  refine px_go (fun _ => false) 400 ?_
  simp (disch := omega) only [px_lits, false_implies, true_implies, px_dec_ok, px_run_s, px_rules, px_rule_is, px_mats, px_calls, ↓reduceIte, eq_self, Bool.false_eq_true, px_flds, px_o_some, px_fvs, px_pfs, px_cts, px_cls, px_acs_, px_acn, true_and, and_true, true_or, or_true, false_or, or_false, and_self, not_true_eq_false, not_false_eq_true, Classical.not_not, Nat.reduceAdd, Nat.reduceSub, Nat.reduceBEq, Nat.reduceLT, Nat.reduceLeDiff, Nat.lt_add_one, px_tg, Int.cast_ofNat_Int, Int.reduceAdd, Int.reduceSub, Int.reduceMul, Int.reduceToNat, Int.reduceLE, Int.reduceLT, Int.reduceNeg, Int.reduceEq, Bool.or_false, Bool.false_or, Bool.or_true, Bool.true_or, List.length_cons, List.length_nil, List.nil_append, List.cons_append, Option.toList_some, Option.toList_none, reduceCtorEq, Option.some.injEq, Nat.zero_le, Nat.reduceMul, Nat.mul_zero, Nat.add_zero, Int.reduceDiv, Int.reduceMod, Int.toNat_natCast, Nat.lt_irrefl, Int.natCast_add, Int.cast_ofNat_Int, px_mds_RX10_0, px_mds_RX10_1, dec_X10_needsAt, px_eq_iff, px_lt_iff, px_le_iff, px_up_o, px_up_eq, px_up_ne, px_cp_o, pc_k0, k183, hh]
  refine c_X0_gather k183 (by omega) (by omega) (by omega) (by rw [f3]; exact hv) (fun B R μ2 g1 g2 g3 g4 => ?_)
  rw [f3, show (0 : Int).toNat = 0 by rfl, List.drop_zero] at g1
  rw [show (0 : Int).toNat = 0 by rfl, List.take_zero, List.nil_append] at g3
  have hBl : B.length ≤ 16 := by
    have e := congrArg List.length g3
    rw [List.length_append, pc_hl_len, g2 183 (by omega), f2] at e
    omega
  have hBp : 0 < B.length := by
    rw [g1]
    apply pc_gb_ne
    intro q
    have e := congrArg List.length q
    rw [List.length_take, pc_hl_len, List.length_nil] at e
    omega
  have hs : ∀ i : Nat, i < B.length → μ2 184 i = (B[i]?.map (fun c => c.1)).getD 0 := by
    intro i hi
    have e2 : μ2 183 4 = μ h 4 := by rw [g2 183 (by omega), f2]
    have hl9 : (pc_hl μ2 183).length = (μ h 4).toNat := by rw [pc_hl_len, e2]
    rw [g3, List.length_append] at hl9
    have e := pc_hl_get (μ := μ2) (h := 183) (n := i)
    rw [if_pos (by omega), g3, List.getElem?_append_left hi] at e
    rw [e]
    rfl
  have loop : ∀ (n i : Nat) (s : Int), i + n = B.length - 1 → s = pc_set (B.take i) → px_J G RX10 cX10_needsAt 6 (some .int) 4 24 [some (.inr (.inl (some 0))), some (.inr (.inl (some h))), some (.inl a), some (.inl (B.length - 1)), some (.inl s), some (.inl i)] [] μ2 Q := by
    intro n
    induction n with
    | zero =>
      intro i s h2 h3
      refine px_go (fun p => p == 24) 400 ?_
      simp (disch := omega) only [px_lits, false_implies, true_implies, px_dec_ok, px_run_s, px_rules, px_rule_is, px_mats, px_calls, ↓reduceIte, eq_self, Bool.false_eq_true, px_flds, px_o_some, px_fvs, px_pfs, px_cts, px_cls, px_acs_, px_acn, true_and, and_true, true_or, or_true, false_or, or_false, and_self, not_true_eq_false, not_false_eq_true, Classical.not_not, Nat.reduceAdd, Nat.reduceSub, Nat.reduceBEq, Nat.reduceLT, Nat.reduceLeDiff, Nat.lt_add_one, px_tg, Int.cast_ofNat_Int, Int.reduceAdd, Int.reduceSub, Int.reduceMul, Int.reduceToNat, Int.reduceLE, Int.reduceLT, Int.reduceNeg, Int.reduceEq, Bool.or_false, Bool.false_or, Bool.or_true, Bool.true_or, List.length_cons, List.length_nil, List.nil_append, List.cons_append, Option.toList_some, Option.toList_none, reduceCtorEq, Option.some.injEq, Nat.zero_le, Nat.reduceMul, Nat.mul_zero, Nat.add_zero, Int.reduceDiv, Int.reduceMod, Int.toNat_natCast, Nat.lt_irrefl, Int.natCast_add, Int.cast_ofNat_Int, px_mds_RX10_0, px_mds_RX10_1, dec_X10_needsAt, px_eq_iff, px_lt_iff, px_le_iff, px_up_o, px_up_eq, px_up_ne, px_cp_o, pc_k0, k183, hh]
      refine ⟨fun _ => ?_, fun q => absurd (by omega) q⟩
      have := h1 μ2 (fun o ho => by rw [g2 o (by omega), f1 o (by omega)])
      rw [h3]
      unfold pc_nds at this
      rw [← g1, List.dropLast_eq_take, show B.length - 1 = i by omega] at this
      exact this
    | succ n ih =>
      intro i s h2 h3
      refine px_go (fun p => p == 24) 400 ?_
      simp (disch := omega) only [px_lits, false_implies, true_implies, px_dec_ok, px_run_s, px_rules, px_rule_is, px_mats, px_calls, ↓reduceIte, eq_self, Bool.false_eq_true, px_flds, px_o_some, px_fvs, px_pfs, px_cts, px_cls, px_acs_, px_acn, true_and, and_true, true_or, or_true, false_or, or_false, and_self, not_true_eq_false, not_false_eq_true, Classical.not_not, Nat.reduceAdd, Nat.reduceSub, Nat.reduceBEq, Nat.reduceLT, Nat.reduceLeDiff, Nat.lt_add_one, px_tg, Int.cast_ofNat_Int, Int.reduceAdd, Int.reduceSub, Int.reduceMul, Int.reduceToNat, Int.reduceLE, Int.reduceLT, Int.reduceNeg, Int.reduceEq, Bool.or_false, Bool.false_or, Bool.or_true, Bool.true_or, List.length_cons, List.length_nil, List.nil_append, List.cons_append, Option.toList_some, Option.toList_none, reduceCtorEq, Option.some.injEq, Nat.zero_le, Nat.reduceMul, Nat.mul_zero, Nat.add_zero, Int.reduceDiv, Int.reduceMod, Int.toNat_natCast, Nat.lt_irrefl, Int.natCast_add, Int.cast_ofNat_Int, px_mds_RX10_0, px_mds_RX10_1, dec_X10_needsAt, px_eq_iff, px_lt_iff, px_le_iff, px_up_o, px_up_eq, px_up_ne, px_cp_o, pc_k0, k183, hh, sk, sl]
      refine ⟨fun q => by omega, fun _ => ⟨by omega, ?_⟩⟩
      obtain ⟨c, hc⟩ : ∃ c, B[i]? = some c := ⟨_, List.getElem?_eq_getElem (by omega)⟩
      have e := hs i (by omega)
      rw [hc] at e
      have := ih (i + 1) (px_or s (px_shl 1 (μ2 184 i))) (by omega) (by
        rw [List.take_add_one, hc, Option.toList_some, pc_set_snoc, ← h3, e]
        rfl)
      rwa [Int.natCast_add] at this
  refine px_go (fun p => p == 24) 400 ?_
  simp (disch := omega) only [px_lits, false_implies, true_implies, px_dec_ok, px_run_s, px_rules, px_rule_is, px_mats, px_calls, ↓reduceIte, eq_self, Bool.false_eq_true, px_flds, px_o_some, px_fvs, px_pfs, px_cts, px_cls, px_acs_, px_acn, true_and, and_true, true_or, or_true, false_or, or_false, and_self, not_true_eq_false, not_false_eq_true, Classical.not_not, Nat.reduceAdd, Nat.reduceSub, Nat.reduceBEq, Nat.reduceLT, Nat.reduceLeDiff, Nat.lt_add_one, px_tg, Int.cast_ofNat_Int, Int.reduceAdd, Int.reduceSub, Int.reduceMul, Int.reduceToNat, Int.reduceLE, Int.reduceLT, Int.reduceNeg, Int.reduceEq, Bool.or_false, Bool.false_or, Bool.or_true, Bool.true_or, List.length_cons, List.length_nil, List.nil_append, List.cons_append, Option.toList_some, Option.toList_none, reduceCtorEq, Option.some.injEq, Nat.zero_le, Nat.reduceMul, Nat.mul_zero, Nat.add_zero, Int.reduceDiv, Int.reduceMod, Int.toNat_natCast, Nat.lt_irrefl, Int.natCast_add, Int.cast_ofNat_Int, px_mds_RX10_0, px_mds_RX10_1, dec_X10_needsAt, px_eq_iff, px_lt_iff, px_le_iff, px_up_o, px_up_eq, px_up_ne, px_cp_o, pc_k0, k183, hh]
  exact loop (B.length - 1) 0 0 (by omega) rfl
def pc_num (L : List pc_Ch) (i : Nat) : Int := ((L[i]?).map (fun c => c.1)).getD 0
def pc_ndi (L : List pc_Ch) (a : Nat) : Nat → Nat → Int → Int
  | 0, _, s => s
  | n + 1, i, s => pc_ndi L a n (i + 1) (if px_and (px_shr (pc_nds L i) (pc_num L a)) 1 = 1 then px_or s (px_shl 1 (pc_num L i)) else s)
set_option maxHeartbeats 4000000 in
set_option maxRecDepth 100000 in
theorem c_X10_needingIt {G : px_G} {h : Nat} {a : Int} {μ : px_Mem} {Q : Option px_X → px_Mem → Prop} (hh : px_kd h = 0) (hne : h ≠ 183) (hn : 0 ≤ μ h 4 ∧ μ h 4 ≤ 16) (ha : 0 ≤ a ∧ a < μ h 4) (hv : pc_V (pc_hl μ h))
    (h1 : ∀ μ1 : px_Mem, (∀ o, (o < 183 ∨ 187 < o) → μ1 o = μ o) → Q (some (.inl (pc_ndi (pc_hl μ h) a.toNat ((μ h 4).toNat - a.toNat - 1) (a.toNat + 1) 0))) μ1) : px_C G yX10_needingIt cX10_needingIt 5 (some .int) 5 [.inr (.inl (some 0)), .inr (.inl (some h)), .inl a] μ Q := by
  obtain ⟨hk, hl⟩ := pc_hk hh
  have k183 : px_kd 183 = 0 := by decide +kernel
  have hd := pc_hh hh k183
  have num : ∀ i : Int, 0 ≤ i → i < μ h 4 → μ (h + 1) i = pc_num (pc_hl μ h) i.toNat := by
    intro i i0 i1
    unfold pc_num
    rw [pc_hl_at i0 i1]
    rfl
  have loop : ∀ (n i : Nat) (s : Int) (μ1 : px_Mem), i + n = (μ h 4).toNat → (∀ o, (o < 183 ∨ 187 < o) → μ1 o = μ o) → pc_ndi (pc_hl μ h) a.toNat ((μ h 4).toNat - a.toNat - 1) (a.toNat + 1) 0 = pc_ndi (pc_hl μ h) a.toNat n i s →
      px_J G RX10 cX10_needingIt 5 (some .int) 5 7 [some (.inr (.inl (some 0))), some (.inr (.inl (some h))), some (.inl a), some (.inl s), some (.inl i)] [] μ1 Q := by
    intro n
    induction n with
    | zero =>
      intro i s μ1 h2 h3 h4
      have g0 : μ1 h = μ h := h3 h (by omega)
      refine px_go (fun p => p == 7) 400 ?_
      simp (disch := omega) only [px_lits, false_implies, true_implies, px_dec_ok, px_run_s, px_rules, px_rule_is, px_mats, px_calls, ↓reduceIte, eq_self, Bool.false_eq_true, px_flds, px_o_some, px_fvs, px_pfs, px_cts, px_cls, px_acs_, px_acn, true_and, and_true, true_or, or_true, false_or, or_false, and_self, not_true_eq_false, not_false_eq_true, Classical.not_not, Nat.reduceAdd, Nat.reduceSub, Nat.reduceBEq, Nat.reduceLT, Nat.reduceLeDiff, Nat.lt_add_one, px_tg, Int.cast_ofNat_Int, Int.reduceAdd, Int.reduceSub, Int.reduceMul, Int.reduceToNat, Int.reduceLE, Int.reduceLT, Int.reduceNeg, Int.reduceEq, Bool.or_false, Bool.false_or, Bool.or_true, Bool.true_or, List.length_cons, List.length_nil, List.nil_append, List.cons_append, Option.toList_some, Option.toList_none, reduceCtorEq, Option.some.injEq, Nat.zero_le, Nat.reduceMul, Nat.mul_zero, Nat.add_zero, Int.reduceDiv, Int.reduceMod, Int.toNat_natCast, Nat.lt_irrefl, Int.natCast_add, Int.cast_ofNat_Int, px_mds_RX10_0, px_mds_RX10_1, dec_X10_needingIt, px_eq_iff, px_lt_iff, px_le_iff, px_up_o, px_up_eq, px_up_ne, px_cp_o, pc_k0, hh, hk, hl, g0]
      refine ⟨fun _ => ?_, fun q => absurd (by omega) q⟩
      have := h1 μ1 h3
      rw [h4] at this
      exact this
    | succ n ih =>
      intro i s μ1 h2 h3 h4
      have g0 : μ1 h = μ h := h3 h (by omega)
      have g1 : μ1 (h + 1) = μ (h + 1) := h3 _ (by omega)
      have gl : pc_hl μ1 h = pc_hl μ h := pc_hl_same (h3 _ (by omega)) (h3 _ (by omega)) (h3 _ (by omega)) (h3 _ (by omega)) (h3 _ (by omega))
      refine px_go (fun p => p == 7) 400 ?_
      simp (disch := omega) only [px_lits, false_implies, true_implies, px_dec_ok, px_run_s, px_rules, px_rule_is, px_mats, px_calls, ↓reduceIte, eq_self, Bool.false_eq_true, px_flds, px_o_some, px_fvs, px_pfs, px_cts, px_cls, px_acs_, px_acn, true_and, and_true, true_or, or_true, false_or, or_false, and_self, not_true_eq_false, not_false_eq_true, Classical.not_not, Nat.reduceAdd, Nat.reduceSub, Nat.reduceBEq, Nat.reduceLT, Nat.reduceLeDiff, Nat.lt_add_one, px_tg, Int.cast_ofNat_Int, Int.reduceAdd, Int.reduceSub, Int.reduceMul, Int.reduceToNat, Int.reduceLE, Int.reduceLT, Int.reduceNeg, Int.reduceEq, Bool.or_false, Bool.false_or, Bool.or_true, Bool.true_or, List.length_cons, List.length_nil, List.nil_append, List.cons_append, Option.toList_some, Option.toList_none, reduceCtorEq, Option.some.injEq, Nat.zero_le, Nat.reduceMul, Nat.mul_zero, Nat.add_zero, Int.reduceDiv, Int.reduceMod, Int.toNat_natCast, Nat.lt_irrefl, Int.natCast_add, Int.cast_ofNat_Int, px_mds_RX10_0, px_mds_RX10_1, dec_X10_needingIt, px_eq_iff, px_lt_iff, px_le_iff, px_up_o, px_up_eq, px_up_ne, px_cp_o, pc_k0, hh, hk, hl, g0]
      refine ⟨fun q => by omega, fun _ => ?_⟩
      refine c_X10_needsAt hh hne (by rw [g0]; exact hn) (by rw [g0]; omega) (by rw [gl]; exact hv) (fun μ2 f1 => ?_)
      have g2 : μ2 (h + 1) = μ (h + 1) := by rw [f1 _ (by omega), g1]
      rw [gl, Int.toNat_natCast]
      have hr := px_and_r (px_shr (pc_nds (pc_hl μ h) i) (μ (h + 1) a)) 1
      refine px_go (fun p => p == 7) 400 ?_
      simp (disch := omega) only [px_lits, false_implies, true_implies, px_dec_ok, px_run_s, px_rules, px_rule_is, px_mats, px_calls, ↓reduceIte, eq_self, Bool.false_eq_true, px_flds, px_o_some, px_fvs, px_pfs, px_cts, px_cls, px_acs_, px_acn, true_and, and_true, true_or, or_true, false_or, or_false, and_self, not_true_eq_false, not_false_eq_true, Classical.not_not, Nat.reduceAdd, Nat.reduceSub, Nat.reduceBEq, Nat.reduceLT, Nat.reduceLeDiff, Nat.lt_add_one, px_tg, Int.cast_ofNat_Int, Int.reduceAdd, Int.reduceSub, Int.reduceMul, Int.reduceToNat, Int.reduceLE, Int.reduceLT, Int.reduceNeg, Int.reduceEq, Bool.or_false, Bool.false_or, Bool.or_true, Bool.true_or, List.length_cons, List.length_nil, List.nil_append, List.cons_append, Option.toList_some, Option.toList_none, reduceCtorEq, Option.some.injEq, Nat.zero_le, Nat.reduceMul, Nat.mul_zero, Nat.add_zero, Int.reduceDiv, Int.reduceMod, Int.toNat_natCast, Nat.lt_irrefl, Int.natCast_add, Int.cast_ofNat_Int, px_mds_RX10_0, px_mds_RX10_1, dec_X10_needingIt, px_eq_iff, px_lt_iff, px_le_iff, px_up_o, px_up_eq, px_up_ne, px_cp_o, pc_k0, hh, hk, hl, g2]
      refine ⟨by omega, ?_⟩
      have st : pc_ndi (pc_hl μ h) a.toNat (n + 1) i s = pc_ndi (pc_hl μ h) a.toNat n (i + 1) (if px_and (px_shr (pc_nds (pc_hl μ h) i) (pc_num (pc_hl μ h) a.toNat)) 1 = 1 then px_or s (px_shl 1 (pc_num (pc_hl μ h) i)) else s) := rfl
      rw [st] at h4
      have n1 := num a ha.1 ha.2
      have n2 := num i (by omega) (by omega)
      rw [Int.toNat_natCast] at n2
      rw [← n1, ← n2] at h4
      refine ⟨fun q => ?_, fun q => ⟨by omega, ?_⟩⟩
      · rw [if_neg q] at h4
        have := ih (i + 1) s μ2 (by omega) (fun o ho => by rw [f1 o ho, h3 o ho]) h4
        rwa [Int.natCast_add] at this
      · rw [if_pos q] at h4
        have := ih (i + 1) _ μ2 (by omega) (fun o ho => by rw [f1 o ho, h3 o ho]) h4
        rwa [Int.natCast_add] at this
  refine px_enter RX10 (by decide +kernel) rfl (by simp) (by simp [px_c1]) ?_
  simp only [List.map_cons, List.map_nil, List.length_cons, List.length_nil, List.replicate, List.append_nil, Nat.reduceAdd, Nat.reduceSub, List.cons_append, List.nil_append]
  refine px_go (fun p => p == 7) 400 ?_
  simp (disch := omega) only [px_lits, false_implies, true_implies, px_dec_ok, px_run_s, px_rules, px_rule_is, px_mats, px_calls, ↓reduceIte, eq_self, Bool.false_eq_true, px_flds, px_o_some, px_fvs, px_pfs, px_cts, px_cls, px_acs_, px_acn, true_and, and_true, true_or, or_true, false_or, or_false, and_self, not_true_eq_false, not_false_eq_true, Classical.not_not, Nat.reduceAdd, Nat.reduceSub, Nat.reduceBEq, Nat.reduceLT, Nat.reduceLeDiff, Nat.lt_add_one, px_tg, Int.cast_ofNat_Int, Int.reduceAdd, Int.reduceSub, Int.reduceMul, Int.reduceToNat, Int.reduceLE, Int.reduceLT, Int.reduceNeg, Int.reduceEq, Bool.or_false, Bool.false_or, Bool.or_true, Bool.true_or, List.length_cons, List.length_nil, List.nil_append, List.cons_append, Option.toList_some, Option.toList_none, reduceCtorEq, Option.some.injEq, Nat.zero_le, Nat.reduceMul, Nat.mul_zero, Nat.add_zero, Int.reduceDiv, Int.reduceMod, Int.toNat_natCast, Nat.lt_irrefl, Int.natCast_add, Int.cast_ofNat_Int, px_mds_RX10_0, px_mds_RX10_1, dec_X10_needingIt, px_eq_iff, px_lt_iff, px_le_iff, px_up_o, px_up_eq, px_up_ne, px_cp_o, pc_k0, hh, hk, hl]
  have := loop ((μ h 4).toNat - a.toNat - 1) (a.toNat + 1) 0 μ (by omega) (fun _ _ => rfl) rfl
  rwa [Int.natCast_add, Int.toNat_of_nonneg ha.1] at this
end
section
/-! ===== a pull, on copies: what comes, past what ===== -/
theorem pc_kp : px_kd 188 = 6 ∧ px_kd 189 = 0 ∧ px_kd 194 = 0 ∧ px_kd 199 = 20 := by decide +kernel
theorem pc_lp : px_ln 199 = 16 := by decide +kernel
set_option maxHeartbeats 4000000 in
set_option maxRecDepth 100000 in
theorem c_X6_sortOut {G : px_G} {h g : Nat} {ch : Int} {μ : px_Mem} {Q : Option px_X → px_Mem → Prop} (hh : px_kd h = 0) (hg : px_kd g = 0) (h8 : h < 100) (g8 : g < 100) (hn : 0 ≤ μ h 4 ∧ μ h 4 ≤ 16) (gn : 0 ≤ μ g 4 ∧ μ g 4 ≤ 16) (hv : pc_V (pc_hl μ h)) (gv : pc_V (pc_hl μ g)) (hc : -2147483648 ≤ ch ∧ ch < 2147483648)
    (hch : ∀ (Lt : List pc_Ch) (ft : Nat), pc_fr (px_and (pc_set (pc_hl μ h)) (pc_set (pc_hl μ g))) (pc_hl μ g).length 0 (pc_hl μ g) 0 = some (Lt, ft) → ∃ a : Nat, ft ≤ a ∧ a < Lt.length ∧ pc_num Lt a = ch ∧ ∀ j : Nat, j < Lt.length → pc_num Lt j = ch → j = a)
    (h0 : ∀ μ1 : px_Mem, (pc_fr (px_and (pc_set (pc_hl μ h)) (pc_set (pc_hl μ g))) (pc_hl μ g).length 0 (pc_hl μ g) 0 = none ∨ pc_fr (px_and (pc_set (pc_hl μ h)) (pc_set (pc_hl μ g))) (pc_hl μ h).length 0 (pc_hl μ h) 0 = none) → (∀ o, (o < 188 ∨ 198 < o) → μ1 o = μ o) → Q (some (.inl 0)) μ1)
    (h1 : ∀ (Lt Lo B R : List pc_Ch) (ft fo a : Nat) (μ1 : px_Mem), pc_fr (px_and (pc_set (pc_hl μ h)) (pc_set (pc_hl μ g))) (pc_hl μ g).length 0 (pc_hl μ g) 0 = some (Lt, ft) → pc_fr (px_and (pc_set (pc_hl μ h)) (pc_set (pc_hl μ g))) (pc_hl μ h).length 0 (pc_hl μ h) 0 = some (Lo, fo) → ft ≤ a → a < Lt.length → pc_num Lt a = ch → B = pc_gb ((Lt.take (a + 1)).drop ft) →
      (∀ o, (o < 188 ∨ 198 < o) → μ1 o = μ o) → pc_hl μ1 189 = Lo → pc_hl μ1 194 = Lt.take ft ++ B ++ R → μ1 189 4 = μ h 4 → μ1 194 4 = μ g 4 → μ1 188 3 = ft → μ1 188 4 = B.length → pc_V Lo → pc_V (pc_hl μ1 194) → Q (some (.inl 1)) μ1) : px_C G yX6_sortOut cX6_sortOut 5 (some .boolean) 4 [.inr (.inl (some 188)), .inr (.inl (some h)), .inr (.inl (some g)), .inl ch] μ Q := by
  obtain ⟨k188, k189, k194, k199⟩ := pc_kp
  generalize hbt : px_and (pc_set (pc_hl μ h)) (pc_set (pc_hl μ g)) = bt at *
  refine px_enter RX6 (by decide +kernel) rfl (by simp) (by simp [px_c1]) ?_
  simp only [List.map_cons, List.map_nil, List.length_cons, List.length_nil, List.replicate, List.append_nil, Nat.reduceAdd, Nat.reduceSub, List.cons_append, List.nil_append]
  refine px_go (fun _ => false) 400 ?_
  simp (disch := omega) only [px_lits, false_implies, true_implies, px_dec_ok, px_run_s, px_rules, px_rule_is, px_mats, px_calls, ↓reduceIte, eq_self, Bool.false_eq_true, px_flds, px_o_some, px_fvs, px_pfs, px_cts, px_cls, px_acs_, px_acn, true_and, and_true, true_or, or_true, false_or, or_false, and_self, not_true_eq_false, not_false_eq_true, Classical.not_not, Nat.reduceAdd, Nat.reduceSub, Nat.reduceBEq, Nat.reduceLT, Nat.reduceLeDiff, Nat.lt_add_one, px_tg, Int.cast_ofNat_Int, Int.reduceAdd, Int.reduceSub, Int.reduceMul, Int.reduceToNat, Int.reduceLE, Int.reduceLT, Int.reduceNeg, Int.reduceEq, Bool.or_false, Bool.false_or, Bool.or_true, Bool.true_or, List.length_cons, List.length_nil, List.nil_append, List.cons_append, Option.toList_some, Option.toList_none, reduceCtorEq, Option.some.injEq, Nat.zero_le, Nat.reduceMul, Nat.mul_zero, Nat.add_zero, Int.reduceDiv, Int.reduceMod, Int.toNat_natCast, Nat.lt_irrefl, Int.natCast_add, Int.cast_ofNat_Int, px_mds_RX6_0, dec_X6_sortOut, px_eq_iff, px_lt_iff, px_le_iff, px_up_o, px_up_eq, px_up_ne, px_cp_o, k188, k189, k194, hh, hg]
  refine c_X0_asSet hh hn ?_
  refine px_go (fun _ => false) 400 ?_
  simp (disch := omega) only [px_lits, false_implies, true_implies, px_dec_ok, px_run_s, px_rules, px_rule_is, px_mats, px_calls, ↓reduceIte, eq_self, Bool.false_eq_true, px_flds, px_o_some, px_fvs, px_pfs, px_cts, px_cls, px_acs_, px_acn, true_and, and_true, true_or, or_true, false_or, or_false, and_self, not_true_eq_false, not_false_eq_true, Classical.not_not, Nat.reduceAdd, Nat.reduceSub, Nat.reduceBEq, Nat.reduceLT, Nat.reduceLeDiff, Nat.lt_add_one, px_tg, Int.cast_ofNat_Int, Int.reduceAdd, Int.reduceSub, Int.reduceMul, Int.reduceToNat, Int.reduceLE, Int.reduceLT, Int.reduceNeg, Int.reduceEq, Bool.or_false, Bool.false_or, Bool.or_true, Bool.true_or, List.length_cons, List.length_nil, List.nil_append, List.cons_append, Option.toList_some, Option.toList_none, reduceCtorEq, Option.some.injEq, Nat.zero_le, Nat.reduceMul, Nat.mul_zero, Nat.add_zero, Int.reduceDiv, Int.reduceMod, Int.toNat_natCast, Nat.lt_irrefl, Int.natCast_add, Int.cast_ofNat_Int, px_mds_RX6_0, dec_X6_sortOut, px_eq_iff, px_lt_iff, px_le_iff, px_up_o, px_up_eq, px_up_ne, px_cp_o, k188, k189, k194, hh, hg]
  refine c_X0_asSet hg gn ?_
  refine px_go (fun _ => false) 400 ?_
  simp (disch := omega) only [px_lits, false_implies, true_implies, px_dec_ok, px_run_s, px_rules, px_rule_is, px_mats, px_calls, ↓reduceIte, eq_self, Bool.false_eq_true, px_flds, px_o_some, px_fvs, px_pfs, px_cts, px_cls, px_acs_, px_acn, true_and, and_true, true_or, or_true, false_or, or_false, and_self, not_true_eq_false, not_false_eq_true, Classical.not_not, Nat.reduceAdd, Nat.reduceSub, Nat.reduceBEq, Nat.reduceLT, Nat.reduceLeDiff, Nat.lt_add_one, px_tg, Int.cast_ofNat_Int, Int.reduceAdd, Int.reduceSub, Int.reduceMul, Int.reduceToNat, Int.reduceLE, Int.reduceLT, Int.reduceNeg, Int.reduceEq, Bool.or_false, Bool.false_or, Bool.or_true, Bool.true_or, List.length_cons, List.length_nil, List.nil_append, List.cons_append, Option.toList_some, Option.toList_none, reduceCtorEq, Option.some.injEq, Nat.zero_le, Nat.reduceMul, Nat.mul_zero, Nat.add_zero, Int.reduceDiv, Int.reduceMod, Int.toNat_natCast, Nat.lt_irrefl, Int.natCast_add, Int.cast_ofNat_Int, px_mds_RX6_0, dec_X6_sortOut, px_eq_iff, px_lt_iff, px_le_iff, px_up_o, px_up_eq, px_up_ne, px_cp_o, k188, k189, k194, hh, hg, hbt]
  refine c_X0_copyFrom k189 hh (by omega) hn (fun μ1 a1 a2 a3 => ?_)
  have gg : pc_hl μ1 g = pc_hl μ g := pc_hl_same (a1 _ (by omega)) (a1 _ (by omega)) (a1 _ (by omega)) (a1 _ (by omega)) (a1 _ (by omega))
  have g4 : μ1 g 4 = μ g 4 := by rw [a1 g (by omega)]
  refine px_go (fun _ => false) 400 ?_
  simp (disch := omega) only [px_lits, false_implies, true_implies, px_dec_ok, px_run_s, px_rules, px_rule_is, px_mats, px_calls, ↓reduceIte, eq_self, Bool.false_eq_true, px_flds, px_o_some, px_fvs, px_pfs, px_cts, px_cls, px_acs_, px_acn, true_and, and_true, true_or, or_true, false_or, or_false, and_self, not_true_eq_false, not_false_eq_true, Classical.not_not, Nat.reduceAdd, Nat.reduceSub, Nat.reduceBEq, Nat.reduceLT, Nat.reduceLeDiff, Nat.lt_add_one, px_tg, Int.cast_ofNat_Int, Int.reduceAdd, Int.reduceSub, Int.reduceMul, Int.reduceToNat, Int.reduceLE, Int.reduceLT, Int.reduceNeg, Int.reduceEq, Bool.or_false, Bool.false_or, Bool.or_true, Bool.true_or, List.length_cons, List.length_nil, List.nil_append, List.cons_append, Option.toList_some, Option.toList_none, reduceCtorEq, Option.some.injEq, Nat.zero_le, Nat.reduceMul, Nat.mul_zero, Nat.add_zero, Int.reduceDiv, Int.reduceMod, Int.toNat_natCast, Nat.lt_irrefl, Int.natCast_add, Int.cast_ofNat_Int, px_mds_RX6_0, dec_X6_sortOut, px_eq_iff, px_lt_iff, px_le_iff, px_up_o, px_up_eq, px_up_ne, px_cp_o, k188, k189, k194, hh, hg]
  refine c_X0_copyFrom k194 hg (by omega) (by rw [g4]; exact gn) (fun μ2 b1 b2 b3 => ?_)
  rw [gg] at b3
  rw [g4] at b2
  have o2 : pc_hl μ2 189 = pc_hl μ h := by
    rw [← a3]
    exact pc_hl_same (b1 _ (by omega)) (b1 _ (by omega)) (b1 _ (by omega)) (b1 _ (by omega)) (b1 _ (by omega))
  have o24 : μ2 189 4 = μ h 4 := by rw [b1 189 (by omega), a2]
  refine px_go (fun _ => false) 400 ?_
  simp (disch := omega) only [px_lits, false_implies, true_implies, px_dec_ok, px_run_s, px_rules, px_rule_is, px_mats, px_calls, ↓reduceIte, eq_self, Bool.false_eq_true, px_flds, px_o_some, px_fvs, px_pfs, px_cts, px_cls, px_acs_, px_acn, true_and, and_true, true_or, or_true, false_or, or_false, and_self, not_true_eq_false, not_false_eq_true, Classical.not_not, Nat.reduceAdd, Nat.reduceSub, Nat.reduceBEq, Nat.reduceLT, Nat.reduceLeDiff, Nat.lt_add_one, px_tg, Int.cast_ofNat_Int, Int.reduceAdd, Int.reduceSub, Int.reduceMul, Int.reduceToNat, Int.reduceLE, Int.reduceLT, Int.reduceNeg, Int.reduceEq, Bool.or_false, Bool.false_or, Bool.or_true, Bool.true_or, List.length_cons, List.length_nil, List.nil_append, List.cons_append, Option.toList_some, Option.toList_none, reduceCtorEq, Option.some.injEq, Nat.zero_le, Nat.reduceMul, Nat.mul_zero, Nat.add_zero, Int.reduceDiv, Int.reduceMod, Int.toNat_natCast, Nat.lt_irrefl, Int.natCast_add, Int.cast_ofNat_Int, px_mds_RX6_0, dec_X6_sortOut, px_eq_iff, px_lt_iff, px_le_iff, px_up_o, px_up_eq, px_up_ne, px_cp_o, k188, k189, k194, hh, hg]
  refine c_X0_bringToFront k194 (by rw [b2]; exact gn) (by rw [b3]; exact gv) (fun Lt ft μ3 c1 c2 c3 c4 => ?_) (fun μ3 c1 c2 => ?_)
  · rw [b3] at c1
    have ftl : (ft : Int) ≤ 1000 ∧ Lt.length = (μ g 4).toNat := by
      obtain ⟨a, q1, q2, -⟩ := hch Lt ft c1
      have : Lt.length = (μ g 4).toNat := by rw [← c3, pc_hl_len, c2 194 (by omega), b2]
      omega
    have o3 : pc_hl μ3 189 = pc_hl μ h := by
      rw [← o2]
      exact pc_hl_same (c2 _ (by omega)) (c2 _ (by omega)) (c2 _ (by omega)) (c2 _ (by omega)) (c2 _ (by omega))
    have u3 : ∀ z : Int, pc_hl (px_up μ3 188 3 z) 189 = pc_hl μ h := fun z => by
      rw [← o3]
      refine pc_hl_same ?_ ?_ ?_ ?_ ?_ <;> simp (disch := omega) only [px_up_o]
    have u4 : ∀ z : Int, pc_hl (px_up μ3 188 3 z) 194 = Lt := fun z => by
      rw [← c3]
      refine pc_hl_same ?_ ?_ ?_ ?_ ?_ <;> simp (disch := omega) only [px_up_o]
    refine px_go (fun _ => false) 400 ?_
    simp (disch := omega) only [px_lits, false_implies, true_implies, px_dec_ok, px_run_s, px_rules, px_rule_is, px_mats, px_calls, ↓reduceIte, eq_self, Bool.false_eq_true, px_flds, px_o_some, px_fvs, px_pfs, px_cts, px_cls, px_acs_, px_acn, true_and, and_true, true_or, or_true, false_or, or_false, and_self, not_true_eq_false, not_false_eq_true, Classical.not_not, Nat.reduceAdd, Nat.reduceSub, Nat.reduceBEq, Nat.reduceLT, Nat.reduceLeDiff, Nat.lt_add_one, px_tg, Int.cast_ofNat_Int, Int.reduceAdd, Int.reduceSub, Int.reduceMul, Int.reduceToNat, Int.reduceLE, Int.reduceLT, Int.reduceNeg, Int.reduceEq, Bool.or_false, Bool.false_or, Bool.or_true, Bool.true_or, List.length_cons, List.length_nil, List.nil_append, List.cons_append, Option.toList_some, Option.toList_none, reduceCtorEq, Option.some.injEq, Nat.zero_le, Nat.reduceMul, Nat.mul_zero, Nat.add_zero, Int.reduceDiv, Int.reduceMod, Int.toNat_natCast, Nat.lt_irrefl, Int.natCast_add, Int.cast_ofNat_Int, px_mds_RX6_0, dec_X6_sortOut, px_eq_iff, px_lt_iff, px_le_iff, px_up_o, px_up_eq, px_up_ne, px_cp_o, k188, k189, k194, hh, hg]
    refine c_X0_bringToFront k189 (by simp (disch := omega) only [px_up_o]; rw [c2 189 (by omega), o24]; exact hn) (by rw [u3]; exact hv) (fun Lo fo μ4 d1 d2 d3 d4 => ?_) (fun μ4 d1 d2 => ?_)
    · rw [u3] at d1
      have t4 : pc_hl μ4 194 = Lt := by
        rw [← u4 ft]
        exact pc_hl_same (d2 _ (by omega)) (d2 _ (by omega)) (d2 _ (by omega)) (d2 _ (by omega)) (d2 _ (by omega))
      have t44 : μ4 194 4 = μ g 4 := by
        rw [d2 194 (by omega)]
        simp (disch := omega) only [px_up_o]
        rw [c2 194 (by omega), b2]
      have f4 : μ4 188 3 = ft := by
        rw [d2 188 (by omega)]
        simp (disch := omega) only [px_up_eq]
      have s4 : μ4 189 4 = μ h 4 := by
        rw [d2 189 (by omega)]
        simp (disch := omega) only [px_up_o]
        rw [c2 189 (by omega), o24]
      obtain ⟨a, q1, q2, q3, q4⟩ := hch Lt ft c1
      have fol : (fo : Int) ≤ 1000 := by
        have key : ∀ (n i f : Nat) (L L1 : List pc_Ch) (f1 : Nat), pc_fr bt n i L f = some (L1, f1) → f1 ≤ f + n := by
          intro n
          induction n with
          | zero => intro i f L L1 f1 e; cases e; omega
          | succ n ih =>
            intro i f L L1 f1 e
            cases hL : L[i]? with
            | none =>
              have : pc_fr bt (n + 1) i L f = none := by
                show (match L[i]? with
                  | none => none
                  | some c => if px_and (px_shr bt c.1) 1 = 1 then (pc_brB (i - f) L i).bind (fun L1 => pc_fr bt n (i + 1) L1 (f + 1)) else pc_fr bt n (i + 1) L f) = _
                rw [hL]
              rw [this] at e
              cases e
            | some c =>
              rw [pc_fr_step hL] at e
              split at e
              · cases hb : pc_brB (i - f) L i with
                | none => rw [hb] at e; cases e
                | some L2 =>
                  rw [hb] at e
                  have := ih _ _ _ _ _ e
                  omega
              · have := ih _ _ _ _ _ e
                omega
        have := key _ _ _ _ _ _ d1
        rw [pc_hl_len] at this
        omega
      refine px_go (fun _ => false) 400 ?_
      simp (disch := omega) only [px_lits, false_implies, true_implies, px_dec_ok, px_run_s, px_rules, px_rule_is, px_mats, px_calls, ↓reduceIte, eq_self, Bool.false_eq_true, px_flds, px_o_some, px_fvs, px_pfs, px_cts, px_cls, px_acs_, px_acn, true_and, and_true, true_or, or_true, false_or, or_false, and_self, not_true_eq_false, not_false_eq_true, Classical.not_not, Nat.reduceAdd, Nat.reduceSub, Nat.reduceBEq, Nat.reduceLT, Nat.reduceLeDiff, Nat.lt_add_one, px_tg, Int.cast_ofNat_Int, Int.reduceAdd, Int.reduceSub, Int.reduceMul, Int.reduceToNat, Int.reduceLE, Int.reduceLT, Int.reduceNeg, Int.reduceEq, Bool.or_false, Bool.false_or, Bool.or_true, Bool.true_or, List.length_cons, List.length_nil, List.nil_append, List.cons_append, Option.toList_some, Option.toList_none, reduceCtorEq, Option.some.injEq, Nat.zero_le, Nat.reduceMul, Nat.mul_zero, Nat.add_zero, Int.reduceDiv, Int.reduceMod, Int.toNat_natCast, Nat.lt_irrefl, Int.natCast_add, Int.cast_ofNat_Int, px_mds_RX6_0, dec_X6_sortOut, px_eq_iff, px_lt_iff, px_le_iff, px_up_o, px_up_eq, px_up_ne, px_cp_o, k188, k189, k194, hh, hg, f4]
      have hnum : ∀ i : Int, 0 ≤ i → i < μ4 194 4 → μ4 195 i = pc_num Lt i.toNat := by
        intro i i0 i1
        unfold pc_num
        rw [← t4, pc_hl_at i0 i1]
        rfl
      refine c_X0_find k194 (by rw [t44]; exact gn) hc (fun i i0 i1 => ?_) (fun z hz => ?_)
      · have := c4.el (by rw [← t4]; exact pc_hl_mem i0 i1)
        exact this.1
      · have hza : z = a := by
          rcases hz with ⟨z1, z2⟩ | ⟨z1, z2, z3, z4⟩
          · exfalso
            refine z2 a (by omega) (by omega) ?_
            rw [hnum a (by omega) (by omega), Int.toNat_natCast, q3]
          · have := q4 z.toNat (by omega) (by rw [← hnum z z1 z2]; exact z3)
            omega
        subst hza
        refine px_go (fun _ => false) 400 ?_
        simp (disch := omega) only [px_lits, false_implies, true_implies, px_dec_ok, px_run_s, px_rules, px_rule_is, px_mats, px_calls, ↓reduceIte, eq_self, Bool.false_eq_true, px_flds, px_o_some, px_fvs, px_pfs, px_cts, px_cls, px_acs_, px_acn, true_and, and_true, true_or, or_true, false_or, or_false, and_self, not_true_eq_false, not_false_eq_true, Classical.not_not, Nat.reduceAdd, Nat.reduceSub, Nat.reduceBEq, Nat.reduceLT, Nat.reduceLeDiff, Nat.lt_add_one, px_tg, Int.cast_ofNat_Int, Int.reduceAdd, Int.reduceSub, Int.reduceMul, Int.reduceToNat, Int.reduceLE, Int.reduceLT, Int.reduceNeg, Int.reduceEq, Bool.or_false, Bool.false_or, Bool.or_true, Bool.true_or, List.length_cons, List.length_nil, List.nil_append, List.cons_append, Option.toList_some, Option.toList_none, reduceCtorEq, Option.some.injEq, Nat.zero_le, Nat.reduceMul, Nat.mul_zero, Nat.add_zero, Int.reduceDiv, Int.reduceMod, Int.toNat_natCast, Nat.lt_irrefl, Int.natCast_add, Int.cast_ofNat_Int, px_mds_RX6_0, dec_X6_sortOut, px_eq_iff, px_lt_iff, px_le_iff, px_up_o, px_up_eq, px_up_ne, px_cp_o, k188, k189, k194, hh, hg, f4]
        refine c_X0_gather k194 (by rw [t44]; exact gn) (by omega) (by omega) (by rw [t4]; exact c4) (fun B R μ5 e1 e2 e3 e4 => ?_)
        rw [t4, Int.toNat_natCast, Int.toNat_natCast] at e1
        rw [t4, Int.toNat_natCast] at e3
        have g5 : μ5 188 = μ4 188 := e2 188 (by omega)
        refine px_go (fun _ => false) 400 ?_
        simp (disch := omega) only [px_lits, false_implies, true_implies, px_dec_ok, px_run_s, px_rules, px_rule_is, px_mats, px_calls, ↓reduceIte, eq_self, Bool.false_eq_true, px_flds, px_o_some, px_fvs, px_pfs, px_cts, px_cls, px_acs_, px_acn, true_and, and_true, true_or, or_true, false_or, or_false, and_self, not_true_eq_false, not_false_eq_true, Classical.not_not, Nat.reduceAdd, Nat.reduceSub, Nat.reduceBEq, Nat.reduceLT, Nat.reduceLeDiff, Nat.lt_add_one, px_tg, Int.cast_ofNat_Int, Int.reduceAdd, Int.reduceSub, Int.reduceMul, Int.reduceToNat, Int.reduceLE, Int.reduceLT, Int.reduceNeg, Int.reduceEq, Bool.or_false, Bool.false_or, Bool.or_true, Bool.true_or, List.length_cons, List.length_nil, List.nil_append, List.cons_append, Option.toList_some, Option.toList_none, reduceCtorEq, Option.some.injEq, Nat.zero_le, Nat.reduceMul, Nat.mul_zero, Nat.add_zero, Int.reduceDiv, Int.reduceMod, Int.toNat_natCast, Nat.lt_irrefl, Int.natCast_add, Int.cast_ofNat_Int, px_mds_RX6_0, dec_X6_sortOut, px_eq_iff, px_lt_iff, px_le_iff, px_up_o, px_up_eq, px_up_ne, px_cp_o, k188, k189, k194, hh, hg]
        have w4 : ∀ z : Int, pc_hl (px_up μ5 188 4 z) 194 = pc_hl μ5 194 := fun z => by
          refine pc_hl_same ?_ ?_ ?_ ?_ ?_ <;> simp (disch := omega) only [px_up_o]
        refine h1 Lt Lo B R ft fo a _ c1 d1 q1 q2 q3 e1 (fun o ho => ?_) ?_ ?_ ?_ ?_ ?_ ?_ d4 ?_
        · simp (disch := omega) only [px_up_o]
          rw [e2 o (by omega), d2 o (by omega)]
          simp (disch := omega) only [px_up_o]
          rw [c2 o (by omega), b1 o (by omega), a1 o (by omega)]
        · rw [← d3]
          refine pc_hl_same ?_ ?_ ?_ ?_ ?_
          all_goals
            simp (disch := omega) only [px_up_o]
            exact e2 _ (by omega)
        · rw [w4]
          exact e3
        · simp (disch := omega) only [px_up_o]
          rw [e2 189 (by omega), s4]
        · simp (disch := omega) only [px_up_o]
          rw [e2 194 (by omega), t44]
        · simp (disch := omega) only [px_up_ne]
          rw [g5, f4]
        · simp (disch := omega) only [px_up_eq]
          omega
        · rw [w4]
          exact e4
    · rw [u3] at d1
      refine px_go (fun _ => false) 400 ?_
      simp (disch := omega) only [px_lits, false_implies, true_implies, px_dec_ok, px_run_s, px_rules, px_rule_is, px_mats, px_calls, ↓reduceIte, eq_self, Bool.false_eq_true, px_flds, px_o_some, px_fvs, px_pfs, px_cts, px_cls, px_acs_, px_acn, true_and, and_true, true_or, or_true, false_or, or_false, and_self, not_true_eq_false, not_false_eq_true, Classical.not_not, Nat.reduceAdd, Nat.reduceSub, Nat.reduceBEq, Nat.reduceLT, Nat.reduceLeDiff, Nat.lt_add_one, px_tg, Int.cast_ofNat_Int, Int.reduceAdd, Int.reduceSub, Int.reduceMul, Int.reduceToNat, Int.reduceLE, Int.reduceLT, Int.reduceNeg, Int.reduceEq, Bool.or_false, Bool.false_or, Bool.or_true, Bool.true_or, List.length_cons, List.length_nil, List.nil_append, List.cons_append, Option.toList_some, Option.toList_none, reduceCtorEq, Option.some.injEq, Nat.zero_le, Nat.reduceMul, Nat.mul_zero, Nat.add_zero, Int.reduceDiv, Int.reduceMod, Int.toNat_natCast, Nat.lt_irrefl, Int.natCast_add, Int.cast_ofNat_Int, px_mds_RX6_0, dec_X6_sortOut, px_eq_iff, px_lt_iff, px_le_iff, px_up_o, px_up_eq, px_up_ne, px_cp_o, k188, k189, k194, hh, hg]
      refine h0 _ (Or.inr d1) (fun o ho => ?_)
      rw [d2 o (by omega)]
      simp (disch := omega) only [px_up_o]
      rw [c2 o (by omega), b1 o (by omega), a1 o (by omega)]
  · rw [b3] at c1
    refine px_go (fun _ => false) 400 ?_
    simp (disch := omega) only [px_lits, false_implies, true_implies, px_dec_ok, px_run_s, px_rules, px_rule_is, px_mats, px_calls, ↓reduceIte, eq_self, Bool.false_eq_true, px_flds, px_o_some, px_fvs, px_pfs, px_cts, px_cls, px_acs_, px_acn, true_and, and_true, true_or, or_true, false_or, or_false, and_self, not_true_eq_false, not_false_eq_true, Classical.not_not, Nat.reduceAdd, Nat.reduceSub, Nat.reduceBEq, Nat.reduceLT, Nat.reduceLeDiff, Nat.lt_add_one, px_tg, Int.cast_ofNat_Int, Int.reduceAdd, Int.reduceSub, Int.reduceMul, Int.reduceToNat, Int.reduceLE, Int.reduceLT, Int.reduceNeg, Int.reduceEq, Bool.or_false, Bool.false_or, Bool.or_true, Bool.true_or, List.length_cons, List.length_nil, List.nil_append, List.cons_append, Option.toList_some, Option.toList_none, reduceCtorEq, Option.some.injEq, Nat.zero_le, Nat.reduceMul, Nat.mul_zero, Nat.add_zero, Int.reduceDiv, Int.reduceMod, Int.toNat_natCast, Nat.lt_irrefl, Int.natCast_add, Int.cast_ofNat_Int, px_mds_RX6_0, dec_X6_sortOut, px_eq_iff, px_lt_iff, px_le_iff, px_up_o, px_up_eq, px_up_ne, px_cp_o, k188, k189, k194, hh, hg]
    refine h0 _ (Or.inl c1) (fun o ho => ?_)
    simp (disch := omega) only [px_up_o]
    rw [c2 o (by omega), b1 o (by omega), a1 o (by omega)]
/-- one that comes, past all that the house alone has: with which it clashes, or what comes of both -/
def pc_gp1 : pc_Ch → List pc_Ch → Int ⊕ (pc_Ch × List pc_Ch)
  | b, [] => .inr (b, [])
  | b, o :: O => match pc_tr (1 - o.2.1) o.2.2.1 b.2.1 b.2.2.1 with
    | none => .inl o.1
    | some q => match pc_gp1 (b.1, b.2.1, q.1, b.2.2.2) O with
      | .inl n => .inl n
      | .inr r => .inr (r.1, (o.1, o.2.1, q.2, o.2.2.2) :: r.2)
def pc_gp : List pc_Ch → List pc_Ch → Int ⊕ List pc_Ch
  | [], _ => .inr []
  | b :: B, O => match pc_gp1 b O with
    | .inl n => .inl n
    | .inr r => match pc_gp B r.2 with
      | .inl n => .inl n
      | .inr B1 => .inr (r.1 :: B1)
def pc_bd (K : Int) (L : List pc_Ch) : Prop := ∀ c ∈ L, (0 ≤ c.1 ∧ c.1 < 24) ∧ (c.2.1 = 0 ∨ c.2.1 = 1) ∧ (0 ≤ c.2.2.1 ∧ c.2.2.1 ≤ K)
theorem pc_gp1_bd {K : Int} : ∀ {O : List pc_Ch} {b b1 : pc_Ch} {O1 : List pc_Ch}, pc_bd K O → 0 ≤ b.2.2.1 → pc_gp1 b O = .inr (b1, O1) → pc_bd (K + 1) O1 ∧ b1.1 = b.1 ∧ b1.2.1 = b.2.1 ∧ b1.2.2.2 = b.2.2.2 ∧ 0 ≤ b1.2.2.1 ∧ b1.2.2.1 ≤ b.2.2.1 + O.length ∧ O1.length = O.length
  | [], b, b1, O1, hO, hb, h => by
    cases h
    exact ⟨fun c hc => absurd hc List.not_mem_nil, rfl, rfl, rfl, hb, (by simp), rfl⟩
  | o :: O, b, b1, O1, hO, hb, h => by
    have ho := hO o List.mem_cons_self
    unfold pc_gp1 at h
    cases ht : pc_tr (1 - o.2.1) o.2.2.1 b.2.1 b.2.2.1 with
    | none => rw [ht] at h; cases h
    | some q =>
      obtain ⟨k, m⟩ := q
      have hbd := pc_tr_bd ht ho.2.2.1 hb
      rw [ht] at h
      dsimp only at h
      cases hr : pc_gp1 (b.1, b.2.1, k, b.2.2.2) O with
      | inl n => rw [hr] at h; cases h
      | inr r =>
        obtain ⟨b2, O2⟩ := r
        rw [hr] at h
        cases h
        obtain ⟨r1, r2, r3, r4, r5, r6, r7⟩ := pc_gp1_bd (K := K) (fun c hc => hO c (List.mem_cons_of_mem _ hc)) hbd.1 hr
        dsimp only at r2 r3 r4 r6
        refine ⟨fun c hc => ?_, r2, r3, r4, r5, ?_, by simp [r7]⟩
        · rcases List.mem_cons.mp hc with rfl | hc
          · exact ⟨ho.1, ho.2.1, by dsimp only; omega⟩
          · exact r1 c hc
        · simp only [List.length_cons]
          omega
/-- a stretch of four rows, as a list -/
def pc_sg (μ : px_Mem) (a1 a2 a3 a4 : Nat) : Int → Nat → List pc_Ch
  | _, 0 => []
  | f, n + 1 => (μ a1 f, μ a2 f, μ a3 f, μ a4 f) :: pc_sg μ a1 a2 a3 a4 (f + 1) n
theorem pc_sg_len {μ : px_Mem} {a1 a2 a3 a4 : Nat} : ∀ {n : Nat} {f : Int}, (pc_sg μ a1 a2 a3 a4 f n).length = n
  | 0, f => rfl
  | n + 1, f => by simp only [pc_sg, List.length_cons, pc_sg_len]
theorem pc_sg_congr {μ μ1 : px_Mem} {a1 a2 a3 a4 b1 b2 b3 b4 : Nat} : ∀ {n : Nat} {f g : Int}, (∀ i : Int, 0 ≤ i → i < n → μ1 b1 (g + i) = μ a1 (f + i) ∧ μ1 b2 (g + i) = μ a2 (f + i) ∧ μ1 b3 (g + i) = μ a3 (f + i) ∧ μ1 b4 (g + i) = μ a4 (f + i)) → pc_sg μ1 b1 b2 b3 b4 g n = pc_sg μ a1 a2 a3 a4 f n
  | 0, f, g, _ => rfl
  | n + 1, f, g, h => by
    have h0 := h 0 (by omega) (by omega)
    rw [Int.add_zero, Int.add_zero] at h0
    obtain ⟨e1, e2, e3, e4⟩ := h0
    unfold pc_sg
    rw [e1, e2, e3, e4, pc_sg_congr (n := n) (f := f + 1) (g := g + 1) (fun i i0 i1 => by
      have := h (i + 1) (by omega) (by omega)
      rw [show g + 1 + i = g + (i + 1) by omega, show f + 1 + i = f + (i + 1) by omega]
      exact this)]
theorem pc_sg_get {μ : px_Mem} {a1 a2 a3 a4 : Nat} : ∀ {n : Nat} {f : Int} {k : Nat}, k < n → (pc_sg μ a1 a2 a3 a4 f n)[k]? = some (μ a1 (f + k), μ a2 (f + k), μ a3 (f + k), μ a4 (f + k))
  | n + 1, f, 0, h => by simp [pc_sg]
  | n + 1, f, k + 1, h => by
    unfold pc_sg
    rw [List.getElem?_cons_succ, pc_sg_get (n := n) (f := f + 1) (k := k) (by omega)]
    rw [show f + 1 + (k : Int) = f + ((k + 1 : Nat) : Int) by omega]
theorem pc_sg_hl {μ : px_Mem} {h : Nat} {f : Nat} {n : Nat} (hn : f + n ≤ (μ h 4).toNat) : ((pc_hl μ h).drop f).take n = pc_sg μ (h + 1) (h + 2) (h + 3) (h + 4) f n := by
  apply List.ext_getElem?
  intro k
  rw [List.getElem?_take, List.getElem?_drop]
  by_cases c : k < n
  · rw [if_pos c, pc_sg_get c, pc_hl_get, if_pos (by omega), Int.natCast_add]
  · rw [if_neg c, List.getElem?_eq_none (by rw [pc_sg_len]; omega)]
end
section
/-! ===== the other steps of a pull ===== -/
def pc_room : Int → List pc_Ch → Prop
  | _, [] => True
  | n, c :: B => n + (if c.2.1 = 0 then 1 else -1) ≤ 24 ∧ pc_room (n + (if c.2.1 = 0 then 1 else -1)) B
set_option maxHeartbeats 4000000 in
set_option maxRecDepth 100000 in
theorem c_X6_hasRoom {G : px_G} {l : Int} {f n : Nat} {μ : px_Mem} {Q : Option px_X → px_Mem → Prop} (hf : μ 188 3 = f) (hc : μ 188 4 = n) (hfn : f + n ≤ 16) (ho : 0 ≤ μ 189 4 ∧ μ 189 4 ≤ 16) (hl : 0 ≤ l ∧ l ≤ 28) (hs : ∀ i : Int, f ≤ i → i < f + n → μ 196 i = 0 ∨ μ 196 i = 1)
    (h1 : μ 189 4 + n ≤ 16 → pc_room l (pc_sg μ 195 196 197 198 f n) → Q (some (.inl 1)) μ) (h0 : ¬ (μ 189 4 + n ≤ 16 ∧ pc_room l (pc_sg μ 195 196 197 198 f n)) → Q (some (.inl 0)) μ) : px_C G yX6_hasRoom cX6_hasRoom 4 (some .boolean) 0 [.inr (.inl (some 188)), .inl l] μ Q := by
  obtain ⟨k188, k189, k194, k199⟩ := pc_kp
  obtain ⟨hk, hkl⟩ := pc_hk k194
  have loop : μ 189 4 + n ≤ 16 → ∀ (m : Nat) (i z : Int), f ≤ i → i + m = f + n → f - i ≤ z ∧ z ≤ 28 + (i - f) → (pc_room z (pc_sg μ 195 196 197 198 i m) ↔ pc_room l (pc_sg μ 195 196 197 198 f n)) →
      px_J G RX6 cX6_hasRoom 4 (some .boolean) 0 26 [some (.inr (.inl (some 188))), some (.inl l), some (.inl z), some (.inl i)] [] μ Q := by
    intro hsz m
    induction m with
    | zero =>
      intro i z h2 h3 h4 h5
      refine px_go (fun p => p == 26) 400 ?_
      simp (disch := omega) only [px_lits, false_implies, true_implies, px_dec_ok, px_run_s, px_rules, px_rule_is, px_mats, px_calls, ↓reduceIte, eq_self, Bool.false_eq_true, px_flds, px_o_some, px_fvs, px_pfs, px_cts, px_cls, px_acs_, px_acn, true_and, and_true, true_or, or_true, false_or, or_false, and_self, not_true_eq_false, not_false_eq_true, Classical.not_not, Nat.reduceAdd, Nat.reduceSub, Nat.reduceBEq, Nat.reduceLT, Nat.reduceLeDiff, Nat.lt_add_one, px_tg, Int.cast_ofNat_Int, Int.reduceAdd, Int.reduceSub, Int.reduceMul, Int.reduceToNat, Int.reduceLE, Int.reduceLT, Int.reduceNeg, Int.reduceEq, Bool.or_false, Bool.false_or, Bool.or_true, Bool.true_or, List.length_cons, List.length_nil, List.nil_append, List.cons_append, Option.toList_some, Option.toList_none, reduceCtorEq, Option.some.injEq, Nat.zero_le, Nat.reduceMul, Nat.mul_zero, Nat.add_zero, Int.reduceDiv, Int.reduceMod, Int.toNat_natCast, Nat.lt_irrefl, Int.natCast_add, Int.cast_ofNat_Int, px_mds_RX6_0, dec_X6_hasRoom, px_eq_iff, px_lt_iff, px_le_iff, px_up_o, px_up_eq, px_up_ne, px_cp_o, k188, k189, k194, hf, hc]
      exact ⟨fun _ => h1 hsz (h5.mp trivial), fun q => absurd (by omega) q⟩
    | succ m ih =>
      intro i z h2 h3 h4 h5
      have hsi := hs i h2 (by omega)
      have hst : pc_room z (pc_sg μ 195 196 197 198 i (m + 1)) ↔ (z + (if μ 196 i = 0 then 1 else -1) ≤ 24 ∧ pc_room (z + (if μ 196 i = 0 then 1 else -1)) (pc_sg μ 195 196 197 198 (i + 1) m)) := Iff.rfl
      rw [hst] at h5
      rcases hsi with e | e
      · rw [e, if_pos rfl] at h5
        refine px_go (fun p => p == 26) 400 ?_
        simp (disch := omega) only [px_lits, false_implies, true_implies, px_dec_ok, px_run_s, px_rules, px_rule_is, px_mats, px_calls, ↓reduceIte, eq_self, Bool.false_eq_true, px_flds, px_o_some, px_fvs, px_pfs, px_cts, px_cls, px_acs_, px_acn, true_and, and_true, true_or, or_true, false_or, or_false, and_self, not_true_eq_false, not_false_eq_true, Classical.not_not, Nat.reduceAdd, Nat.reduceSub, Nat.reduceBEq, Nat.reduceLT, Nat.reduceLeDiff, Nat.lt_add_one, px_tg, Int.cast_ofNat_Int, Int.reduceAdd, Int.reduceSub, Int.reduceMul, Int.reduceToNat, Int.reduceLE, Int.reduceLT, Int.reduceNeg, Int.reduceEq, Bool.or_false, Bool.false_or, Bool.or_true, Bool.true_or, List.length_cons, List.length_nil, List.nil_append, List.cons_append, Option.toList_some, Option.toList_none, reduceCtorEq, Option.some.injEq, Nat.zero_le, Nat.reduceMul, Nat.mul_zero, Nat.add_zero, Int.reduceDiv, Int.reduceMod, Int.toNat_natCast, Nat.lt_irrefl, Int.natCast_add, Int.cast_ofNat_Int, px_mds_RX6_0, dec_X6_hasRoom, px_eq_iff, px_lt_iff, px_le_iff, px_up_o, px_up_eq, px_up_ne, px_cp_o, k188, k189, k194, hf, hc, hk, hkl, e]
        refine ⟨fun q => by omega, fun _ => ⟨by omega, fun q => ?_, fun q => h0 (fun r => q (h5.mpr r.2).1)⟩⟩
        exact ih (i + 1) (z + 1) (by omega) (by omega) (by omega) ⟨fun r => h5.mp ⟨q, r⟩, fun r => (h5.mpr r).2⟩
      · rw [e, if_neg (by decide)] at h5
        refine px_go (fun p => p == 26) 400 ?_
        simp (disch := omega) only [px_lits, false_implies, true_implies, px_dec_ok, px_run_s, px_rules, px_rule_is, px_mats, px_calls, ↓reduceIte, eq_self, Bool.false_eq_true, px_flds, px_o_some, px_fvs, px_pfs, px_cts, px_cls, px_acs_, px_acn, true_and, and_true, true_or, or_true, false_or, or_false, and_self, not_true_eq_false, not_false_eq_true, Classical.not_not, Nat.reduceAdd, Nat.reduceSub, Nat.reduceBEq, Nat.reduceLT, Nat.reduceLeDiff, Nat.lt_add_one, px_tg, Int.cast_ofNat_Int, Int.reduceAdd, Int.reduceSub, Int.reduceMul, Int.reduceToNat, Int.reduceLE, Int.reduceLT, Int.reduceNeg, Int.reduceEq, Bool.or_false, Bool.false_or, Bool.or_true, Bool.true_or, List.length_cons, List.length_nil, List.nil_append, List.cons_append, Option.toList_some, Option.toList_none, reduceCtorEq, Option.some.injEq, Nat.zero_le, Nat.reduceMul, Nat.mul_zero, Nat.add_zero, Int.reduceDiv, Int.reduceMod, Int.toNat_natCast, Nat.lt_irrefl, Int.natCast_add, Int.cast_ofNat_Int, px_mds_RX6_0, dec_X6_hasRoom, px_eq_iff, px_lt_iff, px_le_iff, px_up_o, px_up_eq, px_up_ne, px_cp_o, k188, k189, k194, hf, hc, hk, hkl, e]
        refine ⟨fun q => by omega, fun _ => ⟨by omega, fun q => ?_, fun q => h0 (fun r => q (h5.mpr r.2).1)⟩⟩
        exact ih (i + 1) (z + -1) (by omega) (by omega) (by omega) ⟨fun r => h5.mp ⟨q, r⟩, fun r => (h5.mpr r).2⟩
  refine px_enter RX6 (by decide +kernel) rfl (by simp) (by simp [px_c1]) ?_
  simp only [List.map_cons, List.map_nil, List.length_cons, List.length_nil, List.replicate, List.append_nil, Nat.reduceAdd, Nat.reduceSub, List.cons_append, List.nil_append]
  refine px_go (fun p => p == 26) 400 ?_
  simp (disch := omega) only [px_lits, false_implies, true_implies, px_dec_ok, px_run_s, px_rules, px_rule_is, px_mats, px_calls, ↓reduceIte, eq_self, Bool.false_eq_true, px_flds, px_o_some, px_fvs, px_pfs, px_cts, px_cls, px_acs_, px_acn, true_and, and_true, true_or, or_true, false_or, or_false, and_self, not_true_eq_false, not_false_eq_true, Classical.not_not, Nat.reduceAdd, Nat.reduceSub, Nat.reduceBEq, Nat.reduceLT, Nat.reduceLeDiff, Nat.lt_add_one, px_tg, Int.cast_ofNat_Int, Int.reduceAdd, Int.reduceSub, Int.reduceMul, Int.reduceToNat, Int.reduceLE, Int.reduceLT, Int.reduceNeg, Int.reduceEq, Bool.or_false, Bool.false_or, Bool.or_true, Bool.true_or, List.length_cons, List.length_nil, List.nil_append, List.cons_append, Option.toList_some, Option.toList_none, reduceCtorEq, Option.some.injEq, Nat.zero_le, Nat.reduceMul, Nat.mul_zero, Nat.add_zero, Int.reduceDiv, Int.reduceMod, Int.toNat_natCast, Nat.lt_irrefl, Int.natCast_add, Int.cast_ofNat_Int, px_mds_RX6_0, dec_X6_hasRoom, px_eq_iff, px_lt_iff, px_le_iff, px_up_o, px_up_eq, px_up_ne, px_cp_o, k188, k189, k194, hf, hc]
  exact ⟨fun q => loop q n f l (by omega) (by omega) (by omega) Iff.rfl, fun q => h0 (fun r => q r.1)⟩
set_option maxHeartbeats 4000000 in
set_option maxRecDepth 100000 in
theorem c_X6_goPast {G : px_G} {f n no : Nat} {μ : px_Mem} {Q : Option px_X → px_Mem → Prop} (hf : μ 188 3 = f) (hc : μ 188 4 = n) (hfn : f + n ≤ 16) (ho : μ 189 4 = f + no) (hon : f + no ≤ 16) (hB : pc_bd 27 (pc_sg μ 195 196 197 198 f n)) (hO : pc_bd 27 (pc_sg μ 190 191 192 193 f no))
    (h0 : ∀ (z : Int) (μ1 : px_Mem), pc_gp (pc_sg μ 195 196 197 198 f n) (pc_sg μ 190 191 192 193 f no) = .inl z → (∀ o, o ≠ 197 → o ≠ 199 → μ1 o = μ o) → Q (some (.inl z)) μ1)
    (h1 : ∀ (B1 : List pc_Ch) (μ1 : px_Mem), pc_gp (pc_sg μ 195 196 197 198 f n) (pc_sg μ 190 191 192 193 f no) = .inr B1 → (∀ o, o ≠ 197 → o ≠ 199 → μ1 o = μ o) → pc_sg μ1 195 196 197 198 f n = B1 → Q (some (.inl (-1))) μ1) : px_C G yX6_goPast cX6_goPast 4 (some .int) 1 [.inr (.inl (some 188))] μ Q := by
  obtain ⟨k188, k189, k194, k199⟩ := pc_kp
  obtain ⟨tk, tl⟩ := pc_hk k194
  obtain ⟨ok, ol⟩ := pc_hk k189
  have inner : ∀ (k : Nat) (o c : Int) (μ1 : px_Mem) (x3 : Option px_X) (P : Int → px_Mem → Prop), f ≤ o → o + k = f + no → f ≤ c → c < f + n → (∀ q, q ≠ 197 → q ≠ 199 → μ1 q = μ q) → (0 ≤ μ1 197 c ∧ μ1 197 c + k ≤ 60) → (μ 196 c = 0 ∨ μ 196 c = 1) → pc_bd 60 (pc_sg μ1 190 191 199 193 o k) →
      (∀ (z : Int) (μ2 : px_Mem), pc_gp1 (μ1 195 c, μ1 196 c, μ1 197 c, μ1 198 c) (pc_sg μ1 190 191 199 193 o k) = .inl z → (∀ q, q ≠ 197 → q ≠ 199 → μ2 q = μ q) → Q (some (.inl z)) μ2) →
      (∀ (b1 : pc_Ch) (O1 : List pc_Ch) (μ2 : px_Mem) (o2 : Int) (x3 : Option px_X), pc_gp1 (μ1 195 c, μ1 196 c, μ1 197 c, μ1 198 c) (pc_sg μ1 190 191 199 193 o k) = .inr (b1, O1) → (∀ q, q ≠ 197 → q ≠ 199 → μ2 q = μ q) → (∀ i, i ≠ c → μ2 197 i = μ1 197 i) → μ2 197 c = b1.2.2.1 → (∀ i, i < o → μ2 199 i = μ1 199 i) → pc_sg μ2 190 191 199 193 o k = O1 →
        px_J G RX6 cX6_goPast 4 (some .int) 1 141 [some (.inr (.inl (some 188))), some (.inl c), some (.inl o2), x3] [] μ2 Q) →
      px_J G RX6 cX6_goPast 4 (some .int) 1 46 [some (.inr (.inl (some 188))), some (.inl c), some (.inl o), x3] [] μ1 Q := by
    intro k
    induction k with
    | zero =>
      intro o c μ1 x3 P h2 h3 h4 h5 h6 h7 h8 h9 hz hs
      have g189 : μ1 189 = μ 189 := h6 _ (by omega) (by omega)
      refine px_go (fun p => p == 46 || p == 141) 400 ?_
      simp (disch := omega) only [px_lits, false_implies, true_implies, px_dec_ok, px_run_s, px_rules, px_rule_is, px_mats, px_calls, ↓reduceIte, eq_self, Bool.false_eq_true, px_flds, px_o_some, px_fvs, px_pfs, px_cts, px_cls, px_acs_, px_acn, true_and, and_true, true_or, or_true, false_or, or_false, and_self, not_true_eq_false, not_false_eq_true, Classical.not_not, Nat.reduceAdd, Nat.reduceSub, Nat.reduceBEq, Nat.reduceLT, Nat.reduceLeDiff, Nat.lt_add_one, px_tg, Int.cast_ofNat_Int, Int.reduceAdd, Int.reduceSub, Int.reduceMul, Int.reduceToNat, Int.reduceLE, Int.reduceLT, Int.reduceNeg, Int.reduceEq, Bool.or_false, Bool.false_or, Bool.or_true, Bool.true_or, List.length_cons, List.length_nil, List.nil_append, List.cons_append, Option.toList_some, Option.toList_none, reduceCtorEq, Option.some.injEq, Nat.zero_le, Nat.reduceMul, Nat.mul_zero, Nat.add_zero, Int.reduceDiv, Int.reduceMod, Int.toNat_natCast, Nat.lt_irrefl, Int.natCast_add, Int.cast_ofNat_Int, px_mds_RX6_0, dec_X6_goPast, px_eq_iff, px_lt_iff, px_le_iff, px_up_o, px_up_eq, px_up_ne, px_cp_o, k188, k189, k194, k199, pc_lp, g189, ho]
      refine ⟨fun _ => hs _ _ μ1 o x3 rfl h6 (fun _ _ => rfl) rfl (fun _ _ => rfl) rfl, fun q => absurd (by omega) q⟩
    | succ k ih =>
      intro o c μ1 x3 P h2 h3 h4 h5 h6 h7 h8 h9 hz hs
      have g189 : μ1 189 = μ 189 := h6 _ (by omega) (by omega)
      have g196 : μ1 196 = μ 196 := h6 _ (by omega) (by omega)
      have hob := h9 (μ1 190 o, μ1 191 o, μ1 199 o, μ1 193 o) List.mem_cons_self
      dsimp only at hob
      refine px_go (fun p => p == 46 || p == 141) 400 ?_
      simp (disch := omega) only [px_lits, false_implies, true_implies, px_dec_ok, px_run_s, px_rules, px_rule_is, px_mats, px_calls, ↓reduceIte, eq_self, Bool.false_eq_true, px_flds, px_o_some, px_fvs, px_pfs, px_cts, px_cls, px_acs_, px_acn, true_and, and_true, true_or, or_true, false_or, or_false, and_self, not_true_eq_false, not_false_eq_true, Classical.not_not, Nat.reduceAdd, Nat.reduceSub, Nat.reduceBEq, Nat.reduceLT, Nat.reduceLeDiff, Nat.lt_add_one, px_tg, Int.cast_ofNat_Int, Int.reduceAdd, Int.reduceSub, Int.reduceMul, Int.reduceToNat, Int.reduceLE, Int.reduceLT, Int.reduceNeg, Int.reduceEq, Bool.or_false, Bool.false_or, Bool.or_true, Bool.true_or, List.length_cons, List.length_nil, List.nil_append, List.cons_append, Option.toList_some, Option.toList_none, reduceCtorEq, Option.some.injEq, Nat.zero_le, Nat.reduceMul, Nat.mul_zero, Nat.add_zero, Int.reduceDiv, Int.reduceMod, Int.toNat_natCast, Nat.lt_irrefl, Int.natCast_add, Int.cast_ofNat_Int, px_mds_RX6_0, dec_X6_goPast, px_eq_iff, px_lt_iff, px_le_iff, px_up_o, px_up_eq, px_up_ne, px_cp_o, k188, k189, k194, k199, pc_lp, g189, ho, ok, ol, tk, tl]
      refine ⟨fun q => by omega, fun _ => ⟨by omega, ?_⟩⟩
      refine c_X10_opposite hob.2.1 ?_
      refine px_go (fun p => p == 46 || p == 141) 400 ?_
      simp (disch := omega) only [px_lits, false_implies, true_implies, px_dec_ok, px_run_s, px_rules, px_rule_is, px_mats, px_calls, ↓reduceIte, eq_self, Bool.false_eq_true, px_flds, px_o_some, px_fvs, px_pfs, px_cts, px_cls, px_acs_, px_acn, true_and, and_true, true_or, or_true, false_or, or_false, and_self, not_true_eq_false, not_false_eq_true, Classical.not_not, Nat.reduceAdd, Nat.reduceSub, Nat.reduceBEq, Nat.reduceLT, Nat.reduceLeDiff, Nat.lt_add_one, px_tg, Int.cast_ofNat_Int, Int.reduceAdd, Int.reduceSub, Int.reduceMul, Int.reduceToNat, Int.reduceLE, Int.reduceLT, Int.reduceNeg, Int.reduceEq, Bool.or_false, Bool.false_or, Bool.or_true, Bool.true_or, List.length_cons, List.length_nil, List.nil_append, List.cons_append, Option.toList_some, Option.toList_none, reduceCtorEq, Option.some.injEq, Nat.zero_le, Nat.reduceMul, Nat.mul_zero, Nat.add_zero, Int.reduceDiv, Int.reduceMod, Int.toNat_natCast, Nat.lt_irrefl, Int.natCast_add, Int.cast_ofNat_Int, px_mds_RX6_0, dec_X6_goPast, px_eq_iff, px_lt_iff, px_le_iff, px_up_o, px_up_eq, px_up_ne, px_cp_o, k188, k189, k194, k199, pc_lp, g189, ho, ok, ol, tk, tl]
      repeat refine ⟨by omega, ?_⟩
      refine c_X10_turned (by omega) (by rw [g196]; exact h8) (by omega) (by omega) ?_
      have st : pc_gp1 (μ1 195 c, μ1 196 c, μ1 197 c, μ1 198 c) (pc_sg μ1 190 191 199 193 o (k + 1)) = (match pc_tr (1 - μ1 191 o) (μ1 199 o) (μ1 196 c) (μ1 197 c) with
        | none => .inl (μ1 190 o)
        | some q => match pc_gp1 (μ1 195 c, μ1 196 c, q.1, μ1 198 c) (pc_sg μ1 190 191 199 193 (o + 1) k) with
          | .inl n => .inl n
          | .inr r => .inr (r.1, (μ1 190 o, μ1 191 o, q.2, μ1 193 o) :: r.2)) := rfl
      cases htr : pc_tr (1 - μ1 191 o) (μ1 199 o) (μ1 196 c) (μ1 197 c) with
      | none =>
        rw [htr] at st
        rw [pc_trz_none htr]
        refine px_go (fun p => p == 46 || p == 141) 400 ?_
        simp (disch := omega) only [px_lits, false_implies, true_implies, px_dec_ok, px_run_s, px_rules, px_rule_is, px_mats, px_calls, ↓reduceIte, eq_self, Bool.false_eq_true, px_flds, px_o_some, px_fvs, px_pfs, px_cts, px_cls, px_acs_, px_acn, true_and, and_true, true_or, or_true, false_or, or_false, and_self, not_true_eq_false, not_false_eq_true, Classical.not_not, Nat.reduceAdd, Nat.reduceSub, Nat.reduceBEq, Nat.reduceLT, Nat.reduceLeDiff, Nat.lt_add_one, px_tg, Int.cast_ofNat_Int, Int.reduceAdd, Int.reduceSub, Int.reduceMul, Int.reduceToNat, Int.reduceLE, Int.reduceLT, Int.reduceNeg, Int.reduceEq, Bool.or_false, Bool.false_or, Bool.or_true, Bool.true_or, List.length_cons, List.length_nil, List.nil_append, List.cons_append, Option.toList_some, Option.toList_none, reduceCtorEq, Option.some.injEq, Nat.zero_le, Nat.reduceMul, Nat.mul_zero, Nat.add_zero, Int.reduceDiv, Int.reduceMod, Int.toNat_natCast, Nat.lt_irrefl, Int.natCast_add, Int.cast_ofNat_Int, px_mds_RX6_0, dec_X6_goPast, px_eq_iff, px_lt_iff, px_le_iff, px_up_o, px_up_eq, px_up_ne, px_cp_o, k188, k189, k194, k199, pc_lp, g189, ho, ok, ol, tk, tl]
        refine ⟨by omega, hz _ μ1 st h6⟩
      | some km =>
        obtain ⟨kk, mm⟩ := km
        have hb9 := pc_tr_bd htr hob.2.2.1 h7.1
        rw [htr] at st
        dsimp only at st
        rw [pc_trz_some htr]
        have d1 : (100 * kk + mm) / 100 = kk := by omega
        have d2 : (100 * kk + mm) % 100 = mm := by omega
        refine px_go (fun p => p == 46 || p == 141) 400 ?_
        simp (disch := omega) only [px_lits, false_implies, true_implies, px_dec_ok, px_run_s, px_rules, px_rule_is, px_mats, px_calls, ↓reduceIte, eq_self, Bool.false_eq_true, px_flds, px_o_some, px_fvs, px_pfs, px_cts, px_cls, px_acs_, px_acn, true_and, and_true, true_or, or_true, false_or, or_false, and_self, not_true_eq_false, not_false_eq_true, Classical.not_not, Nat.reduceAdd, Nat.reduceSub, Nat.reduceBEq, Nat.reduceLT, Nat.reduceLeDiff, Nat.lt_add_one, px_tg, Int.cast_ofNat_Int, Int.reduceAdd, Int.reduceSub, Int.reduceMul, Int.reduceToNat, Int.reduceLE, Int.reduceLT, Int.reduceNeg, Int.reduceEq, Bool.or_false, Bool.false_or, Bool.or_true, Bool.true_or, List.length_cons, List.length_nil, List.nil_append, List.cons_append, Option.toList_some, Option.toList_none, reduceCtorEq, Option.some.injEq, Nat.zero_le, Nat.reduceMul, Nat.mul_zero, Nat.add_zero, Int.reduceDiv, Int.reduceMod, Int.toNat_natCast, Nat.lt_irrefl, Int.natCast_add, Int.cast_ofNat_Int, px_mds_RX6_0, dec_X6_goPast, px_eq_iff, px_lt_iff, px_le_iff, px_up_o, px_up_eq, px_up_ne, px_cp_o, k188, k189, k194, k199, pc_lp, g189, ho, ok, ol, tk, tl, d1, d2]
        refine ⟨fun _ => ?_, fun q => by omega⟩
        repeat refine ⟨by omega, ?_⟩
        have eq : ∀ q, q ≠ 197 → q ≠ 199 → px_up (px_up μ1 197 c kk) 199 o mm q = μ q := fun q q1 q2 => by
          simp (disch := omega) only [px_up_o]
          exact h6 q q1 q2
        have esg : pc_sg (px_up (px_up μ1 197 c kk) 199 o mm) 190 191 199 193 (o + 1) k = pc_sg μ1 190 191 199 193 (o + 1) k := by
          refine pc_sg_congr (fun i i0 i1 => ?_)
          simp (disch := omega) only [px_up_o, px_up_ne, and_self]
        have eb : (px_up (px_up μ1 197 c kk) 199 o mm 195 c, px_up (px_up μ1 197 c kk) 199 o mm 196 c, px_up (px_up μ1 197 c kk) 199 o mm 197 c, px_up (px_up μ1 197 c kk) 199 o mm 198 c) = (μ1 195 c, μ1 196 c, kk, μ1 198 c) := by
          simp (disch := omega) only [px_up_o, px_up_eq]
        refine ih (o + 1) c _ _ P (by omega) (by omega) h4 h5 eq (by simp (disch := omega) only [px_up_o, px_up_eq]; omega) h8 (by rw [esg]; exact fun x hx => h9 x (List.mem_cons_of_mem _ hx)) (fun z μ2 e1 e2 => ?_) (fun b1 O1 μ2 o2 x3 e1 e2 e3 e4 e5 e6 => ?_)
        · rw [esg, eb] at e1
          rw [e1] at st
          exact hz z μ2 st e2
        · rw [esg, eb] at e1
          rw [e1] at st
          refine hs b1 _ μ2 o2 x3 st e2 (fun i hi => ?_) e4 (fun i hi => ?_) ?_
          · rw [e3 i hi]
            simp (disch := omega) only [px_up_o, px_up_ne]
          · rw [e5 i (by omega)]
            simp (disch := omega) only [px_up_ne, px_up_o]
          · show (μ2 190 o, μ2 191 o, μ2 199 o, μ2 193 o) :: pc_sg μ2 190 191 199 193 (o + 1) k = _
            rw [e6, e5 o (by omega), e2 190 (by omega) (by omega), e2 191 (by omega) (by omega), e2 193 (by omega) (by omega)]
            simp (disch := omega) only [px_up_eq]
            rw [h6 190 (by omega) (by omega), h6 191 (by omega) (by omega), h6 193 (by omega) (by omega)]
  have outer : ∀ (m : Nat) (c : Int) (μ1 : px_Mem) (x2 x3 : Option px_X), f ≤ c → c + m = f + n → (∀ q, q ≠ 197 → q ≠ 199 → μ1 q = μ q) → (∀ i, c ≤ i → μ1 197 i = μ 197 i) → pc_bd (27 + (c - f)) (pc_sg μ1 190 191 199 193 f no) →
      (∀ (z : Int) (μ2 : px_Mem), pc_gp (pc_sg μ1 195 196 197 198 c m) (pc_sg μ1 190 191 199 193 f no) = .inl z → (∀ q, q ≠ 197 → q ≠ 199 → μ2 q = μ q) → Q (some (.inl z)) μ2) →
      (∀ (B1 : List pc_Ch) (μ2 : px_Mem), pc_gp (pc_sg μ1 195 196 197 198 c m) (pc_sg μ1 190 191 199 193 f no) = .inr B1 → (∀ q, q ≠ 197 → q ≠ 199 → μ2 q = μ q) → (∀ i, i < c → μ2 197 i = μ1 197 i) → pc_sg μ2 195 196 197 198 c m = B1 → Q (some (.inl (-1))) μ2) →
      px_J G RX6 cX6_goPast 4 (some .int) 1 28 [some (.inr (.inl (some 188))), some (.inl c), x2, x3] [] μ1 Q := by
    intro m
    induction m with
    | zero =>
      intro c μ1 x2 x3 h2 h3 h4 h5 h6 hz hs
      have g188 : μ1 188 = μ 188 := h4 _ (by omega) (by omega)
      refine px_go (fun p => p == 46 || p == 28) 400 ?_
      simp (disch := omega) only [px_lits, false_implies, true_implies, px_dec_ok, px_run_s, px_rules, px_rule_is, px_mats, px_calls, ↓reduceIte, eq_self, Bool.false_eq_true, px_flds, px_o_some, px_fvs, px_pfs, px_cts, px_cls, px_acs_, px_acn, true_and, and_true, true_or, or_true, false_or, or_false, and_self, not_true_eq_false, not_false_eq_true, Classical.not_not, Nat.reduceAdd, Nat.reduceSub, Nat.reduceBEq, Nat.reduceLT, Nat.reduceLeDiff, Nat.lt_add_one, px_tg, Int.cast_ofNat_Int, Int.reduceAdd, Int.reduceSub, Int.reduceMul, Int.reduceToNat, Int.reduceLE, Int.reduceLT, Int.reduceNeg, Int.reduceEq, Bool.or_false, Bool.false_or, Bool.or_true, Bool.true_or, List.length_cons, List.length_nil, List.nil_append, List.cons_append, Option.toList_some, Option.toList_none, reduceCtorEq, Option.some.injEq, Nat.zero_le, Nat.reduceMul, Nat.mul_zero, Nat.add_zero, Int.reduceDiv, Int.reduceMod, Int.toNat_natCast, Nat.lt_irrefl, Int.natCast_add, Int.cast_ofNat_Int, px_mds_RX6_0, dec_X6_goPast, px_eq_iff, px_lt_iff, px_le_iff, px_up_o, px_up_eq, px_up_ne, px_cp_o, k188, k189, k194, k199, pc_lp, g188, hf, hc]
      exact ⟨fun _ => hs [] μ1 rfl h4 (fun _ _ => rfl) rfl, fun q => absurd (by omega) q⟩
    | succ m ih =>
      intro c μ1 x2 x3 h2 h3 h4 h5 h6 hz hs
      have g188 : μ1 188 = μ 188 := h4 _ (by omega) (by omega)
      have hbc := hB (μ 195 c, μ 196 c, μ 197 c, μ 198 c) (by
        have := pc_sg_get (μ := μ) (a1 := 195) (a2 := 196) (a3 := 197) (a4 := 198) (n := n) (f := f) (k := (c - f).toNat) (by omega)
        rw [show (f : Int) + ((c - f).toNat : Int) = c by omega] at this
        exact List.mem_of_getElem? this)
      dsimp only at hbc
      refine px_go (fun p => p == 46 || p == 28) 400 ?_
      simp (disch := omega) only [px_lits, false_implies, true_implies, px_dec_ok, px_run_s, px_rules, px_rule_is, px_mats, px_calls, ↓reduceIte, eq_self, Bool.false_eq_true, px_flds, px_o_some, px_fvs, px_pfs, px_cts, px_cls, px_acs_, px_acn, true_and, and_true, true_or, or_true, false_or, or_false, and_self, not_true_eq_false, not_false_eq_true, Classical.not_not, Nat.reduceAdd, Nat.reduceSub, Nat.reduceBEq, Nat.reduceLT, Nat.reduceLeDiff, Nat.lt_add_one, px_tg, Int.cast_ofNat_Int, Int.reduceAdd, Int.reduceSub, Int.reduceMul, Int.reduceToNat, Int.reduceLE, Int.reduceLT, Int.reduceNeg, Int.reduceEq, Bool.or_false, Bool.false_or, Bool.or_true, Bool.true_or, List.length_cons, List.length_nil, List.nil_append, List.cons_append, Option.toList_some, Option.toList_none, reduceCtorEq, Option.some.injEq, Nat.zero_le, Nat.reduceMul, Nat.mul_zero, Nat.add_zero, Int.reduceDiv, Int.reduceMod, Int.toNat_natCast, Nat.lt_irrefl, Int.natCast_add, Int.cast_ofNat_Int, px_mds_RX6_0, dec_X6_goPast, px_eq_iff, px_lt_iff, px_le_iff, px_up_o, px_up_eq, px_up_ne, px_cp_o, k188, k189, k194, k199, pc_lp, g188, hf, hc]
      refine ⟨fun q => by omega, fun _ => ?_⟩
      have e7 := h5 c (by omega)
      have st : pc_gp (pc_sg μ1 195 196 197 198 c (m + 1)) (pc_sg μ1 190 191 199 193 f no) = (match pc_gp1 (μ1 195 c, μ1 196 c, μ1 197 c, μ1 198 c) (pc_sg μ1 190 191 199 193 f no) with
        | .inl n => .inl n
        | .inr r => match pc_gp (pc_sg μ1 195 196 197 198 (c + 1) m) r.2 with
          | .inl n => .inl n
          | .inr B1 => .inr (r.1 :: B1)) := rfl
      refine inner no f c μ1 x3 (fun _ _ => True) (by omega) (by omega) h2 (by omega) h4 (by rw [e7]; omega) hbc.2.1 (fun x hx => by
        have := h6 x hx
        exact ⟨this.1, this.2.1, by omega⟩) (fun z μ2 e1 e2 => ?_) (fun b1 O1 μ2 o2 y3 e1 e2 e3 e4 e5 e6 => ?_)
      · rw [e1] at st
        exact hz z μ2 st e2
      · rw [e1] at st
        dsimp only at st
        obtain ⟨r1, r2, r3, r4, r5, r6, r7⟩ := pc_gp1_bd (K := 27 + (c - f)) h6 (by dsimp only; rw [e7]; omega) e1
        dsimp only at r2 r3 r4
        have esg : pc_sg μ2 195 196 197 198 (c + 1) m = pc_sg μ1 195 196 197 198 (c + 1) m := by
          refine pc_sg_congr (fun i i0 i1 => ?_)
          rw [e2 195 (by omega) (by omega), e2 196 (by omega) (by omega), e2 198 (by omega) (by omega), h4 195 (by omega) (by omega), h4 196 (by omega) (by omega), h4 198 (by omega) (by omega), e3 _ (by omega)]
          exact ⟨rfl, rfl, rfl, rfl⟩
        refine px_go (fun p => p == 46 || p == 28) 400 ?_
        simp (disch := omega) only [px_lits, false_implies, true_implies, px_dec_ok, px_run_s, px_rules, px_rule_is, px_mats, px_calls, ↓reduceIte, eq_self, Bool.false_eq_true, px_flds, px_o_some, px_fvs, px_pfs, px_cts, px_cls, px_acs_, px_acn, true_and, and_true, true_or, or_true, false_or, or_false, and_self, not_true_eq_false, not_false_eq_true, Classical.not_not, Nat.reduceAdd, Nat.reduceSub, Nat.reduceBEq, Nat.reduceLT, Nat.reduceLeDiff, Nat.lt_add_one, px_tg, Int.cast_ofNat_Int, Int.reduceAdd, Int.reduceSub, Int.reduceMul, Int.reduceToNat, Int.reduceLE, Int.reduceLT, Int.reduceNeg, Int.reduceEq, Bool.or_false, Bool.false_or, Bool.or_true, Bool.true_or, List.length_cons, List.length_nil, List.nil_append, List.cons_append, Option.toList_some, Option.toList_none, reduceCtorEq, Option.some.injEq, Nat.zero_le, Nat.reduceMul, Nat.mul_zero, Nat.add_zero, Int.reduceDiv, Int.reduceMod, Int.toNat_natCast, Nat.lt_irrefl, Int.natCast_add, Int.cast_ofNat_Int, px_mds_RX6_0, dec_X6_goPast, px_eq_iff, px_lt_iff, px_le_iff, px_up_o, px_up_eq, px_up_ne, px_cp_o, k188, k189, k194, k199, pc_lp, hf, hc]
        refine ih (c + 1) μ2 _ _ (by omega) (by omega) e2 (fun i hi => ?_) (by rw [e6]; rw [show 27 + (c + 1 - (f : Int)) = 27 + (c - f) + 1 by omega]; exact r1) (fun z μ3 q1 q2 => ?_) (fun B1 μ3 q1 q2 q3 q4 => ?_)
        · rw [e3 i (by omega), h5 i (by omega)]
        · rw [esg, e6] at q1
          rw [q1] at st
          exact hz z μ3 st q2
        · rw [esg, e6] at q1
          rw [q1] at st
          refine hs _ μ3 st q2 (fun i hi => by rw [q3 i (by omega), e3 i (by omega)]) ?_
          show (μ3 195 c, μ3 196 c, μ3 197 c, μ3 198 c) :: pc_sg μ3 195 196 197 198 (c + 1) m = _
          rw [q4, q2 195 (by omega) (by omega), q2 196 (by omega) (by omega), q2 198 (by omega) (by omega), q3 c (by omega), e4, ← h4 195 (by omega) (by omega), ← h4 196 (by omega) (by omega), ← h4 198 (by omega) (by omega), ← r2, ← r3, ← r4]
  refine px_enter RX6 (by decide +kernel) rfl (by simp) (by simp [px_c1]) ?_
  simp only [List.map_cons, List.map_nil, List.length_cons, List.length_nil, List.replicate, List.append_nil, Nat.reduceAdd, Nat.reduceSub, List.cons_append, List.nil_append]
  refine px_go (fun p => p == 28) 400 ?_
  simp (disch := omega) only [px_lits, false_implies, true_implies, px_dec_ok, px_run_s, px_rules, px_rule_is, px_mats, px_calls, ↓reduceIte, eq_self, Bool.false_eq_true, px_flds, px_o_some, px_fvs, px_pfs, px_cts, px_cls, px_acs_, px_acn, true_and, and_true, true_or, or_true, false_or, or_false, and_self, not_true_eq_false, not_false_eq_true, Classical.not_not, Nat.reduceAdd, Nat.reduceSub, Nat.reduceBEq, Nat.reduceLT, Nat.reduceLeDiff, Nat.lt_add_one, px_tg, Int.cast_ofNat_Int, Int.reduceAdd, Int.reduceSub, Int.reduceMul, Int.reduceToNat, Int.reduceLE, Int.reduceLT, Int.reduceNeg, Int.reduceEq, Bool.or_false, Bool.false_or, Bool.or_true, Bool.true_or, List.length_cons, List.length_nil, List.nil_append, List.cons_append, Option.toList_some, Option.toList_none, reduceCtorEq, Option.some.injEq, Nat.zero_le, Nat.reduceMul, Nat.mul_zero, Nat.add_zero, Int.reduceDiv, Int.reduceMod, Int.toNat_natCast, Nat.lt_irrefl, Int.natCast_add, Int.cast_ofNat_Int, px_mds_RX6_0, dec_X6_goPast, px_eq_iff, px_lt_iff, px_le_iff, px_up_o, px_up_eq, px_up_ne, px_cp_o, k188, k189, k194, k199, pc_lp, hf, hc, ok, ol, ho]
  repeat refine ⟨by omega, ?_⟩
  have eO : pc_sg (px_cp μ 192 0 199 0 ((f : Int) + no)) 190 191 199 193 f no = pc_sg μ 190 191 192 193 f no := by
    refine pc_sg_congr (fun i i0 i1 => ?_)
    simp (disch := omega) only [px_cp_o, px_cp_in]
    rw [show (0 : Int) + ((f : Int) + i - 0) = f + i by omega]
    refine ⟨?_, ?_, ?_, ?_⟩ <;> first | trivial | rfl
  have eB : pc_sg (px_cp μ 192 0 199 0 ((f : Int) + no)) 195 196 197 198 f n = pc_sg μ 195 196 197 198 f n := by
    refine pc_sg_congr (fun i i0 i1 => ?_)
    simp (disch := omega) only [px_cp_o, and_self]
  refine outer n f _ _ _ (by omega) (by omega) (fun q q1 q2 => by simp (disch := omega) only [px_cp_o]) (fun i hi => by simp (disch := omega) only [px_cp_o]) (by rw [eO, show (27 : Int) + (f - f) = 27 by omega]; exact hO) (fun z μ2 e1 e2 => ?_) (fun B1 μ2 e1 e2 e3 e4 => ?_)
  · rw [eO, eB] at e1
    exact h0 z μ2 e1 e2
  · rw [eO, eB] at e1
    exact h1 B1 μ2 e1 e2 e4
end
section
theorem pc_do_mem {T T1 : List Int} {c : pc_Ch} (h : pc_do T c = some T1) : ∀ x ∈ T1, x ∈ T ∨ x = c.2.2.2 := by
  unfold pc_do at h
  split at h
  · split at h
    · rename_i h1
      cases h
      intro x hx
      rw [List.mem_insertIdx (by omega)] at hx
      rcases hx with hx | hx
      · exact Or.inr hx
      · exact Or.inl hx
    · cases h
  · split at h
    · cases h
      intro x hx
      exact Or.inl (List.mem_of_mem_eraseIdx hx)
    · cases h
set_option maxHeartbeats 4000000 in
set_option maxRecDepth 100000 in
theorem c_X6_fits {G : px_G} {w f n : Nat} {μ : px_Mem} {Q : Option px_X → px_Mem → Prop} (hw : px_kd w = 8) (hw2 : w < 183) (hf : μ 188 3 = f) (hc : μ 188 4 = n) (hfn : f + n ≤ 16) (hn : 0 ≤ μ w 1 ∧ μ w 1 ≤ 28) (hT : ∀ x ∈ pc_tx μ w, 97 ≤ x ∧ x ≤ 122) (hB : pc_bd 60 (pc_sg μ 195 196 197 198 f n)) (hBl : ∀ c ∈ pc_sg μ 195 196 197 198 f n, 97 ≤ c.2.2.2 ∧ c.2.2.2 ≤ 122) (hr : pc_room (μ w 1) (pc_sg μ 195 196 197 198 f n))
    (h1 : ∀ (T1 : List Int) (μ1 : px_Mem), pc_dos (pc_tx μ w) (pc_sg μ 195 196 197 198 f n) = some T1 → (∀ o, o ≠ w → o ≠ w + 1 → μ1 o = μ o) → Q (some (.inl 1)) μ1) (h0 : ∀ μ1 : px_Mem, pc_dos (pc_tx μ w) (pc_sg μ 195 196 197 198 f n) = none → (∀ o, o ≠ w → o ≠ w + 1 → μ1 o = μ o) → Q (some (.inl 0)) μ1) : px_C G yX6_fits cX6_fits 3 (some .boolean) 2 [.inr (.inl (some 188)), .inr (.inl (some w))] μ Q := by
  obtain ⟨k188, k189, k194, k199⟩ := pc_kp
  obtain ⟨tk, tl⟩ := pc_hk k194
  have loop : ∀ (m : Nat) (c : Int) (μ1 : px_Mem), f ≤ c → c + m = f + n → (∀ o, o ≠ w → o ≠ w + 1 → μ1 o = μ o) → (0 ≤ μ1 w 1 ∧ μ1 w 1 ≤ 28) → (∀ x ∈ pc_tx μ1 w, 97 ≤ x ∧ x ≤ 122) → pc_bd 60 (pc_sg μ 195 196 197 198 c m) → (∀ e ∈ pc_sg μ 195 196 197 198 c m, 97 ≤ e.2.2.2 ∧ e.2.2.2 ≤ 122) → pc_room (μ1 w 1) (pc_sg μ 195 196 197 198 c m) → pc_dos (pc_tx μ w) (pc_sg μ 195 196 197 198 f n) = pc_dos (pc_tx μ1 w) (pc_sg μ 195 196 197 198 c m) →
      px_J G RX6 cX6_fits 3 (some .boolean) 2 5 [some (.inr (.inl (some 188))), some (.inr (.inl (some w))), some (.inl c)] [] μ1 Q := by
    intro m
    induction m with
    | zero =>
      intro c μ1 h2 h3 h4 h5 h6 h7 h8 h9 h10
      have g188 : μ1 188 = μ 188 := h4 _ (by omega) (by omega)
      refine px_go (fun p => p == 5) 400 ?_
      simp (disch := omega) only [px_lits, false_implies, true_implies, px_dec_ok, px_run_s, px_rules, px_rule_is, px_mats, px_calls, ↓reduceIte, eq_self, Bool.false_eq_true, px_flds, px_o_some, px_fvs, px_pfs, px_cts, px_cls, px_acs_, px_acn, true_and, and_true, true_or, or_true, false_or, or_false, and_self, not_true_eq_false, not_false_eq_true, Classical.not_not, Nat.reduceAdd, Nat.reduceSub, Nat.reduceBEq, Nat.reduceLT, Nat.reduceLeDiff, Nat.lt_add_one, px_tg, Int.cast_ofNat_Int, Int.reduceAdd, Int.reduceSub, Int.reduceMul, Int.reduceToNat, Int.reduceLE, Int.reduceLT, Int.reduceNeg, Int.reduceEq, Bool.or_false, Bool.false_or, Bool.or_true, Bool.true_or, List.length_cons, List.length_nil, List.nil_append, List.cons_append, Option.toList_some, Option.toList_none, reduceCtorEq, Option.some.injEq, Nat.zero_le, Nat.reduceMul, Nat.mul_zero, Nat.add_zero, Int.reduceDiv, Int.reduceMod, Int.toNat_natCast, Nat.lt_irrefl, Int.natCast_add, Int.cast_ofNat_Int, px_mds_RX6_0, dec_X6_fits, px_eq_iff, px_lt_iff, px_le_iff, px_up_o, px_up_eq, px_up_ne, px_cp_o, k188, k194, g188, hf, hc]
      exact ⟨fun _ => h1 _ μ1 h10 h4, fun q => absurd (by omega) q⟩
    | succ m ih =>
      intro c μ1 h2 h3 h4 h5 h6 h7 h8 h9 h10
      have g188 : μ1 188 = μ 188 := h4 _ (by omega) (by omega)
      have g196 : μ1 196 = μ 196 := h4 _ (by omega) (by omega)
      have g197 : μ1 197 = μ 197 := h4 _ (by omega) (by omega)
      have g198 : μ1 198 = μ 198 := h4 _ (by omega) (by omega)
      have b1 := h7 (μ 195 c, μ 196 c, μ 197 c, μ 198 c) List.mem_cons_self
      have b2 := h8 (μ 195 c, μ 196 c, μ 197 c, μ 198 c) List.mem_cons_self
      dsimp only at b1 b2
      have st : pc_dos (pc_tx μ1 w) (pc_sg μ 195 196 197 198 c (m + 1)) = (pc_do (pc_tx μ1 w) (μ 195 c, μ 196 c, μ 197 c, μ 198 c)).bind (fun T => pc_dos T (pc_sg μ 195 196 197 198 (c + 1) m)) := rfl
      rw [st] at h10
      have hrm : μ1 w 1 + (if μ 196 c = 0 then 1 else -1) ≤ 24 ∧ pc_room (μ1 w 1 + (if μ 196 c = 0 then 1 else -1)) (pc_sg μ 195 196 197 198 (c + 1) m) := h9
      refine px_go (fun p => p == 5) 400 ?_
      simp (disch := omega) only [px_lits, false_implies, true_implies, px_dec_ok, px_run_s, px_rules, px_rule_is, px_mats, px_calls, ↓reduceIte, eq_self, Bool.false_eq_true, px_flds, px_o_some, px_fvs, px_pfs, px_cts, px_cls, px_acs_, px_acn, true_and, and_true, true_or, or_true, false_or, or_false, and_self, not_true_eq_false, not_false_eq_true, Classical.not_not, Nat.reduceAdd, Nat.reduceSub, Nat.reduceBEq, Nat.reduceLT, Nat.reduceLeDiff, Nat.lt_add_one, px_tg, Int.cast_ofNat_Int, Int.reduceAdd, Int.reduceSub, Int.reduceMul, Int.reduceToNat, Int.reduceLE, Int.reduceLT, Int.reduceNeg, Int.reduceEq, Bool.or_false, Bool.false_or, Bool.or_true, Bool.true_or, List.length_cons, List.length_nil, List.nil_append, List.cons_append, Option.toList_some, Option.toList_none, reduceCtorEq, Option.some.injEq, Nat.zero_le, Nat.reduceMul, Nat.mul_zero, Nat.add_zero, Int.reduceDiv, Int.reduceMod, Int.toNat_natCast, Nat.lt_irrefl, Int.natCast_add, Int.cast_ofNat_Int, px_mds_RX6_0, dec_X6_fits, px_eq_iff, px_lt_iff, px_le_iff, px_up_o, px_up_eq, px_up_ne, px_cp_o, k188, k194, g188, g196, g197, g198, hf, hc, hw, tk, tl]
      refine ⟨fun q => by omega, fun _ => ?_⟩
      repeat refine ⟨by omega, ?_⟩
      refine c_X9_fits (n := μ 195 c) hw h5 b1.2.1 (by omega) (by omega) (fun i i0 i1 => h6 _ (List.mem_of_getElem? (pc_tx_at i0 i1))) (fun T2 e1 => ?_) (fun e1 => ?_)
      · have hTl : T2.length = (μ1 w 1 + (if μ 196 c = 0 then 1 else -1)).toNat := by
          have hl := pc_tx_len (μ := μ1) (w := w)
          rcases b1.2.1 with e | e
          · rw [e] at e1
            rw [pc_do_put] at e1
            split at e1
            · cases e1
              rw [List.length_insertIdx, if_pos (by omega), hl, e, if_pos rfl]
              omega
            · cases e1
          · rw [e] at e1
            rw [pc_do_out] at e1
            split at e1
            · rename_i q
              have := (List.getElem?_eq_some_iff.mp q.2).1
              cases e1
              rw [List.length_eraseIdx_of_lt this, hl, e, if_neg (by decide)]
              omega
            · cases e1
        refine px_go (fun p => p == 5) 400 ?_
        simp (disch := omega) only [px_lits, false_implies, true_implies, px_dec_ok, px_run_s, px_rules, px_rule_is, px_mats, px_calls, ↓reduceIte, eq_self, Bool.false_eq_true, px_flds, px_o_some, px_fvs, px_pfs, px_cts, px_cls, px_acs_, px_acn, true_and, and_true, true_or, or_true, false_or, or_false, and_self, not_true_eq_false, not_false_eq_true, Classical.not_not, Nat.reduceAdd, Nat.reduceSub, Nat.reduceBEq, Nat.reduceLT, Nat.reduceLeDiff, Nat.lt_add_one, px_tg, Int.cast_ofNat_Int, Int.reduceAdd, Int.reduceSub, Int.reduceMul, Int.reduceToNat, Int.reduceLE, Int.reduceLT, Int.reduceNeg, Int.reduceEq, Bool.or_false, Bool.false_or, Bool.or_true, Bool.true_or, List.length_cons, List.length_nil, List.nil_append, List.cons_append, Option.toList_some, Option.toList_none, reduceCtorEq, Option.some.injEq, Nat.zero_le, Nat.reduceMul, Nat.mul_zero, Nat.add_zero, Int.reduceDiv, Int.reduceMod, Int.toNat_natCast, Nat.lt_irrefl, Int.natCast_add, Int.cast_ofNat_Int, px_mds_RX6_0, dec_X6_fits, px_eq_iff, px_lt_iff, px_le_iff, px_up_o, px_up_eq, px_up_ne, px_cp_o, k188, k194, g188, g196, g197, g198, hf, hc, hw, tk, tl]
        repeat refine ⟨by omega, ?_⟩
        refine c_X9_apply (n := μ 195 c) hw h5 b1.2.1 e1 (by omega) (fun μ2 f1 f2 f3 => ?_)
        rw [e1, Option.bind_some] at h10
        have hge : 0 ≤ μ1 w 1 + (if μ 196 c = 0 then 1 else -1) := by
          rcases b1.2.1 with e | e
          · rw [e, if_pos rfl]; omega
          · rw [e, pc_do_out] at e1
            split at e1
            · rename_i q
              have := (List.getElem?_eq_some_iff.mp q.2).1
              rw [pc_tx_len] at this
              rw [e, if_neg (by decide)]
              omega
            · cases e1
        refine px_go (fun p => p == 5) 400 ?_
        simp (disch := omega) only [px_lits, false_implies, true_implies, px_dec_ok, px_run_s, px_rules, px_rule_is, px_mats, px_calls, ↓reduceIte, eq_self, Bool.false_eq_true, px_flds, px_o_some, px_fvs, px_pfs, px_cts, px_cls, px_acs_, px_acn, true_and, and_true, true_or, or_true, false_or, or_false, and_self, not_true_eq_false, not_false_eq_true, Classical.not_not, Nat.reduceAdd, Nat.reduceSub, Nat.reduceBEq, Nat.reduceLT, Nat.reduceLeDiff, Nat.lt_add_one, px_tg, Int.cast_ofNat_Int, Int.reduceAdd, Int.reduceSub, Int.reduceMul, Int.reduceToNat, Int.reduceLE, Int.reduceLT, Int.reduceNeg, Int.reduceEq, Bool.or_false, Bool.false_or, Bool.or_true, Bool.true_or, List.length_cons, List.length_nil, List.nil_append, List.cons_append, Option.toList_some, Option.toList_none, reduceCtorEq, Option.some.injEq, Nat.zero_le, Nat.reduceMul, Nat.mul_zero, Nat.add_zero, Int.reduceDiv, Int.reduceMod, Int.toNat_natCast, Nat.lt_irrefl, Int.natCast_add, Int.cast_ofNat_Int, px_mds_RX6_0, dec_X6_fits, px_eq_iff, px_lt_iff, px_le_iff, px_up_o, px_up_eq, px_up_ne, px_cp_o, k188, k194, hf, hc, hw]
        refine ih (c + 1) μ2 (by omega) (by omega) (fun o o1 o2 => by rw [f1 o o1 o2, h4 o o1 o2]) (by omega) (fun x hx => ?_) (fun x hx => h7 x (List.mem_cons_of_mem _ hx)) (fun x hx => h8 x (List.mem_cons_of_mem _ hx)) ?_ (by rw [f2]; exact h10)
        · rw [f2] at hx
          rcases pc_do_mem e1 x hx with q | q
          · exact h6 x q
          · rw [q]; exact b2
        · rw [f3, hTl, Int.toNat_of_nonneg hge]
          exact hrm.2
      · refine px_go (fun p => p == 5) 400 ?_
        simp (disch := omega) only [px_lits, false_implies, true_implies, px_dec_ok, px_run_s, px_rules, px_rule_is, px_mats, px_calls, ↓reduceIte, eq_self, Bool.false_eq_true, px_flds, px_o_some, px_fvs, px_pfs, px_cts, px_cls, px_acs_, px_acn, true_and, and_true, true_or, or_true, false_or, or_false, and_self, not_true_eq_false, not_false_eq_true, Classical.not_not, Nat.reduceAdd, Nat.reduceSub, Nat.reduceBEq, Nat.reduceLT, Nat.reduceLeDiff, Nat.lt_add_one, px_tg, Int.cast_ofNat_Int, Int.reduceAdd, Int.reduceSub, Int.reduceMul, Int.reduceToNat, Int.reduceLE, Int.reduceLT, Int.reduceNeg, Int.reduceEq, Bool.or_false, Bool.false_or, Bool.or_true, Bool.true_or, List.length_cons, List.length_nil, List.nil_append, List.cons_append, Option.toList_some, Option.toList_none, reduceCtorEq, Option.some.injEq, Nat.zero_le, Nat.reduceMul, Nat.mul_zero, Nat.add_zero, Int.reduceDiv, Int.reduceMod, Int.toNat_natCast, Nat.lt_irrefl, Int.natCast_add, Int.cast_ofNat_Int, px_mds_RX6_0, dec_X6_fits, px_eq_iff, px_lt_iff, px_le_iff, px_up_o, px_up_eq, px_up_ne, px_cp_o, k188, k194, hf, hc, hw]
        rw [e1] at h10
        exact h0 μ1 h10 h4
  refine px_enter RX6 (by decide +kernel) rfl (by simp) (by simp [px_c1]) ?_
  simp only [List.map_cons, List.map_nil, List.length_cons, List.length_nil, List.replicate, List.append_nil, Nat.reduceAdd, Nat.reduceSub, List.cons_append, List.nil_append]
  refine px_go (fun p => p == 5) 400 ?_
  simp (disch := omega) only [px_lits, false_implies, true_implies, px_dec_ok, px_run_s, px_rules, px_rule_is, px_mats, px_calls, ↓reduceIte, eq_self, Bool.false_eq_true, px_flds, px_o_some, px_fvs, px_pfs, px_cts, px_cls, px_acs_, px_acn, true_and, and_true, true_or, or_true, false_or, or_false, and_self, not_true_eq_false, not_false_eq_true, Classical.not_not, Nat.reduceAdd, Nat.reduceSub, Nat.reduceBEq, Nat.reduceLT, Nat.reduceLeDiff, Nat.lt_add_one, px_tg, Int.cast_ofNat_Int, Int.reduceAdd, Int.reduceSub, Int.reduceMul, Int.reduceToNat, Int.reduceLE, Int.reduceLT, Int.reduceNeg, Int.reduceEq, Bool.or_false, Bool.false_or, Bool.or_true, Bool.true_or, List.length_cons, List.length_nil, List.nil_append, List.cons_append, Option.toList_some, Option.toList_none, reduceCtorEq, Option.some.injEq, Nat.zero_le, Nat.reduceMul, Nat.mul_zero, Nat.add_zero, Int.reduceDiv, Int.reduceMod, Int.toNat_natCast, Nat.lt_irrefl, Int.natCast_add, Int.cast_ofNat_Int, px_mds_RX6_0, dec_X6_fits, px_eq_iff, px_lt_iff, px_le_iff, px_up_o, px_up_eq, px_up_ne, px_cp_o, k188, k194, hf, hc, hw]
  exact loop n f μ (by omega) (by omega) (fun _ _ _ => rfl) hn hT hB hBl hr rfl
set_option maxHeartbeats 4000000 in
set_option maxRecDepth 100000 in
theorem c_X6_giveTo {G : px_G} {h f n : Nat} {μ : px_Mem} {Q : Option px_X → px_Mem → Prop} (hh : px_kd h = 0) (h8 : h < 100) (hf : μ 188 3 = f) (hc : μ 188 4 = n) (hfn : f + n ≤ 16) (ho : 0 ≤ μ 189 4) (hon : μ 189 4 + n ≤ 16)
    (h1 : ∀ μ1 : px_Mem, (∀ o, (o < h ∨ h + 4 < o) → μ1 o = μ o) → μ1 h 4 = μ 189 4 + n → pc_hl μ1 h = pc_hl μ 189 ++ pc_sg μ 195 196 197 198 f n → Q none μ1) : px_C G yX6_giveTo cX6_giveTo 3 none 2 [.inr (.inl (some 188)), .inr (.inl (some h))] μ Q := by
  obtain ⟨k188, k189, k194, k199⟩ := pc_kp
  obtain ⟨tk, tl⟩ := pc_hk k194
  have loop : ∀ (m : Nat) (c : Int) (D : List pc_Ch) (μ1 : px_Mem), f ≤ c → c + m = f + n → (∀ o, (o < h ∨ h + 4 < o) → μ1 o = μ o) → μ1 h 4 = μ 189 4 + (c - f) → pc_hl μ1 h = pc_hl μ 189 ++ D → pc_sg μ 195 196 197 198 f n = D ++ pc_sg μ 195 196 197 198 c m →
      px_J G RX6 cX6_giveTo 3 none 2 13 [some (.inr (.inl (some 188))), some (.inr (.inl (some h))), some (.inl c)] [] μ1 Q := by
    intro m
    induction m with
    | zero =>
      intro c D μ1 h2 h3 h4 h5 h6 h7
      have g188 : μ1 188 = μ 188 := h4 _ (by omega)
      refine px_go (fun p => p == 13) 400 ?_
      simp (disch := omega) only [px_lits, false_implies, true_implies, px_dec_ok, px_run_s, px_rules, px_rule_is, px_mats, px_calls, ↓reduceIte, eq_self, Bool.false_eq_true, px_flds, px_o_some, px_fvs, px_pfs, px_cts, px_cls, px_acs_, px_acn, true_and, and_true, true_or, or_true, false_or, or_false, and_self, not_true_eq_false, not_false_eq_true, Classical.not_not, Nat.reduceAdd, Nat.reduceSub, Nat.reduceBEq, Nat.reduceLT, Nat.reduceLeDiff, Nat.lt_add_one, px_tg, Int.cast_ofNat_Int, Int.reduceAdd, Int.reduceSub, Int.reduceMul, Int.reduceToNat, Int.reduceLE, Int.reduceLT, Int.reduceNeg, Int.reduceEq, Bool.or_false, Bool.false_or, Bool.or_true, Bool.true_or, List.length_cons, List.length_nil, List.nil_append, List.cons_append, Option.toList_some, Option.toList_none, reduceCtorEq, Option.some.injEq, Nat.zero_le, Nat.reduceMul, Nat.mul_zero, Nat.add_zero, Int.reduceDiv, Int.reduceMod, Int.toNat_natCast, Nat.lt_irrefl, Int.natCast_add, Int.cast_ofNat_Int, px_mds_RX6_0, dec_X6_giveTo, px_eq_iff, px_lt_iff, px_le_iff, px_up_o, px_up_eq, px_up_ne, px_cp_o, k188, k194, g188, hf, hc]
      refine ⟨fun _ => h1 μ1 h4 (by omega) ?_, fun q => absurd (by omega) q⟩
      rw [h6, h7]
      simp [pc_sg]
    | succ m ih =>
      intro c D μ1 h2 h3 h4 h5 h6 h7
      have g188 : μ1 188 = μ 188 := h4 _ (by omega)
      have g195 : μ1 195 = μ 195 := h4 _ (by omega)
      have g196 : μ1 196 = μ 196 := h4 _ (by omega)
      have g197 : μ1 197 = μ 197 := h4 _ (by omega)
      have g198 : μ1 198 = μ 198 := h4 _ (by omega)
      refine px_go (fun p => p == 13) 400 ?_
      simp (disch := omega) only [px_lits, false_implies, true_implies, px_dec_ok, px_run_s, px_rules, px_rule_is, px_mats, px_calls, ↓reduceIte, eq_self, Bool.false_eq_true, px_flds, px_o_some, px_fvs, px_pfs, px_cts, px_cls, px_acs_, px_acn, true_and, and_true, true_or, or_true, false_or, or_false, and_self, not_true_eq_false, not_false_eq_true, Classical.not_not, Nat.reduceAdd, Nat.reduceSub, Nat.reduceBEq, Nat.reduceLT, Nat.reduceLeDiff, Nat.lt_add_one, px_tg, Int.cast_ofNat_Int, Int.reduceAdd, Int.reduceSub, Int.reduceMul, Int.reduceToNat, Int.reduceLE, Int.reduceLT, Int.reduceNeg, Int.reduceEq, Bool.or_false, Bool.false_or, Bool.or_true, Bool.true_or, List.length_cons, List.length_nil, List.nil_append, List.cons_append, Option.toList_some, Option.toList_none, reduceCtorEq, Option.some.injEq, Nat.zero_le, Nat.reduceMul, Nat.mul_zero, Nat.add_zero, Int.reduceDiv, Int.reduceMod, Int.toNat_natCast, Nat.lt_irrefl, Int.natCast_add, Int.cast_ofNat_Int, px_mds_RX6_0, dec_X6_giveTo, px_eq_iff, px_lt_iff, px_le_iff, px_up_o, px_up_eq, px_up_ne, px_cp_o, k188, k194, g188, g195, g196, g197, g198, hf, hc, hh, tk, tl]
      refine ⟨fun q => by omega, fun _ => ?_⟩
      repeat refine ⟨by omega, ?_⟩
      refine c_X0_add hh (by omega) (fun μ2 f1 f2 f3 => ?_)
      refine px_go (fun p => p == 13) 400 ?_
      simp (disch := omega) only [px_lits, false_implies, true_implies, px_dec_ok, px_run_s, px_rules, px_rule_is, px_mats, px_calls, ↓reduceIte, eq_self, Bool.false_eq_true, px_flds, px_o_some, px_fvs, px_pfs, px_cts, px_cls, px_acs_, px_acn, true_and, and_true, true_or, or_true, false_or, or_false, and_self, not_true_eq_false, not_false_eq_true, Classical.not_not, Nat.reduceAdd, Nat.reduceSub, Nat.reduceBEq, Nat.reduceLT, Nat.reduceLeDiff, Nat.lt_add_one, px_tg, Int.cast_ofNat_Int, Int.reduceAdd, Int.reduceSub, Int.reduceMul, Int.reduceToNat, Int.reduceLE, Int.reduceLT, Int.reduceNeg, Int.reduceEq, Bool.or_false, Bool.false_or, Bool.or_true, Bool.true_or, List.length_cons, List.length_nil, List.nil_append, List.cons_append, Option.toList_some, Option.toList_none, reduceCtorEq, Option.some.injEq, Nat.zero_le, Nat.reduceMul, Nat.mul_zero, Nat.add_zero, Int.reduceDiv, Int.reduceMod, Int.toNat_natCast, Nat.lt_irrefl, Int.natCast_add, Int.cast_ofNat_Int, px_mds_RX6_0, dec_X6_giveTo, px_eq_iff, px_lt_iff, px_le_iff, px_up_o, px_up_eq, px_up_ne, px_cp_o, k188, k194, hf, hc, hh]
      refine ih (c + 1) (D ++ [(μ 195 c, μ 196 c, μ 197 c, μ 198 c)]) μ2 (by omega) (by omega) (fun o o1 => by rw [f1 o o1, h4 o o1]) (by omega) ?_ ?_
      · rw [f3, h6, List.append_assoc]
      · rw [h7, List.append_assoc]
        rfl
  refine px_enter RX6 (by decide +kernel) rfl (by simp) (by simp [px_c1]) ?_
  simp only [List.map_cons, List.map_nil, List.length_cons, List.length_nil, List.replicate, List.append_nil, Nat.reduceAdd, Nat.reduceSub, List.cons_append, List.nil_append]
  refine px_go (fun p => p == 13) 400 ?_
  simp (disch := omega) only [px_lits, false_implies, true_implies, px_dec_ok, px_run_s, px_rules, px_rule_is, px_mats, px_calls, ↓reduceIte, eq_self, Bool.false_eq_true, px_flds, px_o_some, px_fvs, px_pfs, px_cts, px_cls, px_acs_, px_acn, true_and, and_true, true_or, or_true, false_or, or_false, and_self, not_true_eq_false, not_false_eq_true, Classical.not_not, Nat.reduceAdd, Nat.reduceSub, Nat.reduceBEq, Nat.reduceLT, Nat.reduceLeDiff, Nat.lt_add_one, px_tg, Int.cast_ofNat_Int, Int.reduceAdd, Int.reduceSub, Int.reduceMul, Int.reduceToNat, Int.reduceLE, Int.reduceLT, Int.reduceNeg, Int.reduceEq, Bool.or_false, Bool.false_or, Bool.or_true, Bool.true_or, List.length_cons, List.length_nil, List.nil_append, List.cons_append, Option.toList_some, Option.toList_none, reduceCtorEq, Option.some.injEq, Nat.zero_le, Nat.reduceMul, Nat.mul_zero, Nat.add_zero, Int.reduceDiv, Int.reduceMod, Int.toNat_natCast, Nat.lt_irrefl, Int.natCast_add, Int.cast_ofNat_Int, px_mds_RX6_0, dec_X6_giveTo, px_eq_iff, px_lt_iff, px_le_iff, px_up_o, px_up_eq, px_up_ne, px_cp_o, k188, k189, k194, hf, hc, hh]
  refine c_X0_copyFrom hh k189 (by omega) (by omega) (fun μ1 f1 f2 f3 => ?_)
  have g188 : μ1 188 = μ 188 := f1 _ (by omega)
  refine px_go (fun p => p == 13) 400 ?_
  simp (disch := omega) only [px_lits, false_implies, true_implies, px_dec_ok, px_run_s, px_rules, px_rule_is, px_mats, px_calls, ↓reduceIte, eq_self, Bool.false_eq_true, px_flds, px_o_some, px_fvs, px_pfs, px_cts, px_cls, px_acs_, px_acn, true_and, and_true, true_or, or_true, false_or, or_false, and_self, not_true_eq_false, not_false_eq_true, Classical.not_not, Nat.reduceAdd, Nat.reduceSub, Nat.reduceBEq, Nat.reduceLT, Nat.reduceLeDiff, Nat.lt_add_one, px_tg, Int.cast_ofNat_Int, Int.reduceAdd, Int.reduceSub, Int.reduceMul, Int.reduceToNat, Int.reduceLE, Int.reduceLT, Int.reduceNeg, Int.reduceEq, Bool.or_false, Bool.false_or, Bool.or_true, Bool.true_or, List.length_cons, List.length_nil, List.nil_append, List.cons_append, Option.toList_some, Option.toList_none, reduceCtorEq, Option.some.injEq, Nat.zero_le, Nat.reduceMul, Nat.mul_zero, Nat.add_zero, Int.reduceDiv, Int.reduceMod, Int.toNat_natCast, Nat.lt_irrefl, Int.natCast_add, Int.cast_ofNat_Int, px_mds_RX6_0, dec_X6_giveTo, px_eq_iff, px_lt_iff, px_le_iff, px_up_o, px_up_eq, px_up_ne, px_cp_o, k188, k189, k194, g188, hf, hc, hh]
  exact loop n f [] μ1 (by omega) (by omega) f1 (by omega) (by rw [f3]; simp) (by simp)
end
section
/-! ===== the reference: changes as single numbers ===== -/
def pm_pk (c : pc_Ch) : Int := ((c.1 * 2 + c.2.1) * 64 + c.2.2.1) * 128 + c.2.2.2
def pm_ok (c : pc_Ch) : Prop := (0 ≤ c.1 ∧ c.1 < 24) ∧ (c.2.1 = 0 ∨ c.2.1 = 1) ∧ (0 ≤ c.2.2.1 ∧ c.2.2.1 ≤ 63) ∧ (97 ≤ c.2.2.2 ∧ c.2.2.2 ≤ 122)
theorem pm_pk_r {c : pc_Ch} (h : pm_ok c) : 0 ≤ pm_pk c ∧ pm_pk c < 393216 := by
  unfold pm_ok at h
  unfold pm_pk
  omega
theorem pm_un {c : pc_Ch} (h : pm_ok c) : pm_pk c / 16384 = c.1 ∧ pm_pk c / 8192 % 2 = c.2.1 ∧ pm_pk c / 128 % 64 = c.2.2.1 ∧ pm_pk c % 128 = c.2.2.2 := by
  unfold pm_ok at h
  unfold pm_pk
  refine ⟨?_, ?_, ?_, ?_⟩ <;> omega
theorem pc_V.ok {X : List pc_Ch} (h : pc_V X) {c : pc_Ch} (hc : c ∈ X) : pm_ok c := by
  have h1 := h.el hc
  have h2 := h.place hc
  exact ⟨h1.1, h1.2.1, by omega, h1.2.2⟩
set_option maxHeartbeats 4000000 in
set_option maxRecDepth 100000 in
theorem c_X11_in {G : px_G} {v a b : Int} {μ : px_Mem} {Q : Option px_X → px_Mem → Prop} (hv : -2147483648 ≤ v ∧ v < 2147483648) (ha : -2147483648 ≤ a ∧ a < 2147483648) (hb : -2147483648 ≤ b ∧ b < 2147483648) (h1 : a ≤ v ∧ v ≤ b → Q (some (.inl 1)) μ) (h0 : ¬ (a ≤ v ∧ v ≤ b) → Q (some (.inl 0)) μ) : px_C G yX11_in cX11_in 3 (some .boolean) 0 [.inl v, .inl a, .inl b] μ Q := by
  refine px_enter RX11 (by decide +kernel) rfl (by simp) (by simp [px_c1]) ?_
  simp only [List.map_cons, List.map_nil, List.length_cons, List.length_nil, List.replicate, List.append_nil, Nat.reduceAdd, Nat.reduceSub, List.cons_append, List.nil_append]
  refine px_go (fun _ => false) 400 ?_
  simp (disch := omega) only [px_lits, false_implies, true_implies, px_dec_ok, px_run_s, px_rules, px_rule_is, px_mats, px_calls, ↓reduceIte, eq_self, Bool.false_eq_true, px_flds, px_o_some, px_fvs, px_pfs, px_cts, px_cls, px_acs_, px_acn, true_and, and_true, true_or, or_true, false_or, or_false, and_self, not_true_eq_false, not_false_eq_true, Classical.not_not, Nat.reduceAdd, Nat.reduceSub, Nat.reduceBEq, Nat.reduceLT, Nat.reduceLeDiff, Nat.lt_add_one, px_tg, Int.cast_ofNat_Int, Int.reduceAdd, Int.reduceSub, Int.reduceMul, Int.reduceToNat, Int.reduceLE, Int.reduceLT, Int.reduceNeg, Int.reduceEq, Bool.or_false, Bool.false_or, Bool.or_true, Bool.true_or, List.length_cons, List.length_nil, List.nil_append, List.cons_append, Option.toList_some, Option.toList_none, reduceCtorEq, Option.some.injEq, Nat.zero_le, Nat.reduceMul, Nat.mul_zero, Nat.add_zero, Int.reduceDiv, Int.reduceMod, Int.toNat_natCast, Nat.lt_irrefl, Int.natCast_add, Int.cast_ofNat_Int, px_mds_RX11_0, px_mds_RX11_1, dec_X11_in, px_eq_iff, px_lt_iff, px_le_iff, px_up_o, px_up_eq, px_up_ne, px_cp_o]
  exact ⟨fun _ => h0 (by omega), fun _ => ⟨fun _ => h0 (by omega), fun _ => h1 (by omega)⟩⟩
set_option maxHeartbeats 4000000 in
set_option maxRecDepth 100000 in
theorem c_X11_isHouse {G : px_G} {x : Int} {μ : px_Mem} {Q : Option px_X → px_Mem → Prop} (hx : -2147483648 ≤ x ∧ x < 2147483648) (h1 : 0 ≤ x ∧ x < 2 → Q (some (.inl 1)) μ) (h0 : ¬ (0 ≤ x ∧ x < 2) → Q (some (.inl 0)) μ) : px_C G yX11_isHouse cX11_isHouse 1 (some .boolean) 1 [.inl x] μ Q := by
  refine px_enter RX11 (by decide +kernel) rfl (by simp) (by simp [px_c1]) ?_
  simp only [List.map_cons, List.map_nil, List.length_cons, List.length_nil, List.replicate, List.append_nil, Nat.reduceAdd, Nat.reduceSub, List.cons_append, List.nil_append]
  refine px_go (fun _ => false) 400 ?_
  simp (disch := omega) only [px_lits, false_implies, true_implies, px_dec_ok, px_run_s, px_rules, px_rule_is, px_mats, px_calls, ↓reduceIte, eq_self, Bool.false_eq_true, px_flds, px_o_some, px_fvs, px_pfs, px_cts, px_cls, px_acs_, px_acn, true_and, and_true, true_or, or_true, false_or, or_false, and_self, not_true_eq_false, not_false_eq_true, Classical.not_not, Nat.reduceAdd, Nat.reduceSub, Nat.reduceBEq, Nat.reduceLT, Nat.reduceLeDiff, Nat.lt_add_one, px_tg, Int.cast_ofNat_Int, Int.reduceAdd, Int.reduceSub, Int.reduceMul, Int.reduceToNat, Int.reduceLE, Int.reduceLT, Int.reduceNeg, Int.reduceEq, Bool.or_false, Bool.false_or, Bool.or_true, Bool.true_or, List.length_cons, List.length_nil, List.nil_append, List.cons_append, Option.toList_some, Option.toList_none, reduceCtorEq, Option.some.injEq, Nat.zero_le, Nat.reduceMul, Nat.mul_zero, Nat.add_zero, Int.reduceDiv, Int.reduceMod, Int.toNat_natCast, Nat.lt_irrefl, Int.natCast_add, Int.cast_ofNat_Int, px_mds_RX11_0, px_mds_RX11_1, dec_X11_isHouse, px_eq_iff, px_lt_iff, px_le_iff, px_up_o, px_up_eq, px_up_ne, px_cp_o]
  refine c_X11_in hx (by omega) (by omega) (fun q => ?_) (fun q => ?_)
  · refine px_go (fun _ => false) 400 ?_
    simp (disch := omega) only [px_lits, false_implies, true_implies, px_dec_ok, px_run_s, px_rules, px_rule_is, px_mats, px_calls, ↓reduceIte, eq_self, Bool.false_eq_true, px_flds, px_o_some, px_fvs, px_pfs, px_cts, px_cls, px_acs_, px_acn, true_and, and_true, true_or, or_true, false_or, or_false, and_self, not_true_eq_false, not_false_eq_true, Classical.not_not, Nat.reduceAdd, Nat.reduceSub, Nat.reduceBEq, Nat.reduceLT, Nat.reduceLeDiff, Nat.lt_add_one, px_tg, Int.cast_ofNat_Int, Int.reduceAdd, Int.reduceSub, Int.reduceMul, Int.reduceToNat, Int.reduceLE, Int.reduceLT, Int.reduceNeg, Int.reduceEq, Bool.or_false, Bool.false_or, Bool.or_true, Bool.true_or, List.length_cons, List.length_nil, List.nil_append, List.cons_append, Option.toList_some, Option.toList_none, reduceCtorEq, Option.some.injEq, Nat.zero_le, Nat.reduceMul, Nat.mul_zero, Nat.add_zero, Int.reduceDiv, Int.reduceMod, Int.toNat_natCast, Nat.lt_irrefl, Int.natCast_add, Int.cast_ofNat_Int, px_mds_RX11_0, px_mds_RX11_1, dec_X11_isHouse, px_eq_iff, px_lt_iff, px_le_iff, px_up_o, px_up_eq, px_up_ne, px_cp_o]
    exact h1 (by omega)
  · refine px_go (fun _ => false) 400 ?_
    simp (disch := omega) only [px_lits, false_implies, true_implies, px_dec_ok, px_run_s, px_rules, px_rule_is, px_mats, px_calls, ↓reduceIte, eq_self, Bool.false_eq_true, px_flds, px_o_some, px_fvs, px_pfs, px_cts, px_cls, px_acs_, px_acn, true_and, and_true, true_or, or_true, false_or, or_false, and_self, not_true_eq_false, not_false_eq_true, Classical.not_not, Nat.reduceAdd, Nat.reduceSub, Nat.reduceBEq, Nat.reduceLT, Nat.reduceLeDiff, Nat.lt_add_one, px_tg, Int.cast_ofNat_Int, Int.reduceAdd, Int.reduceSub, Int.reduceMul, Int.reduceToNat, Int.reduceLE, Int.reduceLT, Int.reduceNeg, Int.reduceEq, Bool.or_false, Bool.false_or, Bool.or_true, Bool.true_or, List.length_cons, List.length_nil, List.nil_append, List.cons_append, Option.toList_some, Option.toList_none, reduceCtorEq, Option.some.injEq, Nat.zero_le, Nat.reduceMul, Nat.mul_zero, Nat.add_zero, Int.reduceDiv, Int.reduceMod, Int.toNat_natCast, Nat.lt_irrefl, Int.natCast_add, Int.cast_ofNat_Int, px_mds_RX11_0, px_mds_RX11_1, dec_X11_isHouse, px_eq_iff, px_lt_iff, px_le_iff, px_up_o, px_up_eq, px_up_ne, px_cp_o]
    exact h0 (by omega)
set_option maxHeartbeats 4000000 in
set_option maxRecDepth 100000 in
theorem c_X11_isShelf {G : px_G} {x : Int} {μ : px_Mem} {Q : Option px_X → px_Mem → Prop} (hx : -2147483648 ≤ x ∧ x < 2147483648) (h1 : 0 ≤ x ∧ x < 4 → Q (some (.inl 1)) μ) (h0 : ¬ (0 ≤ x ∧ x < 4) → Q (some (.inl 0)) μ) : px_C G yX11_isShelf cX11_isShelf 1 (some .boolean) 1 [.inl x] μ Q := by
  refine px_enter RX11 (by decide +kernel) rfl (by simp) (by simp [px_c1]) ?_
  simp only [List.map_cons, List.map_nil, List.length_cons, List.length_nil, List.replicate, List.append_nil, Nat.reduceAdd, Nat.reduceSub, List.cons_append, List.nil_append]
  refine px_go (fun _ => false) 400 ?_
  simp (disch := omega) only [px_lits, false_implies, true_implies, px_dec_ok, px_run_s, px_rules, px_rule_is, px_mats, px_calls, ↓reduceIte, eq_self, Bool.false_eq_true, px_flds, px_o_some, px_fvs, px_pfs, px_cts, px_cls, px_acs_, px_acn, true_and, and_true, true_or, or_true, false_or, or_false, and_self, not_true_eq_false, not_false_eq_true, Classical.not_not, Nat.reduceAdd, Nat.reduceSub, Nat.reduceBEq, Nat.reduceLT, Nat.reduceLeDiff, Nat.lt_add_one, px_tg, Int.cast_ofNat_Int, Int.reduceAdd, Int.reduceSub, Int.reduceMul, Int.reduceToNat, Int.reduceLE, Int.reduceLT, Int.reduceNeg, Int.reduceEq, Bool.or_false, Bool.false_or, Bool.or_true, Bool.true_or, List.length_cons, List.length_nil, List.nil_append, List.cons_append, Option.toList_some, Option.toList_none, reduceCtorEq, Option.some.injEq, Nat.zero_le, Nat.reduceMul, Nat.mul_zero, Nat.add_zero, Int.reduceDiv, Int.reduceMod, Int.toNat_natCast, Nat.lt_irrefl, Int.natCast_add, Int.cast_ofNat_Int, px_mds_RX11_0, px_mds_RX11_1, dec_X11_isShelf, px_eq_iff, px_lt_iff, px_le_iff, px_up_o, px_up_eq, px_up_ne, px_cp_o]
  refine c_X11_in hx (by omega) (by omega) (fun q => ?_) (fun q => ?_)
  · refine px_go (fun _ => false) 400 ?_
    simp (disch := omega) only [px_lits, false_implies, true_implies, px_dec_ok, px_run_s, px_rules, px_rule_is, px_mats, px_calls, ↓reduceIte, eq_self, Bool.false_eq_true, px_flds, px_o_some, px_fvs, px_pfs, px_cts, px_cls, px_acs_, px_acn, true_and, and_true, true_or, or_true, false_or, or_false, and_self, not_true_eq_false, not_false_eq_true, Classical.not_not, Nat.reduceAdd, Nat.reduceSub, Nat.reduceBEq, Nat.reduceLT, Nat.reduceLeDiff, Nat.lt_add_one, px_tg, Int.cast_ofNat_Int, Int.reduceAdd, Int.reduceSub, Int.reduceMul, Int.reduceToNat, Int.reduceLE, Int.reduceLT, Int.reduceNeg, Int.reduceEq, Bool.or_false, Bool.false_or, Bool.or_true, Bool.true_or, List.length_cons, List.length_nil, List.nil_append, List.cons_append, Option.toList_some, Option.toList_none, reduceCtorEq, Option.some.injEq, Nat.zero_le, Nat.reduceMul, Nat.mul_zero, Nat.add_zero, Int.reduceDiv, Int.reduceMod, Int.toNat_natCast, Nat.lt_irrefl, Int.natCast_add, Int.cast_ofNat_Int, px_mds_RX11_0, px_mds_RX11_1, dec_X11_isShelf, px_eq_iff, px_lt_iff, px_le_iff, px_up_o, px_up_eq, px_up_ne, px_cp_o]
    exact h1 (by omega)
  · refine px_go (fun _ => false) 400 ?_
    simp (disch := omega) only [px_lits, false_implies, true_implies, px_dec_ok, px_run_s, px_rules, px_rule_is, px_mats, px_calls, ↓reduceIte, eq_self, Bool.false_eq_true, px_flds, px_o_some, px_fvs, px_pfs, px_cts, px_cls, px_acs_, px_acn, true_and, and_true, true_or, or_true, false_or, or_false, and_self, not_true_eq_false, not_false_eq_true, Classical.not_not, Nat.reduceAdd, Nat.reduceSub, Nat.reduceBEq, Nat.reduceLT, Nat.reduceLeDiff, Nat.lt_add_one, px_tg, Int.cast_ofNat_Int, Int.reduceAdd, Int.reduceSub, Int.reduceMul, Int.reduceToNat, Int.reduceLE, Int.reduceLT, Int.reduceNeg, Int.reduceEq, Bool.or_false, Bool.false_or, Bool.or_true, Bool.true_or, List.length_cons, List.length_nil, List.nil_append, List.cons_append, Option.toList_some, Option.toList_none, reduceCtorEq, Option.some.injEq, Nat.zero_le, Nat.reduceMul, Nat.mul_zero, Nat.add_zero, Int.reduceDiv, Int.reduceMod, Int.toNat_natCast, Nat.lt_irrefl, Int.natCast_add, Int.cast_ofNat_Int, px_mds_RX11_0, px_mds_RX11_1, dec_X11_isShelf, px_eq_iff, px_lt_iff, px_le_iff, px_up_o, px_up_eq, px_up_ne, px_cp_o]
    exact h0 (by omega)
set_option maxHeartbeats 4000000 in
set_option maxRecDepth 100000 in
theorem c_X11_made {G : px_G} {a b c d : Int} {μ : px_Mem} {Q : Option px_X → px_Mem → Prop} (h : Q (some (.inl (pm_pk (a, b, c, d)))) μ) : px_C G yX11_made cX11_made 4 (some .int) 0 [.inl a, .inl b, .inl c, .inl d] μ Q := by
  refine px_enter RX11 (by decide +kernel) rfl (by simp) (by simp [px_c1]) ?_
  simp only [List.map_cons, List.map_nil, List.length_cons, List.length_nil, List.replicate, List.append_nil, Nat.reduceAdd, Nat.reduceSub, List.cons_append, List.nil_append]
  refine px_go (fun _ => false) 400 ?_
  simp (disch := omega) only [px_lits, false_implies, true_implies, px_dec_ok, px_run_s, px_rules, px_rule_is, px_mats, px_calls, ↓reduceIte, eq_self, Bool.false_eq_true, px_flds, px_o_some, px_fvs, px_pfs, px_cts, px_cls, px_acs_, px_acn, true_and, and_true, true_or, or_true, false_or, or_false, and_self, not_true_eq_false, not_false_eq_true, Classical.not_not, Nat.reduceAdd, Nat.reduceSub, Nat.reduceBEq, Nat.reduceLT, Nat.reduceLeDiff, Nat.lt_add_one, px_tg, Int.cast_ofNat_Int, Int.reduceAdd, Int.reduceSub, Int.reduceMul, Int.reduceToNat, Int.reduceLE, Int.reduceLT, Int.reduceNeg, Int.reduceEq, Bool.or_false, Bool.false_or, Bool.or_true, Bool.true_or, List.length_cons, List.length_nil, List.nil_append, List.cons_append, Option.toList_some, Option.toList_none, reduceCtorEq, Option.some.injEq, Nat.zero_le, Nat.reduceMul, Nat.mul_zero, Nat.add_zero, Int.reduceDiv, Int.reduceMod, Int.toNat_natCast, Nat.lt_irrefl, Int.natCast_add, Int.cast_ofNat_Int, px_mds_RX11_0, px_mds_RX11_1, dec_X11_made, px_eq_iff, px_lt_iff, px_le_iff, px_up_o, px_up_eq, px_up_ne, px_cp_o]
  exact h
set_option maxHeartbeats 4000000 in
set_option maxRecDepth 100000 in
theorem c_X11_number {G : px_G} {c : pc_Ch} {μ : px_Mem} {Q : Option px_X → px_Mem → Prop} (hc : pm_ok c) (h : Q (some (.inl c.1)) μ) : px_C G yX11_number cX11_number 1 (some .int) 0 [.inl (pm_pk c)] μ Q := by
  have r := pm_pk_r hc
  refine px_enter RX11 (by decide +kernel) rfl (by simp) (by simp [px_c1]) ?_
  simp only [List.map_cons, List.map_nil, List.length_cons, List.length_nil, List.replicate, List.append_nil, Nat.reduceAdd, Nat.reduceSub, List.cons_append, List.nil_append]
  refine px_go (fun _ => false) 400 ?_
  simp (disch := omega) only [px_lits, false_implies, true_implies, px_dec_ok, px_run_s, px_rules, px_rule_is, px_mats, px_calls, ↓reduceIte, eq_self, Bool.false_eq_true, px_flds, px_o_some, px_fvs, px_pfs, px_cts, px_cls, px_acs_, px_acn, true_and, and_true, true_or, or_true, false_or, or_false, and_self, not_true_eq_false, not_false_eq_true, Classical.not_not, Nat.reduceAdd, Nat.reduceSub, Nat.reduceBEq, Nat.reduceLT, Nat.reduceLeDiff, Nat.lt_add_one, px_tg, Int.cast_ofNat_Int, Int.reduceAdd, Int.reduceSub, Int.reduceMul, Int.reduceToNat, Int.reduceLE, Int.reduceLT, Int.reduceNeg, Int.reduceEq, Bool.or_false, Bool.false_or, Bool.or_true, Bool.true_or, List.length_cons, List.length_nil, List.nil_append, List.cons_append, Option.toList_some, Option.toList_none, reduceCtorEq, Option.some.injEq, Nat.zero_le, Nat.reduceMul, Nat.mul_zero, Nat.add_zero, Int.reduceDiv, Int.reduceMod, Int.toNat_natCast, Nat.lt_irrefl, Int.natCast_add, Int.cast_ofNat_Int, px_mds_RX11_0, px_mds_RX11_1, dec_X11_number, px_eq_iff, px_lt_iff, px_le_iff, px_up_o, px_up_eq, px_up_ne, px_cp_o, pm_un hc]
  exact ⟨by omega, h⟩
set_option maxHeartbeats 4000000 in
set_option maxRecDepth 100000 in
theorem c_X11_sort {G : px_G} {c : pc_Ch} {μ : px_Mem} {Q : Option px_X → px_Mem → Prop} (hc : pm_ok c) (h : Q (some (.inl c.2.1)) μ) : px_C G yX11_sort cX11_sort 1 (some .int) 0 [.inl (pm_pk c)] μ Q := by
  have r := pm_pk_r hc
  refine px_enter RX11 (by decide +kernel) rfl (by simp) (by simp [px_c1]) ?_
  simp only [List.map_cons, List.map_nil, List.length_cons, List.length_nil, List.replicate, List.append_nil, Nat.reduceAdd, Nat.reduceSub, List.cons_append, List.nil_append]
  refine px_go (fun _ => false) 400 ?_
  simp (disch := omega) only [px_lits, false_implies, true_implies, px_dec_ok, px_run_s, px_rules, px_rule_is, px_mats, px_calls, ↓reduceIte, eq_self, Bool.false_eq_true, px_flds, px_o_some, px_fvs, px_pfs, px_cts, px_cls, px_acs_, px_acn, true_and, and_true, true_or, or_true, false_or, or_false, and_self, not_true_eq_false, not_false_eq_true, Classical.not_not, Nat.reduceAdd, Nat.reduceSub, Nat.reduceBEq, Nat.reduceLT, Nat.reduceLeDiff, Nat.lt_add_one, px_tg, Int.cast_ofNat_Int, Int.reduceAdd, Int.reduceSub, Int.reduceMul, Int.reduceToNat, Int.reduceLE, Int.reduceLT, Int.reduceNeg, Int.reduceEq, Bool.or_false, Bool.false_or, Bool.or_true, Bool.true_or, List.length_cons, List.length_nil, List.nil_append, List.cons_append, Option.toList_some, Option.toList_none, reduceCtorEq, Option.some.injEq, Nat.zero_le, Nat.reduceMul, Nat.mul_zero, Nat.add_zero, Int.reduceDiv, Int.reduceMod, Int.toNat_natCast, Nat.lt_irrefl, Int.natCast_add, Int.cast_ofNat_Int, px_mds_RX11_0, px_mds_RX11_1, dec_X11_sort, px_eq_iff, px_lt_iff, px_le_iff, px_up_o, px_up_eq, px_up_ne, px_cp_o, pm_un hc]
  exact ⟨by omega, by omega, h⟩
set_option maxHeartbeats 4000000 in
set_option maxRecDepth 100000 in
theorem c_X11_place {G : px_G} {c : pc_Ch} {μ : px_Mem} {Q : Option px_X → px_Mem → Prop} (hc : pm_ok c) (h : Q (some (.inl c.2.2.1)) μ) : px_C G yX11_place cX11_place 1 (some .int) 0 [.inl (pm_pk c)] μ Q := by
  have r := pm_pk_r hc
  refine px_enter RX11 (by decide +kernel) rfl (by simp) (by simp [px_c1]) ?_
  simp only [List.map_cons, List.map_nil, List.length_cons, List.length_nil, List.replicate, List.append_nil, Nat.reduceAdd, Nat.reduceSub, List.cons_append, List.nil_append]
  refine px_go (fun _ => false) 400 ?_
  simp (disch := omega) only [px_lits, false_implies, true_implies, px_dec_ok, px_run_s, px_rules, px_rule_is, px_mats, px_calls, ↓reduceIte, eq_self, Bool.false_eq_true, px_flds, px_o_some, px_fvs, px_pfs, px_cts, px_cls, px_acs_, px_acn, true_and, and_true, true_or, or_true, false_or, or_false, and_self, not_true_eq_false, not_false_eq_true, Classical.not_not, Nat.reduceAdd, Nat.reduceSub, Nat.reduceBEq, Nat.reduceLT, Nat.reduceLeDiff, Nat.lt_add_one, px_tg, Int.cast_ofNat_Int, Int.reduceAdd, Int.reduceSub, Int.reduceMul, Int.reduceToNat, Int.reduceLE, Int.reduceLT, Int.reduceNeg, Int.reduceEq, Bool.or_false, Bool.false_or, Bool.or_true, Bool.true_or, List.length_cons, List.length_nil, List.nil_append, List.cons_append, Option.toList_some, Option.toList_none, reduceCtorEq, Option.some.injEq, Nat.zero_le, Nat.reduceMul, Nat.mul_zero, Nat.add_zero, Int.reduceDiv, Int.reduceMod, Int.toNat_natCast, Nat.lt_irrefl, Int.natCast_add, Int.cast_ofNat_Int, px_mds_RX11_0, px_mds_RX11_1, dec_X11_place, px_eq_iff, px_lt_iff, px_le_iff, px_up_o, px_up_eq, px_up_ne, px_cp_o, pm_un hc]
  exact ⟨by omega, by omega, h⟩
set_option maxHeartbeats 4000000 in
set_option maxRecDepth 100000 in
theorem c_X11_letterOf {G : px_G} {c : pc_Ch} {μ : px_Mem} {Q : Option px_X → px_Mem → Prop} (hc : pm_ok c) (h : Q (some (.inl c.2.2.2)) μ) : px_C G yX11_letterOf cX11_letterOf 1 (some .int) 0 [.inl (pm_pk c)] μ Q := by
  have r := pm_pk_r hc
  refine px_enter RX11 (by decide +kernel) rfl (by simp) (by simp [px_c1]) ?_
  simp only [List.map_cons, List.map_nil, List.length_cons, List.length_nil, List.replicate, List.append_nil, Nat.reduceAdd, Nat.reduceSub, List.cons_append, List.nil_append]
  refine px_go (fun _ => false) 400 ?_
  simp (disch := omega) only [px_lits, false_implies, true_implies, px_dec_ok, px_run_s, px_rules, px_rule_is, px_mats, px_calls, ↓reduceIte, eq_self, Bool.false_eq_true, px_flds, px_o_some, px_fvs, px_pfs, px_cts, px_cls, px_acs_, px_acn, true_and, and_true, true_or, or_true, false_or, or_false, and_self, not_true_eq_false, not_false_eq_true, Classical.not_not, Nat.reduceAdd, Nat.reduceSub, Nat.reduceBEq, Nat.reduceLT, Nat.reduceLeDiff, Nat.lt_add_one, px_tg, Int.cast_ofNat_Int, Int.reduceAdd, Int.reduceSub, Int.reduceMul, Int.reduceToNat, Int.reduceLE, Int.reduceLT, Int.reduceNeg, Int.reduceEq, Bool.or_false, Bool.false_or, Bool.or_true, Bool.true_or, List.length_cons, List.length_nil, List.nil_append, List.cons_append, Option.toList_some, Option.toList_none, reduceCtorEq, Option.some.injEq, Nat.zero_le, Nat.reduceMul, Nat.mul_zero, Nat.add_zero, Int.reduceDiv, Int.reduceMod, Int.toNat_natCast, Nat.lt_irrefl, Int.natCast_add, Int.cast_ofNat_Int, px_mds_RX11_0, px_mds_RX11_1, dec_X11_letterOf, px_eq_iff, px_lt_iff, px_le_iff, px_up_o, px_up_eq, px_up_ne, px_cp_o, pm_un hc]
  exact ⟨by omega, h⟩
set_option maxHeartbeats 4000000 in
set_option maxRecDepth 100000 in
theorem c_X11_moved {G : px_G} {c : pc_Ch} {p : Int} {μ : px_Mem} {Q : Option px_X → px_Mem → Prop} (hc : pm_ok c) (h : Q (some (.inl (pm_pk (c.1, c.2.1, p, c.2.2.2)))) μ) : px_C G yX11_moved cX11_moved 2 (some .int) 1 [.inl (pm_pk c), .inl p] μ Q := by
  refine px_enter RX11 (by decide +kernel) rfl (by simp) (by simp [px_c1]) ?_
  simp only [List.map_cons, List.map_nil, List.length_cons, List.length_nil, List.replicate, List.append_nil, Nat.reduceAdd, Nat.reduceSub, List.cons_append, List.nil_append]
  refine px_go (fun _ => false) 400 ?_
  simp (disch := omega) only [px_lits, false_implies, true_implies, px_dec_ok, px_run_s, px_rules, px_rule_is, px_mats, px_calls, ↓reduceIte, eq_self, Bool.false_eq_true, px_flds, px_o_some, px_fvs, px_pfs, px_cts, px_cls, px_acs_, px_acn, true_and, and_true, true_or, or_true, false_or, or_false, and_self, not_true_eq_false, not_false_eq_true, Classical.not_not, Nat.reduceAdd, Nat.reduceSub, Nat.reduceBEq, Nat.reduceLT, Nat.reduceLeDiff, Nat.lt_add_one, px_tg, Int.cast_ofNat_Int, Int.reduceAdd, Int.reduceSub, Int.reduceMul, Int.reduceToNat, Int.reduceLE, Int.reduceLT, Int.reduceNeg, Int.reduceEq, Bool.or_false, Bool.false_or, Bool.or_true, Bool.true_or, List.length_cons, List.length_nil, List.nil_append, List.cons_append, Option.toList_some, Option.toList_none, reduceCtorEq, Option.some.injEq, Nat.zero_le, Nat.reduceMul, Nat.mul_zero, Nat.add_zero, Int.reduceDiv, Int.reduceMod, Int.toNat_natCast, Nat.lt_irrefl, Int.natCast_add, Int.cast_ofNat_Int, px_mds_RX11_0, px_mds_RX11_1, dec_X11_moved, px_eq_iff, px_lt_iff, px_le_iff, px_up_o, px_up_eq, px_up_ne, px_cp_o]
  refine c_X11_place hc ?_
  refine px_go (fun _ => false) 400 ?_
  simp (disch := omega) only [px_lits, false_implies, true_implies, px_dec_ok, px_run_s, px_rules, px_rule_is, px_mats, px_calls, ↓reduceIte, eq_self, Bool.false_eq_true, px_flds, px_o_some, px_fvs, px_pfs, px_cts, px_cls, px_acs_, px_acn, true_and, and_true, true_or, or_true, false_or, or_false, and_self, not_true_eq_false, not_false_eq_true, Classical.not_not, Nat.reduceAdd, Nat.reduceSub, Nat.reduceBEq, Nat.reduceLT, Nat.reduceLeDiff, Nat.lt_add_one, px_tg, Int.cast_ofNat_Int, Int.reduceAdd, Int.reduceSub, Int.reduceMul, Int.reduceToNat, Int.reduceLE, Int.reduceLT, Int.reduceNeg, Int.reduceEq, Bool.or_false, Bool.false_or, Bool.or_true, Bool.true_or, List.length_cons, List.length_nil, List.nil_append, List.cons_append, Option.toList_some, Option.toList_none, reduceCtorEq, Option.some.injEq, Nat.zero_le, Nat.reduceMul, Nat.mul_zero, Nat.add_zero, Int.reduceDiv, Int.reduceMod, Int.toNat_natCast, Nat.lt_irrefl, Int.natCast_add, Int.cast_ofNat_Int, px_mds_RX11_0, px_mds_RX11_1, dec_X11_moved, px_eq_iff, px_lt_iff, px_le_iff, px_up_o, px_up_eq, px_up_ne, px_cp_o]
  have : pm_pk c + 128 * (p - c.2.2.1) = pm_pk (c.1, c.2.1, p, c.2.2.2) := by
    unfold pm_pk
    dsimp only
    omega
  rw [this]
  exact h
set_option maxHeartbeats 4000000 in
set_option maxRecDepth 100000 in
theorem c_X11_opposite {G : px_G} {c : pc_Ch} {μ : px_Mem} {Q : Option px_X → px_Mem → Prop} (hc : pm_ok c) (h : Q (some (.inl (pm_pk (c.1, 1 - c.2.1, c.2.2.1, c.2.2.2)))) μ) : px_C G yX11_opposite cX11_opposite 1 (some .int) 1 [.inl (pm_pk c)] μ Q := by
  have hs := hc.2.1
  refine px_enter RX11 (by decide +kernel) rfl (by simp) (by simp [px_c1]) ?_
  simp only [List.map_cons, List.map_nil, List.length_cons, List.length_nil, List.replicate, List.append_nil, Nat.reduceAdd, Nat.reduceSub, List.cons_append, List.nil_append]
  refine px_go (fun _ => false) 400 ?_
  simp (disch := omega) only [px_lits, false_implies, true_implies, px_dec_ok, px_run_s, px_rules, px_rule_is, px_mats, px_calls, ↓reduceIte, eq_self, Bool.false_eq_true, px_flds, px_o_some, px_fvs, px_pfs, px_cts, px_cls, px_acs_, px_acn, true_and, and_true, true_or, or_true, false_or, or_false, and_self, not_true_eq_false, not_false_eq_true, Classical.not_not, Nat.reduceAdd, Nat.reduceSub, Nat.reduceBEq, Nat.reduceLT, Nat.reduceLeDiff, Nat.lt_add_one, px_tg, Int.cast_ofNat_Int, Int.reduceAdd, Int.reduceSub, Int.reduceMul, Int.reduceToNat, Int.reduceLE, Int.reduceLT, Int.reduceNeg, Int.reduceEq, Bool.or_false, Bool.false_or, Bool.or_true, Bool.true_or, List.length_cons, List.length_nil, List.nil_append, List.cons_append, Option.toList_some, Option.toList_none, reduceCtorEq, Option.some.injEq, Nat.zero_le, Nat.reduceMul, Nat.mul_zero, Nat.add_zero, Int.reduceDiv, Int.reduceMod, Int.toNat_natCast, Nat.lt_irrefl, Int.natCast_add, Int.cast_ofNat_Int, px_mds_RX11_0, px_mds_RX11_1, dec_X11_opposite, px_eq_iff, px_lt_iff, px_le_iff, px_up_o, px_up_eq, px_up_ne, px_cp_o]
  refine c_X11_sort hc ?_
  refine px_go (fun _ => false) 400 ?_
  simp (disch := omega) only [px_lits, false_implies, true_implies, px_dec_ok, px_run_s, px_rules, px_rule_is, px_mats, px_calls, ↓reduceIte, eq_self, Bool.false_eq_true, px_flds, px_o_some, px_fvs, px_pfs, px_cts, px_cls, px_acs_, px_acn, true_and, and_true, true_or, or_true, false_or, or_false, and_self, not_true_eq_false, not_false_eq_true, Classical.not_not, Nat.reduceAdd, Nat.reduceSub, Nat.reduceBEq, Nat.reduceLT, Nat.reduceLeDiff, Nat.lt_add_one, px_tg, Int.cast_ofNat_Int, Int.reduceAdd, Int.reduceSub, Int.reduceMul, Int.reduceToNat, Int.reduceLE, Int.reduceLT, Int.reduceNeg, Int.reduceEq, Bool.or_false, Bool.false_or, Bool.or_true, Bool.true_or, List.length_cons, List.length_nil, List.nil_append, List.cons_append, Option.toList_some, Option.toList_none, reduceCtorEq, Option.some.injEq, Nat.zero_le, Nat.reduceMul, Nat.mul_zero, Nat.add_zero, Int.reduceDiv, Int.reduceMod, Int.toNat_natCast, Nat.lt_irrefl, Int.natCast_add, Int.cast_ofNat_Int, px_mds_RX11_0, px_mds_RX11_1, dec_X11_opposite, px_eq_iff, px_lt_iff, px_le_iff, px_up_o, px_up_eq, px_up_ne, px_cp_o]
  have e : ∀ z, z = pm_pk (c.1, 1 - c.2.1, c.2.2.1, c.2.2.2) → Q (some (.inl z)) μ := fun z e => e ▸ h
  refine ⟨fun q => e _ ?_, fun q => e _ ?_⟩
  · unfold pm_pk
    dsimp only
    omega
  · unfold pm_pk
    dsimp only
    omega
set_option maxHeartbeats 4000000 in
set_option maxRecDepth 100000 in
theorem c_X11_turned {G : px_G} {s i o j : Int} {μ : px_Mem} {Q : Option px_X → px_Mem → Prop} (hs : s = 0 ∨ s = 1) (ho : o = 0 ∨ o = 1) (hi : 0 ≤ i ∧ i ≤ 1000) (hj : 0 ≤ j ∧ j ≤ 1000) (h : Q (some (.inl (pc_trz s i o j))) μ) : px_C G yX11_turned cX11_turned 4 (some .int) 0 [.inl s, .inl i, .inl o, .inl j] μ Q := by
  refine px_enter RX11 (by decide +kernel) rfl (by simp) (by simp [px_c1]) ?_
  simp only [List.map_cons, List.map_nil, List.length_cons, List.length_nil, List.replicate, List.append_nil, Nat.reduceAdd, Nat.reduceSub, List.cons_append, List.nil_append]
  refine px_go (fun _ => false) 400 ?_
  simp only [px_lits, false_implies, true_implies, px_dec_ok, px_run_s, px_rules, px_rule_is, px_mats, px_calls, ↓reduceIte, eq_self, Bool.false_eq_true, px_flds, px_o_some, px_fvs, px_pfs, px_cts, px_cls, px_acs_, px_acn, true_and, and_true, true_or, or_true, false_or, or_false, and_self, not_true_eq_false, not_false_eq_true, Classical.not_not, Nat.reduceAdd, Nat.reduceSub, Nat.reduceBEq, Nat.reduceLT, Nat.reduceLeDiff, Nat.lt_add_one, px_tg, Int.cast_ofNat_Int, Int.reduceAdd, Int.reduceSub, Int.reduceMul, Int.reduceToNat, Int.reduceLE, Int.reduceLT, Int.reduceNeg, Int.reduceEq, Bool.or_false, Bool.false_or, Bool.or_true, Bool.true_or, List.length_cons, List.length_nil, List.nil_append, List.cons_append, Option.toList_some, Option.toList_none, reduceCtorEq, Option.some.injEq, Nat.zero_le, Nat.reduceMul, Nat.mul_zero, Nat.add_zero, Int.reduceDiv, Int.reduceMod, Int.toNat_natCast, Nat.lt_irrefl, Int.natCast_add, Int.cast_ofNat_Int, px_mds_RX11_0, px_mds_RX11_1, dec_X11_turned]
  simp (disch := omega) only [px_lt_iff, px_le_iff, px_eq_iff]
  have key : ∀ z, pc_trz s i o j = z → Q (some (.inl z)) μ := fun z e => e ▸ h
  clear h
  rcases hs with rfl | rfl <;> rcases ho with rfl | rfl
  all_goals
    repeat' first | apply And.intro | intro _
    all_goals first | (exfalso; omega) | (apply key; unfold pc_trz pc_tr; simp (disch := omega) only [if_pos, if_neg, if_true, if_false, ite_true, ite_false]; done) | (apply key; unfold pc_trz pc_tr; simp (disch := omega) only [if_pos, if_neg, if_true, if_false, ite_true, ite_false]; omega)
set_option maxHeartbeats 4000000 in
set_option maxRecDepth 100000 in
theorem c_X11_turnedBy {G : px_G} {a b : pc_Ch} {μ : px_Mem} {Q : Option px_X → px_Mem → Prop} (ha : pm_ok a) (hb : pm_ok b) (h : Q (some (.inl (pc_trz a.2.1 a.2.2.1 b.2.1 b.2.2.1))) μ) : px_C G yX11_turnedBy cX11_turnedBy 2 (some .int) 1 [.inl (pm_pk a), .inl (pm_pk b)] μ Q := by
  have a3 := ha.2.2.1
  have b3 := hb.2.2.1
  refine px_enter RX11 (by decide +kernel) rfl (by simp) (by simp [px_c1]) ?_
  simp only [List.map_cons, List.map_nil, List.length_cons, List.length_nil, List.replicate, List.append_nil, Nat.reduceAdd, Nat.reduceSub, List.cons_append, List.nil_append]
  refine px_go (fun _ => false) 400 ?_
  simp (disch := omega) only [px_lits, false_implies, true_implies, px_dec_ok, px_run_s, px_rules, px_rule_is, px_mats, px_calls, ↓reduceIte, eq_self, Bool.false_eq_true, px_flds, px_o_some, px_fvs, px_pfs, px_cts, px_cls, px_acs_, px_acn, true_and, and_true, true_or, or_true, false_or, or_false, and_self, not_true_eq_false, not_false_eq_true, Classical.not_not, Nat.reduceAdd, Nat.reduceSub, Nat.reduceBEq, Nat.reduceLT, Nat.reduceLeDiff, Nat.lt_add_one, px_tg, Int.cast_ofNat_Int, Int.reduceAdd, Int.reduceSub, Int.reduceMul, Int.reduceToNat, Int.reduceLE, Int.reduceLT, Int.reduceNeg, Int.reduceEq, Bool.or_false, Bool.false_or, Bool.or_true, Bool.true_or, List.length_cons, List.length_nil, List.nil_append, List.cons_append, Option.toList_some, Option.toList_none, reduceCtorEq, Option.some.injEq, Nat.zero_le, Nat.reduceMul, Nat.mul_zero, Nat.add_zero, Int.reduceDiv, Int.reduceMod, Int.toNat_natCast, Nat.lt_irrefl, Int.natCast_add, Int.cast_ofNat_Int, px_mds_RX11_0, px_mds_RX11_1, dec_X11_turnedBy, px_eq_iff, px_lt_iff, px_le_iff, px_up_o, px_up_eq, px_up_ne, px_cp_o]
  refine c_X11_sort ha ?_
  refine px_go (fun _ => false) 400 ?_
  simp (disch := omega) only [px_lits, false_implies, true_implies, px_dec_ok, px_run_s, px_rules, px_rule_is, px_mats, px_calls, ↓reduceIte, eq_self, Bool.false_eq_true, px_flds, px_o_some, px_fvs, px_pfs, px_cts, px_cls, px_acs_, px_acn, true_and, and_true, true_or, or_true, false_or, or_false, and_self, not_true_eq_false, not_false_eq_true, Classical.not_not, Nat.reduceAdd, Nat.reduceSub, Nat.reduceBEq, Nat.reduceLT, Nat.reduceLeDiff, Nat.lt_add_one, px_tg, Int.cast_ofNat_Int, Int.reduceAdd, Int.reduceSub, Int.reduceMul, Int.reduceToNat, Int.reduceLE, Int.reduceLT, Int.reduceNeg, Int.reduceEq, Bool.or_false, Bool.false_or, Bool.or_true, Bool.true_or, List.length_cons, List.length_nil, List.nil_append, List.cons_append, Option.toList_some, Option.toList_none, reduceCtorEq, Option.some.injEq, Nat.zero_le, Nat.reduceMul, Nat.mul_zero, Nat.add_zero, Int.reduceDiv, Int.reduceMod, Int.toNat_natCast, Nat.lt_irrefl, Int.natCast_add, Int.cast_ofNat_Int, px_mds_RX11_0, px_mds_RX11_1, dec_X11_turnedBy, px_eq_iff, px_lt_iff, px_le_iff, px_up_o, px_up_eq, px_up_ne, px_cp_o]
  refine c_X11_place ha ?_
  refine px_go (fun _ => false) 400 ?_
  simp (disch := omega) only [px_lits, false_implies, true_implies, px_dec_ok, px_run_s, px_rules, px_rule_is, px_mats, px_calls, ↓reduceIte, eq_self, Bool.false_eq_true, px_flds, px_o_some, px_fvs, px_pfs, px_cts, px_cls, px_acs_, px_acn, true_and, and_true, true_or, or_true, false_or, or_false, and_self, not_true_eq_false, not_false_eq_true, Classical.not_not, Nat.reduceAdd, Nat.reduceSub, Nat.reduceBEq, Nat.reduceLT, Nat.reduceLeDiff, Nat.lt_add_one, px_tg, Int.cast_ofNat_Int, Int.reduceAdd, Int.reduceSub, Int.reduceMul, Int.reduceToNat, Int.reduceLE, Int.reduceLT, Int.reduceNeg, Int.reduceEq, Bool.or_false, Bool.false_or, Bool.or_true, Bool.true_or, List.length_cons, List.length_nil, List.nil_append, List.cons_append, Option.toList_some, Option.toList_none, reduceCtorEq, Option.some.injEq, Nat.zero_le, Nat.reduceMul, Nat.mul_zero, Nat.add_zero, Int.reduceDiv, Int.reduceMod, Int.toNat_natCast, Nat.lt_irrefl, Int.natCast_add, Int.cast_ofNat_Int, px_mds_RX11_0, px_mds_RX11_1, dec_X11_turnedBy, px_eq_iff, px_lt_iff, px_le_iff, px_up_o, px_up_eq, px_up_ne, px_cp_o]
  refine c_X11_sort hb ?_
  refine px_go (fun _ => false) 400 ?_
  simp (disch := omega) only [px_lits, false_implies, true_implies, px_dec_ok, px_run_s, px_rules, px_rule_is, px_mats, px_calls, ↓reduceIte, eq_self, Bool.false_eq_true, px_flds, px_o_some, px_fvs, px_pfs, px_cts, px_cls, px_acs_, px_acn, true_and, and_true, true_or, or_true, false_or, or_false, and_self, not_true_eq_false, not_false_eq_true, Classical.not_not, Nat.reduceAdd, Nat.reduceSub, Nat.reduceBEq, Nat.reduceLT, Nat.reduceLeDiff, Nat.lt_add_one, px_tg, Int.cast_ofNat_Int, Int.reduceAdd, Int.reduceSub, Int.reduceMul, Int.reduceToNat, Int.reduceLE, Int.reduceLT, Int.reduceNeg, Int.reduceEq, Bool.or_false, Bool.false_or, Bool.or_true, Bool.true_or, List.length_cons, List.length_nil, List.nil_append, List.cons_append, Option.toList_some, Option.toList_none, reduceCtorEq, Option.some.injEq, Nat.zero_le, Nat.reduceMul, Nat.mul_zero, Nat.add_zero, Int.reduceDiv, Int.reduceMod, Int.toNat_natCast, Nat.lt_irrefl, Int.natCast_add, Int.cast_ofNat_Int, px_mds_RX11_0, px_mds_RX11_1, dec_X11_turnedBy, px_eq_iff, px_lt_iff, px_le_iff, px_up_o, px_up_eq, px_up_ne, px_cp_o]
  refine c_X11_place hb ?_
  refine px_go (fun _ => false) 400 ?_
  simp (disch := omega) only [px_lits, false_implies, true_implies, px_dec_ok, px_run_s, px_rules, px_rule_is, px_mats, px_calls, ↓reduceIte, eq_self, Bool.false_eq_true, px_flds, px_o_some, px_fvs, px_pfs, px_cts, px_cls, px_acs_, px_acn, true_and, and_true, true_or, or_true, false_or, or_false, and_self, not_true_eq_false, not_false_eq_true, Classical.not_not, Nat.reduceAdd, Nat.reduceSub, Nat.reduceBEq, Nat.reduceLT, Nat.reduceLeDiff, Nat.lt_add_one, px_tg, Int.cast_ofNat_Int, Int.reduceAdd, Int.reduceSub, Int.reduceMul, Int.reduceToNat, Int.reduceLE, Int.reduceLT, Int.reduceNeg, Int.reduceEq, Bool.or_false, Bool.false_or, Bool.or_true, Bool.true_or, List.length_cons, List.length_nil, List.nil_append, List.cons_append, Option.toList_some, Option.toList_none, reduceCtorEq, Option.some.injEq, Nat.zero_le, Nat.reduceMul, Nat.mul_zero, Nat.add_zero, Int.reduceDiv, Int.reduceMod, Int.toNat_natCast, Nat.lt_irrefl, Int.natCast_add, Int.cast_ofNat_Int, px_mds_RX11_0, px_mds_RX11_1, dec_X11_turnedBy, px_eq_iff, px_lt_iff, px_le_iff, px_up_o, px_up_eq, px_up_ne, px_cp_o]
  refine c_X11_turned ha.2.1 hb.2.1 (by omega) (by omega) ?_
  refine px_go (fun _ => false) 400 ?_
  simp (disch := omega) only [px_lits, false_implies, true_implies, px_dec_ok, px_run_s, px_rules, px_rule_is, px_mats, px_calls, ↓reduceIte, eq_self, Bool.false_eq_true, px_flds, px_o_some, px_fvs, px_pfs, px_cts, px_cls, px_acs_, px_acn, true_and, and_true, true_or, or_true, false_or, or_false, and_self, not_true_eq_false, not_false_eq_true, Classical.not_not, Nat.reduceAdd, Nat.reduceSub, Nat.reduceBEq, Nat.reduceLT, Nat.reduceLeDiff, Nat.lt_add_one, px_tg, Int.cast_ofNat_Int, Int.reduceAdd, Int.reduceSub, Int.reduceMul, Int.reduceToNat, Int.reduceLE, Int.reduceLT, Int.reduceNeg, Int.reduceEq, Bool.or_false, Bool.false_or, Bool.or_true, Bool.true_or, List.length_cons, List.length_nil, List.nil_append, List.cons_append, Option.toList_some, Option.toList_none, reduceCtorEq, Option.some.injEq, Nat.zero_le, Nat.reduceMul, Nat.mul_zero, Nat.add_zero, Int.reduceDiv, Int.reduceMod, Int.toNat_natCast, Nat.lt_irrefl, Int.natCast_add, Int.cast_ofNat_Int, px_mds_RX11_0, px_mds_RX11_1, dec_X11_turnedBy, px_eq_iff, px_lt_iff, px_le_iff, px_up_o, px_up_eq, px_up_ne, px_cp_o]
  exact h
/-- a row, from a place on, holds these -/
def pm_at (μ : px_Mem) (a : Nat) (f : Int) (L : List pc_Ch) : Prop := ∀ (i : Nat) (c : pc_Ch), L[i]? = some c → μ a (f + i) = pm_pk c
theorem pm_at.same {μ μ1 : px_Mem} {a : Nat} {f : Int} {L : List pc_Ch} (h : pm_at μ a f L) (e : μ1 a = μ a) : pm_at μ1 a f L := fun i c hc => by rw [e]; exact h i c hc
set_option maxHeartbeats 4000000 in
set_option maxRecDepth 100000 in
theorem c_X11_isTurned {G : px_G} {a : Nat} {i : Nat} {L : List pc_Ch} {μ : px_Mem} {Q : Option px_X → px_Mem → Prop} (ha : px_kd a = 20) (hl : L.length ≤ px_ln a) (hi : i + 1 < L.length) (hv : pc_V L) (hr : pm_at μ a 0 L)
    (h1 : ∀ (L1 : List pc_Ch) (μ1 : px_Mem), pc_sw L i = some L1 → (∀ o, o ≠ a → μ1 o = μ o) → (∀ j : Int, j ≠ i → j ≠ i + 1 → μ1 a j = μ a j) → pm_at μ1 a 0 L1 → Q (some (.inl 1)) μ1) (h0 : pc_sw L i = none → Q (some (.inl 0)) μ) : px_C G yX11_isTurned cX11_isTurned 4 (some .boolean) 2 [.inr (.inl (some a)), .inl i] μ Q := by
  obtain ⟨x, hx⟩ : ∃ x, L[i]? = some x := ⟨_, List.getElem?_eq_getElem (by omega)⟩
  obtain ⟨y, hy⟩ : ∃ y, L[i + 1]? = some y := ⟨_, List.getElem?_eq_getElem hi⟩
  have ox := hv.ok (List.mem_of_getElem? hx)
  have oy := hv.ok (List.mem_of_getElem? hy)
  have px := hv.place (List.mem_of_getElem? hx)
  have py := hv.place (List.mem_of_getElem? hy)
  have mx := hr i x hx
  have my := hr (i + 1) y hy
  have lnle := px_ln_le a
  rw [Int.zero_add] at mx my
  rw [Int.natCast_add] at my
  have hsw := pc_sw_at hx hy
  refine px_enter RX11 (by decide +kernel) rfl (by simp) (by simp [px_c1]) ?_
  simp only [List.map_cons, List.map_nil, List.length_cons, List.length_nil, List.replicate, List.append_nil, Nat.reduceAdd, Nat.reduceSub, List.cons_append, List.nil_append]
  refine px_go (fun _ => false) 400 ?_
  simp (disch := omega) only [px_lits, false_implies, true_implies, px_dec_ok, px_run_s, px_rules, px_rule_is, px_mats, px_calls, ↓reduceIte, eq_self, Bool.false_eq_true, px_flds, px_o_some, px_fvs, px_pfs, px_cts, px_cls, px_acs_, px_acn, true_and, and_true, true_or, or_true, false_or, or_false, and_self, not_true_eq_false, not_false_eq_true, Classical.not_not, Nat.reduceAdd, Nat.reduceSub, Nat.reduceBEq, Nat.reduceLT, Nat.reduceLeDiff, Nat.lt_add_one, px_tg, Int.cast_ofNat_Int, Int.reduceAdd, Int.reduceSub, Int.reduceMul, Int.reduceToNat, Int.reduceLE, Int.reduceLT, Int.reduceNeg, Int.reduceEq, Bool.or_false, Bool.false_or, Bool.or_true, Bool.true_or, List.length_cons, List.length_nil, List.nil_append, List.cons_append, Option.toList_some, Option.toList_none, reduceCtorEq, Option.some.injEq, Nat.zero_le, Nat.reduceMul, Nat.mul_zero, Nat.add_zero, Int.reduceDiv, Int.reduceMod, Int.toNat_natCast, Nat.lt_irrefl, Int.natCast_add, Int.cast_ofNat_Int, px_mds_RX11_0, px_mds_RX11_1, dec_X11_isTurned, px_eq_iff, px_lt_iff, px_le_iff, px_up_o, px_up_eq, px_up_ne, px_cp_o, ha]
  repeat refine ⟨by omega, ?_⟩
  rw [mx, show ((i : Int) + 1) = (i : Int) + ((1 : Nat) : Int) by omega, my]
  refine c_X11_turnedBy ox oy ?_
  cases ht : pc_tr x.2.1 x.2.2.1 y.2.1 y.2.2.1 with
  | none =>
    rw [pc_trz_none ht]
    refine px_go (fun _ => false) 400 ?_
    simp (disch := omega) only [px_lits, false_implies, true_implies, px_dec_ok, px_run_s, px_rules, px_rule_is, px_mats, px_calls, ↓reduceIte, eq_self, Bool.false_eq_true, px_flds, px_o_some, px_fvs, px_pfs, px_cts, px_cls, px_acs_, px_acn, true_and, and_true, true_or, or_true, false_or, or_false, and_self, not_true_eq_false, not_false_eq_true, Classical.not_not, Nat.reduceAdd, Nat.reduceSub, Nat.reduceBEq, Nat.reduceLT, Nat.reduceLeDiff, Nat.lt_add_one, px_tg, Int.cast_ofNat_Int, Int.reduceAdd, Int.reduceSub, Int.reduceMul, Int.reduceToNat, Int.reduceLE, Int.reduceLT, Int.reduceNeg, Int.reduceEq, Bool.or_false, Bool.false_or, Bool.or_true, Bool.true_or, List.length_cons, List.length_nil, List.nil_append, List.cons_append, Option.toList_some, Option.toList_none, reduceCtorEq, Option.some.injEq, Nat.zero_le, Nat.reduceMul, Nat.mul_zero, Nat.add_zero, Int.reduceDiv, Int.reduceMod, Int.toNat_natCast, Nat.lt_irrefl, Int.natCast_add, Int.cast_ofNat_Int, px_mds_RX11_0, px_mds_RX11_1, dec_X11_isTurned, px_eq_iff, px_lt_iff, px_le_iff, px_up_o, px_up_eq, px_up_ne, px_cp_o, ha]
    refine h0 ?_
    rw [hsw]
    simp only [pc_sw2, ht]
    rfl
  | some q =>
    obtain ⟨k, m⟩ := q
    have hb := pc_tr_bd ht px.1 py.1
    rw [pc_trz_some ht]
    have d1 : (100 * k + m) / 100 = k := by omega
    have d2 : (100 * k + m) % 100 = m := by omega
    refine px_go (fun _ => false) 400 ?_
    simp (disch := omega) only [px_lits, false_implies, true_implies, px_dec_ok, px_run_s, px_rules, px_rule_is, px_mats, px_calls, ↓reduceIte, eq_self, Bool.false_eq_true, px_flds, px_o_some, px_fvs, px_pfs, px_cts, px_cls, px_acs_, px_acn, true_and, and_true, true_or, or_true, false_or, or_false, and_self, not_true_eq_false, not_false_eq_true, Classical.not_not, Nat.reduceAdd, Nat.reduceSub, Nat.reduceBEq, Nat.reduceLT, Nat.reduceLeDiff, Nat.lt_add_one, px_tg, Int.cast_ofNat_Int, Int.reduceAdd, Int.reduceSub, Int.reduceMul, Int.reduceToNat, Int.reduceLE, Int.reduceLT, Int.reduceNeg, Int.reduceEq, Bool.or_false, Bool.false_or, Bool.or_true, Bool.true_or, List.length_cons, List.length_nil, List.nil_append, List.cons_append, Option.toList_some, Option.toList_none, reduceCtorEq, Option.some.injEq, Nat.zero_le, Nat.reduceMul, Nat.mul_zero, Nat.add_zero, Int.reduceDiv, Int.reduceMod, Int.toNat_natCast, Nat.lt_irrefl, Int.natCast_add, Int.cast_ofNat_Int, px_mds_RX11_0, px_mds_RX11_1, dec_X11_isTurned, px_eq_iff, px_lt_iff, px_le_iff, px_up_o, px_up_eq, px_up_ne, px_cp_o, ha, d1, d2]
    refine ⟨fun _ => ?_, fun q => by omega⟩
    repeat refine ⟨by omega, ?_⟩
    rw [show ((i : Int) + 1) = (i : Int) + ((1 : Nat) : Int) by omega, my, mx]
    refine c_X11_moved oy ?_
    refine px_go (fun _ => false) 400 ?_
    simp (disch := omega) only [px_lits, false_implies, true_implies, px_dec_ok, px_run_s, px_rules, px_rule_is, px_mats, px_calls, ↓reduceIte, eq_self, Bool.false_eq_true, px_flds, px_o_some, px_fvs, px_pfs, px_cts, px_cls, px_acs_, px_acn, true_and, and_true, true_or, or_true, false_or, or_false, and_self, not_true_eq_false, not_false_eq_true, Classical.not_not, Nat.reduceAdd, Nat.reduceSub, Nat.reduceBEq, Nat.reduceLT, Nat.reduceLeDiff, Nat.lt_add_one, px_tg, Int.cast_ofNat_Int, Int.reduceAdd, Int.reduceSub, Int.reduceMul, Int.reduceToNat, Int.reduceLE, Int.reduceLT, Int.reduceNeg, Int.reduceEq, Bool.or_false, Bool.false_or, Bool.or_true, Bool.true_or, List.length_cons, List.length_nil, List.nil_append, List.cons_append, Option.toList_some, Option.toList_none, reduceCtorEq, Option.some.injEq, Nat.zero_le, Nat.reduceMul, Nat.mul_zero, Nat.add_zero, Int.reduceDiv, Int.reduceMod, Int.toNat_natCast, Nat.lt_irrefl, Int.natCast_add, Int.cast_ofNat_Int, px_mds_RX11_0, px_mds_RX11_1, dec_X11_isTurned, px_eq_iff, px_lt_iff, px_le_iff, px_up_o, px_up_eq, px_up_ne, px_cp_o, ha, d1, d2]
    repeat refine ⟨by omega, ?_⟩
    refine c_X11_moved ox ?_
    refine px_go (fun _ => false) 400 ?_
    simp (disch := omega) only [px_lits, false_implies, true_implies, px_dec_ok, px_run_s, px_rules, px_rule_is, px_mats, px_calls, ↓reduceIte, eq_self, Bool.false_eq_true, px_flds, px_o_some, px_fvs, px_pfs, px_cts, px_cls, px_acs_, px_acn, true_and, and_true, true_or, or_true, false_or, or_false, and_self, not_true_eq_false, not_false_eq_true, Classical.not_not, Nat.reduceAdd, Nat.reduceSub, Nat.reduceBEq, Nat.reduceLT, Nat.reduceLeDiff, Nat.lt_add_one, px_tg, Int.cast_ofNat_Int, Int.reduceAdd, Int.reduceSub, Int.reduceMul, Int.reduceToNat, Int.reduceLE, Int.reduceLT, Int.reduceNeg, Int.reduceEq, Bool.or_false, Bool.false_or, Bool.or_true, Bool.true_or, List.length_cons, List.length_nil, List.nil_append, List.cons_append, Option.toList_some, Option.toList_none, reduceCtorEq, Option.some.injEq, Nat.zero_le, Nat.reduceMul, Nat.mul_zero, Nat.add_zero, Int.reduceDiv, Int.reduceMod, Int.toNat_natCast, Nat.lt_irrefl, Int.natCast_add, Int.cast_ofNat_Int, px_mds_RX11_0, px_mds_RX11_1, dec_X11_isTurned, px_eq_iff, px_lt_iff, px_le_iff, px_up_o, px_up_eq, px_up_ne, px_cp_o, ha, d1, d2]
    repeat refine ⟨by omega, ?_⟩
    refine h1 _ _ (by rw [hsw]; simp only [pc_sw2, ht, Option.map_some]; rfl) (fun o ho => ?_) (fun j j1 j2 => ?_) ?_
    · simp (disch := omega) only [px_up_o]
    · simp (disch := omega) only [px_up_ne]
    · intro j c hc
      rw [List.getElem?_set, List.getElem?_set, List.length_set] at hc
      rw [Int.zero_add]
      by_cases c1 : i + 1 = j
      · rw [if_pos c1, if_pos hi] at hc
        cases hc
        simp (disch := omega) only [px_up_eq]
      · rw [if_neg c1] at hc
        by_cases c2 : i = j
        · rw [if_pos c2, if_pos (by omega)] at hc
          cases hc
          simp (disch := omega) only [px_up_eq, px_up_ne]
        · rw [if_neg c2] at hc
          have := hr j c hc
          rw [Int.zero_add] at this
          simp (disch := omega) only [px_up_ne]
          exact this
end
section
/-! ===== the reference: rows; bringing, needs, the front ===== -/
theorem px_cp_step {μ : px_Mem} {a c : Nat} {sp dp : Int} {k : Nat} (h : a ≠ c ∨ dp ≤ sp) : px_up (px_cp μ a sp c dp k) c (dp + k) (px_cp μ a sp c dp k a (sp + k)) = px_cp μ a sp c dp (k + 1) := by
  funext o i
  unfold px_up px_cp
  by_cases h1 : o = c ∧ i = dp + k
  · rw [if_pos h1, if_neg, if_pos ⟨h1.1, by omega, by omega⟩, h1.2, show sp + (dp + (k : Int) - dp) = sp + k by omega]
    intro q
    omega
  · rw [if_neg h1]
    by_cases h2 : o = c ∧ dp ≤ i ∧ i < dp + k
    · rw [if_pos h2, if_pos ⟨h2.1, by omega, by omega⟩]
    · rw [if_neg h2, if_neg]
      intro q
      apply h2
      refine ⟨q.1, q.2.1, ?_⟩
      rcases (show i < dp + k ∨ i = dp + k by omega) with r | r
      · exact r
      · exact absurd ⟨q.1, r⟩ h1
set_option maxHeartbeats 4000000 in
set_option maxRecDepth 100000 in
theorem c_X11_bring {G : px_G} {a c : Nat} {sp dp : Int} {n : Nat} {μ : px_Mem} {Q : Option px_X → px_Mem → Prop} (ha : px_kd a = 20) (hc : px_kd c = 20) (h : a ≠ c ∨ dp ≤ sp) (hs : 0 ≤ sp ∧ sp + n ≤ px_ln a) (hd : 0 ≤ dp ∧ dp + n ≤ px_ln c) (h1 : Q none (px_cp μ a sp c dp n)) : px_C G yX11_bring cX11_bring 6 none 0 [.inr (.inl (some a)), .inl sp, .inr (.inl (some c)), .inl dp, .inl n] μ Q := by
  have l1 := px_ln_le a
  have l2 := px_ln_le c
  have loop : ∀ (m k : Nat), k + m = n → px_J G RX11 cX11_bring 6 none 0 3 [some (.inr (.inl (some a))), some (.inl sp), some (.inr (.inl (some c))), some (.inl dp), some (.inl n), some (.inl k)] [] (px_cp μ a sp c dp k) Q := by
    intro m
    induction m with
    | zero =>
      intro k hk
      refine px_go (fun p => p == 3) 400 ?_
      simp only [px_lits, false_implies, true_implies, px_dec_ok, px_run_s, px_rules, px_rule_is, px_mats, px_calls, ↓reduceIte, eq_self, Bool.false_eq_true, px_flds, px_o_some, px_fvs, px_pfs, px_cts, px_cls, px_acs_, px_acn, true_and, and_true, true_or, or_true, false_or, or_false, and_self, not_true_eq_false, not_false_eq_true, Classical.not_not, Nat.reduceAdd, Nat.reduceSub, Nat.reduceBEq, Nat.reduceLT, Nat.reduceLeDiff, Nat.lt_add_one, px_tg, Int.cast_ofNat_Int, Int.reduceAdd, Int.reduceSub, Int.reduceMul, Int.reduceToNat, Int.reduceLE, Int.reduceLT, Int.reduceNeg, Int.reduceEq, Bool.or_false, Bool.false_or, Bool.or_true, Bool.true_or, List.length_cons, List.length_nil, List.nil_append, List.cons_append, Option.toList_some, Option.toList_none, reduceCtorEq, Option.some.injEq, Nat.zero_le, Nat.reduceMul, Nat.mul_zero, Nat.add_zero, Int.reduceDiv, Int.reduceMod, Int.toNat_natCast, Nat.lt_irrefl, Int.natCast_add, Int.cast_ofNat_Int, px_mds_RX11_0, px_mds_RX11_1, dec_X11_bring, ha, hc]
      simp (disch := omega) only [px_le_iff]
      refine ⟨fun _ => ?_, fun q => absurd (by omega) q⟩
      rw [show k = n by omega]
      exact h1
    | succ m ih =>
      intro k hk
      refine px_go (fun p => p == 3) 400 ?_
      simp only [px_lits, false_implies, true_implies, px_dec_ok, px_run_s, px_rules, px_rule_is, px_mats, px_calls, ↓reduceIte, eq_self, Bool.false_eq_true, px_flds, px_o_some, px_fvs, px_pfs, px_cts, px_cls, px_acs_, px_acn, true_and, and_true, true_or, or_true, false_or, or_false, and_self, not_true_eq_false, not_false_eq_true, Classical.not_not, Nat.reduceAdd, Nat.reduceSub, Nat.reduceBEq, Nat.reduceLT, Nat.reduceLeDiff, Nat.lt_add_one, px_tg, Int.cast_ofNat_Int, Int.reduceAdd, Int.reduceSub, Int.reduceMul, Int.reduceToNat, Int.reduceLE, Int.reduceLT, Int.reduceNeg, Int.reduceEq, Bool.or_false, Bool.false_or, Bool.or_true, Bool.true_or, List.length_cons, List.length_nil, List.nil_append, List.cons_append, Option.toList_some, Option.toList_none, reduceCtorEq, Option.some.injEq, Nat.zero_le, Nat.reduceMul, Nat.mul_zero, Nat.add_zero, Int.reduceDiv, Int.reduceMod, Int.toNat_natCast, Nat.lt_irrefl, Int.natCast_add, Int.cast_ofNat_Int, px_mds_RX11_0, px_mds_RX11_1, dec_X11_bring, ha, hc]
      simp (disch := omega) only [px_le_iff]
      refine ⟨fun q => by omega, fun _ => ⟨by omega, by omega, ?_⟩⟩
      rw [px_cp_step h]
      have := ih (k + 1) (by omega)
      rwa [Int.natCast_add] at this
  have e0 : px_cp μ a sp c dp ((0 : Nat) : Int) = μ := by
    funext o i
    unfold px_cp
    rw [if_neg]
    intro q
    omega
  refine px_enter RX11 (by decide +kernel) rfl (by simp) (by simp [px_c1]) ?_
  simp only [List.map_cons, List.map_nil, List.length_cons, List.length_nil, List.replicate, List.append_nil, Nat.reduceAdd, Nat.reduceSub, List.cons_append, List.nil_append]
  refine px_go (fun p => p == 3) 400 ?_
  simp only [px_lits, false_implies, true_implies, px_dec_ok, px_run_s, px_rules, px_rule_is, px_mats, px_calls, ↓reduceIte, eq_self, Bool.false_eq_true, px_flds, px_o_some, px_fvs, px_pfs, px_cts, px_cls, px_acs_, px_acn, true_and, and_true, true_or, or_true, false_or, or_false, and_self, not_true_eq_false, not_false_eq_true, Classical.not_not, Nat.reduceAdd, Nat.reduceSub, Nat.reduceBEq, Nat.reduceLT, Nat.reduceLeDiff, Nat.lt_add_one, px_tg, Int.cast_ofNat_Int, Int.reduceAdd, Int.reduceSub, Int.reduceMul, Int.reduceToNat, Int.reduceLE, Int.reduceLT, Int.reduceNeg, Int.reduceEq, Bool.or_false, Bool.false_or, Bool.or_true, Bool.true_or, List.length_cons, List.length_nil, List.nil_append, List.cons_append, Option.toList_some, Option.toList_none, reduceCtorEq, Option.some.injEq, Nat.zero_le, Nat.reduceMul, Nat.mul_zero, Nat.add_zero, Int.reduceDiv, Int.reduceMod, Int.toNat_natCast, Nat.lt_irrefl, Int.natCast_add, Int.cast_ofNat_Int, px_mds_RX11_0, px_mds_RX11_1, dec_X11_bring, ha, hc]
  have := loop n 0 (by omega)
  rw [e0] at this
  exact this
theorem pm_at.cp {μ : px_Mem} {a c : Nat} {sp dp : Int} {n : Nat} {L : List pc_Ch} (h : pm_at μ a sp L) (hn : L.length ≤ n) : pm_at (px_cp μ a sp c dp n) c dp L := by
  intro i x hx
  have := (List.getElem?_eq_some_iff.mp hx).1
  rw [px_cp_in (by omega), show sp + (dp + (i : Int) - dp) = sp + i by omega]
  exact h i x hx
theorem pm_at.app {μ : px_Mem} {a : Nat} {f : Int} {L R : List pc_Ch} (h1 : pm_at μ a f L) (h2 : pm_at μ a (f + L.length) R) : pm_at μ a f (L ++ R) := by
  intro i c hc
  rw [List.getElem?_append] at hc
  split at hc
  · exact h1 i c hc
  · rename_i q
    have := h2 _ c hc
    rw [show f + (L.length : Int) + ((i - L.length : Nat) : Int) = f + i by omega] at this
    exact this
theorem pm_at.sub {μ : px_Mem} {a : Nat} {f : Int} {L : List pc_Ch} (h : pm_at μ a f L) (n : Nat) : pm_at μ a f (L.take n) ∧ pm_at μ a (f + n) (L.drop n) := by
  refine ⟨fun i c hc => ?_, fun i c hc => ?_⟩
  · rw [List.getElem?_take] at hc
    split at hc
    · exact h i c hc
    · cases hc
  · rw [List.getElem?_drop] at hc
    have := h _ c hc
    rw [Int.natCast_add] at this
    rw [Int.add_assoc]
    exact this
set_option maxHeartbeats 4000000 in
set_option maxRecDepth 100000 in
theorem c_X11_isBroughtF {G : px_G} {a : Nat} {f t : Nat} {L : List pc_Ch} {μ : px_Mem} {Q : Option px_X → px_Mem → Prop} (ha : px_kd a = 20) (hl : L.length ≤ px_ln a) (hf : f ≤ t) (ht : t < L.length) (hv : pc_V L) (hr : pm_at μ a 0 L)
    (h1 : ∀ (L1 : List pc_Ch) (μ1 : px_Mem), pc_brF (t - f) L f = some L1 → (∀ o, o ≠ a → μ1 o = μ o) → pm_at μ1 a 0 L1 → Q (some (.inl 1)) μ1) (h0 : ∀ μ1 : px_Mem, pc_brF (t - f) L f = none → (∀ o, o ≠ a → μ1 o = μ o) → Q (some (.inl 0)) μ1) : px_C G yX11_isBrought cX11_isBrought 4 (some .boolean) 3 [.inr (.inl (some a)), .inl f, .inl t] μ Q := by
  have l1 := px_ln_le a
  have loop : ∀ (n i : Nat) (L2 : List pc_Ch) (μ1 : px_Mem), f ≤ i → i + n = t → (∀ o, o ≠ a → μ1 o = μ o) → pc_brF (i - f) L f = some L2 → pm_at μ1 a 0 L2 → px_J G RX11 cX11_isBrought 4 (some .boolean) 3 25 [some (.inr (.inl (some a))), some (.inl f), some (.inl t), some (.inl i)] [] μ1 Q := by
    intro n
    induction n with
    | zero =>
      intro i L2 μ1 h2 h3 h4 h5 h6
      refine px_go (fun p => p == 25) 400 ?_
      simp (disch := omega) only [px_lits, false_implies, true_implies, px_dec_ok, px_run_s, px_rules, px_rule_is, px_mats, px_calls, ↓reduceIte, eq_self, Bool.false_eq_true, px_flds, px_o_some, px_fvs, px_pfs, px_cts, px_cls, px_acs_, px_acn, true_and, and_true, true_or, or_true, false_or, or_false, and_self, not_true_eq_false, not_false_eq_true, Classical.not_not, Nat.reduceAdd, Nat.reduceSub, Nat.reduceBEq, Nat.reduceLT, Nat.reduceLeDiff, Nat.lt_add_one, px_tg, Int.cast_ofNat_Int, Int.reduceAdd, Int.reduceSub, Int.reduceMul, Int.reduceToNat, Int.reduceLE, Int.reduceLT, Int.reduceNeg, Int.reduceEq, Bool.or_false, Bool.false_or, Bool.or_true, Bool.true_or, List.length_cons, List.length_nil, List.nil_append, List.cons_append, Option.toList_some, Option.toList_none, reduceCtorEq, Option.some.injEq, Nat.zero_le, Nat.reduceMul, Nat.mul_zero, Nat.add_zero, Int.reduceDiv, Int.reduceMod, Int.toNat_natCast, Nat.lt_irrefl, Int.natCast_add, Int.cast_ofNat_Int, px_mds_RX11_0, px_mds_RX11_1, dec_X11_isBrought, px_eq_iff, px_lt_iff, px_le_iff, px_up_o, px_up_eq, px_up_ne, px_cp_o, ha]
      exact ⟨fun _ => h1 L2 μ1 (by rw [show t = i by omega]; exact h5) h4 h6, fun q => absurd (by omega) q⟩
    | succ n ih =>
      intro i L2 μ1 h2 h3 h4 h5 h6
      have hk := pc_brF_keep h5
      have hsn := pc_brF_snoc (i - f) L f
      rw [h5, Option.bind_some, show f + (i - f) = i by omega] at hsn
      refine px_go (fun p => p == 25) 400 ?_
      simp (disch := omega) only [px_lits, false_implies, true_implies, px_dec_ok, px_run_s, px_rules, px_rule_is, px_mats, px_calls, ↓reduceIte, eq_self, Bool.false_eq_true, px_flds, px_o_some, px_fvs, px_pfs, px_cts, px_cls, px_acs_, px_acn, true_and, and_true, true_or, or_true, false_or, or_false, and_self, not_true_eq_false, not_false_eq_true, Classical.not_not, Nat.reduceAdd, Nat.reduceSub, Nat.reduceBEq, Nat.reduceLT, Nat.reduceLeDiff, Nat.lt_add_one, px_tg, Int.cast_ofNat_Int, Int.reduceAdd, Int.reduceSub, Int.reduceMul, Int.reduceToNat, Int.reduceLE, Int.reduceLT, Int.reduceNeg, Int.reduceEq, Bool.or_false, Bool.false_or, Bool.or_true, Bool.true_or, List.length_cons, List.length_nil, List.nil_append, List.cons_append, Option.toList_some, Option.toList_none, reduceCtorEq, Option.some.injEq, Nat.zero_le, Nat.reduceMul, Nat.mul_zero, Nat.add_zero, Int.reduceDiv, Int.reduceMod, Int.toNat_natCast, Nat.lt_irrefl, Int.natCast_add, Int.cast_ofNat_Int, px_mds_RX11_0, px_mds_RX11_1, dec_X11_isBrought, px_eq_iff, px_lt_iff, px_le_iff, px_up_o, px_up_eq, px_up_ne, px_cp_o, ha]
      refine ⟨fun q => by omega, fun _ => ?_⟩
      refine c_X11_isTurned ha (by rw [hk.1]; exact hl) (by rw [hk.1]; omega) (hk.2.1 hv) h6 (fun L3 μ2 e1 e2 e3 e4 => ?_) (fun e1 => ?_)
      · refine px_go (fun p => p == 25) 400 ?_
        simp (disch := omega) only [px_lits, false_implies, true_implies, px_dec_ok, px_run_s, px_rules, px_rule_is, px_mats, px_calls, ↓reduceIte, eq_self, Bool.false_eq_true, px_flds, px_o_some, px_fvs, px_pfs, px_cts, px_cls, px_acs_, px_acn, true_and, and_true, true_or, or_true, false_or, or_false, and_self, not_true_eq_false, not_false_eq_true, Classical.not_not, Nat.reduceAdd, Nat.reduceSub, Nat.reduceBEq, Nat.reduceLT, Nat.reduceLeDiff, Nat.lt_add_one, px_tg, Int.cast_ofNat_Int, Int.reduceAdd, Int.reduceSub, Int.reduceMul, Int.reduceToNat, Int.reduceLE, Int.reduceLT, Int.reduceNeg, Int.reduceEq, Bool.or_false, Bool.false_or, Bool.or_true, Bool.true_or, List.length_cons, List.length_nil, List.nil_append, List.cons_append, Option.toList_some, Option.toList_none, reduceCtorEq, Option.some.injEq, Nat.zero_le, Nat.reduceMul, Nat.mul_zero, Nat.add_zero, Int.reduceDiv, Int.reduceMod, Int.toNat_natCast, Nat.lt_irrefl, Int.natCast_add, Int.cast_ofNat_Int, px_mds_RX11_0, px_mds_RX11_1, dec_X11_isBrought, px_eq_iff, px_lt_iff, px_le_iff, px_up_o, px_up_eq, px_up_ne, px_cp_o, ha]
        have := ih (i + 1) L3 μ2 (by omega) (by omega) (fun o ho => by rw [e2 o ho, h4 o ho]) (by rw [show i + 1 - f = i - f + 1 by omega, hsn, e1]) e4
        rwa [Int.natCast_add] at this
      · refine px_go (fun p => p == 25) 400 ?_
        simp (disch := omega) only [px_lits, false_implies, true_implies, px_dec_ok, px_run_s, px_rules, px_rule_is, px_mats, px_calls, ↓reduceIte, eq_self, Bool.false_eq_true, px_flds, px_o_some, px_fvs, px_pfs, px_cts, px_cls, px_acs_, px_acn, true_and, and_true, true_or, or_true, false_or, or_false, and_self, not_true_eq_false, not_false_eq_true, Classical.not_not, Nat.reduceAdd, Nat.reduceSub, Nat.reduceBEq, Nat.reduceLT, Nat.reduceLeDiff, Nat.lt_add_one, px_tg, Int.cast_ofNat_Int, Int.reduceAdd, Int.reduceSub, Int.reduceMul, Int.reduceToNat, Int.reduceLE, Int.reduceLT, Int.reduceNeg, Int.reduceEq, Bool.or_false, Bool.false_or, Bool.or_true, Bool.true_or, List.length_cons, List.length_nil, List.nil_append, List.cons_append, Option.toList_some, Option.toList_none, reduceCtorEq, Option.some.injEq, Nat.zero_le, Nat.reduceMul, Nat.mul_zero, Nat.add_zero, Int.reduceDiv, Int.reduceMod, Int.toNat_natCast, Nat.lt_irrefl, Int.natCast_add, Int.cast_ofNat_Int, px_mds_RX11_0, px_mds_RX11_1, dec_X11_isBrought, px_eq_iff, px_lt_iff, px_le_iff, px_up_o, px_up_eq, px_up_ne, px_cp_o, ha]
        refine h0 μ1 ?_ h4
        rw [e1] at hsn
        have := pc_brF_none hsn n
        rw [show i - f + 1 + n = t - f by omega] at this
        exact this
  refine px_enter RX11 (by decide +kernel) rfl (by simp) (by simp [px_c1]) ?_
  simp only [List.map_cons, List.map_nil, List.length_cons, List.length_nil, List.replicate, List.append_nil, Nat.reduceAdd, Nat.reduceSub, List.cons_append, List.nil_append]
  refine px_go (fun p => p == 25 || p == 2) 400 ?_
  simp (disch := omega) only [px_lits, false_implies, true_implies, px_dec_ok, px_run_s, px_rules, px_rule_is, px_mats, px_calls, ↓reduceIte, eq_self, Bool.false_eq_true, px_flds, px_o_some, px_fvs, px_pfs, px_cts, px_cls, px_acs_, px_acn, true_and, and_true, true_or, or_true, false_or, or_false, and_self, not_true_eq_false, not_false_eq_true, Classical.not_not, Nat.reduceAdd, Nat.reduceSub, Nat.reduceBEq, Nat.reduceLT, Nat.reduceLeDiff, Nat.lt_add_one, px_tg, Int.cast_ofNat_Int, Int.reduceAdd, Int.reduceSub, Int.reduceMul, Int.reduceToNat, Int.reduceLE, Int.reduceLT, Int.reduceNeg, Int.reduceEq, Bool.or_false, Bool.false_or, Bool.or_true, Bool.true_or, List.length_cons, List.length_nil, List.nil_append, List.cons_append, Option.toList_some, Option.toList_none, reduceCtorEq, Option.some.injEq, Nat.zero_le, Nat.reduceMul, Nat.mul_zero, Nat.add_zero, Int.reduceDiv, Int.reduceMod, Int.toNat_natCast, Nat.lt_irrefl, Int.natCast_add, Int.cast_ofNat_Int, px_mds_RX11_0, px_mds_RX11_1, dec_X11_isBrought, px_eq_iff, px_lt_iff, px_le_iff, px_up_o, px_up_eq, px_up_ne, px_cp_o, ha]
  refine px_go (fun p => p == 25) 400 ?_
  simp (disch := omega) only [px_lits, false_implies, true_implies, px_dec_ok, px_run_s, px_rules, px_rule_is, px_mats, px_calls, ↓reduceIte, eq_self, Bool.false_eq_true, px_flds, px_o_some, px_fvs, px_pfs, px_cts, px_cls, px_acs_, px_acn, true_and, and_true, true_or, or_true, false_or, or_false, and_self, not_true_eq_false, not_false_eq_true, Classical.not_not, Nat.reduceAdd, Nat.reduceSub, Nat.reduceBEq, Nat.reduceLT, Nat.reduceLeDiff, Nat.lt_add_one, px_tg, Int.cast_ofNat_Int, Int.reduceAdd, Int.reduceSub, Int.reduceMul, Int.reduceToNat, Int.reduceLE, Int.reduceLT, Int.reduceNeg, Int.reduceEq, Bool.or_false, Bool.false_or, Bool.or_true, Bool.true_or, List.length_cons, List.length_nil, List.nil_append, List.cons_append, Option.toList_some, Option.toList_none, reduceCtorEq, Option.some.injEq, Nat.zero_le, Nat.reduceMul, Nat.mul_zero, Nat.add_zero, Int.reduceDiv, Int.reduceMod, Int.toNat_natCast, Nat.lt_irrefl, Int.natCast_add, Int.cast_ofNat_Int, px_mds_RX11_0, px_mds_RX11_1, dec_X11_isBrought, px_eq_iff, px_lt_iff, px_le_iff, px_up_o, px_up_eq, px_up_ne, px_cp_o, ha]
  refine ⟨fun _ => loop (t - f) f L μ (by omega) (by omega) (fun _ _ => rfl) (by rw [Nat.sub_self]; rfl) hr, fun q => absurd (by omega) q⟩
set_option maxHeartbeats 4000000 in
set_option maxRecDepth 100000 in
theorem c_X11_isBroughtB {G : px_G} {a : Nat} {f t : Nat} {L : List pc_Ch} {μ : px_Mem} {Q : Option px_X → px_Mem → Prop} (ha : px_kd a = 20) (hl : L.length ≤ px_ln a) (hf : t ≤ f) (ht : f < L.length) (hv : pc_V L) (hr : pm_at μ a 0 L)
    (h1 : ∀ (L1 : List pc_Ch) (μ1 : px_Mem), pc_brB (f - t) L f = some L1 → (∀ o, o ≠ a → μ1 o = μ o) → pm_at μ1 a 0 L1 → Q (some (.inl 1)) μ1) (h0 : ∀ μ1 : px_Mem, pc_brB (f - t) L f = none → (∀ o, o ≠ a → μ1 o = μ o) → Q (some (.inl 0)) μ1) : px_C G yX11_isBrought cX11_isBrought 4 (some .boolean) 3 [.inr (.inl (some a)), .inl f, .inl t] μ Q := by
  have l1 := px_ln_le a
  have loop : ∀ (n i : Nat) (L2 : List pc_Ch) (μ1 : px_Mem), i ≤ f → t + n = i → (∀ o, o ≠ a → μ1 o = μ o) → pc_brB (f - i) L f = some L2 → pm_at μ1 a 0 L2 → px_J G RX11 cX11_isBrought 4 (some .boolean) 3 2 [some (.inr (.inl (some a))), some (.inl f), some (.inl t), some (.inl i)] [] μ1 Q := by
    intro n
    induction n with
    | zero =>
      intro i L2 μ1 h2 h3 h4 h5 h6
      refine px_go (fun p => p == 2) 400 ?_
      simp (disch := omega) only [px_lits, false_implies, true_implies, px_dec_ok, px_run_s, px_rules, px_rule_is, px_mats, px_calls, ↓reduceIte, eq_self, Bool.false_eq_true, px_flds, px_o_some, px_fvs, px_pfs, px_cts, px_cls, px_acs_, px_acn, true_and, and_true, true_or, or_true, false_or, or_false, and_self, not_true_eq_false, not_false_eq_true, Classical.not_not, Nat.reduceAdd, Nat.reduceSub, Nat.reduceBEq, Nat.reduceLT, Nat.reduceLeDiff, Nat.lt_add_one, px_tg, Int.cast_ofNat_Int, Int.reduceAdd, Int.reduceSub, Int.reduceMul, Int.reduceToNat, Int.reduceLE, Int.reduceLT, Int.reduceNeg, Int.reduceEq, Bool.or_false, Bool.false_or, Bool.or_true, Bool.true_or, List.length_cons, List.length_nil, List.nil_append, List.cons_append, Option.toList_some, Option.toList_none, reduceCtorEq, Option.some.injEq, Nat.zero_le, Nat.reduceMul, Nat.mul_zero, Nat.add_zero, Int.reduceDiv, Int.reduceMod, Int.toNat_natCast, Nat.lt_irrefl, Int.natCast_add, Int.cast_ofNat_Int, px_mds_RX11_0, px_mds_RX11_1, dec_X11_isBrought, px_eq_iff, px_lt_iff, px_le_iff, px_up_o, px_up_eq, px_up_ne, px_cp_o, ha]
      refine ⟨fun _ => ⟨fun _ => h1 L2 μ1 (by rw [show t = i by omega]; exact h5) h4 h6, fun q => absurd (by omega) q⟩, fun q => absurd (by omega) q⟩
    | succ n ih =>
      intro i L2 μ1 h2 h3 h4 h5 h6
      have hk := pc_brB_keep h5
      have hsn := pc_brB_snoc (f - i) L f
      rw [h5, Option.bind_some, show f - (f - i) - 1 = i - 1 by omega] at hsn
      refine px_go (fun p => p == 2) 400 ?_
      simp (disch := omega) only [px_lits, false_implies, true_implies, px_dec_ok, px_run_s, px_rules, px_rule_is, px_mats, px_calls, ↓reduceIte, eq_self, Bool.false_eq_true, px_flds, px_o_some, px_fvs, px_pfs, px_cts, px_cls, px_acs_, px_acn, true_and, and_true, true_or, or_true, false_or, or_false, and_self, not_true_eq_false, not_false_eq_true, Classical.not_not, Nat.reduceAdd, Nat.reduceSub, Nat.reduceBEq, Nat.reduceLT, Nat.reduceLeDiff, Nat.lt_add_one, px_tg, Int.cast_ofNat_Int, Int.reduceAdd, Int.reduceSub, Int.reduceMul, Int.reduceToNat, Int.reduceLE, Int.reduceLT, Int.reduceNeg, Int.reduceEq, Bool.or_false, Bool.false_or, Bool.or_true, Bool.true_or, List.length_cons, List.length_nil, List.nil_append, List.cons_append, Option.toList_some, Option.toList_none, reduceCtorEq, Option.some.injEq, Nat.zero_le, Nat.reduceMul, Nat.mul_zero, Nat.add_zero, Int.reduceDiv, Int.reduceMod, Int.toNat_natCast, Nat.lt_irrefl, Int.natCast_add, Int.cast_ofNat_Int, px_mds_RX11_0, px_mds_RX11_1, dec_X11_isBrought, px_eq_iff, px_lt_iff, px_le_iff, px_up_o, px_up_eq, px_up_ne, px_cp_o, ha]
      refine ⟨fun q => by omega, fun _ => ?_⟩
      rw [show ((i : Int) - 1) = ((i - 1 : Nat) : Int) by omega]
      refine c_X11_isTurned ha (by rw [hk.1]; exact hl) (by rw [hk.1]; omega) (hk.2.1 hv) h6 (fun L3 μ2 e1 e2 e3 e4 => ?_) (fun e1 => ?_)
      · refine px_go (fun p => p == 2) 400 ?_
        simp (disch := omega) only [px_lits, false_implies, true_implies, px_dec_ok, px_run_s, px_rules, px_rule_is, px_mats, px_calls, ↓reduceIte, eq_self, Bool.false_eq_true, px_flds, px_o_some, px_fvs, px_pfs, px_cts, px_cls, px_acs_, px_acn, true_and, and_true, true_or, or_true, false_or, or_false, and_self, not_true_eq_false, not_false_eq_true, Classical.not_not, Nat.reduceAdd, Nat.reduceSub, Nat.reduceBEq, Nat.reduceLT, Nat.reduceLeDiff, Nat.lt_add_one, px_tg, Int.cast_ofNat_Int, Int.reduceAdd, Int.reduceSub, Int.reduceMul, Int.reduceToNat, Int.reduceLE, Int.reduceLT, Int.reduceNeg, Int.reduceEq, Bool.or_false, Bool.false_or, Bool.or_true, Bool.true_or, List.length_cons, List.length_nil, List.nil_append, List.cons_append, Option.toList_some, Option.toList_none, reduceCtorEq, Option.some.injEq, Nat.zero_le, Nat.reduceMul, Nat.mul_zero, Nat.add_zero, Int.reduceDiv, Int.reduceMod, Int.toNat_natCast, Nat.lt_irrefl, Int.natCast_add, Int.cast_ofNat_Int, px_mds_RX11_0, px_mds_RX11_1, dec_X11_isBrought, px_eq_iff, px_lt_iff, px_le_iff, px_up_o, px_up_eq, px_up_ne, px_cp_o, ha]
        have := ih (i - 1) L3 μ2 (by omega) (by omega) (fun o ho => by rw [e2 o ho, h4 o ho]) (by rw [show f - (i - 1) = f - i + 1 by omega, hsn, e1]) e4
        rwa [show ((i - 1 : Nat) : Int) = (i : Int) + -1 by omega] at this
      · refine px_go (fun p => p == 2) 400 ?_
        simp (disch := omega) only [px_lits, false_implies, true_implies, px_dec_ok, px_run_s, px_rules, px_rule_is, px_mats, px_calls, ↓reduceIte, eq_self, Bool.false_eq_true, px_flds, px_o_some, px_fvs, px_pfs, px_cts, px_cls, px_acs_, px_acn, true_and, and_true, true_or, or_true, false_or, or_false, and_self, not_true_eq_false, not_false_eq_true, Classical.not_not, Nat.reduceAdd, Nat.reduceSub, Nat.reduceBEq, Nat.reduceLT, Nat.reduceLeDiff, Nat.lt_add_one, px_tg, Int.cast_ofNat_Int, Int.reduceAdd, Int.reduceSub, Int.reduceMul, Int.reduceToNat, Int.reduceLE, Int.reduceLT, Int.reduceNeg, Int.reduceEq, Bool.or_false, Bool.false_or, Bool.or_true, Bool.true_or, List.length_cons, List.length_nil, List.nil_append, List.cons_append, Option.toList_some, Option.toList_none, reduceCtorEq, Option.some.injEq, Nat.zero_le, Nat.reduceMul, Nat.mul_zero, Nat.add_zero, Int.reduceDiv, Int.reduceMod, Int.toNat_natCast, Nat.lt_irrefl, Int.natCast_add, Int.cast_ofNat_Int, px_mds_RX11_0, px_mds_RX11_1, dec_X11_isBrought, px_eq_iff, px_lt_iff, px_le_iff, px_up_o, px_up_eq, px_up_ne, px_cp_o, ha]
        refine h0 μ1 ?_ h4
        rw [e1] at hsn
        have := pc_brB_none hsn n
        rw [show f - i + 1 + n = f - t by omega] at this
        exact this
  refine px_enter RX11 (by decide +kernel) rfl (by simp) (by simp [px_c1]) ?_
  simp only [List.map_cons, List.map_nil, List.length_cons, List.length_nil, List.replicate, List.append_nil, Nat.reduceAdd, Nat.reduceSub, List.cons_append, List.nil_append]
  refine px_go (fun p => p == 2) 400 ?_
  simp (disch := omega) only [px_lits, false_implies, true_implies, px_dec_ok, px_run_s, px_rules, px_rule_is, px_mats, px_calls, ↓reduceIte, eq_self, Bool.false_eq_true, px_flds, px_o_some, px_fvs, px_pfs, px_cts, px_cls, px_acs_, px_acn, true_and, and_true, true_or, or_true, false_or, or_false, and_self, not_true_eq_false, not_false_eq_true, Classical.not_not, Nat.reduceAdd, Nat.reduceSub, Nat.reduceBEq, Nat.reduceLT, Nat.reduceLeDiff, Nat.lt_add_one, px_tg, Int.cast_ofNat_Int, Int.reduceAdd, Int.reduceSub, Int.reduceMul, Int.reduceToNat, Int.reduceLE, Int.reduceLT, Int.reduceNeg, Int.reduceEq, Bool.or_false, Bool.false_or, Bool.or_true, Bool.true_or, List.length_cons, List.length_nil, List.nil_append, List.cons_append, Option.toList_some, Option.toList_none, reduceCtorEq, Option.some.injEq, Nat.zero_le, Nat.reduceMul, Nat.mul_zero, Nat.add_zero, Int.reduceDiv, Int.reduceMod, Int.toNat_natCast, Nat.lt_irrefl, Int.natCast_add, Int.cast_ofNat_Int, px_mds_RX11_0, px_mds_RX11_1, dec_X11_isBrought, px_eq_iff, px_lt_iff, px_le_iff, px_up_o, px_up_eq, px_up_ne, px_cp_o, ha]
  exact loop (f - t) f L μ (by omega) (by omega) (fun _ _ => rfl) (by rw [Nat.sub_self]; rfl) hr
set_option maxHeartbeats 4000000 in
set_option maxRecDepth 100000 in
theorem c_X11_placeIn {G : px_G} {a n : Nat} {x : Int} {L : List pc_Ch} {μ : px_Mem} {Q : Option px_X → px_Mem → Prop} (ha : px_kd a = 20) (hn : L.length = n) (hl : L.length ≤ px_ln a) (hx : -2147483648 ≤ x ∧ x < 2147483648) (hv : pc_V L) (hr : pm_at μ a 0 L)
    (h1 : ∀ z : Int, (z = -1 ∧ (∀ j : Nat, j < n → pc_num L j ≠ x)) ∨ (∃ k : Nat, z = k ∧ k < n ∧ pc_num L k = x) → Q (some (.inl z)) μ) : px_C G yX11_placeIn cX11_placeIn 5 (some .int) 1 [.inr (.inl (some a)), .inl n, .inl x] μ Q := by
  have l1 := px_ln_le a
  have loop : ∀ (m i : Nat) (z : Int), i + m = n → ((z = -1 ∧ (∀ j : Nat, j < i → pc_num L j ≠ x)) ∨ (∃ k : Nat, z = k ∧ k < i ∧ pc_num L k = x)) → px_J G RX11 cX11_placeIn 5 (some .int) 1 5 [some (.inr (.inl (some a))), some (.inl n), some (.inl x), some (.inl z), some (.inl i)] [] μ Q := by
    intro m
    induction m with
    | zero =>
      intro i z h2 h3
      refine px_go (fun p => p == 5) 400 ?_
      simp (disch := omega) only [px_lits, false_implies, true_implies, px_dec_ok, px_run_s, px_rules, px_rule_is, px_mats, px_calls, ↓reduceIte, eq_self, Bool.false_eq_true, px_flds, px_o_some, px_fvs, px_pfs, px_cts, px_cls, px_acs_, px_acn, true_and, and_true, true_or, or_true, false_or, or_false, and_self, not_true_eq_false, not_false_eq_true, Classical.not_not, Nat.reduceAdd, Nat.reduceSub, Nat.reduceBEq, Nat.reduceLT, Nat.reduceLeDiff, Nat.lt_add_one, px_tg, Int.cast_ofNat_Int, Int.reduceAdd, Int.reduceSub, Int.reduceMul, Int.reduceToNat, Int.reduceLE, Int.reduceLT, Int.reduceNeg, Int.reduceEq, Bool.or_false, Bool.false_or, Bool.or_true, Bool.true_or, List.length_cons, List.length_nil, List.nil_append, List.cons_append, Option.toList_some, Option.toList_none, reduceCtorEq, Option.some.injEq, Nat.zero_le, Nat.reduceMul, Nat.mul_zero, Nat.add_zero, Int.reduceDiv, Int.reduceMod, Int.toNat_natCast, Nat.lt_irrefl, Int.natCast_add, Int.cast_ofNat_Int, px_mds_RX11_0, px_mds_RX11_1, dec_X11_placeIn, px_eq_iff, px_lt_iff, px_le_iff, px_up_o, px_up_eq, px_up_ne, px_cp_o, ha]
      refine ⟨fun _ => h1 z ?_, fun q => absurd (by omega) q⟩
      rw [show n = i by omega]
      exact h3
    | succ m ih =>
      intro i z h2 h3
      obtain ⟨c, hc⟩ : ∃ c, L[i]? = some c := ⟨_, List.getElem?_eq_getElem (by omega)⟩
      have oc := hv.ok (List.mem_of_getElem? hc)
      have mc := hr i c hc
      rw [Int.zero_add] at mc
      have nc : pc_num L i = c.1 := by unfold pc_num; rw [hc]; rfl
      have o1 := oc.1
      refine px_go (fun p => p == 5) 400 ?_
      simp (disch := omega) only [px_lits, false_implies, true_implies, px_dec_ok, px_run_s, px_rules, px_rule_is, px_mats, px_calls, ↓reduceIte, eq_self, Bool.false_eq_true, px_flds, px_o_some, px_fvs, px_pfs, px_cts, px_cls, px_acs_, px_acn, true_and, and_true, true_or, or_true, false_or, or_false, and_self, not_true_eq_false, not_false_eq_true, Classical.not_not, Nat.reduceAdd, Nat.reduceSub, Nat.reduceBEq, Nat.reduceLT, Nat.reduceLeDiff, Nat.lt_add_one, px_tg, Int.cast_ofNat_Int, Int.reduceAdd, Int.reduceSub, Int.reduceMul, Int.reduceToNat, Int.reduceLE, Int.reduceLT, Int.reduceNeg, Int.reduceEq, Bool.or_false, Bool.false_or, Bool.or_true, Bool.true_or, List.length_cons, List.length_nil, List.nil_append, List.cons_append, Option.toList_some, Option.toList_none, reduceCtorEq, Option.some.injEq, Nat.zero_le, Nat.reduceMul, Nat.mul_zero, Nat.add_zero, Int.reduceDiv, Int.reduceMod, Int.toNat_natCast, Nat.lt_irrefl, Int.natCast_add, Int.cast_ofNat_Int, px_mds_RX11_0, px_mds_RX11_1, dec_X11_placeIn, px_eq_iff, px_lt_iff, px_le_iff, px_up_o, px_up_eq, px_up_ne, px_cp_o, ha]
      refine ⟨fun q => by omega, fun _ => ⟨by omega, ?_⟩⟩
      rw [mc]
      refine c_X11_number oc ?_
      refine px_go (fun p => p == 5) 400 ?_
      simp (disch := omega) only [px_lits, false_implies, true_implies, px_dec_ok, px_run_s, px_rules, px_rule_is, px_mats, px_calls, ↓reduceIte, eq_self, Bool.false_eq_true, px_flds, px_o_some, px_fvs, px_pfs, px_cts, px_cls, px_acs_, px_acn, true_and, and_true, true_or, or_true, false_or, or_false, and_self, not_true_eq_false, not_false_eq_true, Classical.not_not, Nat.reduceAdd, Nat.reduceSub, Nat.reduceBEq, Nat.reduceLT, Nat.reduceLeDiff, Nat.lt_add_one, px_tg, Int.cast_ofNat_Int, Int.reduceAdd, Int.reduceSub, Int.reduceMul, Int.reduceToNat, Int.reduceLE, Int.reduceLT, Int.reduceNeg, Int.reduceEq, Bool.or_false, Bool.false_or, Bool.or_true, Bool.true_or, List.length_cons, List.length_nil, List.nil_append, List.cons_append, Option.toList_some, Option.toList_none, reduceCtorEq, Option.some.injEq, Nat.zero_le, Nat.reduceMul, Nat.mul_zero, Nat.add_zero, Int.reduceDiv, Int.reduceMod, Int.toNat_natCast, Nat.lt_irrefl, Int.natCast_add, Int.cast_ofNat_Int, px_mds_RX11_0, px_mds_RX11_1, dec_X11_placeIn, px_eq_iff, px_lt_iff, px_le_iff, px_up_o, px_up_eq, px_up_ne, px_cp_o, ha]
      refine ⟨fun q => ?_, fun q => ?_⟩
      · have := ih (i + 1) z (by omega) (by
          rcases h3 with ⟨z1, z2⟩ | ⟨k, z1, z2, z3⟩
          · refine Or.inl ⟨z1, fun j hj => ?_⟩
            by_cases e : j = i
            · rw [e, nc]; exact q
            · exact z2 j (by omega)
          · exact Or.inr ⟨k, z1, by omega, z3⟩)
        rwa [Int.natCast_add] at this
      · have := ih (i + 1) i (by omega) (Or.inr ⟨i, rfl, by omega, by rw [nc]; exact q⟩)
        rwa [Int.natCast_add] at this
  refine px_enter RX11 (by decide +kernel) rfl (by simp) (by simp [px_c1]) ?_
  simp only [List.map_cons, List.map_nil, List.length_cons, List.length_nil, List.replicate, List.append_nil, Nat.reduceAdd, Nat.reduceSub, List.cons_append, List.nil_append]
  refine px_go (fun p => p == 5) 400 ?_
  simp (disch := omega) only [px_lits, false_implies, true_implies, px_dec_ok, px_run_s, px_rules, px_rule_is, px_mats, px_calls, ↓reduceIte, eq_self, Bool.false_eq_true, px_flds, px_o_some, px_fvs, px_pfs, px_cts, px_cls, px_acs_, px_acn, true_and, and_true, true_or, or_true, false_or, or_false, and_self, not_true_eq_false, not_false_eq_true, Classical.not_not, Nat.reduceAdd, Nat.reduceSub, Nat.reduceBEq, Nat.reduceLT, Nat.reduceLeDiff, Nat.lt_add_one, px_tg, Int.cast_ofNat_Int, Int.reduceAdd, Int.reduceSub, Int.reduceMul, Int.reduceToNat, Int.reduceLE, Int.reduceLT, Int.reduceNeg, Int.reduceEq, Bool.or_false, Bool.false_or, Bool.or_true, Bool.true_or, List.length_cons, List.length_nil, List.nil_append, List.cons_append, Option.toList_some, Option.toList_none, reduceCtorEq, Option.some.injEq, Nat.zero_le, Nat.reduceMul, Nat.mul_zero, Nat.add_zero, Int.reduceDiv, Int.reduceMod, Int.toNat_natCast, Nat.lt_irrefl, Int.natCast_add, Int.cast_ofNat_Int, px_mds_RX11_0, px_mds_RX11_1, dec_X11_placeIn, px_eq_iff, px_lt_iff, px_le_iff, px_up_o, px_up_eq, px_up_ne, px_cp_o, ha]
  exact loop n 0 (-1) (by omega) (Or.inl ⟨rfl, fun j hj => by omega⟩)
set_option maxHeartbeats 4000000 in
set_option maxRecDepth 100000 in
theorem c_X11_fronted {G : px_G} {a n : Nat} {set : Int} {L : List pc_Ch} {μ : px_Mem} {Q : Option px_X → px_Mem → Prop} (ha : px_kd a = 20) (hn : L.length = n) (hl : L.length ≤ px_ln a) (hv : pc_V L) (hr : pm_at μ a 0 L)
    (h1 : ∀ (L1 : List pc_Ch) (f : Nat) (μ1 : px_Mem), pc_fr set n 0 L 0 = some (L1, f) → (∀ o, o ≠ a → μ1 o = μ o) → pm_at μ1 a 0 L1 → pc_V L1 → L1.length = n → Q (some (.inl f)) μ1)
    (h0 : ∀ μ1 : px_Mem, pc_fr set n 0 L 0 = none → (∀ o, o ≠ a → μ1 o = μ o) → Q (some (.inl (-1))) μ1) : px_C G yX11_fronted cX11_fronted 6 (some .int) 4 [.inr (.inl (some 205)), .inr (.inl (some a)), .inl n, .inl set] μ Q := by
  have l1 := px_ln_le a
  have loop : ∀ (m i f : Nat) (L2 : List pc_Ch) (μ1 : px_Mem), i + m = n → f ≤ i → L2.length = n → (∀ o, o ≠ a → μ1 o = μ o) → pc_V L2 → pm_at μ1 a 0 L2 → pc_fr set n 0 L 0 = pc_fr set m i L2 f →
      px_J G RX11 cX11_fronted 6 (some .int) 4 6 [some (.inr (.inl (some 205))), some (.inr (.inl (some a))), some (.inl n), some (.inl set), some (.inl f), some (.inl i)] [] μ1 Q := by
    intro m
    induction m with
    | zero =>
      intro i f L2 μ1 h2 h3 h3b h4 h5 h6 h7
      refine px_go (fun p => p == 6) 400 ?_
      simp (disch := omega) only [px_lits, false_implies, true_implies, px_dec_ok, px_run_s, px_rules, px_rule_is, px_mats, px_calls, ↓reduceIte, eq_self, Bool.false_eq_true, px_flds, px_o_some, px_fvs, px_pfs, px_cts, px_cls, px_acs_, px_acn, true_and, and_true, true_or, or_true, false_or, or_false, and_self, not_true_eq_false, not_false_eq_true, Classical.not_not, Nat.reduceAdd, Nat.reduceSub, Nat.reduceBEq, Nat.reduceLT, Nat.reduceLeDiff, Nat.lt_add_one, px_tg, Int.cast_ofNat_Int, Int.reduceAdd, Int.reduceSub, Int.reduceMul, Int.reduceToNat, Int.reduceLE, Int.reduceLT, Int.reduceNeg, Int.reduceEq, Bool.or_false, Bool.false_or, Bool.or_true, Bool.true_or, List.length_cons, List.length_nil, List.nil_append, List.cons_append, Option.toList_some, Option.toList_none, reduceCtorEq, Option.some.injEq, Nat.zero_le, Nat.reduceMul, Nat.mul_zero, Nat.add_zero, Int.reduceDiv, Int.reduceMod, Int.toNat_natCast, Nat.lt_irrefl, Int.natCast_add, Int.cast_ofNat_Int, px_mds_RX11_0, px_mds_RX11_1, dec_X11_fronted, px_eq_iff, px_lt_iff, px_le_iff, px_up_o, px_up_eq, px_up_ne, px_cp_o, ha]
      exact ⟨fun _ => h1 L2 f μ1 h7 h4 h6 h5 h3b, fun q => absurd (by omega) q⟩
    | succ m ih =>
      intro i f L2 μ1 h2 h3 h3b h4 h5 h6 h7
      obtain ⟨c, hc⟩ : ∃ c, L2[i]? = some c := ⟨_, List.getElem?_eq_getElem (by omega)⟩
      have oc := h5.ok (List.mem_of_getElem? hc)
      have mc := h6 i c hc
      rw [Int.zero_add] at mc
      rw [pc_fr_step hc] at h7
      have hr9 := px_and_r (px_shr set c.1) 1
      refine px_go (fun p => p == 6) 400 ?_
      simp (disch := omega) only [px_lits, false_implies, true_implies, px_dec_ok, px_run_s, px_rules, px_rule_is, px_mats, px_calls, ↓reduceIte, eq_self, Bool.false_eq_true, px_flds, px_o_some, px_fvs, px_pfs, px_cts, px_cls, px_acs_, px_acn, true_and, and_true, true_or, or_true, false_or, or_false, and_self, not_true_eq_false, not_false_eq_true, Classical.not_not, Nat.reduceAdd, Nat.reduceSub, Nat.reduceBEq, Nat.reduceLT, Nat.reduceLeDiff, Nat.lt_add_one, px_tg, Int.cast_ofNat_Int, Int.reduceAdd, Int.reduceSub, Int.reduceMul, Int.reduceToNat, Int.reduceLE, Int.reduceLT, Int.reduceNeg, Int.reduceEq, Bool.or_false, Bool.false_or, Bool.or_true, Bool.true_or, List.length_cons, List.length_nil, List.nil_append, List.cons_append, Option.toList_some, Option.toList_none, reduceCtorEq, Option.some.injEq, Nat.zero_le, Nat.reduceMul, Nat.mul_zero, Nat.add_zero, Int.reduceDiv, Int.reduceMod, Int.toNat_natCast, Nat.lt_irrefl, Int.natCast_add, Int.cast_ofNat_Int, px_mds_RX11_0, px_mds_RX11_1, dec_X11_fronted, px_eq_iff, px_lt_iff, px_le_iff, px_up_o, px_up_eq, px_up_ne, px_cp_o, ha]
      refine ⟨fun q => by omega, fun _ => ⟨by omega, ?_⟩⟩
      rw [mc]
      refine c_X11_number oc ?_
      refine px_go (fun p => p == 6) 400 ?_
      simp (disch := omega) only [px_lits, false_implies, true_implies, px_dec_ok, px_run_s, px_rules, px_rule_is, px_mats, px_calls, ↓reduceIte, eq_self, Bool.false_eq_true, px_flds, px_o_some, px_fvs, px_pfs, px_cts, px_cls, px_acs_, px_acn, true_and, and_true, true_or, or_true, false_or, or_false, and_self, not_true_eq_false, not_false_eq_true, Classical.not_not, Nat.reduceAdd, Nat.reduceSub, Nat.reduceBEq, Nat.reduceLT, Nat.reduceLeDiff, Nat.lt_add_one, px_tg, Int.cast_ofNat_Int, Int.reduceAdd, Int.reduceSub, Int.reduceMul, Int.reduceToNat, Int.reduceLE, Int.reduceLT, Int.reduceNeg, Int.reduceEq, Bool.or_false, Bool.false_or, Bool.or_true, Bool.true_or, List.length_cons, List.length_nil, List.nil_append, List.cons_append, Option.toList_some, Option.toList_none, reduceCtorEq, Option.some.injEq, Nat.zero_le, Nat.reduceMul, Nat.mul_zero, Nat.add_zero, Int.reduceDiv, Int.reduceMod, Int.toNat_natCast, Nat.lt_irrefl, Int.natCast_add, Int.cast_ofNat_Int, px_mds_RX11_0, px_mds_RX11_1, dec_X11_fronted, px_eq_iff, px_lt_iff, px_le_iff, px_up_o, px_up_eq, px_up_ne, px_cp_o, ha]
      refine ⟨fun q => ?_, fun q => ?_⟩
      · rw [if_neg q] at h7
        have := ih (i + 1) f L2 μ1 (by omega) (by omega) h3b h4 h5 h6 h7
        rwa [Int.natCast_add] at this
      · rw [if_pos q] at h7
        refine c_X11_isBroughtB ha (by omega) h3 (by omega) h5 h6 (fun L3 μ2 q1 q2 q3 => ?_) (fun μ2 q1 q2 => ?_)
        · refine px_go (fun p => p == 6) 400 ?_
          simp (disch := omega) only [px_lits, false_implies, true_implies, px_dec_ok, px_run_s, px_rules, px_rule_is, px_mats, px_calls, ↓reduceIte, eq_self, Bool.false_eq_true, px_flds, px_o_some, px_fvs, px_pfs, px_cts, px_cls, px_acs_, px_acn, true_and, and_true, true_or, or_true, false_or, or_false, and_self, not_true_eq_false, not_false_eq_true, Classical.not_not, Nat.reduceAdd, Nat.reduceSub, Nat.reduceBEq, Nat.reduceLT, Nat.reduceLeDiff, Nat.lt_add_one, px_tg, Int.cast_ofNat_Int, Int.reduceAdd, Int.reduceSub, Int.reduceMul, Int.reduceToNat, Int.reduceLE, Int.reduceLT, Int.reduceNeg, Int.reduceEq, Bool.or_false, Bool.false_or, Bool.or_true, Bool.true_or, List.length_cons, List.length_nil, List.nil_append, List.cons_append, Option.toList_some, Option.toList_none, reduceCtorEq, Option.some.injEq, Nat.zero_le, Nat.reduceMul, Nat.mul_zero, Nat.add_zero, Int.reduceDiv, Int.reduceMod, Int.toNat_natCast, Nat.lt_irrefl, Int.natCast_add, Int.cast_ofNat_Int, px_mds_RX11_0, px_mds_RX11_1, dec_X11_fronted, px_eq_iff, px_lt_iff, px_le_iff, px_up_o, px_up_eq, px_up_ne, px_cp_o, ha]
          rw [q1, Option.bind_some] at h7
          have hk := pc_brB_keep q1
          have := ih (i + 1) (f + 1) L3 μ2 (by omega) (by omega) (by rw [hk.1]; exact h3b) (fun o ho => by rw [q2 o ho, h4 o ho]) (hk.2.1 h5) q3 h7
          rwa [Int.natCast_add, Int.natCast_add] at this
        · refine px_go (fun p => p == 6) 400 ?_
          simp (disch := omega) only [px_lits, false_implies, true_implies, px_dec_ok, px_run_s, px_rules, px_rule_is, px_mats, px_calls, ↓reduceIte, eq_self, Bool.false_eq_true, px_flds, px_o_some, px_fvs, px_pfs, px_cts, px_cls, px_acs_, px_acn, true_and, and_true, true_or, or_true, false_or, or_false, and_self, not_true_eq_false, not_false_eq_true, Classical.not_not, Nat.reduceAdd, Nat.reduceSub, Nat.reduceBEq, Nat.reduceLT, Nat.reduceLeDiff, Nat.lt_add_one, px_tg, Int.cast_ofNat_Int, Int.reduceAdd, Int.reduceSub, Int.reduceMul, Int.reduceToNat, Int.reduceLE, Int.reduceLT, Int.reduceNeg, Int.reduceEq, Bool.or_false, Bool.false_or, Bool.or_true, Bool.true_or, List.length_cons, List.length_nil, List.nil_append, List.cons_append, Option.toList_some, Option.toList_none, reduceCtorEq, Option.some.injEq, Nat.zero_le, Nat.reduceMul, Nat.mul_zero, Nat.add_zero, Int.reduceDiv, Int.reduceMod, Int.toNat_natCast, Nat.lt_irrefl, Int.natCast_add, Int.cast_ofNat_Int, px_mds_RX11_0, px_mds_RX11_1, dec_X11_fronted, px_eq_iff, px_lt_iff, px_le_iff, px_up_o, px_up_eq, px_up_ne, px_cp_o, ha]
          rw [q1] at h7
          exact h0 μ2 h7 (fun o ho => by rw [q2 o ho, h4 o ho])
  refine px_enter RX11 (by decide +kernel) rfl (by simp) (by simp [px_c1]) ?_
  simp only [List.map_cons, List.map_nil, List.length_cons, List.length_nil, List.replicate, List.append_nil, Nat.reduceAdd, Nat.reduceSub, List.cons_append, List.nil_append]
  refine px_go (fun p => p == 6) 400 ?_
  simp (disch := omega) only [px_lits, false_implies, true_implies, px_dec_ok, px_run_s, px_rules, px_rule_is, px_mats, px_calls, ↓reduceIte, eq_self, Bool.false_eq_true, px_flds, px_o_some, px_fvs, px_pfs, px_cts, px_cls, px_acs_, px_acn, true_and, and_true, true_or, or_true, false_or, or_false, and_self, not_true_eq_false, not_false_eq_true, Classical.not_not, Nat.reduceAdd, Nat.reduceSub, Nat.reduceBEq, Nat.reduceLT, Nat.reduceLeDiff, Nat.lt_add_one, px_tg, Int.cast_ofNat_Int, Int.reduceAdd, Int.reduceSub, Int.reduceMul, Int.reduceToNat, Int.reduceLE, Int.reduceLT, Int.reduceNeg, Int.reduceEq, Bool.or_false, Bool.false_or, Bool.or_true, Bool.true_or, List.length_cons, List.length_nil, List.nil_append, List.cons_append, Option.toList_some, Option.toList_none, reduceCtorEq, Option.some.injEq, Nat.zero_le, Nat.reduceMul, Nat.mul_zero, Nat.add_zero, Int.reduceDiv, Int.reduceMod, Int.toNat_natCast, Nat.lt_irrefl, Int.natCast_add, Int.cast_ofNat_Int, px_mds_RX11_0, px_mds_RX11_1, dec_X11_fronted, px_eq_iff, px_lt_iff, px_le_iff, px_up_o, px_up_eq, px_up_ne, px_cp_o, ha]
  exact loop n 0 0 L μ (by omega) (by omega) hn (fun _ _ => rfl) hv hr rfl
end
