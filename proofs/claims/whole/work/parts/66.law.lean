def R_law : String := "PatchHouseLaw"
def lw_P (b : Addr) (xs : List Int32) (args : Array Value) (s : State) : Prop := args = #[.ref b] ∧ s.IntsAt b xs ∧ xs.length ≤ 2560 ∧ (Jvm.Cond.and given_1 narrow_1).before args s = true
def lw_Q (_ : Array Value) (s : State) (o : Outcome) (t : State) : Prop := o = .returned (some (.int 1)) ∧ Framed s o t [] 600000 7302250
def lw_Z (below : List Frame) (a : Array Value) (s : State) : State → Prop := fun t => ∃ o, t.status = .running ∧ Ended t below o ∧ lw_Q a s o t
/-- the law's own end, with 1 on the stack, nothing written that was there before, its room as the claim has it -/
theorem lw_ret {p : Program} {l : Launch} {e : Env} {s : State} {m : MethodId} {below : List Frame} {meth : Method} {c : Code} {b : Nat} (hx : p.tables.exec = Jvm.exec) (hb : c.code = code) (hr : meth.sig.returnType = ret) (hlocks : meth.locks = false) {pc : Nat} {H : Heap} {ls : Array Slot} (hdg : decode code pc = .ok (.ireturn, 1)) : W p l e room_1 s m #[Value.ref b] below meth c H [] 600000 7302250 (lw_Z below #[Value.ref b] s) (F0 m pc ls [.int 1]) := by
  intro T hT X
  obtain ⟨fs, hret, hrun, hended, hW, hframe⟩ := X.leave (v := some (.int 1)) (hlocks := hlocks) (fun h => by rw [hr] at h; cases h)
  have hmeth' : T.vm.method? m = some meth := X.method'
  refine ⟨T.setFrames fs, ?_, .returned (some (.int 1)), hrun, hended, rfl, ⟨_, rfl⟩, hW, hframe⟩
  jvm_step X.here [X.here.top, hx, hb, hdg, hmeth', hr, ret, narrow_b1]
  (try refine ⟨rfl, ?_⟩); (try refine ⟨rfl, ?_⟩)
  first | (intro acts; rw [hret _ acts rfl rfl rfl]) | rw [hret _ _ rfl rfl rfl]
  exact Steps.refl _
/-- what holds at the law's entry: the machine, the code, the tables' words (any of lw_tbl by 'hts w (by decide +kernel)'), the script of L ints xs at the cell b, what the Statement gives of the start (any of its parts by flat_of_before) -/
def lw_At (p : Program) (s : State) (m : MethodId) (meth : Method) (c : Code) (b L : Nat) (xs : Nat → Int32) : Prop :=
  p.tables.exec = Jvm.exec ∧ c.code = code ∧ meth.sig.returnType = ret ∧ c.maxLocals = 4 ∧ s.vm.findClass R_law = some m.cls ∧ (∀ w ∈ lw_tbl, w.before #[Value.ref b] s = true) ∧ va_X b L xs s s.heap ∧ b < s.heap.size ∧ meth.locks = false ∧ (Jvm.Cond.and given_1 narrow_1).before #[Value.ref b] s = true

/-! ===== the calls of the law ===== -/
def pl_M0 : List px_ME := [((RL, 13), (yX10_anew, cX10_anew, 3, (some .int), 1, 0, false, 9), false, [323, 326, 324, 325, 65]), ((RL, 18), (yX10_begin, cX10_begin, 2, (some .int), 2, 1, false, 9), false, [331, 334, 332, 333, 65]), ((RL, 23), (yX10_record, cX10_record, 6, (some .int), 4, 4, false, 9), false, [352, 355, 353, 354, 65]), ((RL, 28), (yX10_takeOff, cX10_takeOff, 5, (some .int), 4, 2, false, 9), false, [404, 407, 405, 406, 65]), ((RL, 33), (yX10_turn, cX10_turn, 4, (some .int), 4, 2, false, 9), false, [439, 442, 440, 441, 65]), ((RL, 37), (yX10_pull, cX10_pull, 6, (some .int), 5, 2, false, 9), false, [449, 452, 450, 451, 65]), ((RL, 41), (yX10_drift, cX10_drift, 5, (some .int), 4, 2, false, 9), false, [499, 502, 500, 501, 65]), ((RL, 45), (yX10_undo, cX10_undo, 1, (some .int), 4, 0, false, 9), false, [518, 521, 519, 520, 65]), ((RL, 49), (yX10_told, cX10_told, 2, (some .int), 3, 1, false, 9), false, [526, 529, 527, 528, 65]), ((RL, 53), (yX10_house, cX10_house, 4, (some .int), 5, 2, false, 9), false, [535, 538, 536, 537, 65]), ((RL, 57), (yX10_text, cX10_text, 3, (some .int), 3, 2, false, 9), false, [561, 564, 562, 563, 65]), ((RL, 61), (yX10_history, cX10_history, 5, (some .int), 2, 3, false, 9), false, [565, 568, 566, 567, 65])]
def pl_M1 : List px_ME := [((RL, 66), (yX10_change, cX10_change, 6, (some .int), 6, 3, false, 9), false, [570, 573, 571, 572, 65]), ((RL, 70), (yX10_round, cX10_round, 5, (some .int), 1, 4, false, 9), false, [584, 587, 585, 586, 65]), ((RL, 74), (yX10_shelve, cX10_shelve, 4, (some .int), 1, 3, false, 9), false, [589, 592, 590, 591, 65]), ((RL, 78), (yX10_shelveText, cX10_shelveText, 3, (some .int), 3, 2, false, 9), false, [600, 603, 601, 602, 65]), ((RL, 82), (yX10_empty, cX10_empty, 3, (some .int), 1, 1, false, 9), false, [609, 612, 610, 611, 65]), ((RL, 86), (yX10_shelved, cX10_shelved, 5, (some .int), 1, 2, false, 9), false, [614, 617, 615, 616, 65]), ((RL, 90), (yX10_letter, cX10_letter, 5, (some .int), 1, 2, false, 9), false, [620, 623, 621, 622, 65]), ((RL, 94), (yX10_isText, cX10_isText, 5, (some .int), 3, 2, false, 9), false, [624, 627, 625, 626, 65]), ((RL, 98), (yX10_oppose, cX10_oppose, 6, (some .int), 4, 2, false, 9), false, [628, 631, 629, 630, 65]), ((RL, 102), (yX10_keep, cX10_keep, 2, (some .int), 3, 1, false, 9), false, [634, 637, 635, 636, 65]), ((RL, 106), (yX10_goBack, cX10_goBack, 2, (some .int), 3, 1, false, 9), false, [642, 645, 643, 644, 65]), ((RL, 17), (yX11_anew, cX11_anew, 2, (some .int), 1, 0, false, 10), false, [723, 726, 724, 725, 75])]
def pl_M2 : List px_ME := [((RL, 22), (yX11_begin, cX11_begin, 2, (some .int), 1, 1, false, 10), false, [727, 730, 728, 729, 75]), ((RL, 27), (yX11_record, cX11_record, 7, (some .int), 3, 4, false, 10), false, [737, 740, 738, 739, 75]), ((RL, 32), (yX11_takeOff, cX11_takeOff, 4, (some .int), 4, 2, false, 10), false, [788, 791, 789, 790, 75]), ((RL, 36), (yX11_turn, cX11_turn, 4, (some .int), 3, 2, false, 10), false, [818, 821, 819, 820, 75]), ((RL, 40), (yX11_pull, cX11_pull, 6, (some .int), 5, 2, false, 10), false, [822, 825, 823, 824, 75]), ((RL, 44), (yX11_drift, cX11_drift, 5, (some .int), 4, 2, false, 10), false, [856, 859, 857, 858, 75]), ((RL, 48), (yX11_undo, cX11_undo, 1, (some .int), 1, 0, false, 10), false, [871, 874, 872, 873, 75]), ((RL, 52), (yX11_told, cX11_told, 2, (some .int), 4, 1, false, 10), false, [875, 878, 876, 877, 75]), ((RL, 56), (yX11_house, cX11_house, 3, (some .int), 4, 2, false, 10), false, [883, 886, 884, 885, 75]), ((RL, 60), (yX11_text, cX11_text, 3, (some .int), 3, 2, false, 10), false, [895, 898, 896, 897, 75]), ((RL, 65), (yX11_history, cX11_history, 4, (some .int), 3, 3, false, 10), false, [899, 902, 900, 901, 75]), ((RL, 69), (yX11_change, cX11_change, 8, (some .int), 5, 3, false, 10), false, [910, 913, 911, 912, 75])]
def pl_M3 : List px_ME := [((RL, 73), (yX11_round, cX11_round, 5, (some .int), 1, 4, false, 10), false, [914, 917, 915, 916, 75]), ((RL, 77), (yX11_shelve, cX11_shelve, 4, (some .int), 3, 3, false, 10), false, [918, 921, 919, 920, 75]), ((RL, 81), (yX11_shelveText, cX11_shelveText, 3, (some .int), 3, 2, false, 10), false, [925, 928, 926, 927, 75]), ((RL, 85), (yX11_empty, cX11_empty, 3, (some .int), 2, 1, false, 10), false, [929, 932, 930, 931, 75]), ((RL, 89), (yX11_shelved, cX11_shelved, 4, (some .int), 2, 2, false, 10), false, [933, 936, 934, 935, 75]), ((RL, 93), (yX11_letter, cX11_letter, 4, (some .int), 2, 2, false, 10), false, [943, 946, 944, 945, 75]), ((RL, 97), (yX11_isText, cX11_isText, 6, (some .int), 3, 2, false, 10), false, [947, 950, 948, 949, 75]), ((RL, 101), (yX11_oppose, cX11_oppose, 7, (some .int), 3, 2, false, 10), false, [951, 954, 952, 953, 75]), ((RL, 105), (yX11_keep, cX11_keep, 2, (some .int), 1, 1, false, 10), false, [955, 958, 956, 957, 75]), ((RL, 109), (yX11_goBack, cX11_goBack, 2, (some .int), 1, 1, false, 10), false, [959, 962, 960, 961, 75])]
def pl_M : List px_ME := pl_M0 ++ pl_M1 ++ pl_M2 ++ pl_M3
def pl_md (idx : Nat) : Option (MethodName × ByteArray × Nat × Option FieldType × Nat × Nat × Bool × Nat) := (pl_M.find? (fun e => e.1.2 == idx)).map (fun e => e.2.1)
set_option maxRecDepth 100000 in
theorem pl_M0_ok : pl_M0.all (fun e => px_Mok e && decide (e.1.1 = RL) && !e.2.2.1 && !e.2.1.2.2.2.2.2.2.1) = true := by decide +kernel
set_option maxRecDepth 100000 in
theorem pl_M1_ok : pl_M1.all (fun e => px_Mok e && decide (e.1.1 = RL) && !e.2.2.1 && !e.2.1.2.2.2.2.2.2.1) = true := by decide +kernel
set_option maxRecDepth 100000 in
theorem pl_M2_ok : pl_M2.all (fun e => px_Mok e && decide (e.1.1 = RL) && !e.2.2.1 && !e.2.1.2.2.2.2.2.2.1) = true := by decide +kernel
set_option maxRecDepth 100000 in
theorem pl_M3_ok : pl_M3.all (fun e => px_Mok e && decide (e.1.1 = RL) && !e.2.2.1 && !e.2.1.2.2.2.2.2.2.1) = true := by decide +kernel
theorem pl_M_ok : pl_M.all (fun e => px_Mok e && decide (e.1.1 = RL) && !e.2.2.1 && !e.2.1.2.2.2.2.2.2.1) = true := by
  simp only [pl_M, List.all_append, pl_M0_ok, pl_M1_ok, pl_M2_ok, pl_M3_ok, Bool.and_self]
set_option maxRecDepth 100000 in
theorem pl_mds : pl_md 13 = some (yX10_anew, cX10_anew, 3, (some .int), 1, 0, false, 9) ∧ pl_md 18 = some (yX10_begin, cX10_begin, 2, (some .int), 2, 1, false, 9) ∧ pl_md 23 = some (yX10_record, cX10_record, 6, (some .int), 4, 4, false, 9) ∧ pl_md 28 = some (yX10_takeOff, cX10_takeOff, 5, (some .int), 4, 2, false, 9) ∧ pl_md 33 = some (yX10_turn, cX10_turn, 4, (some .int), 4, 2, false, 9) ∧ pl_md 37 = some (yX10_pull, cX10_pull, 6, (some .int), 5, 2, false, 9) ∧ pl_md 41 = some (yX10_drift, cX10_drift, 5, (some .int), 4, 2, false, 9) ∧ pl_md 45 = some (yX10_undo, cX10_undo, 1, (some .int), 4, 0, false, 9) ∧ pl_md 49 = some (yX10_told, cX10_told, 2, (some .int), 3, 1, false, 9) ∧ pl_md 53 = some (yX10_house, cX10_house, 4, (some .int), 5, 2, false, 9) ∧ pl_md 57 = some (yX10_text, cX10_text, 3, (some .int), 3, 2, false, 9) ∧ pl_md 61 = some (yX10_history, cX10_history, 5, (some .int), 2, 3, false, 9) ∧ pl_md 66 = some (yX10_change, cX10_change, 6, (some .int), 6, 3, false, 9) ∧ pl_md 70 = some (yX10_round, cX10_round, 5, (some .int), 1, 4, false, 9) ∧ pl_md 74 = some (yX10_shelve, cX10_shelve, 4, (some .int), 1, 3, false, 9) ∧ pl_md 78 = some (yX10_shelveText, cX10_shelveText, 3, (some .int), 3, 2, false, 9) ∧ pl_md 82 = some (yX10_empty, cX10_empty, 3, (some .int), 1, 1, false, 9) ∧ pl_md 86 = some (yX10_shelved, cX10_shelved, 5, (some .int), 1, 2, false, 9) ∧ pl_md 90 = some (yX10_letter, cX10_letter, 5, (some .int), 1, 2, false, 9) ∧ pl_md 94 = some (yX10_isText, cX10_isText, 5, (some .int), 3, 2, false, 9) ∧ pl_md 98 = some (yX10_oppose, cX10_oppose, 6, (some .int), 4, 2, false, 9) ∧ pl_md 102 = some (yX10_keep, cX10_keep, 2, (some .int), 3, 1, false, 9) ∧ pl_md 106 = some (yX10_goBack, cX10_goBack, 2, (some .int), 3, 1, false, 9) ∧ pl_md 17 = some (yX11_anew, cX11_anew, 2, (some .int), 1, 0, false, 10) ∧ pl_md 22 = some (yX11_begin, cX11_begin, 2, (some .int), 1, 1, false, 10) ∧ pl_md 27 = some (yX11_record, cX11_record, 7, (some .int), 3, 4, false, 10) ∧ pl_md 32 = some (yX11_takeOff, cX11_takeOff, 4, (some .int), 4, 2, false, 10) ∧ pl_md 36 = some (yX11_turn, cX11_turn, 4, (some .int), 3, 2, false, 10) ∧ pl_md 40 = some (yX11_pull, cX11_pull, 6, (some .int), 5, 2, false, 10) ∧ pl_md 44 = some (yX11_drift, cX11_drift, 5, (some .int), 4, 2, false, 10) ∧ pl_md 48 = some (yX11_undo, cX11_undo, 1, (some .int), 1, 0, false, 10) ∧ pl_md 52 = some (yX11_told, cX11_told, 2, (some .int), 4, 1, false, 10) ∧ pl_md 56 = some (yX11_house, cX11_house, 3, (some .int), 4, 2, false, 10) ∧ pl_md 60 = some (yX11_text, cX11_text, 3, (some .int), 3, 2, false, 10) ∧ pl_md 65 = some (yX11_history, cX11_history, 4, (some .int), 3, 3, false, 10) ∧ pl_md 69 = some (yX11_change, cX11_change, 8, (some .int), 5, 3, false, 10) ∧ pl_md 73 = some (yX11_round, cX11_round, 5, (some .int), 1, 4, false, 10) ∧ pl_md 77 = some (yX11_shelve, cX11_shelve, 4, (some .int), 3, 3, false, 10) ∧ pl_md 81 = some (yX11_shelveText, cX11_shelveText, 3, (some .int), 3, 2, false, 10) ∧ pl_md 85 = some (yX11_empty, cX11_empty, 3, (some .int), 2, 1, false, 10) ∧ pl_md 89 = some (yX11_shelved, cX11_shelved, 4, (some .int), 2, 2, false, 10) ∧ pl_md 93 = some (yX11_letter, cX11_letter, 4, (some .int), 2, 2, false, 10) ∧ pl_md 97 = some (yX11_isText, cX11_isText, 6, (some .int), 3, 2, false, 10) ∧ pl_md 101 = some (yX11_oppose, cX11_oppose, 7, (some .int), 3, 2, false, 10) ∧ pl_md 105 = some (yX11_keep, cX11_keep, 2, (some .int), 1, 1, false, 10) ∧ pl_md 109 = some (yX11_goBack, cX11_goBack, 2, (some .int), 1, 1, false, 10) := ⟨rfl, rfl, rfl, rfl, rfl, rfl, rfl, rfl, rfl, rfl, rfl, rfl, rfl, rfl, rfl, rfl, rfl, rfl, rfl, rfl, rfl, rfl, rfl, rfl, rfl, rfl, rfl, rfl, rfl, rfl, rfl, rfl, rfl, rfl, rfl, rfl, rfl, rfl, rfl, rfl, rfl, rfl, rfl, rfl, rfl, rfl⟩
theorem pl_d0 : decode code 0 = .ok (.new 7, 3) := by decide +kernel
theorem pl_d3 : decode code 3 = .ok (.dup, 1) := by decide +kernel
theorem pl_d4 : decode code 4 = .ok (.invokespecial 9, 3) := by decide +kernel
theorem pl_d7 : decode code 7 = .ok (.astore_n 1, 1) := by decide +kernel
theorem pl_d8 : decode code 8 = .ok (.new 10, 3) := by decide +kernel
theorem pl_d11 : decode code 11 = .ok (.dup, 1) := by decide +kernel
theorem pl_d12 : decode code 12 = .ok (.invokespecial 12, 3) := by decide +kernel
theorem pl_d15 : decode code 15 = .ok (.astore_n 2, 1) := by decide +kernel
theorem pl_d16 : decode code 16 = .ok (.iconst 0, 1) := by decide +kernel
theorem pl_d17 : decode code 17 = .ok (.istore_n 3, 1) := by decide +kernel
theorem pl_d18 : decode code 18 = .ok (.iload_n 3, 1) := by decide +kernel
theorem pl_d19 : decode code 19 = .ok (.aload_n 0, 1) := by decide +kernel
theorem pl_d20 : decode code 20 = .ok (.arraylength, 1) := by decide +kernel
theorem pl_d21 : decode code 21 = .ok (.iconst 5, 1) := by decide +kernel
theorem pl_d22 : decode code 22 = .ok (.isub, 1) := by decide +kernel
theorem pl_d23 : decode code 23 = .ok (.if_icmp .gt 862, 3) := by decide +kernel
theorem pl_d26 : decode code 26 = .ok (.aload_n 0, 1) := by decide +kernel
theorem pl_d27 : decode code 27 = .ok (.iload_n 3, 1) := by decide +kernel
theorem pl_d28 : decode code 28 = .ok (.iaload, 1) := by decide +kernel
theorem pl_d29 : decode code 29 = .ok (.bipush 31, 2) := by decide +kernel
theorem pl_d31 : decode code 31 = .ok (.iand, 1) := by decide +kernel
theorem pl_d32 : decode code 32 = .ok (.tableswitch 847 0 22 #[108, 121, 144, 197, 230, 263, 296, 329, 342, 365, 398, 431, 474, 517, 570, 613, 646, 669, 702, 735, 768, 801, 824], 108) := by decide +kernel
theorem pl_d879 : decode code 879 = .ok (.iinc 3 5, 3) := by decide +kernel
theorem pl_d882 : decode code 882 = .ok (.goto (-864), 3) := by decide +kernel
theorem pl_d885 : decode code 885 = .ok (.iconst 1, 1) := by decide +kernel
theorem pl_d886 : decode code 886 = .ok (.ireturn, 1) := by decide +kernel
def pl_argb (pc : Nat) (j : Int) : Bool := decide (decode code pc = .ok (.aload_n 0, 1)) && decide (decode code (pc + 1) = .ok (.iload_n 3, 1)) && decide (decode code (pc + 2) = .ok (.iconst j, 1)) && decide (decode code (pc + 3) = .ok (.iadd, 1)) && decide (decode code (pc + 4) = .ok (.iaload, 1))
def pl_caseb (pc n i1 i2 : Nat) (off : Int) : Bool := decide (decode code pc = .ok (.aload_n 1, 1)) && (List.range n).all (fun j => pl_argb (pc + 1 + 5 * j) (j + 1)) && decide (decode code (pc + 1 + 5 * n) = .ok (.invokevirtual i1, 3)) && decide (decode code (pc + 4 + 5 * n) = .ok (.aload_n 2, 1)) &&
  (List.range n).all (fun j => pl_argb (pc + 5 + 5 * n + 5 * j) (j + 1)) && decide (decode code (pc + 5 + 10 * n) = .ok (.invokevirtual i2, 3)) && decide (decode code (pc + 8 + 10 * n) = .ok (.if_icmp .eq off, 3)) && decide (((pc + 8 + 10 * n : Nat) : Int) + off = 879)
set_option maxRecDepth 100000 in
theorem pl_case0 : pl_caseb 140 0 13 17 731 = true := by decide +kernel
set_option maxRecDepth 100000 in
theorem pl_case1 : pl_caseb 153 1 18 22 708 = true := by decide +kernel
set_option maxRecDepth 100000 in
theorem pl_case2 : pl_caseb 176 4 23 27 655 = true := by decide +kernel
set_option maxRecDepth 100000 in
theorem pl_case3 : pl_caseb 229 2 28 32 622 = true := by decide +kernel
set_option maxRecDepth 100000 in
theorem pl_case4 : pl_caseb 262 2 33 36 589 = true := by decide +kernel
set_option maxRecDepth 100000 in
theorem pl_case5 : pl_caseb 295 2 37 40 556 = true := by decide +kernel
set_option maxRecDepth 100000 in
theorem pl_case6 : pl_caseb 328 2 41 44 523 = true := by decide +kernel
set_option maxRecDepth 100000 in
theorem pl_case7 : pl_caseb 361 0 45 48 510 = true := by decide +kernel
set_option maxRecDepth 100000 in
theorem pl_case8 : pl_caseb 374 1 49 52 487 = true := by decide +kernel
set_option maxRecDepth 100000 in
theorem pl_case9 : pl_caseb 397 2 53 56 454 = true := by decide +kernel
set_option maxRecDepth 100000 in
theorem pl_case10 : pl_caseb 430 2 57 60 421 = true := by decide +kernel
set_option maxRecDepth 100000 in
theorem pl_case11 : pl_caseb 463 3 61 65 378 = true := by decide +kernel
set_option maxRecDepth 100000 in
theorem pl_case12 : pl_caseb 506 3 66 69 335 = true := by decide +kernel
set_option maxRecDepth 100000 in
theorem pl_case13 : pl_caseb 549 4 70 73 282 = true := by decide +kernel
set_option maxRecDepth 100000 in
theorem pl_case14 : pl_caseb 602 3 74 77 239 = true := by decide +kernel
set_option maxRecDepth 100000 in
theorem pl_case15 : pl_caseb 645 2 78 81 206 = true := by decide +kernel
set_option maxRecDepth 100000 in
theorem pl_case16 : pl_caseb 678 1 82 85 183 = true := by decide +kernel
set_option maxRecDepth 100000 in
theorem pl_case17 : pl_caseb 701 2 86 89 150 = true := by decide +kernel
set_option maxRecDepth 100000 in
theorem pl_case18 : pl_caseb 734 2 90 93 117 = true := by decide +kernel
set_option maxRecDepth 100000 in
theorem pl_case19 : pl_caseb 767 2 94 97 84 = true := by decide +kernel
set_option maxRecDepth 100000 in
theorem pl_case20 : pl_caseb 800 2 98 101 51 = true := by decide +kernel
set_option maxRecDepth 100000 in
theorem pl_case21 : pl_caseb 833 1 102 105 28 = true := by decide +kernel
set_option maxRecDepth 100000 in
theorem pl_case22 : pl_caseb 856 1 106 109 5 = true := by decide +kernel
