/-! ===== the reference: histories and texts of its houses ===== -/
def pm_il (μ : px_Mem) (a : Nat) (f : Int) (T : List Int) : Prop := ∀ (i : Nat) (x : Int), T[i]? = some x → μ a (f + i) = x
set_option maxHeartbeats 4000000 in
set_option maxRecDepth 100000 in
theorem c_X11_many {G : px_G} {h : Nat} {μ : px_Mem} {Q : Option px_X → px_Mem → Prop} (hh : h < 2) (h1 : Q (some (.inl (μ 207 (19 * h)))) μ) : px_C G yX11_many cX11_many 2 (some .int) 0 [.inr (.inl (some 205)), .inl h] μ Q := by
  refine px_enter RX11 (by decide +kernel) rfl (by simp) (by simp [px_c1]) ?_
  simp only [List.map_cons, List.map_nil, List.length_cons, List.length_nil, List.replicate, List.append_nil, Nat.reduceAdd, Nat.reduceSub, List.cons_append, List.nil_append]
  refine px_go (fun _ => false) 400 ?_
  simp (disch := omega) only [px_lits, false_implies, true_implies, px_dec_ok, px_run_s, px_rules, px_rule_is, px_mats, px_calls, ↓reduceIte, eq_self, Bool.false_eq_true, px_flds, px_o_some, px_fvs, px_pfs, px_cts, px_cls, px_acs_, px_acn, true_and, and_true, true_or, or_true, false_or, or_false, and_self, not_true_eq_false, not_false_eq_true, Classical.not_not, Nat.reduceAdd, Nat.reduceSub, Nat.reduceBEq, Nat.reduceLT, Nat.reduceLeDiff, Nat.lt_add_one, px_tg, Int.cast_ofNat_Int, Int.reduceAdd, Int.reduceSub, Int.reduceMul, Int.reduceToNat, Int.reduceLE, Int.reduceLT, Int.reduceNeg, Int.reduceEq, Bool.or_false, Bool.false_or, Bool.or_true, Bool.true_or, List.length_cons, List.length_nil, List.nil_append, List.cons_append, Option.toList_some, Option.toList_none, reduceCtorEq, Option.some.injEq, Nat.zero_le, Nat.reduceMul, Nat.mul_zero, Nat.add_zero, Int.reduceDiv, Int.reduceMod, Int.toNat_natCast, Nat.lt_irrefl, Int.natCast_add, Int.cast_ofNat_Int, px_mds_RX11_0, px_mds_RX11_1, dec_X11_many, px_eq_iff, px_lt_iff, px_le_iff, px_up_o, px_up_eq, px_up_ne, px_cp_o, pm_k, pm_l]
  exact ⟨by omega, h1⟩
set_option maxHeartbeats 4000000 in
set_option maxRecDepth 100000 in
theorem c_X11_at {G : px_G} {h i : Nat} {μ : px_Mem} {Q : Option px_X → px_Mem → Prop} (hh : h < 2) (hi : i < 16) (h1 : Q (some (.inl (μ 207 (19 * h + 3 + i)))) μ) : px_C G yX11_at cX11_at 3 (some .int) 0 [.inr (.inl (some 205)), .inl h, .inl i] μ Q := by
  refine px_enter RX11 (by decide +kernel) rfl (by simp) (by simp [px_c1]) ?_
  simp only [List.map_cons, List.map_nil, List.length_cons, List.length_nil, List.replicate, List.append_nil, Nat.reduceAdd, Nat.reduceSub, List.cons_append, List.nil_append]
  refine px_go (fun _ => false) 400 ?_
  simp (disch := omega) only [px_lits, false_implies, true_implies, px_dec_ok, px_run_s, px_rules, px_rule_is, px_mats, px_calls, ↓reduceIte, eq_self, Bool.false_eq_true, px_flds, px_o_some, px_fvs, px_pfs, px_cts, px_cls, px_acs_, px_acn, true_and, and_true, true_or, or_true, false_or, or_false, and_self, not_true_eq_false, not_false_eq_true, Classical.not_not, Nat.reduceAdd, Nat.reduceSub, Nat.reduceBEq, Nat.reduceLT, Nat.reduceLeDiff, Nat.lt_add_one, px_tg, Int.cast_ofNat_Int, Int.reduceAdd, Int.reduceSub, Int.reduceMul, Int.reduceToNat, Int.reduceLE, Int.reduceLT, Int.reduceNeg, Int.reduceEq, Bool.or_false, Bool.false_or, Bool.or_true, Bool.true_or, List.length_cons, List.length_nil, List.nil_append, List.cons_append, Option.toList_some, Option.toList_none, reduceCtorEq, Option.some.injEq, Nat.zero_le, Nat.reduceMul, Nat.mul_zero, Nat.add_zero, Int.reduceDiv, Int.reduceMod, Int.toNat_natCast, Nat.lt_irrefl, Int.natCast_add, Int.cast_ofNat_Int, px_mds_RX11_0, px_mds_RX11_1, dec_X11_at, px_eq_iff, px_lt_iff, px_le_iff, px_up_o, px_up_eq, px_up_ne, px_cp_o, pm_k, pm_l]
  exact ⟨by omega, h1⟩
set_option maxHeartbeats 4000000 in
set_option maxRecDepth 100000 in
theorem c_X11_placeOf {G : px_G} {h : Nat} {x : Int} {L : List pc_Ch} {μ : px_Mem} {Q : Option px_X → px_Mem → Prop} (hh : h < 2) (hn : μ 207 (19 * h) = L.length) (hl : L.length ≤ 16) (hx : -2147483648 ≤ x ∧ x < 2147483648) (hv : pc_V L) (hr : pm_at μ 207 (19 * h + 3) L)
    (h1 : ∀ z : Int, (z = -1 ∧ (∀ j : Nat, j < L.length → pc_num L j ≠ x)) ∨ (∃ k : Nat, z = k ∧ k < L.length ∧ pc_num L k = x) → Q (some (.inl z)) μ) : px_C G yX11_placeOf cX11_placeOf 5 (some .int) 1 [.inr (.inl (some 205)), .inl h, .inl x] μ Q := by
  have loop : ∀ (m i : Nat) (z : Int), i + m = L.length → ((z = -1 ∧ (∀ j : Nat, j < i → pc_num L j ≠ x)) ∨ (∃ k : Nat, z = k ∧ k < i ∧ pc_num L k = x)) → px_J G RX11 cX11_placeOf 5 (some .int) 1 5 [some (.inr (.inl (some 205))), some (.inl h), some (.inl x), some (.inl z), some (.inl i)] [] μ Q := by
    intro m
    induction m with
    | zero =>
      intro i z h2 h3
      refine px_go (fun p => p == 5) 400 ?_
      simp (disch := omega) only [px_lits, false_implies, true_implies, px_dec_ok, px_run_s, px_rules, px_rule_is, px_mats, px_calls, ↓reduceIte, eq_self, Bool.false_eq_true, px_flds, px_o_some, px_fvs, px_pfs, px_cts, px_cls, px_acs_, px_acn, true_and, and_true, true_or, or_true, false_or, or_false, and_self, not_true_eq_false, not_false_eq_true, Classical.not_not, Nat.reduceAdd, Nat.reduceSub, Nat.reduceBEq, Nat.reduceLT, Nat.reduceLeDiff, Nat.lt_add_one, px_tg, Int.cast_ofNat_Int, Int.reduceAdd, Int.reduceSub, Int.reduceMul, Int.reduceToNat, Int.reduceLE, Int.reduceLT, Int.reduceNeg, Int.reduceEq, Bool.or_false, Bool.false_or, Bool.or_true, Bool.true_or, List.length_cons, List.length_nil, List.nil_append, List.cons_append, Option.toList_some, Option.toList_none, reduceCtorEq, Option.some.injEq, Nat.zero_le, Nat.reduceMul, Nat.mul_zero, Nat.add_zero, Int.reduceDiv, Int.reduceMod, Int.toNat_natCast, Nat.lt_irrefl, Int.natCast_add, Int.cast_ofNat_Int, px_mds_RX11_0, px_mds_RX11_1, dec_X11_placeOf, px_eq_iff, px_lt_iff, px_le_iff, px_up_o, px_up_eq, px_up_ne, px_cp_o, pm_k, pm_l]
      refine c_X11_many hh ?_
      refine px_go (fun p => p == 5) 400 ?_
      simp (disch := omega) only [px_lits, false_implies, true_implies, px_dec_ok, px_run_s, px_rules, px_rule_is, px_mats, px_calls, ↓reduceIte, eq_self, Bool.false_eq_true, px_flds, px_o_some, px_fvs, px_pfs, px_cts, px_cls, px_acs_, px_acn, true_and, and_true, true_or, or_true, false_or, or_false, and_self, not_true_eq_false, not_false_eq_true, Classical.not_not, Nat.reduceAdd, Nat.reduceSub, Nat.reduceBEq, Nat.reduceLT, Nat.reduceLeDiff, Nat.lt_add_one, px_tg, Int.cast_ofNat_Int, Int.reduceAdd, Int.reduceSub, Int.reduceMul, Int.reduceToNat, Int.reduceLE, Int.reduceLT, Int.reduceNeg, Int.reduceEq, Bool.or_false, Bool.false_or, Bool.or_true, Bool.true_or, List.length_cons, List.length_nil, List.nil_append, List.cons_append, Option.toList_some, Option.toList_none, reduceCtorEq, Option.some.injEq, Nat.zero_le, Nat.reduceMul, Nat.mul_zero, Nat.add_zero, Int.reduceDiv, Int.reduceMod, Int.toNat_natCast, Nat.lt_irrefl, Int.natCast_add, Int.cast_ofNat_Int, px_mds_RX11_0, px_mds_RX11_1, dec_X11_placeOf, px_eq_iff, px_lt_iff, px_le_iff, px_up_o, px_up_eq, px_up_ne, px_cp_o, pm_k, pm_l, hn]
      refine ⟨fun _ => h1 z ?_, fun q => absurd (by omega) q⟩
      rw [show L.length = i by omega]
      exact h3
    | succ m ih =>
      intro i z h2 h3
      obtain ⟨c, hc⟩ : ∃ c, L[i]? = some c := ⟨_, List.getElem?_eq_getElem (by omega)⟩
      have oc := hv.ok (List.mem_of_getElem? hc)
      have mc := hr i c hc
      have nc : pc_num L i = c.1 := by unfold pc_num; rw [hc]; rfl
      have o1 := oc.1
      refine px_go (fun p => p == 5) 400 ?_
      simp (disch := omega) only [px_lits, false_implies, true_implies, px_dec_ok, px_run_s, px_rules, px_rule_is, px_mats, px_calls, ↓reduceIte, eq_self, Bool.false_eq_true, px_flds, px_o_some, px_fvs, px_pfs, px_cts, px_cls, px_acs_, px_acn, true_and, and_true, true_or, or_true, false_or, or_false, and_self, not_true_eq_false, not_false_eq_true, Classical.not_not, Nat.reduceAdd, Nat.reduceSub, Nat.reduceBEq, Nat.reduceLT, Nat.reduceLeDiff, Nat.lt_add_one, px_tg, Int.cast_ofNat_Int, Int.reduceAdd, Int.reduceSub, Int.reduceMul, Int.reduceToNat, Int.reduceLE, Int.reduceLT, Int.reduceNeg, Int.reduceEq, Bool.or_false, Bool.false_or, Bool.or_true, Bool.true_or, List.length_cons, List.length_nil, List.nil_append, List.cons_append, Option.toList_some, Option.toList_none, reduceCtorEq, Option.some.injEq, Nat.zero_le, Nat.reduceMul, Nat.mul_zero, Nat.add_zero, Int.reduceDiv, Int.reduceMod, Int.toNat_natCast, Nat.lt_irrefl, Int.natCast_add, Int.cast_ofNat_Int, px_mds_RX11_0, px_mds_RX11_1, dec_X11_placeOf, px_eq_iff, px_lt_iff, px_le_iff, px_up_o, px_up_eq, px_up_ne, px_cp_o, pm_k, pm_l]
      refine c_X11_many hh ?_
      refine px_go (fun p => p == 5) 400 ?_
      simp (disch := omega) only [px_lits, false_implies, true_implies, px_dec_ok, px_run_s, px_rules, px_rule_is, px_mats, px_calls, ↓reduceIte, eq_self, Bool.false_eq_true, px_flds, px_o_some, px_fvs, px_pfs, px_cts, px_cls, px_acs_, px_acn, true_and, and_true, true_or, or_true, false_or, or_false, and_self, not_true_eq_false, not_false_eq_true, Classical.not_not, Nat.reduceAdd, Nat.reduceSub, Nat.reduceBEq, Nat.reduceLT, Nat.reduceLeDiff, Nat.lt_add_one, px_tg, Int.cast_ofNat_Int, Int.reduceAdd, Int.reduceSub, Int.reduceMul, Int.reduceToNat, Int.reduceLE, Int.reduceLT, Int.reduceNeg, Int.reduceEq, Bool.or_false, Bool.false_or, Bool.or_true, Bool.true_or, List.length_cons, List.length_nil, List.nil_append, List.cons_append, Option.toList_some, Option.toList_none, reduceCtorEq, Option.some.injEq, Nat.zero_le, Nat.reduceMul, Nat.mul_zero, Nat.add_zero, Int.reduceDiv, Int.reduceMod, Int.toNat_natCast, Nat.lt_irrefl, Int.natCast_add, Int.cast_ofNat_Int, px_mds_RX11_0, px_mds_RX11_1, dec_X11_placeOf, px_eq_iff, px_lt_iff, px_le_iff, px_up_o, px_up_eq, px_up_ne, px_cp_o, pm_k, pm_l, hn]
      refine ⟨fun q => by omega, fun _ => ?_⟩
      refine c_X11_at hh (by omega) ?_
      rw [mc]
      refine px_go (fun p => p == 5) 400 ?_
      simp (disch := omega) only [px_lits, false_implies, true_implies, px_dec_ok, px_run_s, px_rules, px_rule_is, px_mats, px_calls, ↓reduceIte, eq_self, Bool.false_eq_true, px_flds, px_o_some, px_fvs, px_pfs, px_cts, px_cls, px_acs_, px_acn, true_and, and_true, true_or, or_true, false_or, or_false, and_self, not_true_eq_false, not_false_eq_true, Classical.not_not, Nat.reduceAdd, Nat.reduceSub, Nat.reduceBEq, Nat.reduceLT, Nat.reduceLeDiff, Nat.lt_add_one, px_tg, Int.cast_ofNat_Int, Int.reduceAdd, Int.reduceSub, Int.reduceMul, Int.reduceToNat, Int.reduceLE, Int.reduceLT, Int.reduceNeg, Int.reduceEq, Bool.or_false, Bool.false_or, Bool.or_true, Bool.true_or, List.length_cons, List.length_nil, List.nil_append, List.cons_append, Option.toList_some, Option.toList_none, reduceCtorEq, Option.some.injEq, Nat.zero_le, Nat.reduceMul, Nat.mul_zero, Nat.add_zero, Int.reduceDiv, Int.reduceMod, Int.toNat_natCast, Nat.lt_irrefl, Int.natCast_add, Int.cast_ofNat_Int, px_mds_RX11_0, px_mds_RX11_1, dec_X11_placeOf, px_eq_iff, px_lt_iff, px_le_iff, px_up_o, px_up_eq, px_up_ne, px_cp_o, pm_k, pm_l]
      refine c_X11_number oc ?_
      refine px_go (fun p => p == 5) 400 ?_
      simp (disch := omega) only [px_lits, false_implies, true_implies, px_dec_ok, px_run_s, px_rules, px_rule_is, px_mats, px_calls, ↓reduceIte, eq_self, Bool.false_eq_true, px_flds, px_o_some, px_fvs, px_pfs, px_cts, px_cls, px_acs_, px_acn, true_and, and_true, true_or, or_true, false_or, or_false, and_self, not_true_eq_false, not_false_eq_true, Classical.not_not, Nat.reduceAdd, Nat.reduceSub, Nat.reduceBEq, Nat.reduceLT, Nat.reduceLeDiff, Nat.lt_add_one, px_tg, Int.cast_ofNat_Int, Int.reduceAdd, Int.reduceSub, Int.reduceMul, Int.reduceToNat, Int.reduceLE, Int.reduceLT, Int.reduceNeg, Int.reduceEq, Bool.or_false, Bool.false_or, Bool.or_true, Bool.true_or, List.length_cons, List.length_nil, List.nil_append, List.cons_append, Option.toList_some, Option.toList_none, reduceCtorEq, Option.some.injEq, Nat.zero_le, Nat.reduceMul, Nat.mul_zero, Nat.add_zero, Int.reduceDiv, Int.reduceMod, Int.toNat_natCast, Nat.lt_irrefl, Int.natCast_add, Int.cast_ofNat_Int, px_mds_RX11_0, px_mds_RX11_1, dec_X11_placeOf, px_eq_iff, px_lt_iff, px_le_iff, px_up_o, px_up_eq, px_up_ne, px_cp_o, pm_k, pm_l]
      refine ⟨fun q => ?_, fun q => ?_⟩
      · have := ih (i + 1) z (by omega) (by
          rcases h3 with ⟨z1, z2⟩ | ⟨k, z1, z2, z3⟩
          · refine Or.inl ⟨z1, fun j hj => ?_⟩
            by_cases e : j = i
            · rw [e, nc]; exact q
            · exact z2 j (by omega)
          · exact Or.inr ⟨k, z1, by omega, z3⟩)
        rwa [Int.natCast_add] at this
      · have := ih (i + 1) i (by omega) (Or.inr ⟨i, rfl, by omega, by rw [nc]; exact q⟩)
        rwa [Int.natCast_add] at this
  refine px_enter RX11 (by decide +kernel) rfl (by simp) (by simp [px_c1]) ?_
  simp only [List.map_cons, List.map_nil, List.length_cons, List.length_nil, List.replicate, List.append_nil, Nat.reduceAdd, Nat.reduceSub, List.cons_append, List.nil_append]
  refine px_go (fun p => p == 5) 400 ?_
  simp (disch := omega) only [px_lits, false_implies, true_implies, px_dec_ok, px_run_s, px_rules, px_rule_is, px_mats, px_calls, ↓reduceIte, eq_self, Bool.false_eq_true, px_flds, px_o_some, px_fvs, px_pfs, px_cts, px_cls, px_acs_, px_acn, true_and, and_true, true_or, or_true, false_or, or_false, and_self, not_true_eq_false, not_false_eq_true, Classical.not_not, Nat.reduceAdd, Nat.reduceSub, Nat.reduceBEq, Nat.reduceLT, Nat.reduceLeDiff, Nat.lt_add_one, px_tg, Int.cast_ofNat_Int, Int.reduceAdd, Int.reduceSub, Int.reduceMul, Int.reduceToNat, Int.reduceLE, Int.reduceLT, Int.reduceNeg, Int.reduceEq, Bool.or_false, Bool.false_or, Bool.or_true, Bool.true_or, List.length_cons, List.length_nil, List.nil_append, List.cons_append, Option.toList_some, Option.toList_none, reduceCtorEq, Option.some.injEq, Nat.zero_le, Nat.reduceMul, Nat.mul_zero, Nat.add_zero, Int.reduceDiv, Int.reduceMod, Int.toNat_natCast, Nat.lt_irrefl, Int.natCast_add, Int.cast_ofNat_Int, px_mds_RX11_0, px_mds_RX11_1, dec_X11_placeOf, px_eq_iff, px_lt_iff, px_le_iff, px_up_o, px_up_eq, px_up_ne, px_cp_o, pm_k, pm_l]
  exact loop L.length 0 (-1) (by omega) (Or.inl ⟨rfl, fun j hj => by omega⟩)
set_option maxHeartbeats 4000000 in
set_option maxRecDepth 100000 in
theorem c_X11_setOf {G : px_G} {h : Nat} {L : List pc_Ch} {μ : px_Mem} {Q : Option px_X → px_Mem → Prop} (hh : h < 2) (hn : μ 207 (19 * h) = L.length) (hl : L.length ≤ 16) (hv : pc_V L) (hr : pm_at μ 207 (19 * h + 3) L) (h1 : Q (some (.inl (pc_set L))) μ) : px_C G yX11_setOf cX11_setOf 4 (some .int) 1 [.inr (.inl (some 205)), .inl h] μ Q := by
  have loop : ∀ (m i : Nat) (s : Int), i + m = L.length → s = pc_set (L.take i) → px_J G RX11 cX11_setOf 4 (some .int) 1 4 [some (.inr (.inl (some 205))), some (.inl h), some (.inl s), some (.inl i)] [] μ Q := by
    intro m
    induction m with
    | zero =>
      intro i s h2 h3
      refine px_go (fun p => p == 4) 400 ?_
      simp (disch := omega) only [px_lits, false_implies, true_implies, px_dec_ok, px_run_s, px_rules, px_rule_is, px_mats, px_calls, ↓reduceIte, eq_self, Bool.false_eq_true, px_flds, px_o_some, px_fvs, px_pfs, px_cts, px_cls, px_acs_, px_acn, true_and, and_true, true_or, or_true, false_or, or_false, and_self, not_true_eq_false, not_false_eq_true, Classical.not_not, Nat.reduceAdd, Nat.reduceSub, Nat.reduceBEq, Nat.reduceLT, Nat.reduceLeDiff, Nat.lt_add_one, px_tg, Int.cast_ofNat_Int, Int.reduceAdd, Int.reduceSub, Int.reduceMul, Int.reduceToNat, Int.reduceLE, Int.reduceLT, Int.reduceNeg, Int.reduceEq, Bool.or_false, Bool.false_or, Bool.or_true, Bool.true_or, List.length_cons, List.length_nil, List.nil_append, List.cons_append, Option.toList_some, Option.toList_none, reduceCtorEq, Option.some.injEq, Nat.zero_le, Nat.reduceMul, Nat.mul_zero, Nat.add_zero, Int.reduceDiv, Int.reduceMod, Int.toNat_natCast, Nat.lt_irrefl, Int.natCast_add, Int.cast_ofNat_Int, px_mds_RX11_0, px_mds_RX11_1, dec_X11_setOf, px_eq_iff, px_lt_iff, px_le_iff, px_up_o, px_up_eq, px_up_ne, px_cp_o, pm_k, pm_l]
      refine c_X11_many hh ?_
      refine px_go (fun p => p == 4) 400 ?_
      simp (disch := omega) only [px_lits, false_implies, true_implies, px_dec_ok, px_run_s, px_rules, px_rule_is, px_mats, px_calls, ↓reduceIte, eq_self, Bool.false_eq_true, px_flds, px_o_some, px_fvs, px_pfs, px_cts, px_cls, px_acs_, px_acn, true_and, and_true, true_or, or_true, false_or, or_false, and_self, not_true_eq_false, not_false_eq_true, Classical.not_not, Nat.reduceAdd, Nat.reduceSub, Nat.reduceBEq, Nat.reduceLT, Nat.reduceLeDiff, Nat.lt_add_one, px_tg, Int.cast_ofNat_Int, Int.reduceAdd, Int.reduceSub, Int.reduceMul, Int.reduceToNat, Int.reduceLE, Int.reduceLT, Int.reduceNeg, Int.reduceEq, Bool.or_false, Bool.false_or, Bool.or_true, Bool.true_or, List.length_cons, List.length_nil, List.nil_append, List.cons_append, Option.toList_some, Option.toList_none, reduceCtorEq, Option.some.injEq, Nat.zero_le, Nat.reduceMul, Nat.mul_zero, Nat.add_zero, Int.reduceDiv, Int.reduceMod, Int.toNat_natCast, Nat.lt_irrefl, Int.natCast_add, Int.cast_ofNat_Int, px_mds_RX11_0, px_mds_RX11_1, dec_X11_setOf, px_eq_iff, px_lt_iff, px_le_iff, px_up_o, px_up_eq, px_up_ne, px_cp_o, pm_k, pm_l, hn]
      refine ⟨fun _ => ?_, fun q => absurd (by omega) q⟩
      rw [h3, List.take_of_length_le (by omega)]
      exact h1
    | succ m ih =>
      intro i s h2 h3
      obtain ⟨c, hc⟩ : ∃ c, L[i]? = some c := ⟨_, List.getElem?_eq_getElem (by omega)⟩
      have oc := hv.ok (List.mem_of_getElem? hc)
      have mc := hr i c hc
      refine px_go (fun p => p == 4) 400 ?_
      simp (disch := omega) only [px_lits, false_implies, true_implies, px_dec_ok, px_run_s, px_rules, px_rule_is, px_mats, px_calls, ↓reduceIte, eq_self, Bool.false_eq_true, px_flds, px_o_some, px_fvs, px_pfs, px_cts, px_cls, px_acs_, px_acn, true_and, and_true, true_or, or_true, false_or, or_false, and_self, not_true_eq_false, not_false_eq_true, Classical.not_not, Nat.reduceAdd, Nat.reduceSub, Nat.reduceBEq, Nat.reduceLT, Nat.reduceLeDiff, Nat.lt_add_one, px_tg, Int.cast_ofNat_Int, Int.reduceAdd, Int.reduceSub, Int.reduceMul, Int.reduceToNat, Int.reduceLE, Int.reduceLT, Int.reduceNeg, Int.reduceEq, Bool.or_false, Bool.false_or, Bool.or_true, Bool.true_or, List.length_cons, List.length_nil, List.nil_append, List.cons_append, Option.toList_some, Option.toList_none, reduceCtorEq, Option.some.injEq, Nat.zero_le, Nat.reduceMul, Nat.mul_zero, Nat.add_zero, Int.reduceDiv, Int.reduceMod, Int.toNat_natCast, Nat.lt_irrefl, Int.natCast_add, Int.cast_ofNat_Int, px_mds_RX11_0, px_mds_RX11_1, dec_X11_setOf, px_eq_iff, px_lt_iff, px_le_iff, px_up_o, px_up_eq, px_up_ne, px_cp_o, pm_k, pm_l]
      refine c_X11_many hh ?_
      refine px_go (fun p => p == 4) 400 ?_
      simp (disch := omega) only [px_lits, false_implies, true_implies, px_dec_ok, px_run_s, px_rules, px_rule_is, px_mats, px_calls, ↓reduceIte, eq_self, Bool.false_eq_true, px_flds, px_o_some, px_fvs, px_pfs, px_cts, px_cls, px_acs_, px_acn, true_and, and_true, true_or, or_true, false_or, or_false, and_self, not_true_eq_false, not_false_eq_true, Classical.not_not, Nat.reduceAdd, Nat.reduceSub, Nat.reduceBEq, Nat.reduceLT, Nat.reduceLeDiff, Nat.lt_add_one, px_tg, Int.cast_ofNat_Int, Int.reduceAdd, Int.reduceSub, Int.reduceMul, Int.reduceToNat, Int.reduceLE, Int.reduceLT, Int.reduceNeg, Int.reduceEq, Bool.or_false, Bool.false_or, Bool.or_true, Bool.true_or, List.length_cons, List.length_nil, List.nil_append, List.cons_append, Option.toList_some, Option.toList_none, reduceCtorEq, Option.some.injEq, Nat.zero_le, Nat.reduceMul, Nat.mul_zero, Nat.add_zero, Int.reduceDiv, Int.reduceMod, Int.toNat_natCast, Nat.lt_irrefl, Int.natCast_add, Int.cast_ofNat_Int, px_mds_RX11_0, px_mds_RX11_1, dec_X11_setOf, px_eq_iff, px_lt_iff, px_le_iff, px_up_o, px_up_eq, px_up_ne, px_cp_o, pm_k, pm_l, hn]
      refine ⟨fun q => by omega, fun _ => ?_⟩
      refine c_X11_at hh (by omega) ?_
      rw [mc]
      refine px_go (fun p => p == 4) 400 ?_
      simp (disch := omega) only [px_lits, false_implies, true_implies, px_dec_ok, px_run_s, px_rules, px_rule_is, px_mats, px_calls, ↓reduceIte, eq_self, Bool.false_eq_true, px_flds, px_o_some, px_fvs, px_pfs, px_cts, px_cls, px_acs_, px_acn, true_and, and_true, true_or, or_true, false_or, or_false, and_self, not_true_eq_false, not_false_eq_true, Classical.not_not, Nat.reduceAdd, Nat.reduceSub, Nat.reduceBEq, Nat.reduceLT, Nat.reduceLeDiff, Nat.lt_add_one, px_tg, Int.cast_ofNat_Int, Int.reduceAdd, Int.reduceSub, Int.reduceMul, Int.reduceToNat, Int.reduceLE, Int.reduceLT, Int.reduceNeg, Int.reduceEq, Bool.or_false, Bool.false_or, Bool.or_true, Bool.true_or, List.length_cons, List.length_nil, List.nil_append, List.cons_append, Option.toList_some, Option.toList_none, reduceCtorEq, Option.some.injEq, Nat.zero_le, Nat.reduceMul, Nat.mul_zero, Nat.add_zero, Int.reduceDiv, Int.reduceMod, Int.toNat_natCast, Nat.lt_irrefl, Int.natCast_add, Int.cast_ofNat_Int, px_mds_RX11_0, px_mds_RX11_1, dec_X11_setOf, px_eq_iff, px_lt_iff, px_le_iff, px_up_o, px_up_eq, px_up_ne, px_cp_o, pm_k, pm_l]
      refine c_X11_number oc ?_
      refine px_go (fun p => p == 4) 400 ?_
      simp (disch := omega) only [px_lits, false_implies, true_implies, px_dec_ok, px_run_s, px_rules, px_rule_is, px_mats, px_calls, ↓reduceIte, eq_self, Bool.false_eq_true, px_flds, px_o_some, px_fvs, px_pfs, px_cts, px_cls, px_acs_, px_acn, true_and, and_true, true_or, or_true, false_or, or_false, and_self, not_true_eq_false, not_false_eq_true, Classical.not_not, Nat.reduceAdd, Nat.reduceSub, Nat.reduceBEq, Nat.reduceLT, Nat.reduceLeDiff, Nat.lt_add_one, px_tg, Int.cast_ofNat_Int, Int.reduceAdd, Int.reduceSub, Int.reduceMul, Int.reduceToNat, Int.reduceLE, Int.reduceLT, Int.reduceNeg, Int.reduceEq, Bool.or_false, Bool.false_or, Bool.or_true, Bool.true_or, List.length_cons, List.length_nil, List.nil_append, List.cons_append, Option.toList_some, Option.toList_none, reduceCtorEq, Option.some.injEq, Nat.zero_le, Nat.reduceMul, Nat.mul_zero, Nat.add_zero, Int.reduceDiv, Int.reduceMod, Int.toNat_natCast, Nat.lt_irrefl, Int.natCast_add, Int.cast_ofNat_Int, px_mds_RX11_0, px_mds_RX11_1, dec_X11_setOf, px_eq_iff, px_lt_iff, px_le_iff, px_up_o, px_up_eq, px_up_ne, px_cp_o, pm_k, pm_l]
      have := ih (i + 1) (px_or s (px_shl 1 c.1)) (by omega) (by rw [List.take_add_one, hc, Option.toList_some, pc_set_snoc, ← h3])
      rwa [Int.natCast_add] at this
  refine px_enter RX11 (by decide +kernel) rfl (by simp) (by simp [px_c1]) ?_
  simp only [List.map_cons, List.map_nil, List.length_cons, List.length_nil, List.replicate, List.append_nil, Nat.reduceAdd, Nat.reduceSub, List.cons_append, List.nil_append]
  refine px_go (fun p => p == 4) 400 ?_
  simp (disch := omega) only [px_lits, false_implies, true_implies, px_dec_ok, px_run_s, px_rules, px_rule_is, px_mats, px_calls, ↓reduceIte, eq_self, Bool.false_eq_true, px_flds, px_o_some, px_fvs, px_pfs, px_cts, px_cls, px_acs_, px_acn, true_and, and_true, true_or, or_true, false_or, or_false, and_self, not_true_eq_false, not_false_eq_true, Classical.not_not, Nat.reduceAdd, Nat.reduceSub, Nat.reduceBEq, Nat.reduceLT, Nat.reduceLeDiff, Nat.lt_add_one, px_tg, Int.cast_ofNat_Int, Int.reduceAdd, Int.reduceSub, Int.reduceMul, Int.reduceToNat, Int.reduceLE, Int.reduceLT, Int.reduceNeg, Int.reduceEq, Bool.or_false, Bool.false_or, Bool.or_true, Bool.true_or, List.length_cons, List.length_nil, List.nil_append, List.cons_append, Option.toList_some, Option.toList_none, reduceCtorEq, Option.some.injEq, Nat.zero_le, Nat.reduceMul, Nat.mul_zero, Nat.add_zero, Int.reduceDiv, Int.reduceMod, Int.toNat_natCast, Nat.lt_irrefl, Int.natCast_add, Int.cast_ofNat_Int, px_mds_RX11_0, px_mds_RX11_1, dec_X11_setOf, px_eq_iff, px_lt_iff, px_le_iff, px_up_o, px_up_eq, px_up_ne, px_cp_o, pm_k, pm_l]
  exact loop L.length 0 0 (by omega) rfl
-- one change is done to the text that lies from f on
set_option maxHeartbeats 4000000 in
set_option maxRecDepth 100000 in
theorem c_X11_done {G : px_G} {f : Nat} {T : List Int} {c : pc_Ch} {μ : px_Mem} {Q : Option px_X → px_Mem → Prop} (hf : f = 0 ∨ f = 32) (hT : T.length ≤ 31) (hTr : ∀ x ∈ T, 97 ≤ x ∧ x ≤ 122) (hc : pm_ok c) (hr : pm_il μ 219 f T)
    (h1 : ∀ (T1 : List Int) (μ1 : px_Mem), pc_do T c = some T1 → (∀ o, o ≠ 219 → μ1 o = μ o) → (∀ i : Int, (i < f ∨ (f : Int) + 32 ≤ i) → μ1 219 i = μ 219 i) → pm_il μ1 219 f T1 → Q (some (.inl T1.length)) μ1) (h0 : pc_do T c = none → Q (some (.inl (-1))) μ) : px_C G yX11_done cX11_done 6 (some .int) 1 [.inr (.inl (some 205)), .inl f, .inl T.length, .inl (pm_pk c)] μ Q := by
  have hcs := hc.2.1
  have hcp := hc.2.2.1
  have hcl := hc.2.2.2
  obtain ⟨n, s, p, l⟩ := c
  dsimp only at hcs hcp hcl
  obtain ⟨p, rfl⟩ : ∃ k : Nat, p = k := ⟨p.toNat, by omega⟩
  refine px_enter RX11 (by decide +kernel) rfl (by simp) (by simp [px_c1]) ?_
  simp only [List.map_cons, List.map_nil, List.length_cons, List.length_nil, List.replicate, List.append_nil, Nat.reduceAdd, Nat.reduceSub, List.cons_append, List.nil_append]
  refine px_go (fun _ => false) 400 ?_
  simp (disch := omega) only [px_lits, false_implies, true_implies, px_dec_ok, px_run_s, px_rules, px_rule_is, px_mats, px_calls, ↓reduceIte, eq_self, Bool.false_eq_true, px_flds, px_o_some, px_fvs, px_pfs, px_cts, px_cls, px_acs_, px_acn, true_and, and_true, true_or, or_true, false_or, or_false, and_self, not_true_eq_false, not_false_eq_true, Classical.not_not, Nat.reduceAdd, Nat.reduceSub, Nat.reduceBEq, Nat.reduceLT, Nat.reduceLeDiff, Nat.lt_add_one, px_tg, Int.cast_ofNat_Int, Int.reduceAdd, Int.reduceSub, Int.reduceMul, Int.reduceToNat, Int.reduceLE, Int.reduceLT, Int.reduceNeg, Int.reduceEq, Bool.or_false, Bool.false_or, Bool.or_true, Bool.true_or, List.length_cons, List.length_nil, List.nil_append, List.cons_append, Option.toList_some, Option.toList_none, reduceCtorEq, Option.some.injEq, Nat.zero_le, Nat.reduceMul, Nat.mul_zero, Nat.add_zero, Int.reduceDiv, Int.reduceMod, Int.toNat_natCast, Nat.lt_irrefl, Int.natCast_add, Int.cast_ofNat_Int, px_mds_RX11_0, px_mds_RX11_1, dec_X11_done, px_eq_iff, px_lt_iff, px_le_iff, px_up_o, px_up_eq, px_up_ne, px_cp_o, pm_k, pm_l]
  refine c_X11_place hc ?_
  refine px_go (fun _ => false) 400 ?_
  simp (disch := omega) only [px_lits, false_implies, true_implies, px_dec_ok, px_run_s, px_rules, px_rule_is, px_mats, px_calls, ↓reduceIte, eq_self, Bool.false_eq_true, px_flds, px_o_some, px_fvs, px_pfs, px_cts, px_cls, px_acs_, px_acn, true_and, and_true, true_or, or_true, false_or, or_false, and_self, not_true_eq_false, not_false_eq_true, Classical.not_not, Nat.reduceAdd, Nat.reduceSub, Nat.reduceBEq, Nat.reduceLT, Nat.reduceLeDiff, Nat.lt_add_one, px_tg, Int.cast_ofNat_Int, Int.reduceAdd, Int.reduceSub, Int.reduceMul, Int.reduceToNat, Int.reduceLE, Int.reduceLT, Int.reduceNeg, Int.reduceEq, Bool.or_false, Bool.false_or, Bool.or_true, Bool.true_or, List.length_cons, List.length_nil, List.nil_append, List.cons_append, Option.toList_some, Option.toList_none, reduceCtorEq, Option.some.injEq, Nat.zero_le, Nat.reduceMul, Nat.mul_zero, Nat.add_zero, Int.reduceDiv, Int.reduceMod, Int.toNat_natCast, Nat.lt_irrefl, Int.natCast_add, Int.cast_ofNat_Int, px_mds_RX11_0, px_mds_RX11_1, dec_X11_done, px_eq_iff, px_lt_iff, px_le_iff, px_up_o, px_up_eq, px_up_ne, px_cp_o, pm_k, pm_l]
  refine c_X11_sort hc ?_
  rcases hcs with rfl | rfl
  · rw [pc_do_put] at h0
    simp only [pc_do_put] at h1
    refine px_go (fun p => p == 24 || p == 102) 400 ?_
    simp (disch := omega) only [px_lits, false_implies, true_implies, px_dec_ok, px_run_s, px_rules, px_rule_is, px_mats, px_calls, ↓reduceIte, eq_self, Bool.false_eq_true, px_flds, px_o_some, px_fvs, px_pfs, px_cts, px_cls, px_acs_, px_acn, true_and, and_true, true_or, or_true, false_or, or_false, and_self, not_true_eq_false, not_false_eq_true, Classical.not_not, Nat.reduceAdd, Nat.reduceSub, Nat.reduceBEq, Nat.reduceLT, Nat.reduceLeDiff, Nat.lt_add_one, px_tg, Int.cast_ofNat_Int, Int.reduceAdd, Int.reduceSub, Int.reduceMul, Int.reduceToNat, Int.reduceLE, Int.reduceLT, Int.reduceNeg, Int.reduceEq, Bool.or_false, Bool.false_or, Bool.or_true, Bool.true_or, List.length_cons, List.length_nil, List.nil_append, List.cons_append, Option.toList_some, Option.toList_none, reduceCtorEq, Option.some.injEq, Nat.zero_le, Nat.reduceMul, Nat.mul_zero, Nat.add_zero, Int.reduceDiv, Int.reduceMod, Int.toNat_natCast, Nat.lt_irrefl, Int.natCast_add, Int.cast_ofNat_Int, px_mds_RX11_0, px_mds_RX11_1, dec_X11_done, px_eq_iff, px_lt_iff, px_le_iff, px_up_o, px_up_eq, px_up_ne, px_cp_o, pm_k, pm_l]
    refine ⟨fun q => ?_, fun q => h0 (by rw [if_neg (by omega)])⟩
    rw [if_pos (by omega)] at h0
    have hp : p ≤ T.length := by omega
    have h1' := fun μ1 => h1 (T.insertIdx p l) μ1 (by rw [if_pos (by omega)]; rfl)
    have hlen : (T.insertIdx p l).length = T.length + 1 := by rw [List.length_insertIdx, if_pos hp]
    have loop : ∀ (m k : Nat) (μ1 : px_Mem), p + m = k → k ≤ T.length → (∀ o, o ≠ 219 → μ1 o = μ o) → (∀ i : Int, (i < f + k + 1 ∨ (f : Int) + T.length + 1 ≤ i) → μ1 219 i = μ 219 i) → (∀ i : Nat, k < i → i ≤ T.length → μ1 219 (f + i) = μ 219 (f + i - 1)) →
        px_J G RX11 cX11_done 6 (some .int) 1 24 [some (.inr (.inl (some 205))), some (.inl f), some (.inl T.length), some (.inl (pm_pk (n, 0, p, l))), some (.inl p), some (.inl k)] [] μ1 Q := by
      intro m
      induction m with
      | zero =>
        intro k μ1 g1 g2 g3 g4 g5
        refine px_go (fun p => p == 24 || p == 102) 400 ?_
        simp (disch := omega) only [px_lits, false_implies, true_implies, px_dec_ok, px_run_s, px_rules, px_rule_is, px_mats, px_calls, ↓reduceIte, eq_self, Bool.false_eq_true, px_flds, px_o_some, px_fvs, px_pfs, px_cts, px_cls, px_acs_, px_acn, true_and, and_true, true_or, or_true, false_or, or_false, and_self, not_true_eq_false, not_false_eq_true, Classical.not_not, Nat.reduceAdd, Nat.reduceSub, Nat.reduceBEq, Nat.reduceLT, Nat.reduceLeDiff, Nat.lt_add_one, px_tg, Int.cast_ofNat_Int, Int.reduceAdd, Int.reduceSub, Int.reduceMul, Int.reduceToNat, Int.reduceLE, Int.reduceLT, Int.reduceNeg, Int.reduceEq, Bool.or_false, Bool.false_or, Bool.or_true, Bool.true_or, List.length_cons, List.length_nil, List.nil_append, List.cons_append, Option.toList_some, Option.toList_none, reduceCtorEq, Option.some.injEq, Nat.zero_le, Nat.reduceMul, Nat.mul_zero, Nat.add_zero, Int.reduceDiv, Int.reduceMod, Int.toNat_natCast, Nat.lt_irrefl, Int.natCast_add, Int.cast_ofNat_Int, px_mds_RX11_0, px_mds_RX11_1, dec_X11_done, px_eq_iff, px_lt_iff, px_le_iff, px_up_o, px_up_eq, px_up_ne, px_cp_o, pm_k, pm_l]
        refine ⟨fun _ => ?_, fun q => absurd (by omega) q⟩
        refine c_X11_letterOf hc ?_
        refine px_go (fun p => p == 24 || p == 102) 400 ?_
        simp (disch := omega) only [px_lits, false_implies, true_implies, px_dec_ok, px_run_s, px_rules, px_rule_is, px_mats, px_calls, ↓reduceIte, eq_self, Bool.false_eq_true, px_flds, px_o_some, px_fvs, px_pfs, px_cts, px_cls, px_acs_, px_acn, true_and, and_true, true_or, or_true, false_or, or_false, and_self, not_true_eq_false, not_false_eq_true, Classical.not_not, Nat.reduceAdd, Nat.reduceSub, Nat.reduceBEq, Nat.reduceLT, Nat.reduceLeDiff, Nat.lt_add_one, px_tg, Int.cast_ofNat_Int, Int.reduceAdd, Int.reduceSub, Int.reduceMul, Int.reduceToNat, Int.reduceLE, Int.reduceLT, Int.reduceNeg, Int.reduceEq, Bool.or_false, Bool.false_or, Bool.or_true, Bool.true_or, List.length_cons, List.length_nil, List.nil_append, List.cons_append, Option.toList_some, Option.toList_none, reduceCtorEq, Option.some.injEq, Nat.zero_le, Nat.reduceMul, Nat.mul_zero, Nat.add_zero, Int.reduceDiv, Int.reduceMod, Int.toNat_natCast, Nat.lt_irrefl, Int.natCast_add, Int.cast_ofNat_Int, px_mds_RX11_0, px_mds_RX11_1, dec_X11_done, px_eq_iff, px_lt_iff, px_le_iff, px_up_o, px_up_eq, px_up_ne, px_cp_o, pm_k, pm_l]
        refine ⟨by omega, ?_⟩
        have := h1' (px_up μ1 219 ((f : Int) + p) l) (fun o ho => by rw [px_up_o ho, g3 o ho]) (fun i hi => by rw [px_up_ne (by omega), g4 i (by omega)]) (fun i x hx => ?_)
        · rw [hlen, Int.natCast_add] at this
          exact this
        · rw [List.getElem?_insertIdx] at hx
          split at hx
          · rw [px_up_ne (by omega), g4 _ (by omega)]
            exact hr i x hx
          · rename_i c1
            split at hx
            · rename_i c2
              rw [if_pos (by omega)] at hx
              cases hx
              rw [px_up_eq (by omega)]
            · rename_i c2
              have hil := (List.getElem?_eq_some_iff.mp hx).1
              rw [px_up_ne (by omega), g5 i (by omega) (by omega)]
              have := hr (i - 1) x hx
              rw [show (f : Int) + i - 1 = f + ((i - 1 : Nat) : Int) by omega]
              exact this
      | succ m ih =>
        intro k μ1 g1 g2 g3 g4 g5
        refine px_go (fun p => p == 24 || p == 102) 400 ?_
        simp (disch := omega) only [px_lits, false_implies, true_implies, px_dec_ok, px_run_s, px_rules, px_rule_is, px_mats, px_calls, ↓reduceIte, eq_self, Bool.false_eq_true, px_flds, px_o_some, px_fvs, px_pfs, px_cts, px_cls, px_acs_, px_acn, true_and, and_true, true_or, or_true, false_or, or_false, and_self, not_true_eq_false, not_false_eq_true, Classical.not_not, Nat.reduceAdd, Nat.reduceSub, Nat.reduceBEq, Nat.reduceLT, Nat.reduceLeDiff, Nat.lt_add_one, px_tg, Int.cast_ofNat_Int, Int.reduceAdd, Int.reduceSub, Int.reduceMul, Int.reduceToNat, Int.reduceLE, Int.reduceLT, Int.reduceNeg, Int.reduceEq, Bool.or_false, Bool.false_or, Bool.or_true, Bool.true_or, List.length_cons, List.length_nil, List.nil_append, List.cons_append, Option.toList_some, Option.toList_none, reduceCtorEq, Option.some.injEq, Nat.zero_le, Nat.reduceMul, Nat.mul_zero, Nat.add_zero, Int.reduceDiv, Int.reduceMod, Int.toNat_natCast, Nat.lt_irrefl, Int.natCast_add, Int.cast_ofNat_Int, px_mds_RX11_0, px_mds_RX11_1, dec_X11_done, px_eq_iff, px_lt_iff, px_le_iff, px_up_o, px_up_eq, px_up_ne, px_cp_o, pm_k, pm_l]
        refine ⟨fun q => by omega, fun _ => ⟨by omega, by omega, ?_⟩⟩
        have := ih (k - 1) (px_up μ1 219 ((f : Int) + k) (μ1 219 ((f : Int) + k - 1))) (by omega) (by omega) (fun o ho => by rw [px_up_o ho, g3 o ho]) (fun i hi => by rw [px_up_ne (by omega), g4 i (by omega)]) (fun i i1 i2 => ?_)
        · rwa [show ((k - 1 : Nat) : Int) = (k : Int) + -1 by omega] at this
        · by_cases e : i = k
          · rw [e, px_up_eq rfl, g4 _ (by omega)]
          · rw [px_up_ne (by omega), g5 i (by omega) i2]
    have := loop (T.length - p) T.length μ (by omega) (Nat.le_refl _) (fun _ _ => rfl) (fun _ _ => rfl) (fun i i1 i2 => by omega)
    exact this
  · rw [pc_do_out] at h0
    simp only [pc_do_out] at h1
    rw [Int.toNat_natCast] at h0
    simp only [Int.toNat_natCast] at h1
    refine px_go (fun p => p == 24 || p == 102) 400 ?_
    simp (disch := omega) only [px_lits, false_implies, true_implies, px_dec_ok, px_run_s, px_rules, px_rule_is, px_mats, px_calls, ↓reduceIte, eq_self, Bool.false_eq_true, px_flds, px_o_some, px_fvs, px_pfs, px_cts, px_cls, px_acs_, px_acn, true_and, and_true, true_or, or_true, false_or, or_false, and_self, not_true_eq_false, not_false_eq_true, Classical.not_not, Nat.reduceAdd, Nat.reduceSub, Nat.reduceBEq, Nat.reduceLT, Nat.reduceLeDiff, Nat.lt_add_one, px_tg, Int.cast_ofNat_Int, Int.reduceAdd, Int.reduceSub, Int.reduceMul, Int.reduceToNat, Int.reduceLE, Int.reduceLT, Int.reduceNeg, Int.reduceEq, Bool.or_false, Bool.false_or, Bool.or_true, Bool.true_or, List.length_cons, List.length_nil, List.nil_append, List.cons_append, Option.toList_some, Option.toList_none, reduceCtorEq, Option.some.injEq, Nat.zero_le, Nat.reduceMul, Nat.mul_zero, Nat.add_zero, Int.reduceDiv, Int.reduceMod, Int.toNat_natCast, Nat.lt_irrefl, Int.natCast_add, Int.cast_ofNat_Int, px_mds_RX11_0, px_mds_RX11_1, dec_X11_done, px_eq_iff, px_lt_iff, px_le_iff, px_up_o, px_up_eq, px_up_ne, px_cp_o, pm_k, pm_l]
    refine ⟨fun q => h0 (by rw [if_neg]; rintro ⟨-, e⟩; have := (List.getElem?_eq_some_iff.mp e).1; omega), fun q => ⟨by omega, ?_⟩⟩
    obtain ⟨x, hx⟩ : ∃ x, T[p]? = some x := ⟨_, List.getElem?_eq_getElem (by omega)⟩
    have mx := hr p x hx
    have rx := hTr x (List.mem_of_getElem? hx)
    rw [mx]
    refine c_X11_letterOf hc ?_
    refine px_go (fun p => p == 24 || p == 102) 400 ?_
    simp (disch := omega) only [px_lits, false_implies, true_implies, px_dec_ok, px_run_s, px_rules, px_rule_is, px_mats, px_calls, ↓reduceIte, eq_self, Bool.false_eq_true, px_flds, px_o_some, px_fvs, px_pfs, px_cts, px_cls, px_acs_, px_acn, true_and, and_true, true_or, or_true, false_or, or_false, and_self, not_true_eq_false, not_false_eq_true, Classical.not_not, Nat.reduceAdd, Nat.reduceSub, Nat.reduceBEq, Nat.reduceLT, Nat.reduceLeDiff, Nat.lt_add_one, px_tg, Int.cast_ofNat_Int, Int.reduceAdd, Int.reduceSub, Int.reduceMul, Int.reduceToNat, Int.reduceLE, Int.reduceLT, Int.reduceNeg, Int.reduceEq, Bool.or_false, Bool.false_or, Bool.or_true, Bool.true_or, List.length_cons, List.length_nil, List.nil_append, List.cons_append, Option.toList_some, Option.toList_none, reduceCtorEq, Option.some.injEq, Nat.zero_le, Nat.reduceMul, Nat.mul_zero, Nat.add_zero, Int.reduceDiv, Int.reduceMod, Int.toNat_natCast, Nat.lt_irrefl, Int.natCast_add, Int.cast_ofNat_Int, px_mds_RX11_0, px_mds_RX11_1, dec_X11_done, px_eq_iff, px_lt_iff, px_le_iff, px_up_o, px_up_eq, px_up_ne, px_cp_o, pm_k, pm_l]
    refine ⟨fun e => ?_, fun e => h0 (by rw [if_neg]; rintro ⟨-, e2⟩; rw [hx] at e2; exact e (Option.some.inj e2))⟩
    have h1' := fun μ1 => h1 (T.eraseIdx p) μ1 (by rw [if_pos ⟨by omega, by rw [hx, e]⟩])
    have hlen : (T.eraseIdx p).length = T.length - 1 := List.length_eraseIdx_of_lt (by omega)
    have loop : ∀ (m k : Nat) (μ1 : px_Mem), k + m = T.length - 1 → p ≤ k → (∀ o, o ≠ 219 → μ1 o = μ o) → (∀ i : Int, (i < f + p ∨ (f : Int) + k ≤ i) → μ1 219 i = μ 219 i) → (∀ i : Nat, p ≤ i → i < k → μ1 219 (f + i) = μ 219 (f + i + 1)) →
        px_J G RX11 cX11_done 6 (some .int) 1 102 [some (.inr (.inl (some 205))), some (.inl f), some (.inl T.length), some (.inl (pm_pk (n, 1, p, l))), some (.inl p), some (.inl k)] [] μ1 Q := by
      intro m
      induction m with
      | zero =>
        intro k μ1 g1 g2 g3 g4 g5
        refine px_go (fun p => p == 24 || p == 102) 400 ?_
        simp (disch := omega) only [px_lits, false_implies, true_implies, px_dec_ok, px_run_s, px_rules, px_rule_is, px_mats, px_calls, ↓reduceIte, eq_self, Bool.false_eq_true, px_flds, px_o_some, px_fvs, px_pfs, px_cts, px_cls, px_acs_, px_acn, true_and, and_true, true_or, or_true, false_or, or_false, and_self, not_true_eq_false, not_false_eq_true, Classical.not_not, Nat.reduceAdd, Nat.reduceSub, Nat.reduceBEq, Nat.reduceLT, Nat.reduceLeDiff, Nat.lt_add_one, px_tg, Int.cast_ofNat_Int, Int.reduceAdd, Int.reduceSub, Int.reduceMul, Int.reduceToNat, Int.reduceLE, Int.reduceLT, Int.reduceNeg, Int.reduceEq, Bool.or_false, Bool.false_or, Bool.or_true, Bool.true_or, List.length_cons, List.length_nil, List.nil_append, List.cons_append, Option.toList_some, Option.toList_none, reduceCtorEq, Option.some.injEq, Nat.zero_le, Nat.reduceMul, Nat.mul_zero, Nat.add_zero, Int.reduceDiv, Int.reduceMod, Int.toNat_natCast, Nat.lt_irrefl, Int.natCast_add, Int.cast_ofNat_Int, px_mds_RX11_0, px_mds_RX11_1, dec_X11_done, px_eq_iff, px_lt_iff, px_le_iff, px_up_o, px_up_eq, px_up_ne, px_cp_o, pm_k, pm_l]
        refine ⟨fun _ => ?_, fun q => absurd (by omega) q⟩
        have := h1' μ1 g3 (fun i hi => g4 i (by omega)) (fun i x hx => ?_)
        · rw [hlen, show ((T.length - 1 : Nat) : Int) = (T.length : Int) - 1 by omega] at this
          exact this
        · have hil := (List.getElem?_eq_some_iff.mp hx).1
          rw [hlen] at hil
          rw [List.getElem?_eraseIdx] at hx
          split at hx
          · rw [g4 _ (by omega)]
            exact hr i x hx
          · rw [g5 i (by omega) (by omega)]
            have := hr (i + 1) x hx
            rw [Int.natCast_add] at this
            rw [Int.add_assoc]
            exact this
      | succ m ih =>
        intro k μ1 g1 g2 g3 g4 g5
        refine px_go (fun p => p == 24 || p == 102) 400 ?_
        simp (disch := omega) only [px_lits, false_implies, true_implies, px_dec_ok, px_run_s, px_rules, px_rule_is, px_mats, px_calls, ↓reduceIte, eq_self, Bool.false_eq_true, px_flds, px_o_some, px_fvs, px_pfs, px_cts, px_cls, px_acs_, px_acn, true_and, and_true, true_or, or_true, false_or, or_false, and_self, not_true_eq_false, not_false_eq_true, Classical.not_not, Nat.reduceAdd, Nat.reduceSub, Nat.reduceBEq, Nat.reduceLT, Nat.reduceLeDiff, Nat.lt_add_one, px_tg, Int.cast_ofNat_Int, Int.reduceAdd, Int.reduceSub, Int.reduceMul, Int.reduceToNat, Int.reduceLE, Int.reduceLT, Int.reduceNeg, Int.reduceEq, Bool.or_false, Bool.false_or, Bool.or_true, Bool.true_or, List.length_cons, List.length_nil, List.nil_append, List.cons_append, Option.toList_some, Option.toList_none, reduceCtorEq, Option.some.injEq, Nat.zero_le, Nat.reduceMul, Nat.mul_zero, Nat.add_zero, Int.reduceDiv, Int.reduceMod, Int.toNat_natCast, Nat.lt_irrefl, Int.natCast_add, Int.cast_ofNat_Int, px_mds_RX11_0, px_mds_RX11_1, dec_X11_done, px_eq_iff, px_lt_iff, px_le_iff, px_up_o, px_up_eq, px_up_ne, px_cp_o, pm_k, pm_l]
        refine ⟨fun q => by omega, fun _ => ⟨by omega, by omega, ?_⟩⟩
        have := ih (k + 1) (px_up μ1 219 ((f : Int) + k) (μ1 219 ((f : Int) + k + 1))) (by omega) (by omega) (fun o ho => by rw [px_up_o ho, g3 o ho]) (fun i hi => by rw [px_up_ne (by omega), g4 i (by omega)]) (fun i i1 i2 => ?_)
        · rwa [Int.natCast_add] at this
        · by_cases e : i = k
          · rw [e, px_up_eq rfl, g4 _ (by omega)]
          · rw [px_up_ne (by omega), g5 i i1 (by omega)]
    exact loop (T.length - 1 - p) p μ (by omega) (Nat.le_refl _) (fun _ _ => rfl) (fun _ _ => rfl) (fun i i1 i2 => by omega)
