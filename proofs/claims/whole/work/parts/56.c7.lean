/-! ===== the class: Orders ===== -/
theorem pv_m : (∀ j, j < 32 → pb 7 j = decide (j < 3)) ∧ (∀ j, j < 32 → pb 31 j = decide (j < 5)) := by decide +kernel
theorem pv_1 : px_shl 1 3 = 8 ∧ px_shl 1 5 = 32 := by decide +kernel
set_option maxHeartbeats 4000000 in
set_option maxRecDepth 100000 in
theorem c_X4_part {G : px_G} {b i : Nat} {D : List Nat} {μ : px_Mem} {Q : Option px_X → px_Mem → Prop} (hb : b = 3 ∨ b = 5) (hD : ∀ d ∈ D, d < 2 ^ b) (hl : D.length ≤ 6) (hi : i < D.length) (h : Q (some (.inl ((D[i] : Nat) : Int))) μ) : px_C G yX4_part cX4_part 3 (some .int) 0 [.inl (pp b D : Nat), .inl i, .inl b] μ Q := by
  rcases hb with rfl | rfl
  · have v := pv_part (by omega) hD (by omega) hi pv_m.1
    rw [show ((i * 3 : Nat) : Int) = (i : Int) * 3 by omega] at v
    refine px_enter RX4 (by decide +kernel) rfl (by simp) (by simp [px_c1]) ?_
    simp only [List.map_cons, List.map_nil, List.length_cons, List.length_nil, List.replicate, List.append_nil, Nat.reduceAdd, Nat.reduceSub, List.cons_append, List.nil_append]
    refine px_go (fun _ => false) 400 ?_
    simp (disch := omega) only [px_lits, false_implies, true_implies, px_dec_ok, px_run_s, px_rules, px_rule_is, px_mats, px_calls, ↓reduceIte, eq_self, Bool.false_eq_true, px_flds, px_o_some, px_fvs, px_pfs, px_cts, px_cls, px_acs_, px_acn, true_and, and_true, true_or, or_true, false_or, or_false, and_self, not_true_eq_false, not_false_eq_true, Classical.not_not, Nat.reduceAdd, Nat.reduceSub, Nat.reduceBEq, Nat.reduceLT, Nat.reduceLeDiff, Nat.lt_add_one, px_tg, Int.cast_ofNat_Int, Int.reduceAdd, Int.reduceSub, Int.reduceMul, Int.reduceToNat, Int.reduceLE, Int.reduceLT, Int.reduceNeg, Int.reduceEq, Bool.or_false, Bool.false_or, Bool.or_true, Bool.true_or, List.length_cons, List.length_nil, List.nil_append, List.cons_append, Option.toList_some, Option.toList_none, reduceCtorEq, Option.some.injEq, Nat.zero_le, Nat.reduceMul, Nat.mul_zero, Nat.add_zero, Int.reduceDiv, Int.reduceMod, Int.toNat_natCast, Nat.lt_irrefl, Int.natCast_add, Int.cast_ofNat_Int, px_mds_RX4_0, dec_X4_part, px_eq_iff, px_lt_iff, px_le_iff, px_up_o, px_up_eq, px_up_ne, px_cp_o, pv_1]
    rw [v]
    exact h
  · have v := pv_part (by omega) hD (by omega) hi pv_m.2
    rw [show ((i * 5 : Nat) : Int) = (i : Int) * 5 by omega] at v
    refine px_enter RX4 (by decide +kernel) rfl (by simp) (by simp [px_c1]) ?_
    simp only [List.map_cons, List.map_nil, List.length_cons, List.length_nil, List.replicate, List.append_nil, Nat.reduceAdd, Nat.reduceSub, List.cons_append, List.nil_append]
    refine px_go (fun _ => false) 400 ?_
    simp (disch := omega) only [px_lits, false_implies, true_implies, px_dec_ok, px_run_s, px_rules, px_rule_is, px_mats, px_calls, ↓reduceIte, eq_self, Bool.false_eq_true, px_flds, px_o_some, px_fvs, px_pfs, px_cts, px_cls, px_acs_, px_acn, true_and, and_true, true_or, or_true, false_or, or_false, and_self, not_true_eq_false, not_false_eq_true, Classical.not_not, Nat.reduceAdd, Nat.reduceSub, Nat.reduceBEq, Nat.reduceLT, Nat.reduceLeDiff, Nat.lt_add_one, px_tg, Int.cast_ofNat_Int, Int.reduceAdd, Int.reduceSub, Int.reduceMul, Int.reduceToNat, Int.reduceLE, Int.reduceLT, Int.reduceNeg, Int.reduceEq, Bool.or_false, Bool.false_or, Bool.or_true, Bool.true_or, List.length_cons, List.length_nil, List.nil_append, List.cons_append, Option.toList_some, Option.toList_none, reduceCtorEq, Option.some.injEq, Nat.zero_le, Nat.reduceMul, Nat.mul_zero, Nat.add_zero, Int.reduceDiv, Int.reduceMod, Int.toNat_natCast, Nat.lt_irrefl, Int.natCast_add, Int.cast_ofNat_Int, px_mds_RX4_0, dec_X4_part, px_eq_iff, px_lt_iff, px_le_iff, px_up_o, px_up_eq, px_up_ne, px_cp_o, pv_1]
    rw [v]
    exact h
set_option maxHeartbeats 4000000 in
set_option maxRecDepth 100000 in
theorem c_X4_with {G : px_G} {b i x y v : Nat} {μ : px_Mem} {Q : Option px_X → px_Mem → Prop} (hb : b = 3 ∨ b = 5) (hi : i < 6) (hv : v < 2 ^ b) (hy : y < 2147483648) (hj : ∀ j, j < 32 → y.testBit j = if i * b ≤ j ∧ j < i * b + b then v.testBit (j - i * b) else x.testBit j) (h : Q (some (.inl (y : Int))) μ) : px_C G yX4_with cX4_with 4 (some .int) 0 [.inl (x : Nat), .inl i, .inl b, .inl v] μ Q := by
  rcases hb with rfl | rfl
  · have w := pv_with (by omega) (by omega) hv hy pv_m.1 hj
    rw [show ((i * 3 : Nat) : Int) = (i : Int) * 3 by omega] at w
    refine px_enter RX4 (by decide +kernel) rfl (by simp) (by simp [px_c1]) ?_
    simp only [List.map_cons, List.map_nil, List.length_cons, List.length_nil, List.replicate, List.append_nil, Nat.reduceAdd, Nat.reduceSub, List.cons_append, List.nil_append]
    refine px_go (fun _ => false) 400 ?_
    simp (disch := omega) only [px_lits, false_implies, true_implies, px_dec_ok, px_run_s, px_rules, px_rule_is, px_mats, px_calls, ↓reduceIte, eq_self, Bool.false_eq_true, px_flds, px_o_some, px_fvs, px_pfs, px_cts, px_cls, px_acs_, px_acn, true_and, and_true, true_or, or_true, false_or, or_false, and_self, not_true_eq_false, not_false_eq_true, Classical.not_not, Nat.reduceAdd, Nat.reduceSub, Nat.reduceBEq, Nat.reduceLT, Nat.reduceLeDiff, Nat.lt_add_one, px_tg, Int.cast_ofNat_Int, Int.reduceAdd, Int.reduceSub, Int.reduceMul, Int.reduceToNat, Int.reduceLE, Int.reduceLT, Int.reduceNeg, Int.reduceEq, Bool.or_false, Bool.false_or, Bool.or_true, Bool.true_or, List.length_cons, List.length_nil, List.nil_append, List.cons_append, Option.toList_some, Option.toList_none, reduceCtorEq, Option.some.injEq, Nat.zero_le, Nat.reduceMul, Nat.mul_zero, Nat.add_zero, Int.reduceDiv, Int.reduceMod, Int.toNat_natCast, Nat.lt_irrefl, Int.natCast_add, Int.cast_ofNat_Int, px_mds_RX4_0, dec_X4_with, px_eq_iff, px_lt_iff, px_le_iff, px_up_o, px_up_eq, px_up_ne, px_cp_o, pv_1]
    rw [w]
    exact h
  · have w := pv_with (by omega) (by omega) hv hy pv_m.2 hj
    rw [show ((i * 5 : Nat) : Int) = (i : Int) * 5 by omega] at w
    refine px_enter RX4 (by decide +kernel) rfl (by simp) (by simp [px_c1]) ?_
    simp only [List.map_cons, List.map_nil, List.length_cons, List.length_nil, List.replicate, List.append_nil, Nat.reduceAdd, Nat.reduceSub, List.cons_append, List.nil_append]
    refine px_go (fun _ => false) 400 ?_
    simp (disch := omega) only [px_lits, false_implies, true_implies, px_dec_ok, px_run_s, px_rules, px_rule_is, px_mats, px_calls, ↓reduceIte, eq_self, Bool.false_eq_true, px_flds, px_o_some, px_fvs, px_pfs, px_cts, px_cls, px_acs_, px_acn, true_and, and_true, true_or, or_true, false_or, or_false, and_self, not_true_eq_false, not_false_eq_true, Classical.not_not, Nat.reduceAdd, Nat.reduceSub, Nat.reduceBEq, Nat.reduceLT, Nat.reduceLeDiff, Nat.lt_add_one, px_tg, Int.cast_ofNat_Int, Int.reduceAdd, Int.reduceSub, Int.reduceMul, Int.reduceToNat, Int.reduceLE, Int.reduceLT, Int.reduceNeg, Int.reduceEq, Bool.or_false, Bool.false_or, Bool.or_true, Bool.true_or, List.length_cons, List.length_nil, List.nil_append, List.cons_append, Option.toList_some, Option.toList_none, reduceCtorEq, Option.some.injEq, Nat.zero_le, Nat.reduceMul, Nat.mul_zero, Nat.add_zero, Int.reduceDiv, Int.reduceMod, Int.toNat_natCast, Nat.lt_irrefl, Int.natCast_add, Int.cast_ofNat_Int, px_mds_RX4_0, dec_X4_with, px_eq_iff, px_lt_iff, px_le_iff, px_up_o, px_up_eq, px_up_ne, px_cp_o, pv_1]
    rw [w]
    exact h
theorem pp_31 {b : Nat} {D : List Nat} (hb : b = 3 ∨ b = 5) (hD : ∀ d ∈ D, d < 2 ^ b) (hl : D.length ≤ 6) : pp b D < 2147483648 := by
  refine Nat.lt_of_lt_of_le (pp_lt hD) (Nat.le_trans (Nat.pow_le_pow_right (by omega) (show b * D.length ≤ 31 by rcases hb with rfl | rfl <;> omega)) (by decide))
theorem pf_pos : ∀ n, 0 < pf n
  | 0 => by decide
  | n + 1 => Nat.mul_pos (by omega) (pf_pos n)
set_option maxHeartbeats 4000000 in
set_option maxRecDepth 100000 in
theorem c_X4_rankOf {G : px_G} {D : List Nat} {μ : px_Mem} {Q : Option px_X → px_Mem → Prop} (hD : ∀ d ∈ D, d < 2 ^ 3) (hl : D.length ≤ 6) (h : Q (some (.inl (rk D : Nat))) μ) : px_C G yX4_rankOf cX4_rankOf 6 (some .int) 1 [.inl (pp 3 D : Nat), .inl D.length] μ Q := by
  have hD8 : ∀ i (hi : i < D.length), D[i] < 8 := fun i hi => hD _ (List.getElem_mem hi)
  have inner : ∀ (m j i R c : Nat) (hi : i < D.length), j + m = D.length → i < j → c = ((D.take j).drop (i + 1)).countP (fun x => decide (x < D[i])) →
      (∀ j' : Int, px_J G RX4 cX4_rankOf 6 (some .int) 1 48 [some (.inl (pp 3 D : Nat)), some (.inl D.length), some (.inl (R : Nat)), some (.inl i), some (.inl (((D.drop (i + 1)).countP (fun x => decide (x < D[i])) : Nat) : Int)), some (.inl j')] [] μ Q) →
      px_J G RX4 cX4_rankOf 6 (some .int) 1 17 [some (.inl (pp 3 D : Nat)), some (.inl D.length), some (.inl (R : Nat)), some (.inl i), some (.inl c), some (.inl j)] [] μ Q := by
    intro m
    induction m with
    | zero =>
      intro j i R c hi e1 e2 e3 k
      refine px_go (fun p => p == 17 || p == 48) 400 ?_
      simp (disch := omega) only [px_lits, false_implies, true_implies, px_dec_ok, px_run_s, px_rules, px_rule_is, px_mats, px_calls, ↓reduceIte, eq_self, Bool.false_eq_true, px_flds, px_o_some, px_fvs, px_pfs, px_cts, px_cls, px_acs_, px_acn, true_and, and_true, true_or, or_true, false_or, or_false, and_self, not_true_eq_false, not_false_eq_true, Classical.not_not, Nat.reduceAdd, Nat.reduceSub, Nat.reduceBEq, Nat.reduceLT, Nat.reduceLeDiff, Nat.lt_add_one, px_tg, Int.cast_ofNat_Int, Int.reduceAdd, Int.reduceSub, Int.reduceMul, Int.reduceToNat, Int.reduceLE, Int.reduceLT, Int.reduceNeg, Int.reduceEq, Bool.or_false, Bool.false_or, Bool.or_true, Bool.true_or, List.length_cons, List.length_nil, List.nil_append, List.cons_append, Option.toList_some, Option.toList_none, reduceCtorEq, Option.some.injEq, Nat.zero_le, Nat.reduceMul, Nat.mul_zero, Nat.add_zero, Int.reduceDiv, Int.reduceMod, Int.toNat_natCast, Nat.lt_irrefl, Int.natCast_add, Int.cast_ofNat_Int, px_mds_RX4_0, dec_X4_rankOf, px_eq_iff, px_lt_iff, px_le_iff, px_up_o, px_up_eq, px_up_ne, px_cp_o, pv_1]
      refine ⟨fun _ => ?_, fun n => by omega⟩
      rw [List.take_of_length_le (by omega)] at e3
      rw [e3]
      exact k j
    | succ m ih =>
      intro j i R c hi e1 e2 e3 k
      have hj : j < D.length := by omega
      have d1 := hD8 j hj
      have d2 := hD8 i hi
      have step : ((D.take (j + 1)).drop (i + 1)).countP (fun x => decide (x < D[i])) = c + (if D[j] < D[i] then 1 else 0) := by
        rw [List.take_succ, List.getElem?_eq_getElem hj, List.drop_append_of_le_length (by rw [List.length_take]; omega), List.countP_append, ← e3]
        show c + List.countP (fun x => decide (x < D[i])) [D[j]] = _
        rw [List.countP_cons]
        by_cases q : D[j] < D[i] <;> simp [q]
      have cl : c ≤ D.length := by
        rw [e3]
        refine Nat.le_trans List.countP_le_length ?_
        rw [List.length_drop, List.length_take]
        omega
      refine px_go (fun p => p == 17 || p == 48) 400 ?_
      simp (disch := omega) only [px_lits, false_implies, true_implies, px_dec_ok, px_run_s, px_rules, px_rule_is, px_mats, px_calls, ↓reduceIte, eq_self, Bool.false_eq_true, px_flds, px_o_some, px_fvs, px_pfs, px_cts, px_cls, px_acs_, px_acn, true_and, and_true, true_or, or_true, false_or, or_false, and_self, not_true_eq_false, not_false_eq_true, Classical.not_not, Nat.reduceAdd, Nat.reduceSub, Nat.reduceBEq, Nat.reduceLT, Nat.reduceLeDiff, Nat.lt_add_one, px_tg, Int.cast_ofNat_Int, Int.reduceAdd, Int.reduceSub, Int.reduceMul, Int.reduceToNat, Int.reduceLE, Int.reduceLT, Int.reduceNeg, Int.reduceEq, Bool.or_false, Bool.false_or, Bool.or_true, Bool.true_or, List.length_cons, List.length_nil, List.nil_append, List.cons_append, Option.toList_some, Option.toList_none, reduceCtorEq, Option.some.injEq, Nat.zero_le, Nat.reduceMul, Nat.mul_zero, Nat.add_zero, Int.reduceDiv, Int.reduceMod, Int.toNat_natCast, Nat.lt_irrefl, Int.natCast_add, Int.cast_ofNat_Int, px_mds_RX4_0, dec_X4_rankOf, px_eq_iff, px_lt_iff, px_le_iff, px_up_o, px_up_eq, px_up_ne, px_cp_o, pv_1]
      refine ⟨fun n => by omega, fun _ => ?_⟩
      refine c_X4_part (b := 3) (.inl rfl) hD hl hj ?_
      refine px_go (fun p => p == 17 || p == 48) 400 ?_
      simp (disch := omega) only [px_lits, false_implies, true_implies, px_dec_ok, px_run_s, px_rules, px_rule_is, px_mats, px_calls, ↓reduceIte, eq_self, Bool.false_eq_true, px_flds, px_o_some, px_fvs, px_pfs, px_cts, px_cls, px_acs_, px_acn, true_and, and_true, true_or, or_true, false_or, or_false, and_self, not_true_eq_false, not_false_eq_true, Classical.not_not, Nat.reduceAdd, Nat.reduceSub, Nat.reduceBEq, Nat.reduceLT, Nat.reduceLeDiff, Nat.lt_add_one, px_tg, Int.cast_ofNat_Int, Int.reduceAdd, Int.reduceSub, Int.reduceMul, Int.reduceToNat, Int.reduceLE, Int.reduceLT, Int.reduceNeg, Int.reduceEq, Bool.or_false, Bool.false_or, Bool.or_true, Bool.true_or, List.length_cons, List.length_nil, List.nil_append, List.cons_append, Option.toList_some, Option.toList_none, reduceCtorEq, Option.some.injEq, Nat.zero_le, Nat.reduceMul, Nat.mul_zero, Nat.add_zero, Int.reduceDiv, Int.reduceMod, Int.toNat_natCast, Nat.lt_irrefl, Int.natCast_add, Int.cast_ofNat_Int, px_mds_RX4_0, dec_X4_rankOf, px_eq_iff, px_lt_iff, px_le_iff, px_up_o, px_up_eq, px_up_ne, px_cp_o, pv_1]
      refine c_X4_part (b := 3) (.inl rfl) hD hl hi ?_
      by_cases q : D[j] < D[i]
      · have q' : ¬ ((D[i] : Nat) : Int) ≤ ((D[j] : Nat) : Int) := by omega
        rw [if_pos q] at step
        refine px_go (fun p => p == 17 || p == 48) 400 ?_
        simp (disch := omega) only [px_lits, false_implies, true_implies, px_dec_ok, px_run_s, px_rules, px_rule_is, px_mats, px_calls, ↓reduceIte, eq_self, Bool.false_eq_true, px_flds, px_o_some, px_fvs, px_pfs, px_cts, px_cls, px_acs_, px_acn, true_and, and_true, true_or, or_true, false_or, or_false, and_self, not_true_eq_false, not_false_eq_true, Classical.not_not, Nat.reduceAdd, Nat.reduceSub, Nat.reduceBEq, Nat.reduceLT, Nat.reduceLeDiff, Nat.lt_add_one, px_tg, Int.cast_ofNat_Int, Int.reduceAdd, Int.reduceSub, Int.reduceMul, Int.reduceToNat, Int.reduceLE, Int.reduceLT, Int.reduceNeg, Int.reduceEq, Bool.or_false, Bool.false_or, Bool.or_true, Bool.true_or, List.length_cons, List.length_nil, List.nil_append, List.cons_append, Option.toList_some, Option.toList_none, reduceCtorEq, Option.some.injEq, Nat.zero_le, Nat.reduceMul, Nat.mul_zero, Nat.add_zero, Int.reduceDiv, Int.reduceMod, Int.toNat_natCast, Nat.lt_irrefl, Int.natCast_add, Int.cast_ofNat_Int, px_mds_RX4_0, dec_X4_rankOf, px_eq_iff, px_lt_iff, px_le_iff, px_up_o, px_up_eq, px_up_ne, px_cp_o, pv_1, q']
        have := ih (j + 1) i R (c + 1) hi (by omega) (by omega) step.symm k
        rw [Int.natCast_add, Int.natCast_add] at this
        exact this
      · have q' : ((D[i] : Nat) : Int) ≤ ((D[j] : Nat) : Int) := by omega
        rw [if_neg q, Nat.add_zero] at step
        refine px_go (fun p => p == 17 || p == 48) 400 ?_
        simp (disch := omega) only [px_lits, false_implies, true_implies, px_dec_ok, px_run_s, px_rules, px_rule_is, px_mats, px_calls, ↓reduceIte, eq_self, Bool.false_eq_true, px_flds, px_o_some, px_fvs, px_pfs, px_cts, px_cls, px_acs_, px_acn, true_and, and_true, true_or, or_true, false_or, or_false, and_self, not_true_eq_false, not_false_eq_true, Classical.not_not, Nat.reduceAdd, Nat.reduceSub, Nat.reduceBEq, Nat.reduceLT, Nat.reduceLeDiff, Nat.lt_add_one, px_tg, Int.cast_ofNat_Int, Int.reduceAdd, Int.reduceSub, Int.reduceMul, Int.reduceToNat, Int.reduceLE, Int.reduceLT, Int.reduceNeg, Int.reduceEq, Bool.or_false, Bool.false_or, Bool.or_true, Bool.true_or, List.length_cons, List.length_nil, List.nil_append, List.cons_append, Option.toList_some, Option.toList_none, reduceCtorEq, Option.some.injEq, Nat.zero_le, Nat.reduceMul, Nat.mul_zero, Nat.add_zero, Int.reduceDiv, Int.reduceMod, Int.toNat_natCast, Nat.lt_irrefl, Int.natCast_add, Int.cast_ofNat_Int, px_mds_RX4_0, dec_X4_rankOf, px_eq_iff, px_lt_iff, px_le_iff, px_up_o, px_up_eq, px_up_ne, px_cp_o, pv_1, q']
        have := ih (j + 1) i R c hi (by omega) (by omega) step.symm k
        rw [Int.natCast_add] at this
        exact this
  have outer : ∀ (m i R : Nat) (x4 x5 : Option px_X), i + m = D.length → R * pf (D.length - i) + rk (D.drop i) = rk D →
      px_J G RX4 cX4_rankOf 6 (some .int) 1 4 [some (.inl (pp 3 D : Nat)), some (.inl D.length), some (.inl (R : Nat)), some (.inl i), x4, x5] [] μ Q := by
    intro m
    induction m with
    | zero =>
      intro i R x4 x5 e1 e2
      refine px_go (fun p => p == 4 || p == 17 || p == 48) 400 ?_
      simp (disch := omega) only [px_lits, false_implies, true_implies, px_dec_ok, px_run_s, px_rules, px_rule_is, px_mats, px_calls, ↓reduceIte, eq_self, Bool.false_eq_true, px_flds, px_o_some, px_fvs, px_pfs, px_cts, px_cls, px_acs_, px_acn, true_and, and_true, true_or, or_true, false_or, or_false, and_self, not_true_eq_false, not_false_eq_true, Classical.not_not, Nat.reduceAdd, Nat.reduceSub, Nat.reduceBEq, Nat.reduceLT, Nat.reduceLeDiff, Nat.lt_add_one, px_tg, Int.cast_ofNat_Int, Int.reduceAdd, Int.reduceSub, Int.reduceMul, Int.reduceToNat, Int.reduceLE, Int.reduceLT, Int.reduceNeg, Int.reduceEq, Bool.or_false, Bool.false_or, Bool.or_true, Bool.true_or, List.length_cons, List.length_nil, List.nil_append, List.cons_append, Option.toList_some, Option.toList_none, reduceCtorEq, Option.some.injEq, Nat.zero_le, Nat.reduceMul, Nat.mul_zero, Nat.add_zero, Int.reduceDiv, Int.reduceMod, Int.toNat_natCast, Nat.lt_irrefl, Int.natCast_add, Int.cast_ofNat_Int, px_mds_RX4_0, dec_X4_rankOf, px_eq_iff, px_lt_iff, px_le_iff, px_up_o, px_up_eq, px_up_ne, px_cp_o, pv_1]
      refine ⟨fun _ => ?_, fun n => by omega⟩
      rw [show D.length - i = 0 by omega, List.drop_of_length_le (by omega)] at e2
      have : R = rk D := by simpa [pf, rk] using e2
      rw [this]
      exact h
    | succ m ih =>
      intro i R x4 x5 e1 e2
      have hi : i < D.length := by omega
      refine px_go (fun p => p == 4 || p == 17 || p == 48) 400 ?_
      simp (disch := omega) only [px_lits, false_implies, true_implies, px_dec_ok, px_run_s, px_rules, px_rule_is, px_mats, px_calls, ↓reduceIte, eq_self, Bool.false_eq_true, px_flds, px_o_some, px_fvs, px_pfs, px_cts, px_cls, px_acs_, px_acn, true_and, and_true, true_or, or_true, false_or, or_false, and_self, not_true_eq_false, not_false_eq_true, Classical.not_not, Nat.reduceAdd, Nat.reduceSub, Nat.reduceBEq, Nat.reduceLT, Nat.reduceLeDiff, Nat.lt_add_one, px_tg, Int.cast_ofNat_Int, Int.reduceAdd, Int.reduceSub, Int.reduceMul, Int.reduceToNat, Int.reduceLE, Int.reduceLT, Int.reduceNeg, Int.reduceEq, Bool.or_false, Bool.false_or, Bool.or_true, Bool.true_or, List.length_cons, List.length_nil, List.nil_append, List.cons_append, Option.toList_some, Option.toList_none, reduceCtorEq, Option.some.injEq, Nat.zero_le, Nat.reduceMul, Nat.mul_zero, Nat.add_zero, Int.reduceDiv, Int.reduceMod, Int.toNat_natCast, Nat.lt_irrefl, Int.natCast_add, Int.cast_ofNat_Int, px_mds_RX4_0, dec_X4_rankOf, px_eq_iff, px_lt_iff, px_le_iff, px_up_o, px_up_eq, px_up_ne, px_cp_o, pv_1]
      refine ⟨fun n => by omega, fun _ => ?_⟩
      rw [show (i : Int) + 1 = ((i + 1 : Nat) : Int) by omega]
      have hz : (0 : Int) = ((0 : Nat) : Int) := rfl
      refine inner (D.length - (i + 1)) (i + 1) i R 0 hi (by omega) (by omega) ?_ (fun j' => ?_)
      · rw [List.drop_eq_nil_of_le (by rw [List.length_take]; omega)]
        rfl
      · refine px_go (fun p => p == 4 || p == 17) 400 ?_
        simp (disch := omega) only [px_lits, false_implies, true_implies, px_dec_ok, px_run_s, px_rules, px_rule_is, px_mats, px_calls, ↓reduceIte, eq_self, Bool.false_eq_true, px_flds, px_o_some, px_fvs, px_pfs, px_cts, px_cls, px_acs_, px_acn, true_and, and_true, true_or, or_true, false_or, or_false, and_self, not_true_eq_false, not_false_eq_true, Classical.not_not, Nat.reduceAdd, Nat.reduceSub, Nat.reduceBEq, Nat.reduceLT, Nat.reduceLeDiff, Nat.lt_add_one, px_tg, Int.cast_ofNat_Int, Int.reduceAdd, Int.reduceSub, Int.reduceMul, Int.reduceToNat, Int.reduceLE, Int.reduceLT, Int.reduceNeg, Int.reduceEq, Bool.or_false, Bool.false_or, Bool.or_true, Bool.true_or, List.length_cons, List.length_nil, List.nil_append, List.cons_append, Option.toList_some, Option.toList_none, reduceCtorEq, Option.some.injEq, Nat.zero_le, Nat.reduceMul, Nat.mul_zero, Nat.add_zero, Int.reduceDiv, Int.reduceMod, Int.toNat_natCast, Nat.lt_irrefl, Int.natCast_add, Int.cast_ofNat_Int, px_mds_RX4_0, dec_X4_rankOf, px_eq_iff, px_lt_iff, px_le_iff, px_up_o, px_up_eq, px_up_ne, px_cp_o, pv_1]
        have e3 : rk (D.drop i) = (D.drop (i + 1)).countP (fun x => decide (x < D[i])) * pf (D.length - (i + 1)) + rk (D.drop (i + 1)) := by
          rw [List.drop_eq_getElem_cons hi]
          show _ * pf (D.drop (i + 1)).length + _ = _
          rw [List.length_drop]
        have e4 : pf (D.length - i) = (D.length - i) * pf (D.length - (i + 1)) := by
          rw [show D.length - i = (D.length - (i + 1)) + 1 by omega]
          rfl
        have := ih (i + 1) (R * (D.length - i) + (D.drop (i + 1)).countP (fun x => decide (x < D[i]))) (some (.inl (((D.drop (i + 1)).countP (fun x => decide (x < D[i])) : Nat) : Int))) (some (.inl j')) (by omega) (by rw [← e2, e3, e4, Nat.add_mul, Nat.mul_assoc, Nat.add_assoc])
        rw [Int.natCast_add, Int.natCast_mul, Int.natCast_add, show ((D.length - i : Nat) : Int) = (D.length : Int) - i by omega] at this
        exact this
  refine px_enter RX4 (by decide +kernel) rfl (by simp) (by simp [px_c1]) ?_
  simp only [List.map_cons, List.map_nil, List.length_cons, List.length_nil, List.replicate, List.append_nil, Nat.reduceAdd, Nat.reduceSub, List.cons_append, List.nil_append]
  refine px_go (fun p => p == 4) 400 ?_
  simp (disch := omega) only [px_lits, false_implies, true_implies, px_dec_ok, px_run_s, px_rules, px_rule_is, px_mats, px_calls, ↓reduceIte, eq_self, Bool.false_eq_true, px_flds, px_o_some, px_fvs, px_pfs, px_cts, px_cls, px_acs_, px_acn, true_and, and_true, true_or, or_true, false_or, or_false, and_self, not_true_eq_false, not_false_eq_true, Classical.not_not, Nat.reduceAdd, Nat.reduceSub, Nat.reduceBEq, Nat.reduceLT, Nat.reduceLeDiff, Nat.lt_add_one, px_tg, Int.cast_ofNat_Int, Int.reduceAdd, Int.reduceSub, Int.reduceMul, Int.reduceToNat, Int.reduceLE, Int.reduceLT, Int.reduceNeg, Int.reduceEq, Bool.or_false, Bool.false_or, Bool.or_true, Bool.true_or, List.length_cons, List.length_nil, List.nil_append, List.cons_append, Option.toList_some, Option.toList_none, reduceCtorEq, Option.some.injEq, Nat.zero_le, Nat.reduceMul, Nat.mul_zero, Nat.add_zero, Int.reduceDiv, Int.reduceMod, Int.toNat_natCast, Nat.lt_irrefl, Int.natCast_add, Int.cast_ofNat_Int, px_mds_RX4_0, dec_X4_rankOf, px_eq_iff, px_lt_iff, px_le_iff, px_up_o, px_up_eq, px_up_ne, px_cp_o, pv_1]
  exact outer D.length 0 0 none none (by omega) (by simp)
