/-! ===== a history of the class: four rows of sixteen, and how many ===== -/
theorem pc_hk {h : Nat} (hh : px_kd h = 0) : (px_kd (h + 1) = 20 ∧ px_kd (h + 2) = 20 ∧ px_kd (h + 3) = 20 ∧ px_kd (h + 4) = 20) ∧ (px_ln (h + 1) = 16 ∧ px_ln (h + 2) = 16 ∧ px_ln (h + 3) = 16 ∧ px_ln (h + 4) = 16) := by
  have h1 : h < 221 := px_kd_lt (by omega)
  have key : ∀ k : Fin 221, px_kd k = 0 → (px_kd (k + 1) = 20 ∧ px_kd (k + 2) = 20 ∧ px_kd (k + 3) = 20 ∧ px_kd (k + 4) = 20) ∧ (px_ln (k + 1) = 16 ∧ px_ln (k + 2) = 16 ∧ px_ln (k + 3) = 16 ∧ px_ln (k + 4) = 16) := by decide +kernel
  exact key ⟨h, h1⟩ hh
set_option maxHeartbeats 4000000 in
set_option maxRecDepth 100000 in
theorem c_X0_hasPlace {G : px_G} {h : Nat} {x : Int} {μ : px_Mem} {Q : Option px_X → px_Mem → Prop} (hh : px_kd h = 0) (hn : 0 ≤ μ h 4 ∧ μ h 4 ≤ 16) (hx : -2147483648 ≤ x ∧ x < 2147483648) (h1 : 0 ≤ x ∧ x < μ h 4 → Q (some (.inl 1)) μ) (h0 : ¬ (0 ≤ x ∧ x < μ h 4) → Q (some (.inl 0)) μ) : px_C G yX0_hasPlace cX0_hasPlace 2 (some .boolean) 0 [.inr (.inl (some h)), .inl x] μ Q := by
  refine px_enter RX0 (by decide +kernel) rfl (by simp) (by simp [px_c1]) ?_
  simp only [List.map_cons, List.map_nil, List.length_cons, List.length_nil, List.replicate, List.append_nil, Nat.reduceAdd, Nat.reduceSub, List.cons_append, List.nil_append]
  refine px_go (fun _ => false) 400 ?_
  simp only [px_lits, false_implies, true_implies, px_dec_ok, px_run_s, px_rules, px_rule_is, px_mats, px_calls, ↓reduceIte, eq_self, Bool.false_eq_true, px_flds, px_o_some, px_fvs, px_pfs, px_cts, px_cls, px_acs_, px_acn, true_and, and_true, true_or, or_true, false_or, or_false, and_self, not_true_eq_false, not_false_eq_true, Classical.not_not, Nat.reduceAdd, Nat.reduceSub, Nat.reduceBEq, Nat.reduceLT, Nat.reduceLeDiff, Nat.lt_add_one, px_tg, Int.cast_ofNat_Int, Int.reduceAdd, Int.reduceSub, Int.reduceMul, Int.reduceToNat, Int.reduceLE, Int.reduceLT, Int.reduceNeg, Int.reduceEq, Bool.or_false, Bool.false_or, Bool.or_true, Bool.true_or, List.length_cons, List.length_nil, List.nil_append, List.cons_append, Option.toList_some, Option.toList_none, reduceCtorEq, Option.some.injEq, Nat.zero_le, Nat.reduceMul, Nat.mul_zero, Nat.add_zero, Int.reduceDiv, Int.reduceMod, Int.toNat_natCast, Nat.lt_irrefl, Int.natCast_add, Int.cast_ofNat_Int, px_mds_RX0_0, dec_X0_hasPlace, hh]
  simp (disch := omega) only [px_lt_iff, px_le_iff]
  exact ⟨fun _ => h0 (by omega), fun _ => ⟨fun _ => h0 (by omega), fun _ => h1 (by omega)⟩⟩
set_option maxHeartbeats 4000000 in
set_option maxRecDepth 100000 in
theorem c_X0_hasPair {G : px_G} {h : Nat} {x : Int} {μ : px_Mem} {Q : Option px_X → px_Mem → Prop} (hh : px_kd h = 0) (hn : 0 ≤ μ h 4 ∧ μ h 4 ≤ 16) (hx : -2147483648 ≤ x ∧ x < 2147483648) (h1 : 0 ≤ x ∧ x < μ h 4 - 1 → Q (some (.inl 1)) μ) (h0 : ¬ (0 ≤ x ∧ x < μ h 4 - 1) → Q (some (.inl 0)) μ) : px_C G yX0_hasPair cX0_hasPair 2 (some .boolean) 0 [.inr (.inl (some h)), .inl x] μ Q := by
  refine px_enter RX0 (by decide +kernel) rfl (by simp) (by simp [px_c1]) ?_
  simp only [List.map_cons, List.map_nil, List.length_cons, List.length_nil, List.replicate, List.append_nil, Nat.reduceAdd, Nat.reduceSub, List.cons_append, List.nil_append]
  refine px_go (fun _ => false) 400 ?_
  simp only [px_lits, false_implies, true_implies, px_dec_ok, px_run_s, px_rules, px_rule_is, px_mats, px_calls, ↓reduceIte, eq_self, Bool.false_eq_true, px_flds, px_o_some, px_fvs, px_pfs, px_cts, px_cls, px_acs_, px_acn, true_and, and_true, true_or, or_true, false_or, or_false, and_self, not_true_eq_false, not_false_eq_true, Classical.not_not, Nat.reduceAdd, Nat.reduceSub, Nat.reduceBEq, Nat.reduceLT, Nat.reduceLeDiff, Nat.lt_add_one, px_tg, Int.cast_ofNat_Int, Int.reduceAdd, Int.reduceSub, Int.reduceMul, Int.reduceToNat, Int.reduceLE, Int.reduceLT, Int.reduceNeg, Int.reduceEq, Bool.or_false, Bool.false_or, Bool.or_true, Bool.true_or, List.length_cons, List.length_nil, List.nil_append, List.cons_append, Option.toList_some, Option.toList_none, reduceCtorEq, Option.some.injEq, Nat.zero_le, Nat.reduceMul, Nat.mul_zero, Nat.add_zero, Int.reduceDiv, Int.reduceMod, Int.toNat_natCast, Nat.lt_irrefl, Int.natCast_add, Int.cast_ofNat_Int, px_mds_RX0_0, dec_X0_hasPair, hh]
  simp (disch := omega) only [px_lt_iff, px_le_iff]
  exact ⟨fun _ => h0 (by omega), fun _ => ⟨fun _ => h0 (by omega), fun _ => h1 (by omega)⟩⟩
set_option maxHeartbeats 4000000 in
set_option maxRecDepth 100000 in
theorem c_X0_find {G : px_G} {h : Nat} {x : Int} {μ : px_Mem} {Q : Option px_X → px_Mem → Prop} (hh : px_kd h = 0) (hn : 0 ≤ μ h 4 ∧ μ h 4 ≤ 16) (hx : -2147483648 ≤ x ∧ x < 2147483648) (hr : ∀ i, 0 ≤ i → i < μ h 4 → 0 ≤ μ (h + 1) i ∧ μ (h + 1) i < 24)
    (hq : ∀ z, (z = -1 ∧ (∀ j, 0 ≤ j → j < μ h 4 → μ (h + 1) j ≠ x)) ∨ (0 ≤ z ∧ z < μ h 4 ∧ μ (h + 1) z = x ∧ ∀ j, 0 ≤ j → j < z → μ (h + 1) j ≠ x) → Q (some (.inl z)) μ) : px_C G yX0_find cX0_find 3 (some .int) 0 [.inr (.inl (some h)), .inl x] μ Q := by
  obtain ⟨hk, hl⟩ := pc_hk hh
  have loop : ∀ (n : Nat) (i : Int), 0 ≤ i → i + n = μ h 4 → (∀ j, 0 ≤ j → j < i → μ (h + 1) j ≠ x) → px_J G RX0 cX0_find 3 (some .int) 0 2 [some (.inr (.inl (some h))), some (.inl x), some (.inl i)] [] μ Q := by
    intro n
    induction n with
    | zero =>
      intro i h0 hi hj
      refine px_go (fun p => p == 2) 400 ?_
      simp only [px_lits, false_implies, true_implies, px_dec_ok, px_run_s, px_rules, px_rule_is, px_mats, px_calls, ↓reduceIte, eq_self, Bool.false_eq_true, px_flds, px_o_some, px_fvs, px_pfs, px_cts, px_cls, px_acs_, px_acn, true_and, and_true, true_or, or_true, false_or, or_false, and_self, not_true_eq_false, not_false_eq_true, Classical.not_not, Nat.reduceAdd, Nat.reduceSub, Nat.reduceBEq, Nat.reduceLT, Nat.reduceLeDiff, Nat.lt_add_one, px_tg, Int.cast_ofNat_Int, Int.reduceAdd, Int.reduceSub, Int.reduceMul, Int.reduceToNat, Int.reduceLE, Int.reduceLT, Int.reduceNeg, Int.reduceEq, Bool.or_false, Bool.false_or, Bool.or_true, Bool.true_or, List.length_cons, List.length_nil, List.nil_append, List.cons_append, Option.toList_some, Option.toList_none, reduceCtorEq, Option.some.injEq, Nat.zero_le, Nat.reduceMul, Nat.mul_zero, Nat.add_zero, Int.reduceDiv, Int.reduceMod, Int.toNat_natCast, Nat.lt_irrefl, Int.natCast_add, Int.cast_ofNat_Int, px_mds_RX0_0, dec_X0_find, hh, hk.1, hl.1]
      simp (disch := omega) only [px_lt_iff, px_le_iff]
      refine ⟨fun _ => hq _ (Or.inl ⟨rfl, fun j a b => hj j a (by omega)⟩), fun q => absurd (by omega) q⟩
    | succ n ih =>
      intro i h0 hi hj
      refine px_go (fun p => p == 2) 400 ?_
      simp only [px_lits, false_implies, true_implies, px_dec_ok, px_run_s, px_rules, px_rule_is, px_mats, px_calls, ↓reduceIte, eq_self, Bool.false_eq_true, px_flds, px_o_some, px_fvs, px_pfs, px_cts, px_cls, px_acs_, px_acn, true_and, and_true, true_or, or_true, false_or, or_false, and_self, not_true_eq_false, not_false_eq_true, Classical.not_not, Nat.reduceAdd, Nat.reduceSub, Nat.reduceBEq, Nat.reduceLT, Nat.reduceLeDiff, Nat.lt_add_one, px_tg, Int.cast_ofNat_Int, Int.reduceAdd, Int.reduceSub, Int.reduceMul, Int.reduceToNat, Int.reduceLE, Int.reduceLT, Int.reduceNeg, Int.reduceEq, Bool.or_false, Bool.false_or, Bool.or_true, Bool.true_or, List.length_cons, List.length_nil, List.nil_append, List.cons_append, Option.toList_some, Option.toList_none, reduceCtorEq, Option.some.injEq, Nat.zero_le, Nat.reduceMul, Nat.mul_zero, Nat.add_zero, Int.reduceDiv, Int.reduceMod, Int.toNat_natCast, Nat.lt_irrefl, Int.natCast_add, Int.cast_ofNat_Int, px_mds_RX0_0, dec_X0_find, hh, hk.1, hl.1]
      have := hr i h0 (by omega)
      simp (disch := omega) only [px_lt_iff, px_le_iff, px_eq_iff]
      refine ⟨fun q => absurd q (by omega), fun _ => ⟨by omega, fun q => ?_, fun q => hq _ (Or.inr ⟨h0, by omega, q, hj⟩)⟩⟩
      refine ih (i + 1) (by omega) (by omega) (fun j a b => ?_)
      by_cases e : j = i
      · rw [e]; exact q
      · exact hj j a (by omega)
  refine px_enter RX0 (by decide +kernel) rfl (by simp) (by simp [px_c1]) ?_
  simp only [List.map_cons, List.map_nil, List.length_cons, List.length_nil, List.replicate, List.append_nil, Nat.reduceAdd, Nat.reduceSub, List.cons_append, List.nil_append]
  refine px_go (fun p => p == 2) 400 ?_
  simp only [px_lits, false_implies, true_implies, px_dec_ok, px_run_s, px_rules, px_rule_is, px_mats, px_calls, ↓reduceIte, eq_self, Bool.false_eq_true, px_flds, px_o_some, px_fvs, px_pfs, px_cts, px_cls, px_acs_, px_acn, true_and, and_true, true_or, or_true, false_or, or_false, and_self, not_true_eq_false, not_false_eq_true, Classical.not_not, Nat.reduceAdd, Nat.reduceSub, Nat.reduceBEq, Nat.reduceLT, Nat.reduceLeDiff, Nat.lt_add_one, px_tg, Int.cast_ofNat_Int, Int.reduceAdd, Int.reduceSub, Int.reduceMul, Int.reduceToNat, Int.reduceLE, Int.reduceLT, Int.reduceNeg, Int.reduceEq, Bool.or_false, Bool.false_or, Bool.or_true, Bool.true_or, List.length_cons, List.length_nil, List.nil_append, List.cons_append, Option.toList_some, Option.toList_none, reduceCtorEq, Option.some.injEq, Nat.zero_le, Nat.reduceMul, Nat.mul_zero, Nat.add_zero, Int.reduceDiv, Int.reduceMod, Int.toNat_natCast, Nat.lt_irrefl, Int.natCast_add, Int.cast_ofNat_Int, px_mds_RX0_0, dec_X0_find, hh]
  exact loop (μ h 4).toNat 0 (by omega) (by omega) (fun j a b => by omega)
