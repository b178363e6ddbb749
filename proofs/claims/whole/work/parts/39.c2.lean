/-! ===== the class: record, takeOff, turn, undo, told, text, history ===== -/
theorem pa_hs_b {A : pa_A} {k : Int} {μ : px_Mem} (R : pa_C A k μ) : pc_hsb μ 3 := R.w.2
set_option maxHeartbeats 4000000 in
set_option maxRecDepth 100000 in
theorem c_X10_record {G : px_G} {A : pa_A} {k x s p l : Int} {μ : px_Mem} {Q : Option px_X → px_Mem → Prop} (I : pa_I A) (R : pa_C A k μ) (hx : -2147483648 ≤ x ∧ x < 2147483648) (hs : -2147483648 ≤ s ∧ s < 2147483648) (hp : -2147483648 ≤ p ∧ p < 2147483648) (hl : -2147483648 ≤ l ∧ l < 2147483648) (hq : pa_Qc μ (pa_record A x s p l) k Q) : px_C G yX10_record cX10_record 6 (some .int) 4 [.inr (.inl (some 0)), .inl x, .inl s, .inl p, .inl l] μ Q := by
  have fin : pa_isH x → (s = 0 ∨ s = 1) → (s = 0 → 97 ≤ l ∧ l ≤ 122) → px_J G RX10 cX10_record 6 (some .int) 4 32 [some (.inr (.inl (some 0))), some (.inl x), some (.inl s), some (.inl p), some (.inl l), none] [] μ Q := by
    intro q hs1 hl1
    obtain ⟨h, hh, rfl⟩ := pa_nat q
    obtain ⟨k1, k2⟩ := pc_kh hh
    obtain ⟨l1, l2, l3⟩ := R.hl hh
    have hT := (I.Tl h).1
    have hn := I.n
    have rn := R.n
    refine px_go (fun _ => false) 400 ?_
    simp (disch := omega) only [px_lits, false_implies, true_implies, px_dec_ok, px_run_s, px_rules, px_rule_is, px_mats, px_calls, ↓reduceIte, eq_self, Bool.false_eq_true, px_flds, px_o_some, px_fvs, px_pfs, px_cts, px_cls, px_acs_, px_acn, true_and, and_true, true_or, or_true, false_or, or_false, and_self, not_true_eq_false, not_false_eq_true, Classical.not_not, Nat.reduceAdd, Nat.reduceSub, Nat.reduceBEq, Nat.reduceLT, Nat.reduceLeDiff, Nat.lt_add_one, px_tg, Int.cast_ofNat_Int, Int.reduceAdd, Int.reduceSub, Int.reduceMul, Int.reduceToNat, Int.reduceLE, Int.reduceLT, Int.reduceNeg, Int.reduceEq, Bool.or_false, Bool.false_or, Bool.or_true, Bool.true_or, List.length_cons, List.length_nil, List.nil_append, List.cons_append, Option.toList_some, Option.toList_none, reduceCtorEq, Option.some.injEq, Nat.zero_le, Nat.reduceMul, Nat.mul_zero, Nat.add_zero, Int.reduceDiv, Int.reduceMod, Int.toNat_natCast, Nat.lt_irrefl, Int.natCast_add, Int.cast_ofNat_Int, px_mds_RX10_0, px_mds_RX10_1, dec_X10_record, px_eq_iff, px_lt_iff, px_le_iff, px_up_o, px_up_eq, px_up_ne, px_cp_o, pa_k, pa_l, k2]
    refine pa_text_c I R hh (fun μ1 f1 R1 f2 f3 => ?_)
    refine px_go (fun _ => false) 400 ?_
    simp (disch := omega) only [px_lits, false_implies, true_implies, px_dec_ok, px_run_s, px_rules, px_rule_is, px_mats, px_calls, ↓reduceIte, eq_self, Bool.false_eq_true, px_flds, px_o_some, px_fvs, px_pfs, px_cts, px_cls, px_acs_, px_acn, true_and, and_true, true_or, or_true, false_or, or_false, and_self, not_true_eq_false, not_false_eq_true, Classical.not_not, Nat.reduceAdd, Nat.reduceSub, Nat.reduceBEq, Nat.reduceLT, Nat.reduceLeDiff, Nat.lt_add_one, px_tg, Int.cast_ofNat_Int, Int.reduceAdd, Int.reduceSub, Int.reduceMul, Int.reduceToNat, Int.reduceLE, Int.reduceLT, Int.reduceNeg, Int.reduceEq, Bool.or_false, Bool.false_or, Bool.or_true, Bool.true_or, List.length_cons, List.length_nil, List.nil_append, List.cons_append, Option.toList_some, Option.toList_none, reduceCtorEq, Option.some.injEq, Nat.zero_le, Nat.reduceMul, Nat.mul_zero, Nat.add_zero, Int.reduceDiv, Int.reduceMod, Int.toNat_natCast, Nat.lt_irrefl, Int.natCast_add, Int.cast_ofNat_Int, px_mds_RX10_0, px_mds_RX10_1, dec_X10_record, px_eq_iff, px_lt_iff, px_le_iff, px_up_o, px_up_eq, px_up_ne, px_cp_o, pa_k, pa_l, k2]
    have m7 : μ1 (7 + 5 * h) = μ (7 + 5 * h) := f1 _ (by omega) (by omega)
    have m0 : μ1 0 = μ 0 := f1 _ (by omega) (by omega)
    refine c_X9_hasPlace k2 (by omega) hs1 hp (fun w => ?_) (fun w => ?_)
    · have ft : pa_fit (pa_T A h) s p l := by
        rcases hs1 with e | e
        · exact .inl ⟨e, hl1 e, by omega⟩
        · exact .inr ⟨e, by omega⟩
      refine px_go (fun _ => false) 400 ?_
      simp (disch := omega) only [px_lits, false_implies, true_implies, px_dec_ok, px_run_s, px_rules, px_rule_is, px_mats, px_calls, ↓reduceIte, eq_self, Bool.false_eq_true, px_flds, px_o_some, px_fvs, px_pfs, px_cts, px_cls, px_acs_, px_acn, true_and, and_true, true_or, or_true, false_or, or_false, and_self, not_true_eq_false, not_false_eq_true, Classical.not_not, Nat.reduceAdd, Nat.reduceSub, Nat.reduceBEq, Nat.reduceLT, Nat.reduceLeDiff, Nat.lt_add_one, px_tg, Int.cast_ofNat_Int, Int.reduceAdd, Int.reduceSub, Int.reduceMul, Int.reduceToNat, Int.reduceLE, Int.reduceLT, Int.reduceNeg, Int.reduceEq, Bool.or_false, Bool.false_or, Bool.or_true, Bool.true_or, List.length_cons, List.length_nil, List.nil_append, List.cons_append, Option.toList_some, Option.toList_none, reduceCtorEq, Option.some.injEq, Nat.zero_le, Nat.reduceMul, Nat.mul_zero, Nat.add_zero, Int.reduceDiv, Int.reduceMod, Int.toNat_natCast, Nat.lt_irrefl, Int.natCast_add, Int.cast_ofNat_Int, px_mds_RX10_0, px_mds_RX10_1, dec_X10_record, px_eq_iff, px_lt_iff, px_le_iff, px_up_o, px_up_eq, px_up_ne, px_cp_o, pa_k, pa_l, k2]
      refine c_X10_hasRoom hh hs1 (by rw [m7]; exact l2) (by rw [m0]; omega) (by omega) (fun v => ?_) (fun v => ?_)
      · have rm : pa_room A h s := by
          rw [m0, m7, f3] at v
          exact ⟨by omega, by omega, by omega⟩
        refine px_go (fun _ => false) 400 ?_
        simp (disch := omega) only [px_lits, false_implies, true_implies, px_dec_ok, px_run_s, px_rules, px_rule_is, px_mats, px_calls, ↓reduceIte, eq_self, Bool.false_eq_true, px_flds, px_o_some, px_fvs, px_pfs, px_cts, px_cls, px_acs_, px_acn, true_and, and_true, true_or, or_true, false_or, or_false, and_self, not_true_eq_false, not_false_eq_true, Classical.not_not, Nat.reduceAdd, Nat.reduceSub, Nat.reduceBEq, Nat.reduceLT, Nat.reduceLeDiff, Nat.lt_add_one, px_tg, Int.cast_ofNat_Int, Int.reduceAdd, Int.reduceSub, Int.reduceMul, Int.reduceToNat, Int.reduceLE, Int.reduceLT, Int.reduceNeg, Int.reduceEq, Bool.or_false, Bool.false_or, Bool.or_true, Bool.true_or, List.length_cons, List.length_nil, List.nil_append, List.cons_append, Option.toList_some, Option.toList_none, reduceCtorEq, Option.some.injEq, Nat.zero_le, Nat.reduceMul, Nat.mul_zero, Nat.add_zero, Int.reduceDiv, Int.reduceMod, Int.toNat_natCast, Nat.lt_irrefl, Int.natCast_add, Int.cast_ofNat_Int, px_mds_RX10_0, px_mds_RX10_1, dec_X10_record, px_eq_iff, px_lt_iff, px_le_iff, px_up_o, px_up_eq, px_up_ne, px_cp_o, pa_k, pa_l, k2]
        refine c_X5_push R1.p.2 R1.w.2 (fun μ2 g1 g2 g3 => ?_)
        have R2 := R1.push g1 g2 g3
        have n7 : μ2 (7 + 5 * h) = μ1 (7 + 5 * h) := g1 _ (by omega)
        have n9 : μ2 (179 + 2 * h) = μ1 (179 + 2 * h) := g1 _ (by omega)
        have n0 : μ2 0 = μ1 0 := g1 _ (by omega)
        have n8 : μ2 (180 + 2 * h) = μ1 (180 + 2 * h) := g1 _ (by omega)
        refine px_go (fun _ => false) 400 ?_
        simp (disch := omega) only [px_lits, false_implies, true_implies, px_dec_ok, px_run_s, px_rules, px_rule_is, px_mats, px_calls, ↓reduceIte, eq_self, Bool.false_eq_true, px_flds, px_o_some, px_fvs, px_pfs, px_cts, px_cls, px_acs_, px_acn, true_and, and_true, true_or, or_true, false_or, or_false, and_self, not_true_eq_false, not_false_eq_true, Classical.not_not, Nat.reduceAdd, Nat.reduceSub, Nat.reduceBEq, Nat.reduceLT, Nat.reduceLeDiff, Nat.lt_add_one, px_tg, Int.cast_ofNat_Int, Int.reduceAdd, Int.reduceSub, Int.reduceMul, Int.reduceToNat, Int.reduceLE, Int.reduceLT, Int.reduceNeg, Int.reduceEq, Bool.or_false, Bool.false_or, Bool.or_true, Bool.true_or, List.length_cons, List.length_nil, List.nil_append, List.cons_append, Option.toList_some, Option.toList_none, reduceCtorEq, Option.some.injEq, Nat.zero_le, Nat.reduceMul, Nat.mul_zero, Nat.add_zero, Int.reduceDiv, Int.reduceMod, Int.toNat_natCast, Nat.lt_irrefl, Int.natCast_add, Int.cast_ofNat_Int, px_mds_RX10_0, px_mds_RX10_1, dec_X10_record, px_eq_iff, px_lt_iff, px_le_iff, px_up_o, px_up_eq, px_up_ne, px_cp_o, pa_k, pa_l, k2]
        refine c_X10_append hh hs1 (by rw [n7, m7]; have := rm.2.1; omega) (by rw [n9]; omega) (by rw [n9]; exact w) (fun μ3 e1 e2 e3 e4 e5 => ?_)
        refine px_go (fun _ => false) 400 ?_
        simp (disch := omega) only [px_lits, false_implies, true_implies, px_dec_ok, px_run_s, px_rules, px_rule_is, px_mats, px_calls, ↓reduceIte, eq_self, Bool.false_eq_true, px_flds, px_o_some, px_fvs, px_pfs, px_cts, px_cls, px_acs_, px_acn, true_and, and_true, true_or, or_true, false_or, or_false, and_self, not_true_eq_false, not_false_eq_true, Classical.not_not, Nat.reduceAdd, Nat.reduceSub, Nat.reduceBEq, Nat.reduceLT, Nat.reduceLeDiff, Nat.lt_add_one, px_tg, Int.cast_ofNat_Int, Int.reduceAdd, Int.reduceSub, Int.reduceMul, Int.reduceToNat, Int.reduceLE, Int.reduceLT, Int.reduceNeg, Int.reduceEq, Bool.or_false, Bool.false_or, Bool.or_true, Bool.true_or, List.length_cons, List.length_nil, List.nil_append, List.cons_append, Option.toList_some, Option.toList_none, reduceCtorEq, Option.some.injEq, Nat.zero_le, Nat.reduceMul, Nat.mul_zero, Nat.add_zero, Int.reduceDiv, Int.reduceMod, Int.toNat_natCast, Nat.lt_irrefl, Int.natCast_add, Int.cast_ofNat_Int, px_mds_RX10_0, px_mds_RX10_1, dec_X10_record, px_eq_iff, px_lt_iff, px_le_iff, px_up_o, px_up_eq, px_up_ne, px_cp_o, pa_k, pa_l, k2]
        rw [n0, m0, rn, n8] at *
        refine hq.at (A1 := pa_app (pa_push A) h s p (if s = 1 then pa_at (pa_T A h) p else l)) ?_ (fun o ho => ?_) ?_
        · unfold pa_record
          rw [if_neg (fun n => n q), Int.toNat_natCast, if_neg (fun n => n ft), if_neg (fun n => n rm)]
        · rw [e1 o (by omega) (by omega), g1 o (by omega), f1 o (by omega) (by omega)]
        · refine R2.putn hh (fun o o1 o2 _ => e1 o o1 o2) e3 ?_ (by rw [e4, n7, m7]; have := rm.2.1; omega)
          rw [e5, (R2.hl hh).1]
          rcases hs1 with rfl | rfl
          · rfl
          · rw [if_pos rfl, if_pos rfl, show 180 + 2 * h = 179 + 2 * h + 1 by omega, pa_tx_at f2 f3 (by omega) (by omega)]
            rfl
      · refine px_go (fun _ => false) 400 ?_
        simp (disch := omega) only [px_lits, false_implies, true_implies, px_dec_ok, px_run_s, px_rules, px_rule_is, px_mats, px_calls, ↓reduceIte, eq_self, Bool.false_eq_true, px_flds, px_o_some, px_fvs, px_pfs, px_cts, px_cls, px_acs_, px_acn, true_and, and_true, true_or, or_true, false_or, or_false, and_self, not_true_eq_false, not_false_eq_true, Classical.not_not, Nat.reduceAdd, Nat.reduceSub, Nat.reduceBEq, Nat.reduceLT, Nat.reduceLeDiff, Nat.lt_add_one, px_tg, Int.cast_ofNat_Int, Int.reduceAdd, Int.reduceSub, Int.reduceMul, Int.reduceToNat, Int.reduceLE, Int.reduceLT, Int.reduceNeg, Int.reduceEq, Bool.or_false, Bool.false_or, Bool.or_true, Bool.true_or, List.length_cons, List.length_nil, List.nil_append, List.cons_append, Option.toList_some, Option.toList_none, reduceCtorEq, Option.some.injEq, Nat.zero_le, Nat.reduceMul, Nat.mul_zero, Nat.add_zero, Int.reduceDiv, Int.reduceMod, Int.toNat_natCast, Nat.lt_irrefl, Int.natCast_add, Int.cast_ofNat_Int, px_mds_RX10_0, px_mds_RX10_1, dec_X10_record, px_eq_iff, px_lt_iff, px_le_iff, px_up_o, px_up_eq, px_up_ne, px_cp_o, pa_k, pa_l, k2]
        refine hq.at ?_ (fun o ho => f1 o (by omega) (by omega)) R1
        unfold pa_record
        rw [if_neg (fun n => n q), Int.toNat_natCast, if_neg (fun n => n ft), if_pos]
        rw [m0, m7, f3] at v
        intro rm
        have := rm.1; have := rm.2.1; have := rm.2.2
        omega
    · refine px_go (fun _ => false) 400 ?_
      simp (disch := omega) only [px_lits, false_implies, true_implies, px_dec_ok, px_run_s, px_rules, px_rule_is, px_mats, px_calls, ↓reduceIte, eq_self, Bool.false_eq_true, px_flds, px_o_some, px_fvs, px_pfs, px_cts, px_cls, px_acs_, px_acn, true_and, and_true, true_or, or_true, false_or, or_false, and_self, not_true_eq_false, not_false_eq_true, Classical.not_not, Nat.reduceAdd, Nat.reduceSub, Nat.reduceBEq, Nat.reduceLT, Nat.reduceLeDiff, Nat.lt_add_one, px_tg, Int.cast_ofNat_Int, Int.reduceAdd, Int.reduceSub, Int.reduceMul, Int.reduceToNat, Int.reduceLE, Int.reduceLT, Int.reduceNeg, Int.reduceEq, Bool.or_false, Bool.false_or, Bool.or_true, Bool.true_or, List.length_cons, List.length_nil, List.nil_append, List.cons_append, Option.toList_some, Option.toList_none, reduceCtorEq, Option.some.injEq, Nat.zero_le, Nat.reduceMul, Nat.mul_zero, Nat.add_zero, Int.reduceDiv, Int.reduceMod, Int.toNat_natCast, Nat.lt_irrefl, Int.natCast_add, Int.cast_ofNat_Int, px_mds_RX10_0, px_mds_RX10_1, dec_X10_record, px_eq_iff, px_lt_iff, px_le_iff, px_up_o, px_up_eq, px_up_ne, px_cp_o, pa_k, pa_l, k2]
      refine hq.at ?_ (fun o ho => f1 o (by omega) (by omega)) R1
      unfold pa_record
      rw [if_neg (fun n => n q), Int.toNat_natCast, if_pos]
      intro ft
      rcases ft with ft | ft <;> omega
  refine px_enter RX10 (by decide +kernel) rfl (by simp) (by simp [px_c1]) ?_
  simp only [List.map_cons, List.map_nil, List.length_cons, List.length_nil, List.replicate, List.append_nil, Nat.reduceAdd, Nat.reduceSub, List.cons_append, List.nil_append]
  refine px_go (fun p => p == 32) 400 ?_
  simp (disch := omega) only [px_lits, false_implies, true_implies, px_dec_ok, px_run_s, px_rules, px_rule_is, px_mats, px_calls, ↓reduceIte, eq_self, Bool.false_eq_true, px_flds, px_o_some, px_fvs, px_pfs, px_cts, px_cls, px_acs_, px_acn, true_and, and_true, true_or, or_true, false_or, or_false, and_self, not_true_eq_false, not_false_eq_true, Classical.not_not, Nat.reduceAdd, Nat.reduceSub, Nat.reduceBEq, Nat.reduceLT, Nat.reduceLeDiff, Nat.lt_add_one, px_tg, Int.cast_ofNat_Int, Int.reduceAdd, Int.reduceSub, Int.reduceMul, Int.reduceToNat, Int.reduceLE, Int.reduceLT, Int.reduceNeg, Int.reduceEq, Bool.or_false, Bool.false_or, Bool.or_true, Bool.true_or, List.length_cons, List.length_nil, List.nil_append, List.cons_append, Option.toList_some, Option.toList_none, reduceCtorEq, Option.some.injEq, Nat.zero_le, Nat.reduceMul, Nat.mul_zero, Nat.add_zero, Int.reduceDiv, Int.reduceMod, Int.toNat_natCast, Nat.lt_irrefl, Int.natCast_add, Int.cast_ofNat_Int, px_mds_RX10_0, px_mds_RX10_1, dec_X10_record, px_eq_iff, px_lt_iff, px_le_iff, px_up_o, px_up_eq, px_up_ne, px_cp_o, pa_k, pa_l]
  refine c_X10_isHouse hx (fun q => ?_) (fun q => ?_)
  · refine px_go (fun p => p == 32) 400 ?_
    simp (disch := omega) only [px_lits, false_implies, true_implies, px_dec_ok, px_run_s, px_rules, px_rule_is, px_mats, px_calls, ↓reduceIte, eq_self, Bool.false_eq_true, px_flds, px_o_some, px_fvs, px_pfs, px_cts, px_cls, px_acs_, px_acn, true_and, and_true, true_or, or_true, false_or, or_false, and_self, not_true_eq_false, not_false_eq_true, Classical.not_not, Nat.reduceAdd, Nat.reduceSub, Nat.reduceBEq, Nat.reduceLT, Nat.reduceLeDiff, Nat.lt_add_one, px_tg, Int.cast_ofNat_Int, Int.reduceAdd, Int.reduceSub, Int.reduceMul, Int.reduceToNat, Int.reduceLE, Int.reduceLT, Int.reduceNeg, Int.reduceEq, Bool.or_false, Bool.false_or, Bool.or_true, Bool.true_or, List.length_cons, List.length_nil, List.nil_append, List.cons_append, Option.toList_some, Option.toList_none, reduceCtorEq, Option.some.injEq, Nat.zero_le, Nat.reduceMul, Nat.mul_zero, Nat.add_zero, Int.reduceDiv, Int.reduceMod, Int.toNat_natCast, Nat.lt_irrefl, Int.natCast_add, Int.cast_ofNat_Int, px_mds_RX10_0, px_mds_RX10_1, dec_X10_record, px_eq_iff, px_lt_iff, px_le_iff, px_up_o, px_up_eq, px_up_ne, px_cp_o, pa_k, pa_l]
    refine c_X10_isSort hs (fun w => ?_) (fun w => ?_)
    · rcases w with rfl | rfl
      · refine px_go (fun p => p == 32) 400 ?_
        simp (disch := omega) only [px_lits, false_implies, true_implies, px_dec_ok, px_run_s, px_rules, px_rule_is, px_mats, px_calls, ↓reduceIte, eq_self, Bool.false_eq_true, px_flds, px_o_some, px_fvs, px_pfs, px_cts, px_cls, px_acs_, px_acn, true_and, and_true, true_or, or_true, false_or, or_false, and_self, not_true_eq_false, not_false_eq_true, Classical.not_not, Nat.reduceAdd, Nat.reduceSub, Nat.reduceBEq, Nat.reduceLT, Nat.reduceLeDiff, Nat.lt_add_one, px_tg, Int.cast_ofNat_Int, Int.reduceAdd, Int.reduceSub, Int.reduceMul, Int.reduceToNat, Int.reduceLE, Int.reduceLT, Int.reduceNeg, Int.reduceEq, Bool.or_false, Bool.false_or, Bool.or_true, Bool.true_or, List.length_cons, List.length_nil, List.nil_append, List.cons_append, Option.toList_some, Option.toList_none, reduceCtorEq, Option.some.injEq, Nat.zero_le, Nat.reduceMul, Nat.mul_zero, Nat.add_zero, Int.reduceDiv, Int.reduceMod, Int.toNat_natCast, Nat.lt_irrefl, Int.natCast_add, Int.cast_ofNat_Int, px_mds_RX10_0, px_mds_RX10_1, dec_X10_record, px_eq_iff, px_lt_iff, px_le_iff, px_up_o, px_up_eq, px_up_ne, px_cp_o, pa_k, pa_l]
        refine c_X10_isLetter hl (fun v => ?_) (fun v => ?_)
        · refine px_go (fun p => p == 32) 400 ?_
          simp (disch := omega) only [px_lits, false_implies, true_implies, px_dec_ok, px_run_s, px_rules, px_rule_is, px_mats, px_calls, ↓reduceIte, eq_self, Bool.false_eq_true, px_flds, px_o_some, px_fvs, px_pfs, px_cts, px_cls, px_acs_, px_acn, true_and, and_true, true_or, or_true, false_or, or_false, and_self, not_true_eq_false, not_false_eq_true, Classical.not_not, Nat.reduceAdd, Nat.reduceSub, Nat.reduceBEq, Nat.reduceLT, Nat.reduceLeDiff, Nat.lt_add_one, px_tg, Int.cast_ofNat_Int, Int.reduceAdd, Int.reduceSub, Int.reduceMul, Int.reduceToNat, Int.reduceLE, Int.reduceLT, Int.reduceNeg, Int.reduceEq, Bool.or_false, Bool.false_or, Bool.or_true, Bool.true_or, List.length_cons, List.length_nil, List.nil_append, List.cons_append, Option.toList_some, Option.toList_none, reduceCtorEq, Option.some.injEq, Nat.zero_le, Nat.reduceMul, Nat.mul_zero, Nat.add_zero, Int.reduceDiv, Int.reduceMod, Int.toNat_natCast, Nat.lt_irrefl, Int.natCast_add, Int.cast_ofNat_Int, px_mds_RX10_0, px_mds_RX10_1, dec_X10_record, px_eq_iff, px_lt_iff, px_le_iff, px_up_o, px_up_eq, px_up_ne, px_cp_o, pa_k, pa_l]
          exact fin q (.inl rfl) (fun _ => v)
        · refine px_go (fun p => p == 32) 400 ?_
          simp (disch := omega) only [px_lits, false_implies, true_implies, px_dec_ok, px_run_s, px_rules, px_rule_is, px_mats, px_calls, ↓reduceIte, eq_self, Bool.false_eq_true, px_flds, px_o_some, px_fvs, px_pfs, px_cts, px_cls, px_acs_, px_acn, true_and, and_true, true_or, or_true, false_or, or_false, and_self, not_true_eq_false, not_false_eq_true, Classical.not_not, Nat.reduceAdd, Nat.reduceSub, Nat.reduceBEq, Nat.reduceLT, Nat.reduceLeDiff, Nat.lt_add_one, px_tg, Int.cast_ofNat_Int, Int.reduceAdd, Int.reduceSub, Int.reduceMul, Int.reduceToNat, Int.reduceLE, Int.reduceLT, Int.reduceNeg, Int.reduceEq, Bool.or_false, Bool.false_or, Bool.or_true, Bool.true_or, List.length_cons, List.length_nil, List.nil_append, List.cons_append, Option.toList_some, Option.toList_none, reduceCtorEq, Option.some.injEq, Nat.zero_le, Nat.reduceMul, Nat.mul_zero, Nat.add_zero, Int.reduceDiv, Int.reduceMod, Int.toNat_natCast, Nat.lt_irrefl, Int.natCast_add, Int.cast_ofNat_Int, px_mds_RX10_0, px_mds_RX10_1, dec_X10_record, px_eq_iff, px_lt_iff, px_le_iff, px_up_o, px_up_eq, px_up_ne, px_cp_o, pa_k, pa_l]
          refine hq.at ?_ (fun _ _ => rfl) R
          unfold pa_record
          rw [if_neg (fun n => n q), if_pos]
          intro ft
          rcases ft with ft | ft
          · exact v ft.2.1
          · omega
      · refine px_go (fun p => p == 32) 400 ?_
        simp (disch := omega) only [px_lits, false_implies, true_implies, px_dec_ok, px_run_s, px_rules, px_rule_is, px_mats, px_calls, ↓reduceIte, eq_self, Bool.false_eq_true, px_flds, px_o_some, px_fvs, px_pfs, px_cts, px_cls, px_acs_, px_acn, true_and, and_true, true_or, or_true, false_or, or_false, and_self, not_true_eq_false, not_false_eq_true, Classical.not_not, Nat.reduceAdd, Nat.reduceSub, Nat.reduceBEq, Nat.reduceLT, Nat.reduceLeDiff, Nat.lt_add_one, px_tg, Int.cast_ofNat_Int, Int.reduceAdd, Int.reduceSub, Int.reduceMul, Int.reduceToNat, Int.reduceLE, Int.reduceLT, Int.reduceNeg, Int.reduceEq, Bool.or_false, Bool.false_or, Bool.or_true, Bool.true_or, List.length_cons, List.length_nil, List.nil_append, List.cons_append, Option.toList_some, Option.toList_none, reduceCtorEq, Option.some.injEq, Nat.zero_le, Nat.reduceMul, Nat.mul_zero, Nat.add_zero, Int.reduceDiv, Int.reduceMod, Int.toNat_natCast, Nat.lt_irrefl, Int.natCast_add, Int.cast_ofNat_Int, px_mds_RX10_0, px_mds_RX10_1, dec_X10_record, px_eq_iff, px_lt_iff, px_le_iff, px_up_o, px_up_eq, px_up_ne, px_cp_o, pa_k, pa_l]
        exact fin q (.inr rfl) (fun e => by omega)
    · refine px_go (fun p => p == 32) 400 ?_
      simp (disch := omega) only [px_lits, false_implies, true_implies, px_dec_ok, px_run_s, px_rules, px_rule_is, px_mats, px_calls, ↓reduceIte, eq_self, Bool.false_eq_true, px_flds, px_o_some, px_fvs, px_pfs, px_cts, px_cls, px_acs_, px_acn, true_and, and_true, true_or, or_true, false_or, or_false, and_self, not_true_eq_false, not_false_eq_true, Classical.not_not, Nat.reduceAdd, Nat.reduceSub, Nat.reduceBEq, Nat.reduceLT, Nat.reduceLeDiff, Nat.lt_add_one, px_tg, Int.cast_ofNat_Int, Int.reduceAdd, Int.reduceSub, Int.reduceMul, Int.reduceToNat, Int.reduceLE, Int.reduceLT, Int.reduceNeg, Int.reduceEq, Bool.or_false, Bool.false_or, Bool.or_true, Bool.true_or, List.length_cons, List.length_nil, List.nil_append, List.cons_append, Option.toList_some, Option.toList_none, reduceCtorEq, Option.some.injEq, Nat.zero_le, Nat.reduceMul, Nat.mul_zero, Nat.add_zero, Int.reduceDiv, Int.reduceMod, Int.toNat_natCast, Nat.lt_irrefl, Int.natCast_add, Int.cast_ofNat_Int, px_mds_RX10_0, px_mds_RX10_1, dec_X10_record, px_eq_iff, px_lt_iff, px_le_iff, px_up_o, px_up_eq, px_up_ne, px_cp_o, pa_k, pa_l]
      refine hq.at ?_ (fun _ _ => rfl) R
      unfold pa_record
      rw [if_neg (fun n => n q), if_pos]
      intro ft
      rcases ft with ft | ft <;> omega
  · refine px_go (fun p => p == 32) 400 ?_
    simp (disch := omega) only [px_lits, false_implies, true_implies, px_dec_ok, px_run_s, px_rules, px_rule_is, px_mats, px_calls, ↓reduceIte, eq_self, Bool.false_eq_true, px_flds, px_o_some, px_fvs, px_pfs, px_cts, px_cls, px_acs_, px_acn, true_and, and_true, true_or, or_true, false_or, or_false, and_self, not_true_eq_false, not_false_eq_true, Classical.not_not, Nat.reduceAdd, Nat.reduceSub, Nat.reduceBEq, Nat.reduceLT, Nat.reduceLeDiff, Nat.lt_add_one, px_tg, Int.cast_ofNat_Int, Int.reduceAdd, Int.reduceSub, Int.reduceMul, Int.reduceToNat, Int.reduceLE, Int.reduceLT, Int.reduceNeg, Int.reduceEq, Bool.or_false, Bool.false_or, Bool.or_true, Bool.true_or, List.length_cons, List.length_nil, List.nil_append, List.cons_append, Option.toList_some, Option.toList_none, reduceCtorEq, Option.some.injEq, Nat.zero_le, Nat.reduceMul, Nat.mul_zero, Nat.add_zero, Int.reduceDiv, Int.reduceMod, Int.toNat_natCast, Nat.lt_irrefl, Int.natCast_add, Int.cast_ofNat_Int, px_mds_RX10_0, px_mds_RX10_1, dec_X10_record, px_eq_iff, px_lt_iff, px_le_iff, px_up_o, px_up_eq, px_up_ne, px_cp_o, pa_k, pa_l]
    refine hq.at ?_ (fun _ _ => rfl) R
    unfold pa_record
    rw [if_pos q]
set_option maxHeartbeats 4000000 in
set_option maxRecDepth 100000 in
theorem c_X10_takeOff {G : px_G} {A : pa_A} {k x c : Int} {μ : px_Mem} {Q : Option px_X → px_Mem → Prop} (I : pa_I A) (R : pa_C A k μ) (hx : -2147483648 ≤ x ∧ x < 2147483648) (hc : -2147483648 ≤ c ∧ c < 2147483648) (hq : pa_Qc μ (pa_takeOff A x c) k Q) : px_C G yX10_takeOff cX10_takeOff 5 (some .int) 4 [.inr (.inl (some 0)), .inl x, .inl c] μ Q := by
  refine px_enter RX10 (by decide +kernel) rfl (by simp) (by simp [px_c1]) ?_
  simp only [List.map_cons, List.map_nil, List.length_cons, List.length_nil, List.replicate, List.append_nil, Nat.reduceAdd, Nat.reduceSub, List.cons_append, List.nil_append]
  refine px_go (fun _ => false) 400 ?_
  simp (disch := omega) only [px_lits, false_implies, true_implies, px_dec_ok, px_run_s, px_rules, px_rule_is, px_mats, px_calls, ↓reduceIte, eq_self, Bool.false_eq_true, px_flds, px_o_some, px_fvs, px_pfs, px_cts, px_cls, px_acs_, px_acn, true_and, and_true, true_or, or_true, false_or, or_false, and_self, not_true_eq_false, not_false_eq_true, Classical.not_not, Nat.reduceAdd, Nat.reduceSub, Nat.reduceBEq, Nat.reduceLT, Nat.reduceLeDiff, Nat.lt_add_one, px_tg, Int.cast_ofNat_Int, Int.reduceAdd, Int.reduceSub, Int.reduceMul, Int.reduceToNat, Int.reduceLE, Int.reduceLT, Int.reduceNeg, Int.reduceEq, Bool.or_false, Bool.false_or, Bool.or_true, Bool.true_or, List.length_cons, List.length_nil, List.nil_append, List.cons_append, Option.toList_some, Option.toList_none, reduceCtorEq, Option.some.injEq, Nat.zero_le, Nat.reduceMul, Nat.mul_zero, Nat.add_zero, Int.reduceDiv, Int.reduceMod, Int.toNat_natCast, Nat.lt_irrefl, Int.natCast_add, Int.cast_ofNat_Int, px_mds_RX10_0, px_mds_RX10_1, dec_X10_takeOff, px_eq_iff, px_lt_iff, px_le_iff, px_up_o, px_up_eq, px_up_ne, px_cp_o, pa_k, pa_l]
  refine c_X10_isHouse hx (fun q => ?_) (fun q => ?_)
  · obtain ⟨h, hh, rfl⟩ := pa_nat q
    obtain ⟨k1, k2⟩ := pc_kh hh
    obtain ⟨l1, l2, l3⟩ := R.hl hh
    obtain ⟨e1, e2⟩ := pc_eh h
    have V := I.V h
    have st : pa_takeOff A h c = (match pa_find (pa_L A h) c with
      | none => (A, -1000000001)
      | some k => match pc_brF ((pa_L A h).length - 1 - k) (pa_L A h) k with
        | none => (A, -1000000003)
        | some L1 => (pa_put (pa_push A) h L1.dropLast, (pa_L A h).length - 1)) := by
      unfold pa_takeOff
      rw [if_neg (fun n => n q), Int.toNat_natCast]
      rfl
    refine px_go (fun _ => false) 400 ?_
    simp (disch := omega) only [px_lits, false_implies, true_implies, px_dec_ok, px_run_s, px_rules, px_rule_is, px_mats, px_calls, ↓reduceIte, eq_self, Bool.false_eq_true, px_flds, px_o_some, px_fvs, px_pfs, px_cts, px_cls, px_acs_, px_acn, true_and, and_true, true_or, or_true, false_or, or_false, and_self, not_true_eq_false, not_false_eq_true, Classical.not_not, Nat.reduceAdd, Nat.reduceSub, Nat.reduceBEq, Nat.reduceLT, Nat.reduceLeDiff, Nat.lt_add_one, px_tg, Int.cast_ofNat_Int, Int.reduceAdd, Int.reduceSub, Int.reduceMul, Int.reduceToNat, Int.reduceLE, Int.reduceLT, Int.reduceNeg, Int.reduceEq, Bool.or_false, Bool.false_or, Bool.or_true, Bool.true_or, List.length_cons, List.length_nil, List.nil_append, List.cons_append, Option.toList_some, Option.toList_none, reduceCtorEq, Option.some.injEq, Nat.zero_le, Nat.reduceMul, Nat.mul_zero, Nat.add_zero, Int.reduceDiv, Int.reduceMod, Int.toNat_natCast, Nat.lt_irrefl, Int.natCast_add, Int.cast_ofNat_Int, px_mds_RX10_0, px_mds_RX10_1, dec_X10_takeOff, px_eq_iff, px_lt_iff, px_le_iff, px_up_o, px_up_eq, px_up_ne, px_cp_o, pa_k, pa_l, e1, k1]
    refine ⟨by omega, ?_⟩
    refine pa_find_c I R hh hc (fun w => ?_) (fun a w w1 => ?_)
    · rw [w] at st
      refine px_go (fun _ => false) 400 ?_
      simp (disch := omega) only [px_lits, false_implies, true_implies, px_dec_ok, px_run_s, px_rules, px_rule_is, px_mats, px_calls, ↓reduceIte, eq_self, Bool.false_eq_true, px_flds, px_o_some, px_fvs, px_pfs, px_cts, px_cls, px_acs_, px_acn, true_and, and_true, true_or, or_true, false_or, or_false, and_self, not_true_eq_false, not_false_eq_true, Classical.not_not, Nat.reduceAdd, Nat.reduceSub, Nat.reduceBEq, Nat.reduceLT, Nat.reduceLeDiff, Nat.lt_add_one, px_tg, Int.cast_ofNat_Int, Int.reduceAdd, Int.reduceSub, Int.reduceMul, Int.reduceToNat, Int.reduceLE, Int.reduceLT, Int.reduceNeg, Int.reduceEq, Bool.or_false, Bool.false_or, Bool.or_true, Bool.true_or, List.length_cons, List.length_nil, List.nil_append, List.cons_append, Option.toList_some, Option.toList_none, reduceCtorEq, Option.some.injEq, Nat.zero_le, Nat.reduceMul, Nat.mul_zero, Nat.add_zero, Int.reduceDiv, Int.reduceMod, Int.toNat_natCast, Nat.lt_irrefl, Int.natCast_add, Int.cast_ofNat_Int, px_mds_RX10_0, px_mds_RX10_1, dec_X10_takeOff, px_eq_iff, px_lt_iff, px_le_iff, px_up_o, px_up_eq, px_up_ne, px_cp_o, pa_k, pa_l, e1, k1]
      exact hq.at st (fun _ _ => rfl) R
    · rw [w] at st
      dsimp only at st
      refine px_go (fun _ => false) 400 ?_
      simp (disch := omega) only [px_lits, false_implies, true_implies, px_dec_ok, px_run_s, px_rules, px_rule_is, px_mats, px_calls, ↓reduceIte, eq_self, Bool.false_eq_true, px_flds, px_o_some, px_fvs, px_pfs, px_cts, px_cls, px_acs_, px_acn, true_and, and_true, true_or, or_true, false_or, or_false, and_self, not_true_eq_false, not_false_eq_true, Classical.not_not, Nat.reduceAdd, Nat.reduceSub, Nat.reduceBEq, Nat.reduceLT, Nat.reduceLeDiff, Nat.lt_add_one, px_tg, Int.cast_ofNat_Int, Int.reduceAdd, Int.reduceSub, Int.reduceMul, Int.reduceToNat, Int.reduceLE, Int.reduceLT, Int.reduceNeg, Int.reduceEq, Bool.or_false, Bool.false_or, Bool.or_true, Bool.true_or, List.length_cons, List.length_nil, List.nil_append, List.cons_append, Option.toList_some, Option.toList_none, reduceCtorEq, Option.some.injEq, Nat.zero_le, Nat.reduceMul, Nat.mul_zero, Nat.add_zero, Int.reduceDiv, Int.reduceMod, Int.toNat_natCast, Nat.lt_irrefl, Int.natCast_add, Int.cast_ofNat_Int, px_mds_RX10_0, px_mds_RX10_1, dec_X10_takeOff, px_eq_iff, px_lt_iff, px_le_iff, px_up_o, px_up_eq, px_up_ne, px_cp_o, pa_k, pa_l, e1, k1]
      have ea : (μ (7 + 5 * h) 4 - 1 - a).toNat = (pa_L A h).length - 1 - a := by omega
      refine c_X0_canGoToEnd k1 l2 (by omega) (by rw [l1]; exact V) (fun L1 v => ?_) (fun v => ?_)
      · rw [l1, ea, Int.toNat_natCast] at v
        rw [v] at st
        refine px_go (fun _ => false) 400 ?_
        simp (disch := omega) only [px_lits, false_implies, true_implies, px_dec_ok, px_run_s, px_rules, px_rule_is, px_mats, px_calls, ↓reduceIte, eq_self, Bool.false_eq_true, px_flds, px_o_some, px_fvs, px_pfs, px_cts, px_cls, px_acs_, px_acn, true_and, and_true, true_or, or_true, false_or, or_false, and_self, not_true_eq_false, not_false_eq_true, Classical.not_not, Nat.reduceAdd, Nat.reduceSub, Nat.reduceBEq, Nat.reduceLT, Nat.reduceLeDiff, Nat.lt_add_one, px_tg, Int.cast_ofNat_Int, Int.reduceAdd, Int.reduceSub, Int.reduceMul, Int.reduceToNat, Int.reduceLE, Int.reduceLT, Int.reduceNeg, Int.reduceEq, Bool.or_false, Bool.false_or, Bool.or_true, Bool.true_or, List.length_cons, List.length_nil, List.nil_append, List.cons_append, Option.toList_some, Option.toList_none, reduceCtorEq, Option.some.injEq, Nat.zero_le, Nat.reduceMul, Nat.mul_zero, Nat.add_zero, Int.reduceDiv, Int.reduceMod, Int.toNat_natCast, Nat.lt_irrefl, Int.natCast_add, Int.cast_ofNat_Int, px_mds_RX10_0, px_mds_RX10_1, dec_X10_takeOff, px_eq_iff, px_lt_iff, px_le_iff, px_up_o, px_up_eq, px_up_ne, px_cp_o, pa_k, pa_l, e1, k1]
        refine c_X5_push R.p.2 R.w.2 (fun μ2 g1 g2 g3 => ?_)
        have R2 := R.push g1 g2 g3
        obtain ⟨r1, r2, r3⟩ := R2.hl hh
        have n7 : μ2 (7 + 5 * h) = μ (7 + 5 * h) := g1 _ (by omega)
        have n74 : μ2 (7 + 5 * h) 4 = μ (7 + 5 * h) 4 := by rw [n7]
        refine px_go (fun _ => false) 400 ?_
        simp (disch := omega) only [px_lits, false_implies, true_implies, px_dec_ok, px_run_s, px_rules, px_rule_is, px_mats, px_calls, ↓reduceIte, eq_self, Bool.false_eq_true, px_flds, px_o_some, px_fvs, px_pfs, px_cts, px_cls, px_acs_, px_acn, true_and, and_true, true_or, or_true, false_or, or_false, and_self, not_true_eq_false, not_false_eq_true, Classical.not_not, Nat.reduceAdd, Nat.reduceSub, Nat.reduceBEq, Nat.reduceLT, Nat.reduceLeDiff, Nat.lt_add_one, px_tg, Int.cast_ofNat_Int, Int.reduceAdd, Int.reduceSub, Int.reduceMul, Int.reduceToNat, Int.reduceLE, Int.reduceLT, Int.reduceNeg, Int.reduceEq, Bool.or_false, Bool.false_or, Bool.or_true, Bool.true_or, List.length_cons, List.length_nil, List.nil_append, List.cons_append, Option.toList_some, Option.toList_none, reduceCtorEq, Option.some.injEq, Nat.zero_le, Nat.reduceMul, Nat.mul_zero, Nat.add_zero, Int.reduceDiv, Int.reduceMod, Int.toNat_natCast, Nat.lt_irrefl, Int.natCast_add, Int.cast_ofNat_Int, px_mds_RX10_0, px_mds_RX10_1, dec_X10_takeOff, px_eq_iff, px_lt_iff, px_le_iff, px_up_o, px_up_eq, px_up_ne, px_cp_o, pa_k, pa_l, e1, k1]
        refine c_X0_bringF k1 (by omega) (by omega) (by omega) (by rw [r1]; exact V) (fun L2 μ3 v1 v2 v3 => ?_) (fun μ3 v1 v2 => ?_)
        · rw [r1, n7, ea, Int.toNat_natCast] at v1
          have eL : L2 = L1 := Option.some.inj (v1.symm.trans v)
          subst eL
          have n8 : μ3 (7 + 5 * h) = μ (7 + 5 * h) := by rw [v2 _ (by omega), n7]
          refine px_go (fun _ => false) 400 ?_
          simp (disch := omega) only [px_lits, false_implies, true_implies, px_dec_ok, px_run_s, px_rules, px_rule_is, px_mats, px_calls, ↓reduceIte, eq_self, Bool.false_eq_true, px_flds, px_o_some, px_fvs, px_pfs, px_cts, px_cls, px_acs_, px_acn, true_and, and_true, true_or, or_true, false_or, or_false, and_self, not_true_eq_false, not_false_eq_true, Classical.not_not, Nat.reduceAdd, Nat.reduceSub, Nat.reduceBEq, Nat.reduceLT, Nat.reduceLeDiff, Nat.lt_add_one, px_tg, Int.cast_ofNat_Int, Int.reduceAdd, Int.reduceSub, Int.reduceMul, Int.reduceToNat, Int.reduceLE, Int.reduceLT, Int.reduceNeg, Int.reduceEq, Bool.or_false, Bool.false_or, Bool.or_true, Bool.true_or, List.length_cons, List.length_nil, List.nil_append, List.cons_append, Option.toList_some, Option.toList_none, reduceCtorEq, Option.some.injEq, Nat.zero_le, Nat.reduceMul, Nat.mul_zero, Nat.add_zero, Int.reduceDiv, Int.reduceMod, Int.toNat_natCast, Nat.lt_irrefl, Int.natCast_add, Int.cast_ofNat_Int, px_mds_RX10_0, px_mds_RX10_1, dec_X10_takeOff, px_eq_iff, px_lt_iff, px_le_iff, px_up_o, px_up_eq, px_up_ne, px_cp_o, pa_k, pa_l, e1, k1, n8]
          rw [l3]
          refine hq.at st (fun o ho => ?_) ?_
          · rw [px_up_o (by omega), v2 o (by omega), g1 o (by omega)]
          · refine R2.putn hh (fun o o1 o2 _ => ?_) ?_ ?_ ?_
            · rw [px_up_o (by omega), v2 o (by omega)]
            · rw [px_up_o (by omega), v2 0 (by omega)]
              exact R2.n
            · have ll := (pc_brF_keep v).1
              have : L2 = pc_hl μ3 (7 + 5 * h) := v3.symm
              apply List.ext_getElem?
              intro j
              rw [pc_hl_get, px_up_eq rfl, List.getElem?_dropLast, this, pc_hl_get, n8]
              have h5 : (pc_hl μ3 (7 + 5 * h)).length = (pa_L A h).length := by rw [← this]; exact ll
              rw [h5]
              by_cases hj : j < (pa_L A h).length - 1
              · rw [if_pos hj, if_pos (by omega), if_pos (by omega)]
                simp (disch := omega) only [px_up_o]
              · rw [if_neg hj, if_neg (by omega)]
            · rw [px_up_eq rfl]
              omega
        · rw [r1, n7, ea, Int.toNat_natCast] at v1
          exact absurd (v1.symm.trans v) (by intro e; cases e)
      · rw [l1, ea, Int.toNat_natCast] at v
        rw [v] at st
        refine px_go (fun _ => false) 400 ?_
        simp (disch := omega) only [px_lits, false_implies, true_implies, px_dec_ok, px_run_s, px_rules, px_rule_is, px_mats, px_calls, ↓reduceIte, eq_self, Bool.false_eq_true, px_flds, px_o_some, px_fvs, px_pfs, px_cts, px_cls, px_acs_, px_acn, true_and, and_true, true_or, or_true, false_or, or_false, and_self, not_true_eq_false, not_false_eq_true, Classical.not_not, Nat.reduceAdd, Nat.reduceSub, Nat.reduceBEq, Nat.reduceLT, Nat.reduceLeDiff, Nat.lt_add_one, px_tg, Int.cast_ofNat_Int, Int.reduceAdd, Int.reduceSub, Int.reduceMul, Int.reduceToNat, Int.reduceLE, Int.reduceLT, Int.reduceNeg, Int.reduceEq, Bool.or_false, Bool.false_or, Bool.or_true, Bool.true_or, List.length_cons, List.length_nil, List.nil_append, List.cons_append, Option.toList_some, Option.toList_none, reduceCtorEq, Option.some.injEq, Nat.zero_le, Nat.reduceMul, Nat.mul_zero, Nat.add_zero, Int.reduceDiv, Int.reduceMod, Int.toNat_natCast, Nat.lt_irrefl, Int.natCast_add, Int.cast_ofNat_Int, px_mds_RX10_0, px_mds_RX10_1, dec_X10_takeOff, px_eq_iff, px_lt_iff, px_le_iff, px_up_o, px_up_eq, px_up_ne, px_cp_o, pa_k, pa_l, e1, k1]
        exact hq.at st (fun _ _ => rfl) R
  · refine px_go (fun _ => false) 400 ?_
    simp (disch := omega) only [px_lits, false_implies, true_implies, px_dec_ok, px_run_s, px_rules, px_rule_is, px_mats, px_calls, ↓reduceIte, eq_self, Bool.false_eq_true, px_flds, px_o_some, px_fvs, px_pfs, px_cts, px_cls, px_acs_, px_acn, true_and, and_true, true_or, or_true, false_or, or_false, and_self, not_true_eq_false, not_false_eq_true, Classical.not_not, Nat.reduceAdd, Nat.reduceSub, Nat.reduceBEq, Nat.reduceLT, Nat.reduceLeDiff, Nat.lt_add_one, px_tg, Int.cast_ofNat_Int, Int.reduceAdd, Int.reduceSub, Int.reduceMul, Int.reduceToNat, Int.reduceLE, Int.reduceLT, Int.reduceNeg, Int.reduceEq, Bool.or_false, Bool.false_or, Bool.or_true, Bool.true_or, List.length_cons, List.length_nil, List.nil_append, List.cons_append, Option.toList_some, Option.toList_none, reduceCtorEq, Option.some.injEq, Nat.zero_le, Nat.reduceMul, Nat.mul_zero, Nat.add_zero, Int.reduceDiv, Int.reduceMod, Int.toNat_natCast, Nat.lt_irrefl, Int.natCast_add, Int.cast_ofNat_Int, px_mds_RX10_0, px_mds_RX10_1, dec_X10_takeOff, px_eq_iff, px_lt_iff, px_le_iff, px_up_o, px_up_eq, px_up_ne, px_cp_o, pa_k, pa_l]
    refine hq.at ?_ (fun _ _ => rfl) R
    unfold pa_takeOff
    rw [if_pos q]
set_option maxHeartbeats 4000000 in
set_option maxRecDepth 100000 in
theorem c_X10_turn {G : px_G} {A : pa_A} {k x i : Int} {μ : px_Mem} {Q : Option px_X → px_Mem → Prop} (I : pa_I A) (R : pa_C A k μ) (hx : -2147483648 ≤ x ∧ x < 2147483648) (hi : -2147483648 ≤ i ∧ i < 2147483648) (hq : pa_Qc μ (pa_turn A x i) k Q) : px_C G yX10_turn cX10_turn 4 (some .int) 4 [.inr (.inl (some 0)), .inl x, .inl i] μ Q := by
  refine px_enter RX10 (by decide +kernel) rfl (by simp) (by simp [px_c1]) ?_
  simp only [List.map_cons, List.map_nil, List.length_cons, List.length_nil, List.replicate, List.append_nil, Nat.reduceAdd, Nat.reduceSub, List.cons_append, List.nil_append]
  refine px_go (fun _ => false) 400 ?_
  simp (disch := omega) only [px_lits, false_implies, true_implies, px_dec_ok, px_run_s, px_rules, px_rule_is, px_mats, px_calls, ↓reduceIte, eq_self, Bool.false_eq_true, px_flds, px_o_some, px_fvs, px_pfs, px_cts, px_cls, px_acs_, px_acn, true_and, and_true, true_or, or_true, false_or, or_false, and_self, not_true_eq_false, not_false_eq_true, Classical.not_not, Nat.reduceAdd, Nat.reduceSub, Nat.reduceBEq, Nat.reduceLT, Nat.reduceLeDiff, Nat.lt_add_one, px_tg, Int.cast_ofNat_Int, Int.reduceAdd, Int.reduceSub, Int.reduceMul, Int.reduceToNat, Int.reduceLE, Int.reduceLT, Int.reduceNeg, Int.reduceEq, Bool.or_false, Bool.false_or, Bool.or_true, Bool.true_or, List.length_cons, List.length_nil, List.nil_append, List.cons_append, Option.toList_some, Option.toList_none, reduceCtorEq, Option.some.injEq, Nat.zero_le, Nat.reduceMul, Nat.mul_zero, Nat.add_zero, Int.reduceDiv, Int.reduceMod, Int.toNat_natCast, Nat.lt_irrefl, Int.natCast_add, Int.cast_ofNat_Int, px_mds_RX10_0, px_mds_RX10_1, dec_X10_turn, px_eq_iff, px_lt_iff, px_le_iff, px_up_o, px_up_eq, px_up_ne, px_cp_o, pa_k, pa_l]
  refine c_X10_isHouse hx (fun q => ?_) (fun q => ?_)
  · obtain ⟨h, hh, rfl⟩ := pa_nat q
    obtain ⟨k1, k2⟩ := pc_kh hh
    obtain ⟨l1, l2, l3⟩ := R.hl hh
    obtain ⟨e1, e2⟩ := pc_eh h
    obtain ⟨hk1, hk2⟩ := pc_hk k1
    have V := I.V h
    refine px_go (fun _ => false) 400 ?_
    simp (disch := omega) only [px_lits, false_implies, true_implies, px_dec_ok, px_run_s, px_rules, px_rule_is, px_mats, px_calls, ↓reduceIte, eq_self, Bool.false_eq_true, px_flds, px_o_some, px_fvs, px_pfs, px_cts, px_cls, px_acs_, px_acn, true_and, and_true, true_or, or_true, false_or, or_false, and_self, not_true_eq_false, not_false_eq_true, Classical.not_not, Nat.reduceAdd, Nat.reduceSub, Nat.reduceBEq, Nat.reduceLT, Nat.reduceLeDiff, Nat.lt_add_one, px_tg, Int.cast_ofNat_Int, Int.reduceAdd, Int.reduceSub, Int.reduceMul, Int.reduceToNat, Int.reduceLE, Int.reduceLT, Int.reduceNeg, Int.reduceEq, Bool.or_false, Bool.false_or, Bool.or_true, Bool.true_or, List.length_cons, List.length_nil, List.nil_append, List.cons_append, Option.toList_some, Option.toList_none, reduceCtorEq, Option.some.injEq, Nat.zero_le, Nat.reduceMul, Nat.mul_zero, Nat.add_zero, Int.reduceDiv, Int.reduceMod, Int.toNat_natCast, Nat.lt_irrefl, Int.natCast_add, Int.cast_ofNat_Int, px_mds_RX10_0, px_mds_RX10_1, dec_X10_turn, px_eq_iff, px_lt_iff, px_le_iff, px_up_o, px_up_eq, px_up_ne, px_cp_o, pa_k, pa_l, e1, k1]
    refine ⟨by omega, ?_⟩
    refine c_X0_hasPair k1 l2 hi (fun w => ?_) (fun w => ?_)
    · have st : pa_turn A h i = (match pc_sw (pa_L A h) i.toNat with
        | none => (A, -1000000003)
        | some L1 => (pa_put (pa_push A) h L1, pc_num L1 i.toNat)) := by
        unfold pa_turn
        rw [if_neg (fun n => n ⟨q, by rw [Int.toNat_natCast]; omega⟩), Int.toNat_natCast]
        rfl
      refine px_go (fun _ => false) 400 ?_
      simp (disch := omega) only [px_lits, false_implies, true_implies, px_dec_ok, px_run_s, px_rules, px_rule_is, px_mats, px_calls, ↓reduceIte, eq_self, Bool.false_eq_true, px_flds, px_o_some, px_fvs, px_pfs, px_cts, px_cls, px_acs_, px_acn, true_and, and_true, true_or, or_true, false_or, or_false, and_self, not_true_eq_false, not_false_eq_true, Classical.not_not, Nat.reduceAdd, Nat.reduceSub, Nat.reduceBEq, Nat.reduceLT, Nat.reduceLeDiff, Nat.lt_add_one, px_tg, Int.cast_ofNat_Int, Int.reduceAdd, Int.reduceSub, Int.reduceMul, Int.reduceToNat, Int.reduceLE, Int.reduceLT, Int.reduceNeg, Int.reduceEq, Bool.or_false, Bool.false_or, Bool.or_true, Bool.true_or, List.length_cons, List.length_nil, List.nil_append, List.cons_append, Option.toList_some, Option.toList_none, reduceCtorEq, Option.some.injEq, Nat.zero_le, Nat.reduceMul, Nat.mul_zero, Nat.add_zero, Int.reduceDiv, Int.reduceMod, Int.toNat_natCast, Nat.lt_irrefl, Int.natCast_add, Int.cast_ofNat_Int, px_mds_RX10_0, px_mds_RX10_1, dec_X10_turn, px_eq_iff, px_lt_iff, px_le_iff, px_up_o, px_up_eq, px_up_ne, px_cp_o, pa_k, pa_l, e1, k1]
      refine ⟨by omega, ?_⟩
      refine c_X0_pairAt k1 l2 hi (by rw [l1]; exact V) (fun v1 v2 => ?_) (fun v => absurd w v)
      have a1 := R.num_at hh (j := i) (by omega) (by omega)
      have a2 := R.num_at hh (j := i + 1) (by omega) (by omega)
      rw [show (i + 1).toNat = i.toNat + 1 by omega] at a2
      have sw := pc_sw_at a1 a2
      have p1 := V.place (List.mem_of_getElem? a1)
      have p2 := V.place (List.mem_of_getElem? a2)
      dsimp only at p1 p2
      cases ht : pc_tr (μ (7 + 5 * h + 2) i) (μ (7 + 5 * h + 3) i) (μ (7 + 5 * h + 2) (i + 1)) (μ (7 + 5 * h + 3) (i + 1)) with
      | none =>
        rw [pc_trz_none ht]
        have sw0 : pc_sw (pa_L A h) i.toNat = none := by
          rw [sw]
          unfold pc_sw2
          dsimp only
          rw [ht]
          rfl
        rw [sw0] at st
        refine px_go (fun _ => false) 400 ?_
        simp (disch := omega) only [px_lits, false_implies, true_implies, px_dec_ok, px_run_s, px_rules, px_rule_is, px_mats, px_calls, ↓reduceIte, eq_self, Bool.false_eq_true, px_flds, px_o_some, px_fvs, px_pfs, px_cts, px_cls, px_acs_, px_acn, true_and, and_true, true_or, or_true, false_or, or_false, and_self, not_true_eq_false, not_false_eq_true, Classical.not_not, Nat.reduceAdd, Nat.reduceSub, Nat.reduceBEq, Nat.reduceLT, Nat.reduceLeDiff, Nat.lt_add_one, px_tg, Int.cast_ofNat_Int, Int.reduceAdd, Int.reduceSub, Int.reduceMul, Int.reduceToNat, Int.reduceLE, Int.reduceLT, Int.reduceNeg, Int.reduceEq, Bool.or_false, Bool.false_or, Bool.or_true, Bool.true_or, List.length_cons, List.length_nil, List.nil_append, List.cons_append, Option.toList_some, Option.toList_none, reduceCtorEq, Option.some.injEq, Nat.zero_le, Nat.reduceMul, Nat.mul_zero, Nat.add_zero, Int.reduceDiv, Int.reduceMod, Int.toNat_natCast, Nat.lt_irrefl, Int.natCast_add, Int.cast_ofNat_Int, px_mds_RX10_0, px_mds_RX10_1, dec_X10_turn, px_eq_iff, px_lt_iff, px_le_iff, px_up_o, px_up_eq, px_up_ne, px_cp_o, pa_k, pa_l, e1, k1]
        exact hq.at st (fun _ _ => rfl) R
      | some km =>
        obtain ⟨kk, mm⟩ := km
        have hb9 := pc_tr_bd ht p1.1 p2.1
        rw [pc_trz_some ht]
        refine px_go (fun _ => false) 400 ?_
        simp (disch := omega) only [px_lits, false_implies, true_implies, px_dec_ok, px_run_s, px_rules, px_rule_is, px_mats, px_calls, ↓reduceIte, eq_self, Bool.false_eq_true, px_flds, px_o_some, px_fvs, px_pfs, px_cts, px_cls, px_acs_, px_acn, true_and, and_true, true_or, or_true, false_or, or_false, and_self, not_true_eq_false, not_false_eq_true, Classical.not_not, Nat.reduceAdd, Nat.reduceSub, Nat.reduceBEq, Nat.reduceLT, Nat.reduceLeDiff, Nat.lt_add_one, px_tg, Int.cast_ofNat_Int, Int.reduceAdd, Int.reduceSub, Int.reduceMul, Int.reduceToNat, Int.reduceLE, Int.reduceLT, Int.reduceNeg, Int.reduceEq, Bool.or_false, Bool.false_or, Bool.or_true, Bool.true_or, List.length_cons, List.length_nil, List.nil_append, List.cons_append, Option.toList_some, Option.toList_none, reduceCtorEq, Option.some.injEq, Nat.zero_le, Nat.reduceMul, Nat.mul_zero, Nat.add_zero, Int.reduceDiv, Int.reduceMod, Int.toNat_natCast, Nat.lt_irrefl, Int.natCast_add, Int.cast_ofNat_Int, px_mds_RX10_0, px_mds_RX10_1, dec_X10_turn, px_eq_iff, px_lt_iff, px_le_iff, px_up_o, px_up_eq, px_up_ne, px_cp_o, pa_k, pa_l, e1, k1]
        refine ⟨fun _ => ?_, fun n => by omega⟩
        refine c_X5_push R.p.2 R.w.2 (fun μ2 g1 g2 g3 => ?_)
        have R2 := R.push g1 g2 g3
        obtain ⟨r1, r2, r3⟩ := R2.hl hh
        refine px_go (fun _ => false) 400 ?_
        simp (disch := omega) only [px_lits, false_implies, true_implies, px_dec_ok, px_run_s, px_rules, px_rule_is, px_mats, px_calls, ↓reduceIte, eq_self, Bool.false_eq_true, px_flds, px_o_some, px_fvs, px_pfs, px_cts, px_cls, px_acs_, px_acn, true_and, and_true, true_or, or_true, false_or, or_false, and_self, not_true_eq_false, not_false_eq_true, Classical.not_not, Nat.reduceAdd, Nat.reduceSub, Nat.reduceBEq, Nat.reduceLT, Nat.reduceLeDiff, Nat.lt_add_one, px_tg, Int.cast_ofNat_Int, Int.reduceAdd, Int.reduceSub, Int.reduceMul, Int.reduceToNat, Int.reduceLE, Int.reduceLT, Int.reduceNeg, Int.reduceEq, Bool.or_false, Bool.false_or, Bool.or_true, Bool.true_or, List.length_cons, List.length_nil, List.nil_append, List.cons_append, Option.toList_some, Option.toList_none, reduceCtorEq, Option.some.injEq, Nat.zero_le, Nat.reduceMul, Nat.mul_zero, Nat.add_zero, Int.reduceDiv, Int.reduceMod, Int.toNat_natCast, Nat.lt_irrefl, Int.natCast_add, Int.cast_ofNat_Int, px_mds_RX10_0, px_mds_RX10_1, dec_X10_turn, px_eq_iff, px_lt_iff, px_le_iff, px_up_o, px_up_eq, px_up_ne, px_cp_o, pa_k, pa_l, e1, k1]
        refine c_X0_swap k1 r2 (by omega) (by rw [r1]; exact V) (fun L1 μ3 v1 v2 v3 => ?_) (fun v1 => ?_)
        · rw [r1] at v1
          rw [show pc_sw (pa_L A h) i.toNat = some L1 from v1] at st
          have ll := pc_sw_len v1
          have n7 : μ3 (7 + 5 * h) = μ2 (7 + 5 * h) := v2 _ (by omega)
          refine px_go (fun _ => false) 400 ?_
          simp (disch := omega) only [px_lits, false_implies, true_implies, px_dec_ok, px_run_s, px_rules, px_rule_is, px_mats, px_calls, ↓reduceIte, eq_self, Bool.false_eq_true, px_flds, px_o_some, px_fvs, px_pfs, px_cts, px_cls, px_acs_, px_acn, true_and, and_true, true_or, or_true, false_or, or_false, and_self, not_true_eq_false, not_false_eq_true, Classical.not_not, Nat.reduceAdd, Nat.reduceSub, Nat.reduceBEq, Nat.reduceLT, Nat.reduceLeDiff, Nat.lt_add_one, px_tg, Int.cast_ofNat_Int, Int.reduceAdd, Int.reduceSub, Int.reduceMul, Int.reduceToNat, Int.reduceLE, Int.reduceLT, Int.reduceNeg, Int.reduceEq, Bool.or_false, Bool.false_or, Bool.or_true, Bool.true_or, List.length_cons, List.length_nil, List.nil_append, List.cons_append, Option.toList_some, Option.toList_none, reduceCtorEq, Option.some.injEq, Nat.zero_le, Nat.reduceMul, Nat.mul_zero, Nat.add_zero, Int.reduceDiv, Int.reduceMod, Int.toNat_natCast, Nat.lt_irrefl, Int.natCast_add, Int.cast_ofNat_Int, px_mds_RX10_0, px_mds_RX10_1, dec_X10_turn, px_eq_iff, px_lt_iff, px_le_iff, px_up_o, px_up_eq, px_up_ne, px_cp_o, pa_k, pa_l, e1, k1, hk1, hk2]
          refine ⟨by omega, ?_⟩
          have an : μ3 (7 + 5 * h + 1) i = pc_num L1 i.toNat := by
            unfold pc_num
            rw [← v3, pc_hl_at (by omega) (by rw [n7, r3]; exact Int.lt_of_lt_of_le w.2 (by rw [l3]; show _ ≤ (((pa_L A h).length : Nat) : Int); omega))]
            rfl
          rw [an]
          refine hq.at st (fun o ho => ?_) ?_
          · rw [v2 o (by omega), g1 o (by omega)]
          · refine R2.putn hh (fun o o1 o2 _ => v2 o (by omega)) ?_ v3 (by rw [n7]; exact r2)
            rw [v2 0 (by omega)]
            exact R2.n
        · rw [r1, show pa_L (pa_push A) h = pa_L A h from rfl, sw] at v1
          unfold pc_sw2 at v1
          dsimp only at v1
          rw [ht] at v1
          cases v1
    · refine px_go (fun _ => false) 400 ?_
      simp (disch := omega) only [px_lits, false_implies, true_implies, px_dec_ok, px_run_s, px_rules, px_rule_is, px_mats, px_calls, ↓reduceIte, eq_self, Bool.false_eq_true, px_flds, px_o_some, px_fvs, px_pfs, px_cts, px_cls, px_acs_, px_acn, true_and, and_true, true_or, or_true, false_or, or_false, and_self, not_true_eq_false, not_false_eq_true, Classical.not_not, Nat.reduceAdd, Nat.reduceSub, Nat.reduceBEq, Nat.reduceLT, Nat.reduceLeDiff, Nat.lt_add_one, px_tg, Int.cast_ofNat_Int, Int.reduceAdd, Int.reduceSub, Int.reduceMul, Int.reduceToNat, Int.reduceLE, Int.reduceLT, Int.reduceNeg, Int.reduceEq, Bool.or_false, Bool.false_or, Bool.or_true, Bool.true_or, List.length_cons, List.length_nil, List.nil_append, List.cons_append, Option.toList_some, Option.toList_none, reduceCtorEq, Option.some.injEq, Nat.zero_le, Nat.reduceMul, Nat.mul_zero, Nat.add_zero, Int.reduceDiv, Int.reduceMod, Int.toNat_natCast, Nat.lt_irrefl, Int.natCast_add, Int.cast_ofNat_Int, px_mds_RX10_0, px_mds_RX10_1, dec_X10_turn, px_eq_iff, px_lt_iff, px_le_iff, px_up_o, px_up_eq, px_up_ne, px_cp_o, pa_k, pa_l, e1, k1]
      refine hq.at ?_ (fun _ _ => rfl) R
      unfold pa_turn
      rw [if_pos]
      rw [Int.toNat_natCast]
      intro n
      exact w ⟨n.2.1, by omega⟩
  · refine px_go (fun _ => false) 400 ?_
    simp (disch := omega) only [px_lits, false_implies, true_implies, px_dec_ok, px_run_s, px_rules, px_rule_is, px_mats, px_calls, ↓reduceIte, eq_self, Bool.false_eq_true, px_flds, px_o_some, px_fvs, px_pfs, px_cts, px_cls, px_acs_, px_acn, true_and, and_true, true_or, or_true, false_or, or_false, and_self, not_true_eq_false, not_false_eq_true, Classical.not_not, Nat.reduceAdd, Nat.reduceSub, Nat.reduceBEq, Nat.reduceLT, Nat.reduceLeDiff, Nat.lt_add_one, px_tg, Int.cast_ofNat_Int, Int.reduceAdd, Int.reduceSub, Int.reduceMul, Int.reduceToNat, Int.reduceLE, Int.reduceLT, Int.reduceNeg, Int.reduceEq, Bool.or_false, Bool.false_or, Bool.or_true, Bool.true_or, List.length_cons, List.length_nil, List.nil_append, List.cons_append, Option.toList_some, Option.toList_none, reduceCtorEq, Option.some.injEq, Nat.zero_le, Nat.reduceMul, Nat.mul_zero, Nat.add_zero, Int.reduceDiv, Int.reduceMod, Int.toNat_natCast, Nat.lt_irrefl, Int.natCast_add, Int.cast_ofNat_Int, px_mds_RX10_0, px_mds_RX10_1, dec_X10_turn, px_eq_iff, px_lt_iff, px_le_iff, px_up_o, px_up_eq, px_up_ne, px_cp_o, pa_k, pa_l]
    refine hq.at ?_ (fun _ _ => rfl) R
    unfold pa_turn
    rw [if_pos (fun n => q n.1)]
