/-! ===== the class: drift and pull ===== -/
theorem pa_next {G : px_G} {b x : Int} {μ : px_Mem} {Q : Option px_X → px_Mem → Prop} (e : μ 204 0 = x) (hx : 0 ≤ x ∧ x < 2147483647) (hb : 1 ≤ b ∧ b < 2147483648) (h1 : ∀ μ1 : px_Mem, (∀ o, o ≠ 204 → μ1 o = μ o) → μ1 204 0 = pa_lcg x → Q (some (.inl (pa_lcg x % b))) μ1) : px_C G yX2_next cX2_next 2 (some .int) 0 [.inr (.inl (some 204)), .inl b] μ Q := by
  subst e
  exact c_X2_next hx hb (h1 _ (fun o ho => px_up_o ho) (px_up_eq rfl))
set_option maxHeartbeats 4000000 in
set_option maxRecDepth 100000 in
theorem c_X10_recordByLots {G : px_G} {A : pa_A} {k : Int} {μ : px_Mem} {Q : Option px_X → px_Mem → Prop} (I : pa_I A) (R : pa_C A k μ) {x : Int} (ex : μ 204 0 = x) (hx : 0 ≤ x ∧ x < 2147483647)
    (hq : ∀ μ1 : px_Mem, (∀ o, 205 ≤ o → μ1 o = μ o) → pa_C (pa_lot A x).1 k μ1 → μ1 204 0 = (pa_lot A x).2.1 → Q (some (.inl (pa_lot A x).2.2)) μ1) : px_C G yX10_recordByLots cX10_recordByLots 6 (some .boolean) 3 [.inr (.inl (some 0))] μ Q := by
  have x1 := pa_lcg_r hx
  have x2 := pa_lcg_r x1
  have x3 := pa_lcg_r x2
  have x4 := pa_lcg_r x3
  have hn := I.n
  refine px_enter RX10 (by decide +kernel) rfl (by simp) (by simp [px_c1]) ?_
  simp only [List.map_cons, List.map_nil, List.length_cons, List.length_nil, List.replicate, List.append_nil, Nat.reduceAdd, Nat.reduceSub, List.cons_append, List.nil_append]
  refine px_go (fun _ => false) 400 ?_
  simp (disch := omega) only [px_lits, false_implies, true_implies, px_dec_ok, px_run_s, px_rules, px_rule_is, px_mats, px_calls, ↓reduceIte, eq_self, Bool.false_eq_true, px_flds, px_o_some, px_fvs, px_pfs, px_cts, px_cls, px_acs_, px_acn, true_and, and_true, true_or, or_true, false_or, or_false, and_self, not_true_eq_false, not_false_eq_true, Classical.not_not, Nat.reduceAdd, Nat.reduceSub, Nat.reduceBEq, Nat.reduceLT, Nat.reduceLeDiff, Nat.lt_add_one, px_tg, Int.cast_ofNat_Int, Int.reduceAdd, Int.reduceSub, Int.reduceMul, Int.reduceToNat, Int.reduceLE, Int.reduceLT, Int.reduceNeg, Int.reduceEq, Bool.or_false, Bool.false_or, Bool.or_true, Bool.true_or, List.length_cons, List.length_nil, List.nil_append, List.cons_append, Option.toList_some, Option.toList_none, reduceCtorEq, Option.some.injEq, Nat.zero_le, Nat.reduceMul, Nat.mul_zero, Nat.add_zero, Int.reduceDiv, Int.reduceMod, Int.toNat_natCast, Nat.lt_irrefl, Int.natCast_add, Int.cast_ofNat_Int, px_mds_RX10_0, px_mds_RX10_1, dec_X10_recordByLots, px_eq_iff, px_lt_iff, px_le_iff, px_up_o, px_up_eq, px_up_ne, px_cp_o, pa_k, pa_l]
  refine pa_next ex hx (by omega) (fun μ1 f1 g1 => ?_)
  obtain ⟨h, hh, eh⟩ := pa_nat (x := pa_lcg x % 2) (by unfold pa_isH; omega)
  obtain ⟨k1, k2⟩ := pc_kh hh
  have hT := (I.Tl h).1
  have st : pa_lot A x = pa_lot2 A h (if pa_lcg (pa_lcg x) % 3 = 2 then 1 else 0) (pa_lcg (pa_lcg x)) := by
    unfold pa_lot
    rw [eh, Int.toNat_natCast]
  rw [eh]
  rw [st] at hq
  refine px_go (fun _ => false) 400 ?_
  simp (disch := omega) only [px_lits, false_implies, true_implies, px_dec_ok, px_run_s, px_rules, px_rule_is, px_mats, px_calls, ↓reduceIte, eq_self, Bool.false_eq_true, px_flds, px_o_some, px_fvs, px_pfs, px_cts, px_cls, px_acs_, px_acn, true_and, and_true, true_or, or_true, false_or, or_false, and_self, not_true_eq_false, not_false_eq_true, Classical.not_not, Nat.reduceAdd, Nat.reduceSub, Nat.reduceBEq, Nat.reduceLT, Nat.reduceLeDiff, Nat.lt_add_one, px_tg, Int.cast_ofNat_Int, Int.reduceAdd, Int.reduceSub, Int.reduceMul, Int.reduceToNat, Int.reduceLE, Int.reduceLT, Int.reduceNeg, Int.reduceEq, Bool.or_false, Bool.false_or, Bool.or_true, Bool.true_or, List.length_cons, List.length_nil, List.nil_append, List.cons_append, Option.toList_some, Option.toList_none, reduceCtorEq, Option.some.injEq, Nat.zero_le, Nat.reduceMul, Nat.mul_zero, Nat.add_zero, Int.reduceDiv, Int.reduceMod, Int.toNat_natCast, Nat.lt_irrefl, Int.natCast_add, Int.cast_ofNat_Int, px_mds_RX10_0, px_mds_RX10_1, dec_X10_recordByLots, px_eq_iff, px_lt_iff, px_le_iff, px_up_o, px_up_eq, px_up_ne, px_cp_o, pa_k, pa_l]
  refine pa_next g1 x1 (by omega) (fun μ2 f2 g2 => ?_)
  have R2 : pa_C A k μ2 := R.same (fun o ho => by rw [f2 o (by omega), f1 o (by omega)])
  have fin : ∀ (s p l z : Int) (μ3 : px_Mem), (s = 0 ∨ s = 1) → (∀ o, 205 ≤ o → μ3 o = μ o) → pa_C A k μ3 → pc_tx μ3 (179 + 2 * h) = pa_T A h → μ3 (179 + 2 * h) 1 = (pa_T A h).length → (0 ≤ p ∧ p + s ≤ (pa_T A h).length) → μ3 204 0 = z →
      (∀ μ4 : px_Mem, (∀ o, 205 ≤ o → μ4 o = μ o) → pa_C (pa_lot3 A h s p (if s = 1 then pa_at (pa_T A h) p else l) z).1 k μ4 → μ4 204 0 = z → Q (some (.inl (pa_lot3 A h s p (if s = 1 then pa_at (pa_T A h) p else l) z).2.2)) μ4) →
      px_J G RX10 cX10_recordByLots 6 (some .boolean) 3 97 [some (.inr (.inl (some 0))), some (.inl h), some (.inl s), some (.inr (.inl (some (179 + 2 * h)))), some (.inl p), some (.inl l)] [] μ3 Q := by
    intro s p l z μ3 hs fr R3 t1 t2 hp e2 hq3
    obtain ⟨l1, l2, l3⟩ := R3.hl hh
    have rn := R3.n
    refine px_go (fun _ => false) 400 ?_
    simp (disch := omega) only [px_lits, false_implies, true_implies, px_dec_ok, px_run_s, px_rules, px_rule_is, px_mats, px_calls, ↓reduceIte, eq_self, Bool.false_eq_true, px_flds, px_o_some, px_fvs, px_pfs, px_cts, px_cls, px_acs_, px_acn, true_and, and_true, true_or, or_true, false_or, or_false, and_self, not_true_eq_false, not_false_eq_true, Classical.not_not, Nat.reduceAdd, Nat.reduceSub, Nat.reduceBEq, Nat.reduceLT, Nat.reduceLeDiff, Nat.lt_add_one, px_tg, Int.cast_ofNat_Int, Int.reduceAdd, Int.reduceSub, Int.reduceMul, Int.reduceToNat, Int.reduceLE, Int.reduceLT, Int.reduceNeg, Int.reduceEq, Bool.or_false, Bool.false_or, Bool.or_true, Bool.true_or, List.length_cons, List.length_nil, List.nil_append, List.cons_append, Option.toList_some, Option.toList_none, reduceCtorEq, Option.some.injEq, Nat.zero_le, Nat.reduceMul, Nat.mul_zero, Nat.add_zero, Int.reduceDiv, Int.reduceMod, Int.toNat_natCast, Nat.lt_irrefl, Int.natCast_add, Int.cast_ofNat_Int, px_mds_RX10_0, px_mds_RX10_1, dec_X10_recordByLots, px_eq_iff, px_lt_iff, px_le_iff, px_up_o, px_up_eq, px_up_ne, px_cp_o, pa_k, pa_l, k2]
    refine c_X10_hasRoom hh hs l2 (by omega) (by omega) (fun v => ?_) (fun v => ?_)
    · have rm : pa_room A h s := ⟨by omega, by omega, by omega⟩
      have e3 : pa_lot3 A h s p (if s = 1 then pa_at (pa_T A h) p else l) z = (pa_app A h s p (if s = 1 then pa_at (pa_T A h) p else l), z, 1) := by
        unfold pa_lot3
        rw [if_pos rm]
      rw [e3] at hq3
      refine px_go (fun _ => false) 400 ?_
      simp (disch := omega) only [px_lits, false_implies, true_implies, px_dec_ok, px_run_s, px_rules, px_rule_is, px_mats, px_calls, ↓reduceIte, eq_self, Bool.false_eq_true, px_flds, px_o_some, px_fvs, px_pfs, px_cts, px_cls, px_acs_, px_acn, true_and, and_true, true_or, or_true, false_or, or_false, and_self, not_true_eq_false, not_false_eq_true, Classical.not_not, Nat.reduceAdd, Nat.reduceSub, Nat.reduceBEq, Nat.reduceLT, Nat.reduceLeDiff, Nat.lt_add_one, px_tg, Int.cast_ofNat_Int, Int.reduceAdd, Int.reduceSub, Int.reduceMul, Int.reduceToNat, Int.reduceLE, Int.reduceLT, Int.reduceNeg, Int.reduceEq, Bool.or_false, Bool.false_or, Bool.or_true, Bool.true_or, List.length_cons, List.length_nil, List.nil_append, List.cons_append, Option.toList_some, Option.toList_none, reduceCtorEq, Option.some.injEq, Nat.zero_le, Nat.reduceMul, Nat.mul_zero, Nat.add_zero, Int.reduceDiv, Int.reduceMod, Int.toNat_natCast, Nat.lt_irrefl, Int.natCast_add, Int.cast_ofNat_Int, px_mds_RX10_0, px_mds_RX10_1, dec_X10_recordByLots, px_eq_iff, px_lt_iff, px_le_iff, px_up_o, px_up_eq, px_up_ne, px_cp_o, pa_k, pa_l, k2]
      refine c_X10_append hh hs (by omega) (by omega) (by omega) (fun μ4 b1 b2 b3 b4 b5 => ?_)
      refine px_go (fun _ => false) 400 ?_
      simp (disch := omega) only [px_lits, false_implies, true_implies, px_dec_ok, px_run_s, px_rules, px_rule_is, px_mats, px_calls, ↓reduceIte, eq_self, Bool.false_eq_true, px_flds, px_o_some, px_fvs, px_pfs, px_cts, px_cls, px_acs_, px_acn, true_and, and_true, true_or, or_true, false_or, or_false, and_self, not_true_eq_false, not_false_eq_true, Classical.not_not, Nat.reduceAdd, Nat.reduceSub, Nat.reduceBEq, Nat.reduceLT, Nat.reduceLeDiff, Nat.lt_add_one, px_tg, Int.cast_ofNat_Int, Int.reduceAdd, Int.reduceSub, Int.reduceMul, Int.reduceToNat, Int.reduceLE, Int.reduceLT, Int.reduceNeg, Int.reduceEq, Bool.or_false, Bool.false_or, Bool.or_true, Bool.true_or, List.length_cons, List.length_nil, List.nil_append, List.cons_append, Option.toList_some, Option.toList_none, reduceCtorEq, Option.some.injEq, Nat.zero_le, Nat.reduceMul, Nat.mul_zero, Nat.add_zero, Int.reduceDiv, Int.reduceMod, Int.toNat_natCast, Nat.lt_irrefl, Int.natCast_add, Int.cast_ofNat_Int, px_mds_RX10_0, px_mds_RX10_1, dec_X10_recordByLots, px_eq_iff, px_lt_iff, px_le_iff, px_up_o, px_up_eq, px_up_ne, px_cp_o, pa_k, pa_l, k2]
      refine hq3 μ4 (fun o ho => by rw [b1 o (by omega) (by omega), fr o ho]) ?_ (by rw [b1 204 (by omega) (by omega)]; exact e2)
      refine R3.putn hh (fun o o1 o2 _ => b1 o o1 o2) (by rw [b3, rn]) ?_ (by omega)
      rw [b5, l1, rn]
      rcases hs with rfl | rfl
      · rfl
      · rw [if_pos rfl, if_pos rfl, show 180 + 2 * h = 179 + 2 * h + 1 by omega, pa_tx_at t1 t2 (by omega) (by omega)]
    · have e3 : pa_lot3 A h s p (if s = 1 then pa_at (pa_T A h) p else l) z = (A, z, 0) := by
        unfold pa_lot3
        rw [if_neg]
        intro rm
        have := rm.1; have := rm.2.1; have := rm.2.2
        omega
      rw [e3] at hq3
      refine px_go (fun _ => false) 400 ?_
      simp (disch := omega) only [px_lits, false_implies, true_implies, px_dec_ok, px_run_s, px_rules, px_rule_is, px_mats, px_calls, ↓reduceIte, eq_self, Bool.false_eq_true, px_flds, px_o_some, px_fvs, px_pfs, px_cts, px_cls, px_acs_, px_acn, true_and, and_true, true_or, or_true, false_or, or_false, and_self, not_true_eq_false, not_false_eq_true, Classical.not_not, Nat.reduceAdd, Nat.reduceSub, Nat.reduceBEq, Nat.reduceLT, Nat.reduceLeDiff, Nat.lt_add_one, px_tg, Int.cast_ofNat_Int, Int.reduceAdd, Int.reduceSub, Int.reduceMul, Int.reduceToNat, Int.reduceLE, Int.reduceLT, Int.reduceNeg, Int.reduceEq, Bool.or_false, Bool.false_or, Bool.or_true, Bool.true_or, List.length_cons, List.length_nil, List.nil_append, List.cons_append, Option.toList_some, Option.toList_none, reduceCtorEq, Option.some.injEq, Nat.zero_le, Nat.reduceMul, Nat.mul_zero, Nat.add_zero, Int.reduceDiv, Int.reduceMod, Int.toNat_natCast, Nat.lt_irrefl, Int.natCast_add, Int.cast_ofNat_Int, px_mds_RX10_0, px_mds_RX10_1, dec_X10_recordByLots, px_eq_iff, px_lt_iff, px_le_iff, px_up_o, px_up_eq, px_up_ne, px_cp_o, pa_k, pa_l, k2]
      exact hq3 μ3 fr R3 e2
  by_cases hs : pa_lcg (pa_lcg x) % 3 = 2
  · rw [if_pos hs] at hq
    refine px_go (fun p => p == 97) 400 ?_
    simp (disch := omega) only [px_lits, false_implies, true_implies, px_dec_ok, px_run_s, px_rules, px_rule_is, px_mats, px_calls, ↓reduceIte, eq_self, Bool.false_eq_true, px_flds, px_o_some, px_fvs, px_pfs, px_cts, px_cls, px_acs_, px_acn, true_and, and_true, true_or, or_true, false_or, or_false, and_self, not_true_eq_false, not_false_eq_true, Classical.not_not, Nat.reduceAdd, Nat.reduceSub, Nat.reduceBEq, Nat.reduceLT, Nat.reduceLeDiff, Nat.lt_add_one, px_tg, Int.cast_ofNat_Int, Int.reduceAdd, Int.reduceSub, Int.reduceMul, Int.reduceToNat, Int.reduceLE, Int.reduceLT, Int.reduceNeg, Int.reduceEq, Bool.or_false, Bool.false_or, Bool.or_true, Bool.true_or, List.length_cons, List.length_nil, List.nil_append, List.cons_append, Option.toList_some, Option.toList_none, reduceCtorEq, Option.some.injEq, Nat.zero_le, Nat.reduceMul, Nat.mul_zero, Nat.add_zero, Int.reduceDiv, Int.reduceMod, Int.toNat_natCast, Nat.lt_irrefl, Int.natCast_add, Int.cast_ofNat_Int, px_mds_RX10_0, px_mds_RX10_1, dec_X10_recordByLots, px_eq_iff, px_lt_iff, px_le_iff, px_up_o, px_up_eq, px_up_ne, px_cp_o, pa_k, pa_l, hs, k2]
    refine pa_text_c I R2 hh (fun μ3 f3 R3 t1 t2 => ?_)
    have m4 : μ3 204 0 = pa_lcg (pa_lcg x) := by rw [f3 204 (by omega) (by omega)]; exact g2
    refine px_go (fun p => p == 97) 400 ?_
    simp (disch := omega) only [px_lits, false_implies, true_implies, px_dec_ok, px_run_s, px_rules, px_rule_is, px_mats, px_calls, ↓reduceIte, eq_self, Bool.false_eq_true, px_flds, px_o_some, px_fvs, px_pfs, px_cts, px_cls, px_acs_, px_acn, true_and, and_true, true_or, or_true, false_or, or_false, and_self, not_true_eq_false, not_false_eq_true, Classical.not_not, Nat.reduceAdd, Nat.reduceSub, Nat.reduceBEq, Nat.reduceLT, Nat.reduceLeDiff, Nat.lt_add_one, px_tg, Int.cast_ofNat_Int, Int.reduceAdd, Int.reduceSub, Int.reduceMul, Int.reduceToNat, Int.reduceLE, Int.reduceLT, Int.reduceNeg, Int.reduceEq, Bool.or_false, Bool.false_or, Bool.or_true, Bool.true_or, List.length_cons, List.length_nil, List.nil_append, List.cons_append, Option.toList_some, Option.toList_none, reduceCtorEq, Option.some.injEq, Nat.zero_le, Nat.reduceMul, Nat.mul_zero, Nat.add_zero, Int.reduceDiv, Int.reduceMod, Int.toNat_natCast, Nat.lt_irrefl, Int.natCast_add, Int.cast_ofNat_Int, px_mds_RX10_0, px_mds_RX10_1, dec_X10_recordByLots, px_eq_iff, px_lt_iff, px_le_iff, px_up_o, px_up_eq, px_up_ne, px_cp_o, pa_k, pa_l, hs, k2, t2]
    refine ⟨fun v => ?_, fun v => ?_⟩
    · have e2 : pa_lot2 A h 1 (pa_lcg (pa_lcg x)) = pa_lot3 A h 1 (pa_lcg (pa_lcg (pa_lcg x)) % (pa_T A h).length) (pa_at (pa_T A h) (pa_lcg (pa_lcg (pa_lcg x)) % (pa_T A h).length)) (pa_lcg (pa_lcg (pa_lcg x))) := by
        unfold pa_lot2
        rw [if_pos rfl, if_neg (by omega)]
      rw [e2] at hq
      have hm := pa_mod (pa_lcg (pa_lcg (pa_lcg x))) (show 0 < ((pa_T A h).length : Int) by omega)
      refine pa_next m4 x2 (by omega) (fun μ4 f4 g4 => ?_)
      have m9 : μ4 (179 + 2 * h) = μ3 (179 + 2 * h) := f4 _ (by omega)
      have m8 : μ4 (179 + 2 * h + 1) = μ3 (179 + 2 * h + 1) := f4 _ (by omega)
      refine px_go (fun p => p == 97) 400 ?_
      simp (disch := omega) only [px_lits, false_implies, true_implies, px_dec_ok, px_run_s, px_rules, px_rule_is, px_mats, px_calls, ↓reduceIte, eq_self, Bool.false_eq_true, px_flds, px_o_some, px_fvs, px_pfs, px_cts, px_cls, px_acs_, px_acn, true_and, and_true, true_or, or_true, false_or, or_false, and_self, not_true_eq_false, not_false_eq_true, Classical.not_not, Nat.reduceAdd, Nat.reduceSub, Nat.reduceBEq, Nat.reduceLT, Nat.reduceLeDiff, Nat.lt_add_one, px_tg, Int.cast_ofNat_Int, Int.reduceAdd, Int.reduceSub, Int.reduceMul, Int.reduceToNat, Int.reduceLE, Int.reduceLT, Int.reduceNeg, Int.reduceEq, Bool.or_false, Bool.false_or, Bool.or_true, Bool.true_or, List.length_cons, List.length_nil, List.nil_append, List.cons_append, Option.toList_some, Option.toList_none, reduceCtorEq, Option.some.injEq, Nat.zero_le, Nat.reduceMul, Nat.mul_zero, Nat.add_zero, Int.reduceDiv, Int.reduceMod, Int.toNat_natCast, Nat.lt_irrefl, Int.natCast_add, Int.cast_ofNat_Int, px_mds_RX10_0, px_mds_RX10_1, dec_X10_recordByLots, px_eq_iff, px_lt_iff, px_le_iff, px_up_o, px_up_eq, px_up_ne, px_cp_o, pa_k, pa_l, hs, k2, t2]
      refine fin 1 _ (-1) _ μ4 (.inr rfl) (fun o ho => by rw [f4 o (by omega), f3 o (by omega) (by omega), f2 o (by omega), f1 o (by omega)]) (R3.same (fun o ho => f4 o (by omega))) ((pc_tx_same m9 m8).trans t1) (by rw [m9]; exact t2) (by omega) g4 (fun μ5 c1 c2 c3 => ?_)
      rw [if_pos rfl] at c2 ⊢
      refine hq μ5 c1 c2 ?_
      rw [c3]
      unfold pa_lot3
      split <;> rfl
    · have e2 : pa_lot2 A h 1 (pa_lcg (pa_lcg x)) = (A, pa_lcg (pa_lcg x), 0) := by
        unfold pa_lot2
        rw [if_pos rfl, if_pos (by omega)]
      rw [e2] at hq
      exact hq μ3 (fun o ho => by rw [f3 o (by omega) (by omega), f2 o (by omega), f1 o (by omega)]) R3 m4
  · rw [if_neg hs] at hq
    have e2 : pa_lot2 A h 0 (pa_lcg (pa_lcg x)) = pa_lot3 A h 0 (pa_lcg (pa_lcg (pa_lcg x)) % ((pa_T A h).length + 1)) (97 + pa_lcg (pa_lcg (pa_lcg (pa_lcg x))) % 26) (pa_lcg (pa_lcg (pa_lcg (pa_lcg x)))) := by
      unfold pa_lot2
      rw [if_neg (by omega)]
    rw [e2] at hq
    refine px_go (fun p => p == 97) 400 ?_
    simp (disch := omega) only [px_lits, false_implies, true_implies, px_dec_ok, px_run_s, px_rules, px_rule_is, px_mats, px_calls, ↓reduceIte, eq_self, Bool.false_eq_true, px_flds, px_o_some, px_fvs, px_pfs, px_cts, px_cls, px_acs_, px_acn, true_and, and_true, true_or, or_true, false_or, or_false, and_self, not_true_eq_false, not_false_eq_true, Classical.not_not, Nat.reduceAdd, Nat.reduceSub, Nat.reduceBEq, Nat.reduceLT, Nat.reduceLeDiff, Nat.lt_add_one, px_tg, Int.cast_ofNat_Int, Int.reduceAdd, Int.reduceSub, Int.reduceMul, Int.reduceToNat, Int.reduceLE, Int.reduceLT, Int.reduceNeg, Int.reduceEq, Bool.or_false, Bool.false_or, Bool.or_true, Bool.true_or, List.length_cons, List.length_nil, List.nil_append, List.cons_append, Option.toList_some, Option.toList_none, reduceCtorEq, Option.some.injEq, Nat.zero_le, Nat.reduceMul, Nat.mul_zero, Nat.add_zero, Int.reduceDiv, Int.reduceMod, Int.toNat_natCast, Nat.lt_irrefl, Int.natCast_add, Int.cast_ofNat_Int, px_mds_RX10_0, px_mds_RX10_1, dec_X10_recordByLots, px_eq_iff, px_lt_iff, px_le_iff, px_up_o, px_up_eq, px_up_ne, px_cp_o, pa_k, pa_l, hs, k2]
    refine pa_text_c I R2 hh (fun μ3 f3 R3 t1 t2 => ?_)
    have m4 : μ3 204 0 = pa_lcg (pa_lcg x) := by rw [f3 204 (by omega) (by omega)]; exact g2
    refine px_go (fun p => p == 97) 400 ?_
    simp (disch := omega) only [px_lits, false_implies, true_implies, px_dec_ok, px_run_s, px_rules, px_rule_is, px_mats, px_calls, ↓reduceIte, eq_self, Bool.false_eq_true, px_flds, px_o_some, px_fvs, px_pfs, px_cts, px_cls, px_acs_, px_acn, true_and, and_true, true_or, or_true, false_or, or_false, and_self, not_true_eq_false, not_false_eq_true, Classical.not_not, Nat.reduceAdd, Nat.reduceSub, Nat.reduceBEq, Nat.reduceLT, Nat.reduceLeDiff, Nat.lt_add_one, px_tg, Int.cast_ofNat_Int, Int.reduceAdd, Int.reduceSub, Int.reduceMul, Int.reduceToNat, Int.reduceLE, Int.reduceLT, Int.reduceNeg, Int.reduceEq, Bool.or_false, Bool.false_or, Bool.or_true, Bool.true_or, List.length_cons, List.length_nil, List.nil_append, List.cons_append, Option.toList_some, Option.toList_none, reduceCtorEq, Option.some.injEq, Nat.zero_le, Nat.reduceMul, Nat.mul_zero, Nat.add_zero, Int.reduceDiv, Int.reduceMod, Int.toNat_natCast, Nat.lt_irrefl, Int.natCast_add, Int.cast_ofNat_Int, px_mds_RX10_0, px_mds_RX10_1, dec_X10_recordByLots, px_eq_iff, px_lt_iff, px_le_iff, px_up_o, px_up_eq, px_up_ne, px_cp_o, pa_k, pa_l, hs, k2, t2]
    have hm := pa_mod (pa_lcg (pa_lcg (pa_lcg x))) (show 0 < ((pa_T A h).length : Int) + 1 by omega)
    refine pa_next m4 x2 (by omega) (fun μ4 f4 g4 => ?_)
    refine px_go (fun p => p == 97) 400 ?_
    simp (disch := omega) only [px_lits, false_implies, true_implies, px_dec_ok, px_run_s, px_rules, px_rule_is, px_mats, px_calls, ↓reduceIte, eq_self, Bool.false_eq_true, px_flds, px_o_some, px_fvs, px_pfs, px_cts, px_cls, px_acs_, px_acn, true_and, and_true, true_or, or_true, false_or, or_false, and_self, not_true_eq_false, not_false_eq_true, Classical.not_not, Nat.reduceAdd, Nat.reduceSub, Nat.reduceBEq, Nat.reduceLT, Nat.reduceLeDiff, Nat.lt_add_one, px_tg, Int.cast_ofNat_Int, Int.reduceAdd, Int.reduceSub, Int.reduceMul, Int.reduceToNat, Int.reduceLE, Int.reduceLT, Int.reduceNeg, Int.reduceEq, Bool.or_false, Bool.false_or, Bool.or_true, Bool.true_or, List.length_cons, List.length_nil, List.nil_append, List.cons_append, Option.toList_some, Option.toList_none, reduceCtorEq, Option.some.injEq, Nat.zero_le, Nat.reduceMul, Nat.mul_zero, Nat.add_zero, Int.reduceDiv, Int.reduceMod, Int.toNat_natCast, Nat.lt_irrefl, Int.natCast_add, Int.cast_ofNat_Int, px_mds_RX10_0, px_mds_RX10_1, dec_X10_recordByLots, px_eq_iff, px_lt_iff, px_le_iff, px_up_o, px_up_eq, px_up_ne, px_cp_o, pa_k, pa_l, hs, k2, t2]
    refine pa_next g4 x3 (by omega) (fun μ5 f5 g5 => ?_)
    have m9 : μ5 (179 + 2 * h) = μ3 (179 + 2 * h) := by rw [f5 _ (by omega), f4 _ (by omega)]
    have m8 : μ5 (179 + 2 * h + 1) = μ3 (179 + 2 * h + 1) := by rw [f5 _ (by omega), f4 _ (by omega)]
    refine px_go (fun p => p == 97) 400 ?_
    simp (disch := omega) only [px_lits, false_implies, true_implies, px_dec_ok, px_run_s, px_rules, px_rule_is, px_mats, px_calls, ↓reduceIte, eq_self, Bool.false_eq_true, px_flds, px_o_some, px_fvs, px_pfs, px_cts, px_cls, px_acs_, px_acn, true_and, and_true, true_or, or_true, false_or, or_false, and_self, not_true_eq_false, not_false_eq_true, Classical.not_not, Nat.reduceAdd, Nat.reduceSub, Nat.reduceBEq, Nat.reduceLT, Nat.reduceLeDiff, Nat.lt_add_one, px_tg, Int.cast_ofNat_Int, Int.reduceAdd, Int.reduceSub, Int.reduceMul, Int.reduceToNat, Int.reduceLE, Int.reduceLT, Int.reduceNeg, Int.reduceEq, Bool.or_false, Bool.false_or, Bool.or_true, Bool.true_or, List.length_cons, List.length_nil, List.nil_append, List.cons_append, Option.toList_some, Option.toList_none, reduceCtorEq, Option.some.injEq, Nat.zero_le, Nat.reduceMul, Nat.mul_zero, Nat.add_zero, Int.reduceDiv, Int.reduceMod, Int.toNat_natCast, Nat.lt_irrefl, Int.natCast_add, Int.cast_ofNat_Int, px_mds_RX10_0, px_mds_RX10_1, dec_X10_recordByLots, px_eq_iff, px_lt_iff, px_le_iff, px_up_o, px_up_eq, px_up_ne, px_cp_o, pa_k, pa_l, hs, k2, t2]
    refine fin 0 _ _ _ μ5 (.inl rfl) (fun o ho => by rw [f5 o (by omega), f4 o (by omega), f3 o (by omega) (by omega), f2 o (by omega), f1 o (by omega)]) (R3.same (fun o ho => by rw [f5 o (by omega), f4 o (by omega)])) ((pc_tx_same m9 m8).trans t1) (by rw [m9]; exact t2) (by omega) g5 (fun μ6 c1 c2 c3 => ?_)
    rw [if_neg (by omega)] at c2 ⊢
    refine hq μ6 c1 c2 ?_
    rw [c3]
    unfold pa_lot3
    split <;> rfl
theorem pa_lot_01 (A : pa_A) (x : Int) : (pa_lot A x).2.2 = 0 ∨ (pa_lot A x).2.2 = 1 := by
  unfold pa_lot pa_lot2 pa_lot3
  repeat' split
  all_goals first | exact .inl rfl | exact .inr rfl
set_option maxHeartbeats 4000000 in
set_option maxRecDepth 100000 in
theorem c_X10_drift {G : px_G} {A : pa_A} {k n s : Int} {μ : px_Mem} {Q : Option px_X → px_Mem → Prop} (I : pa_I A) (R : pa_C A k μ) (hn : -2147483648 ≤ n ∧ n < 2147483648) (hs : -2147483648 ≤ s ∧ s < 2147483648) (hq : pa_Qc μ (pa_drift A n s) k Q) : px_C G yX10_drift cX10_drift 5 (some .int) 4 [.inr (.inl (some 0)), .inl n, .inl s] μ Q := by
  have loop : ∀ (m : Nat) (A1 : pa_A) (x d j : Int) (μ1 : px_Mem), n ≤ 20 → n = j + m → 0 ≤ j → (0 ≤ d ∧ d ≤ j) → pa_I A1 → pa_C A1 k μ1 → μ1 204 0 = x → (0 ≤ x ∧ x < 2147483647) → (∀ o, 205 ≤ o → μ1 o = μ o) → pa_Qc μ (pa_lots m A1 x d) k Q →
      px_J G RX10 cX10_drift 5 (some .int) 4 49 [some (.inr (.inl (some 0))), some (.inl n), some (.inl s), some (.inl d), some (.inl j)] [] μ1 Q := by
    intro m
    induction m with
    | zero =>
      intro A1 x d j μ1 g0 g1 g2 g3 I1 R1 ex hx fr hq1
      refine px_go (fun p => p == 49) 400 ?_
      simp (disch := omega) only [px_lits, false_implies, true_implies, px_dec_ok, px_run_s, px_rules, px_rule_is, px_mats, px_calls, ↓reduceIte, eq_self, Bool.false_eq_true, px_flds, px_o_some, px_fvs, px_pfs, px_cts, px_cls, px_acs_, px_acn, true_and, and_true, true_or, or_true, false_or, or_false, and_self, not_true_eq_false, not_false_eq_true, Classical.not_not, Nat.reduceAdd, Nat.reduceSub, Nat.reduceBEq, Nat.reduceLT, Nat.reduceLeDiff, Nat.lt_add_one, px_tg, Int.cast_ofNat_Int, Int.reduceAdd, Int.reduceSub, Int.reduceMul, Int.reduceToNat, Int.reduceLE, Int.reduceLT, Int.reduceNeg, Int.reduceEq, Bool.or_false, Bool.false_or, Bool.or_true, Bool.true_or, List.length_cons, List.length_nil, List.nil_append, List.cons_append, Option.toList_some, Option.toList_none, reduceCtorEq, Option.some.injEq, Nat.zero_le, Nat.reduceMul, Nat.mul_zero, Nat.add_zero, Int.reduceDiv, Int.reduceMod, Int.toNat_natCast, Nat.lt_irrefl, Int.natCast_add, Int.cast_ofNat_Int, px_mds_RX10_0, px_mds_RX10_1, dec_X10_drift, px_eq_iff, px_lt_iff, px_le_iff, px_up_o, px_up_eq, px_up_ne, px_cp_o, pa_k, pa_l]
      exact ⟨fun _ => hq1.at rfl fr R1, fun v => by omega⟩
    | succ m ih =>
      intro A1 x d j μ1 g0 g1 g2 g3 I1 R1 ex hx fr hq1
      refine px_go (fun p => p == 49) 400 ?_
      simp (disch := omega) only [px_lits, false_implies, true_implies, px_dec_ok, px_run_s, px_rules, px_rule_is, px_mats, px_calls, ↓reduceIte, eq_self, Bool.false_eq_true, px_flds, px_o_some, px_fvs, px_pfs, px_cts, px_cls, px_acs_, px_acn, true_and, and_true, true_or, or_true, false_or, or_false, and_self, not_true_eq_false, not_false_eq_true, Classical.not_not, Nat.reduceAdd, Nat.reduceSub, Nat.reduceBEq, Nat.reduceLT, Nat.reduceLeDiff, Nat.lt_add_one, px_tg, Int.cast_ofNat_Int, Int.reduceAdd, Int.reduceSub, Int.reduceMul, Int.reduceToNat, Int.reduceLE, Int.reduceLT, Int.reduceNeg, Int.reduceEq, Bool.or_false, Bool.false_or, Bool.or_true, Bool.true_or, List.length_cons, List.length_nil, List.nil_append, List.cons_append, Option.toList_some, Option.toList_none, reduceCtorEq, Option.some.injEq, Nat.zero_le, Nat.reduceMul, Nat.mul_zero, Nat.add_zero, Int.reduceDiv, Int.reduceMod, Int.toNat_natCast, Nat.lt_irrefl, Int.natCast_add, Int.cast_ofNat_Int, px_mds_RX10_0, px_mds_RX10_1, dec_X10_drift, px_eq_iff, px_lt_iff, px_le_iff, px_up_o, px_up_eq, px_up_ne, px_cp_o, pa_k, pa_l]
      refine ⟨fun v => by omega, fun _ => ?_⟩
      have li := pi_lot I1 hx
      refine c_X10_recordByLots I1 R1 ex hx (fun μ2 f2 R2 e2 => ?_)
      have hq2 : pa_Qc μ (pa_lots m (pa_lot A1 x).1 (pa_lot A1 x).2.1 (d + (pa_lot A1 x).2.2)) k Q := hq1
      have l01 := pa_lot_01 A1 x
      have nx := ih (pa_lot A1 x).1 (pa_lot A1 x).2.1 (d + (pa_lot A1 x).2.2) (j + 1) μ2 g0 (by omega) (by omega) (by omega) li.1 R2 e2 li.2 (fun o ho => by rw [f2 o ho, fr o ho]) hq2
      rcases l01 with e | e
      · rw [e] at nx ⊢
        rw [Int.add_zero] at nx
        refine px_go (fun p => p == 49) 400 ?_
        simp (disch := omega) only [px_lits, false_implies, true_implies, px_dec_ok, px_run_s, px_rules, px_rule_is, px_mats, px_calls, ↓reduceIte, eq_self, Bool.false_eq_true, px_flds, px_o_some, px_fvs, px_pfs, px_cts, px_cls, px_acs_, px_acn, true_and, and_true, true_or, or_true, false_or, or_false, and_self, not_true_eq_false, not_false_eq_true, Classical.not_not, Nat.reduceAdd, Nat.reduceSub, Nat.reduceBEq, Nat.reduceLT, Nat.reduceLeDiff, Nat.lt_add_one, px_tg, Int.cast_ofNat_Int, Int.reduceAdd, Int.reduceSub, Int.reduceMul, Int.reduceToNat, Int.reduceLE, Int.reduceLT, Int.reduceNeg, Int.reduceEq, Bool.or_false, Bool.false_or, Bool.or_true, Bool.true_or, List.length_cons, List.length_nil, List.nil_append, List.cons_append, Option.toList_some, Option.toList_none, reduceCtorEq, Option.some.injEq, Nat.zero_le, Nat.reduceMul, Nat.mul_zero, Nat.add_zero, Int.reduceDiv, Int.reduceMod, Int.toNat_natCast, Nat.lt_irrefl, Int.natCast_add, Int.cast_ofNat_Int, px_mds_RX10_0, px_mds_RX10_1, dec_X10_drift, px_eq_iff, px_lt_iff, px_le_iff, px_up_o, px_up_eq, px_up_ne, px_cp_o, pa_k, pa_l]
        exact nx
      · rw [e] at nx ⊢
        refine px_go (fun p => p == 49) 400 ?_
        simp (disch := omega) only [px_lits, false_implies, true_implies, px_dec_ok, px_run_s, px_rules, px_rule_is, px_mats, px_calls, ↓reduceIte, eq_self, Bool.false_eq_true, px_flds, px_o_some, px_fvs, px_pfs, px_cts, px_cls, px_acs_, px_acn, true_and, and_true, true_or, or_true, false_or, or_false, and_self, not_true_eq_false, not_false_eq_true, Classical.not_not, Nat.reduceAdd, Nat.reduceSub, Nat.reduceBEq, Nat.reduceLT, Nat.reduceLeDiff, Nat.lt_add_one, px_tg, Int.cast_ofNat_Int, Int.reduceAdd, Int.reduceSub, Int.reduceMul, Int.reduceToNat, Int.reduceLE, Int.reduceLT, Int.reduceNeg, Int.reduceEq, Bool.or_false, Bool.false_or, Bool.or_true, Bool.true_or, List.length_cons, List.length_nil, List.nil_append, List.cons_append, Option.toList_some, Option.toList_none, reduceCtorEq, Option.some.injEq, Nat.zero_le, Nat.reduceMul, Nat.mul_zero, Nat.add_zero, Int.reduceDiv, Int.reduceMod, Int.toNat_natCast, Nat.lt_irrefl, Int.natCast_add, Int.cast_ofNat_Int, px_mds_RX10_0, px_mds_RX10_1, dec_X10_drift, px_eq_iff, px_lt_iff, px_le_iff, px_up_o, px_up_eq, px_up_ne, px_cp_o, pa_k, pa_l]
        exact nx
  have no : ¬ ((1 ≤ n ∧ n ≤ 20) ∧ (1 ≤ s ∧ s ≤ 999999)) → Q (some (.inl (-1000000002))) μ := fun v => hq.at (by unfold pa_drift; rw [if_pos v]) (fun _ _ => rfl) R
  have yes : (1 ≤ n ∧ n ≤ 20) ∧ (1 ≤ s ∧ s ≤ 999999) → px_J G RX10 cX10_drift 5 (some .int) 4 25 [some (.inr (.inl (some 0))), some (.inl n), some (.inl s), none, none] [] μ Q := by
    intro v
    have st : pa_drift A n s = pa_lots n.toNat (pa_push A) s 0 := by unfold pa_drift; rw [if_neg (fun w => w v)]
    rw [st] at hq
    refine px_go (fun p => p == 49) 400 ?_
    simp (disch := omega) only [px_lits, false_implies, true_implies, px_dec_ok, px_run_s, px_rules, px_rule_is, px_mats, px_calls, ↓reduceIte, eq_self, Bool.false_eq_true, px_flds, px_o_some, px_fvs, px_pfs, px_cts, px_cls, px_acs_, px_acn, true_and, and_true, true_or, or_true, false_or, or_false, and_self, not_true_eq_false, not_false_eq_true, Classical.not_not, Nat.reduceAdd, Nat.reduceSub, Nat.reduceBEq, Nat.reduceLT, Nat.reduceLeDiff, Nat.lt_add_one, px_tg, Int.cast_ofNat_Int, Int.reduceAdd, Int.reduceSub, Int.reduceMul, Int.reduceToNat, Int.reduceLE, Int.reduceLT, Int.reduceNeg, Int.reduceEq, Bool.or_false, Bool.false_or, Bool.or_true, Bool.true_or, List.length_cons, List.length_nil, List.nil_append, List.cons_append, Option.toList_some, Option.toList_none, reduceCtorEq, Option.some.injEq, Nat.zero_le, Nat.reduceMul, Nat.mul_zero, Nat.add_zero, Int.reduceDiv, Int.reduceMod, Int.toNat_natCast, Nat.lt_irrefl, Int.natCast_add, Int.cast_ofNat_Int, px_mds_RX10_0, px_mds_RX10_1, dec_X10_drift, px_eq_iff, px_lt_iff, px_le_iff, px_up_o, px_up_eq, px_up_ne, px_cp_o, pa_k, pa_l]
    refine c_X5_push R.p.2 R.w.2 (fun μ1 g1 g2 g3 => ?_)
    have R1 := R.push g1 g2 g3
    refine px_go (fun p => p == 49) 400 ?_
    simp (disch := omega) only [px_lits, false_implies, true_implies, px_dec_ok, px_run_s, px_rules, px_rule_is, px_mats, px_calls, ↓reduceIte, eq_self, Bool.false_eq_true, px_flds, px_o_some, px_fvs, px_pfs, px_cts, px_cls, px_acs_, px_acn, true_and, and_true, true_or, or_true, false_or, or_false, and_self, not_true_eq_false, not_false_eq_true, Classical.not_not, Nat.reduceAdd, Nat.reduceSub, Nat.reduceBEq, Nat.reduceLT, Nat.reduceLeDiff, Nat.lt_add_one, px_tg, Int.cast_ofNat_Int, Int.reduceAdd, Int.reduceSub, Int.reduceMul, Int.reduceToNat, Int.reduceLE, Int.reduceLT, Int.reduceNeg, Int.reduceEq, Bool.or_false, Bool.false_or, Bool.or_true, Bool.true_or, List.length_cons, List.length_nil, List.nil_append, List.cons_append, Option.toList_some, Option.toList_none, reduceCtorEq, Option.some.injEq, Nat.zero_le, Nat.reduceMul, Nat.mul_zero, Nat.add_zero, Int.reduceDiv, Int.reduceMod, Int.toNat_natCast, Nat.lt_irrefl, Int.natCast_add, Int.cast_ofNat_Int, px_mds_RX10_0, px_mds_RX10_1, dec_X10_drift, px_eq_iff, px_lt_iff, px_le_iff, px_up_o, px_up_eq, px_up_ne, px_cp_o, pa_k, pa_l]
    refine c_X2_start (by omega) ?_
    refine px_go (fun p => p == 49) 400 ?_
    simp (disch := omega) only [px_lits, false_implies, true_implies, px_dec_ok, px_run_s, px_rules, px_rule_is, px_mats, px_calls, ↓reduceIte, eq_self, Bool.false_eq_true, px_flds, px_o_some, px_fvs, px_pfs, px_cts, px_cls, px_acs_, px_acn, true_and, and_true, true_or, or_true, false_or, or_false, and_self, not_true_eq_false, not_false_eq_true, Classical.not_not, Nat.reduceAdd, Nat.reduceSub, Nat.reduceBEq, Nat.reduceLT, Nat.reduceLeDiff, Nat.lt_add_one, px_tg, Int.cast_ofNat_Int, Int.reduceAdd, Int.reduceSub, Int.reduceMul, Int.reduceToNat, Int.reduceLE, Int.reduceLT, Int.reduceNeg, Int.reduceEq, Bool.or_false, Bool.false_or, Bool.or_true, Bool.true_or, List.length_cons, List.length_nil, List.nil_append, List.cons_append, Option.toList_some, Option.toList_none, reduceCtorEq, Option.some.injEq, Nat.zero_le, Nat.reduceMul, Nat.mul_zero, Nat.add_zero, Int.reduceDiv, Int.reduceMod, Int.toNat_natCast, Nat.lt_irrefl, Int.natCast_add, Int.cast_ofNat_Int, px_mds_RX10_0, px_mds_RX10_1, dec_X10_drift, px_eq_iff, px_lt_iff, px_le_iff, px_up_o, px_up_eq, px_up_ne, px_cp_o, pa_k, pa_l]
    exact loop n.toNat (pa_push A) s 0 0 _ v.1.2 (by omega) (by omega) (by omega) I.push (R1.same (fun o ho => px_up_o (by omega))) (px_up_eq rfl) (by omega) (fun o ho => by rw [px_up_o (by omega), g1 o (by omega)]) hq
  refine px_enter RX10 (by decide +kernel) rfl (by simp) (by simp [px_c1]) ?_
  simp only [List.map_cons, List.map_nil, List.length_cons, List.length_nil, List.replicate, List.append_nil, Nat.reduceAdd, Nat.reduceSub, List.cons_append, List.nil_append]
  refine px_go (fun p => p == 25) 400 ?_
  simp (disch := omega) only [px_lits, false_implies, true_implies, px_dec_ok, px_run_s, px_rules, px_rule_is, px_mats, px_calls, ↓reduceIte, eq_self, Bool.false_eq_true, px_flds, px_o_some, px_fvs, px_pfs, px_cts, px_cls, px_acs_, px_acn, true_and, and_true, true_or, or_true, false_or, or_false, and_self, not_true_eq_false, not_false_eq_true, Classical.not_not, Nat.reduceAdd, Nat.reduceSub, Nat.reduceBEq, Nat.reduceLT, Nat.reduceLeDiff, Nat.lt_add_one, px_tg, Int.cast_ofNat_Int, Int.reduceAdd, Int.reduceSub, Int.reduceMul, Int.reduceToNat, Int.reduceLE, Int.reduceLT, Int.reduceNeg, Int.reduceEq, Bool.or_false, Bool.false_or, Bool.or_true, Bool.true_or, List.length_cons, List.length_nil, List.nil_append, List.cons_append, Option.toList_some, Option.toList_none, reduceCtorEq, Option.some.injEq, Nat.zero_le, Nat.reduceMul, Nat.mul_zero, Nat.add_zero, Int.reduceDiv, Int.reduceMod, Int.toNat_natCast, Nat.lt_irrefl, Int.natCast_add, Int.cast_ofNat_Int, px_mds_RX10_0, px_mds_RX10_1, dec_X10_drift, px_eq_iff, px_lt_iff, px_le_iff, px_up_o, px_up_eq, px_up_ne, px_cp_o, pa_k, pa_l]
  repeat' (refine And.intro (fun _ => ?_) (fun _ => ?_))
  all_goals first | (exact no (by omega)) | (exact yes (by omega))
