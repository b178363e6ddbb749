/-! ===== the reference: past all that the house alone has ===== -/
theorem pm_gp1_ok {K : Int} : ∀ {O : List pc_Ch} {b b1 : pc_Ch} {O1 : List pc_Ch}, (∀ c ∈ O, pm_ok c ∧ c.2.2.1 ≤ K) → K < 63 → 0 ≤ b.2.2.1 → pc_gp1 b O = .inr (b1, O1) → ∀ c ∈ O1, pm_ok c ∧ c.2.2.1 ≤ K + 1
  | [], b, b1, O1, hO, hK, hb, h => by
    cases h
    exact fun c hc => absurd hc List.not_mem_nil
  | o :: O, b, b1, O1, hO, hK, hb, h => by
    have ho := hO o List.mem_cons_self
    have ho1 := ho.1.2.2.1
    unfold pc_gp1 at h
    cases ht : pc_tr (1 - o.2.1) o.2.2.1 b.2.1 b.2.2.1 with
    | none => rw [ht] at h; cases h
    | some q =>
      obtain ⟨k, m⟩ := q
      have hbd := pc_tr_bd ht ho1.1 hb
      rw [ht] at h
      dsimp only at h
      cases hr : pc_gp1 (b.1, b.2.1, k, b.2.2.2) O with
      | inl n => rw [hr] at h; cases h
      | inr r =>
        obtain ⟨b2, O2⟩ := r
        rw [hr] at h
        cases h
        have ih := pm_gp1_ok (K := K) (fun c hc => hO c (List.mem_cons_of_mem _ hc)) hK hbd.1 hr
        intro c hc
        rcases List.mem_cons.mp hc with rfl | hc
        · exact ⟨⟨ho.1.1, ho.1.2.1, by dsimp only; omega, ho.1.2.2.2⟩, by dsimp only; omega⟩
        · exact ih c hc
theorem pc_bd_of {K : Int} {O : List pc_Ch} (h : ∀ c ∈ O, pm_ok c ∧ c.2.2.1 ≤ K) : pc_bd K O := fun c hc => ⟨(h c hc).1.1, (h c hc).1.2.1, (h c hc).1.2.2.1.1, (h c hc).2⟩
set_option maxHeartbeats 4000000 in
set_option maxRecDepth 100000 in
theorem c_X11_past {G : px_G} {n f : Nat} {L C : List pc_Ch} {μ : px_Mem} {Q : Option px_X → px_Mem → Prop} (hw : μ 205 14 = L.length) (hL : L.length ≤ 16) (hf : f ≤ L.length) (hLr : pm_at μ 215 0 L) (hLo : ∀ c ∈ L, pm_ok c ∧ c.2.2.1 ≤ 27) (hC : C.length = n) (hn : n ≤ 16) (hCr : pm_at μ 218 0 C) (hCo : ∀ c ∈ C, pm_ok c ∧ c.2.2.1 ≤ 27)
    (h0 : ∀ (z : Int) (μ1 : px_Mem), pc_gp C (L.drop f) = .inl z → (∀ o, o ≠ 217 → o ≠ 218 → μ1 o = μ o) → Q (some (.inl z)) μ1)
    (h1 : ∀ (C1 : List pc_Ch) (μ1 : px_Mem), pc_gp C (L.drop f) = .inr C1 → (∀ o, o ≠ 217 → o ≠ 218 → μ1 o = μ o) → pm_at μ1 218 0 C1 → Q (some (.inl (-1))) μ1) : px_C G yX11_past cX11_past 7 (some .int) 2 [.inr (.inl (some 205)), .inl n, .inl f] μ Q := by
  have inner : ∀ (m y k : Nat) (b : pc_Ch) (O : List pc_Ch) (μ1 : px_Mem) (x5 x6 : Option px_X), O.length = m → y + m = L.length - f → k < n → (∀ o, o ≠ 217 → o ≠ 218 → μ1 o = μ o) → μ1 218 k = pm_pk b → pm_ok b → b.2.2.1 + m ≤ 60 → pm_at μ1 217 y O → (∀ c ∈ O, pm_ok c ∧ c.2.2.1 ≤ 60) →
      (∀ (z : Int) (μ2 : px_Mem), pc_gp1 b O = .inl z → (∀ o, o ≠ 217 → o ≠ 218 → μ2 o = μ o) → Q (some (.inl z)) μ2) →
      (∀ (b1 : pc_Ch) (O1 : List pc_Ch) (μ2 : px_Mem) (y2 : Int) (x5 x6 : Option px_X), pc_gp1 b O = .inr (b1, O1) → (∀ o, o ≠ 217 → o ≠ 218 → μ2 o = μ o) → (∀ i : Int, i ≠ k → μ2 218 i = μ1 218 i) → μ2 218 k = pm_pk b1 → (∀ i : Int, i < y → μ2 217 i = μ1 217 i) → pm_at μ2 217 y O1 →
        px_J G RX11 cX11_past 7 (some .int) 2 128 [some (.inr (.inl (some 205))), some (.inl n), some (.inl f), some (.inl k), some (.inl y2), x5, x6] [] μ2 Q) →
      px_J G RX11 cX11_past 7 (some .int) 2 29 [some (.inr (.inl (some 205))), some (.inl n), some (.inl f), some (.inl k), some (.inl y), x5, x6] [] μ1 Q := by
    intro m
    induction m with
    | zero =>
      intro y k b O μ1 x5 x6 g0 g1 g2 g3 g4 g5 g6 g7 g8 hz hs
      have e0 : O = [] := List.eq_nil_of_length_eq_zero g0
      subst e0
      have g205 : μ1 205 = μ 205 := g3 _ (by omega) (by omega)
      refine px_go (fun p => p == 29 || p == 128 || p == 21) 400 ?_
      simp (disch := omega) only [px_lits, false_implies, true_implies, px_dec_ok, px_run_s, px_rules, px_rule_is, px_mats, px_calls, ↓reduceIte, eq_self, Bool.false_eq_true, px_flds, px_o_some, px_fvs, px_pfs, px_cts, px_cls, px_acs_, px_acn, true_and, and_true, true_or, or_true, false_or, or_false, and_self, not_true_eq_false, not_false_eq_true, Classical.not_not, Nat.reduceAdd, Nat.reduceSub, Nat.reduceBEq, Nat.reduceLT, Nat.reduceLeDiff, Nat.lt_add_one, px_tg, Int.cast_ofNat_Int, Int.reduceAdd, Int.reduceSub, Int.reduceMul, Int.reduceToNat, Int.reduceLE, Int.reduceLT, Int.reduceNeg, Int.reduceEq, Bool.or_false, Bool.false_or, Bool.or_true, Bool.true_or, List.length_cons, List.length_nil, List.nil_append, List.cons_append, Option.toList_some, Option.toList_none, reduceCtorEq, Option.some.injEq, Nat.zero_le, Nat.reduceMul, Nat.mul_zero, Nat.add_zero, Int.reduceDiv, Int.reduceMod, Int.toNat_natCast, Nat.lt_irrefl, Int.natCast_add, Int.cast_ofNat_Int, px_mds_RX11_0, px_mds_RX11_1, dec_X11_past, px_eq_iff, px_lt_iff, px_le_iff, px_up_o, px_up_eq, px_up_ne, px_cp_o, pm_k, pm_l, g205, hw]
      refine ⟨fun _ => hs b [] μ1 y x5 x6 rfl g3 (fun _ _ => rfl) g4 (fun _ _ => rfl) g7, fun q => absurd (by omega) q⟩
    | succ m ih =>
      intro y k b O μ1 x5 x6 g0 g1 g2 g3 g4 g5 g6 g7 g8 hz hs
      cases O with
      | nil => cases g0
      | cons o O =>
        have g205 : μ1 205 = μ 205 := g3 _ (by omega) (by omega)
        have oo := g8 o List.mem_cons_self
        have oo1 := oo.1.2.2.1
        have oos := oo.1.2.1
        have bb1 := g5.2.2.1
        have mo := g7 0 o rfl
        rw [show (y : Int) + ((0 : Nat) : Int) = y by omega] at mo
        have op : pm_ok (o.1, 1 - o.2.1, o.2.2.1, o.2.2.2) := ⟨oo.1.1, by dsimp only; omega, oo.1.2.2.1, oo.1.2.2.2⟩
        refine px_go (fun p => p == 29 || p == 128 || p == 21) 400 ?_
        simp (disch := omega) only [px_lits, false_implies, true_implies, px_dec_ok, px_run_s, px_rules, px_rule_is, px_mats, px_calls, ↓reduceIte, eq_self, Bool.false_eq_true, px_flds, px_o_some, px_fvs, px_pfs, px_cts, px_cls, px_acs_, px_acn, true_and, and_true, true_or, or_true, false_or, or_false, and_self, not_true_eq_false, not_false_eq_true, Classical.not_not, Nat.reduceAdd, Nat.reduceSub, Nat.reduceBEq, Nat.reduceLT, Nat.reduceLeDiff, Nat.lt_add_one, px_tg, Int.cast_ofNat_Int, Int.reduceAdd, Int.reduceSub, Int.reduceMul, Int.reduceToNat, Int.reduceLE, Int.reduceLT, Int.reduceNeg, Int.reduceEq, Bool.or_false, Bool.false_or, Bool.or_true, Bool.true_or, List.length_cons, List.length_nil, List.nil_append, List.cons_append, Option.toList_some, Option.toList_none, reduceCtorEq, Option.some.injEq, Nat.zero_le, Nat.reduceMul, Nat.mul_zero, Nat.add_zero, Int.reduceDiv, Int.reduceMod, Int.toNat_natCast, Nat.lt_irrefl, Int.natCast_add, Int.cast_ofNat_Int, px_mds_RX11_0, px_mds_RX11_1, dec_X11_past, px_eq_iff, px_lt_iff, px_le_iff, px_up_o, px_up_eq, px_up_ne, px_cp_o, pm_k, pm_l, g205, hw]
        refine ⟨fun q => by omega, fun _ => ⟨by omega, ?_⟩⟩
        rw [mo]
        refine c_X11_opposite oo.1 ?_
        refine px_go (fun p => p == 29 || p == 128 || p == 21) 400 ?_
        simp (disch := omega) only [px_lits, false_implies, true_implies, px_dec_ok, px_run_s, px_rules, px_rule_is, px_mats, px_calls, ↓reduceIte, eq_self, Bool.false_eq_true, px_flds, px_o_some, px_fvs, px_pfs, px_cts, px_cls, px_acs_, px_acn, true_and, and_true, true_or, or_true, false_or, or_false, and_self, not_true_eq_false, not_false_eq_true, Classical.not_not, Nat.reduceAdd, Nat.reduceSub, Nat.reduceBEq, Nat.reduceLT, Nat.reduceLeDiff, Nat.lt_add_one, px_tg, Int.cast_ofNat_Int, Int.reduceAdd, Int.reduceSub, Int.reduceMul, Int.reduceToNat, Int.reduceLE, Int.reduceLT, Int.reduceNeg, Int.reduceEq, Bool.or_false, Bool.false_or, Bool.or_true, Bool.true_or, List.length_cons, List.length_nil, List.nil_append, List.cons_append, Option.toList_some, Option.toList_none, reduceCtorEq, Option.some.injEq, Nat.zero_le, Nat.reduceMul, Nat.mul_zero, Nat.add_zero, Int.reduceDiv, Int.reduceMod, Int.toNat_natCast, Nat.lt_irrefl, Int.natCast_add, Int.cast_ofNat_Int, px_mds_RX11_0, px_mds_RX11_1, dec_X11_past, px_eq_iff, px_lt_iff, px_le_iff, px_up_o, px_up_eq, px_up_ne, px_cp_o, pm_k, pm_l, g205, hw]
        refine ⟨by omega, ?_⟩
        rw [g4]
        refine c_X11_turnedBy op g5 ?_
        have st : pc_gp1 b (o :: O) = (match pc_tr (1 - o.2.1) o.2.2.1 b.2.1 b.2.2.1 with
          | none => .inl o.1
          | some q => match pc_gp1 (b.1, b.2.1, q.1, b.2.2.2) O with
            | .inl n => .inl n
            | .inr r => .inr (r.1, (o.1, o.2.1, q.2, o.2.2.2) :: r.2)) := rfl
        try dsimp only
        cases htr : pc_tr (1 - o.2.1) o.2.2.1 b.2.1 b.2.2.1 with
        | none =>
          rw [htr] at st
          rw [pc_trz_none htr]
          refine px_go (fun p => p == 29 || p == 128 || p == 21) 400 ?_
          simp (disch := omega) only [px_lits, false_implies, true_implies, px_dec_ok, px_run_s, px_rules, px_rule_is, px_mats, px_calls, ↓reduceIte, eq_self, Bool.false_eq_true, px_flds, px_o_some, px_fvs, px_pfs, px_cts, px_cls, px_acs_, px_acn, true_and, and_true, true_or, or_true, false_or, or_false, and_self, not_true_eq_false, not_false_eq_true, Classical.not_not, Nat.reduceAdd, Nat.reduceSub, Nat.reduceBEq, Nat.reduceLT, Nat.reduceLeDiff, Nat.lt_add_one, px_tg, Int.cast_ofNat_Int, Int.reduceAdd, Int.reduceSub, Int.reduceMul, Int.reduceToNat, Int.reduceLE, Int.reduceLT, Int.reduceNeg, Int.reduceEq, Bool.or_false, Bool.false_or, Bool.or_true, Bool.true_or, List.length_cons, List.length_nil, List.nil_append, List.cons_append, Option.toList_some, Option.toList_none, reduceCtorEq, Option.some.injEq, Nat.zero_le, Nat.reduceMul, Nat.mul_zero, Nat.add_zero, Int.reduceDiv, Int.reduceMod, Int.toNat_natCast, Nat.lt_irrefl, Int.natCast_add, Int.cast_ofNat_Int, px_mds_RX11_0, px_mds_RX11_1, dec_X11_past, px_eq_iff, px_lt_iff, px_le_iff, px_up_o, px_up_eq, px_up_ne, px_cp_o, pm_k, pm_l]
          refine ⟨by omega, ?_⟩
          rw [mo]
          refine c_X11_number oo.1 ?_
          refine px_go (fun p => p == 29 || p == 128 || p == 21) 400 ?_
          simp (disch := omega) only [px_lits, false_implies, true_implies, px_dec_ok, px_run_s, px_rules, px_rule_is, px_mats, px_calls, ↓reduceIte, eq_self, Bool.false_eq_true, px_flds, px_o_some, px_fvs, px_pfs, px_cts, px_cls, px_acs_, px_acn, true_and, and_true, true_or, or_true, false_or, or_false, and_self, not_true_eq_false, not_false_eq_true, Classical.not_not, Nat.reduceAdd, Nat.reduceSub, Nat.reduceBEq, Nat.reduceLT, Nat.reduceLeDiff, Nat.lt_add_one, px_tg, Int.cast_ofNat_Int, Int.reduceAdd, Int.reduceSub, Int.reduceMul, Int.reduceToNat, Int.reduceLE, Int.reduceLT, Int.reduceNeg, Int.reduceEq, Bool.or_false, Bool.false_or, Bool.or_true, Bool.true_or, List.length_cons, List.length_nil, List.nil_append, List.cons_append, Option.toList_some, Option.toList_none, reduceCtorEq, Option.some.injEq, Nat.zero_le, Nat.reduceMul, Nat.mul_zero, Nat.add_zero, Int.reduceDiv, Int.reduceMod, Int.toNat_natCast, Nat.lt_irrefl, Int.natCast_add, Int.cast_ofNat_Int, px_mds_RX11_0, px_mds_RX11_1, dec_X11_past, px_eq_iff, px_lt_iff, px_le_iff, px_up_o, px_up_eq, px_up_ne, px_cp_o, pm_k, pm_l]
          exact hz _ μ1 st g3
        | some km =>
          obtain ⟨kk, mm⟩ := km
          have hb9 := pc_tr_bd htr oo1.1 bb1.1
          rw [htr] at st
          dsimp only at st
          rw [pc_trz_some htr]
          have d1 : (100 * kk + mm) / 100 = kk := by omega
          have d2 : (100 * kk + mm) % 100 = mm := by omega
          refine px_go (fun p => p == 29 || p == 128 || p == 21) 400 ?_
          simp (disch := omega) only [px_lits, false_implies, true_implies, px_dec_ok, px_run_s, px_rules, px_rule_is, px_mats, px_calls, ↓reduceIte, eq_self, Bool.false_eq_true, px_flds, px_o_some, px_fvs, px_pfs, px_cts, px_cls, px_acs_, px_acn, true_and, and_true, true_or, or_true, false_or, or_false, and_self, not_true_eq_false, not_false_eq_true, Classical.not_not, Nat.reduceAdd, Nat.reduceSub, Nat.reduceBEq, Nat.reduceLT, Nat.reduceLeDiff, Nat.lt_add_one, px_tg, Int.cast_ofNat_Int, Int.reduceAdd, Int.reduceSub, Int.reduceMul, Int.reduceToNat, Int.reduceLE, Int.reduceLT, Int.reduceNeg, Int.reduceEq, Bool.or_false, Bool.false_or, Bool.or_true, Bool.true_or, List.length_cons, List.length_nil, List.nil_append, List.cons_append, Option.toList_some, Option.toList_none, reduceCtorEq, Option.some.injEq, Nat.zero_le, Nat.reduceMul, Nat.mul_zero, Nat.add_zero, Int.reduceDiv, Int.reduceMod, Int.toNat_natCast, Nat.lt_irrefl, Int.natCast_add, Int.cast_ofNat_Int, px_mds_RX11_0, px_mds_RX11_1, dec_X11_past, px_eq_iff, px_lt_iff, px_le_iff, px_up_o, px_up_eq, px_up_ne, px_cp_o, pm_k, pm_l, d1, d2]
          refine ⟨fun _ => ?_, fun q => by omega⟩
          repeat refine ⟨by omega, ?_⟩
          rw [g4]
          refine c_X11_moved g5 ?_
          refine px_go (fun p => p == 29 || p == 128 || p == 21) 400 ?_
          simp (disch := omega) only [px_lits, false_implies, true_implies, px_dec_ok, px_run_s, px_rules, px_rule_is, px_mats, px_calls, ↓reduceIte, eq_self, Bool.false_eq_true, px_flds, px_o_some, px_fvs, px_pfs, px_cts, px_cls, px_acs_, px_acn, true_and, and_true, true_or, or_true, false_or, or_false, and_self, not_true_eq_false, not_false_eq_true, Classical.not_not, Nat.reduceAdd, Nat.reduceSub, Nat.reduceBEq, Nat.reduceLT, Nat.reduceLeDiff, Nat.lt_add_one, px_tg, Int.cast_ofNat_Int, Int.reduceAdd, Int.reduceSub, Int.reduceMul, Int.reduceToNat, Int.reduceLE, Int.reduceLT, Int.reduceNeg, Int.reduceEq, Bool.or_false, Bool.false_or, Bool.or_true, Bool.true_or, List.length_cons, List.length_nil, List.nil_append, List.cons_append, Option.toList_some, Option.toList_none, reduceCtorEq, Option.some.injEq, Nat.zero_le, Nat.reduceMul, Nat.mul_zero, Nat.add_zero, Int.reduceDiv, Int.reduceMod, Int.toNat_natCast, Nat.lt_irrefl, Int.natCast_add, Int.cast_ofNat_Int, px_mds_RX11_0, px_mds_RX11_1, dec_X11_past, px_eq_iff, px_lt_iff, px_le_iff, px_up_o, px_up_eq, px_up_ne, px_cp_o, pm_k, pm_l, d1, d2]
          repeat refine ⟨by omega, ?_⟩
          refine c_X11_moved op ?_
          refine px_go (fun p => p == 29 || p == 128 || p == 21) 400 ?_
          simp (disch := omega) only [px_lits, false_implies, true_implies, px_dec_ok, px_run_s, px_rules, px_rule_is, px_mats, px_calls, ↓reduceIte, eq_self, Bool.false_eq_true, px_flds, px_o_some, px_fvs, px_pfs, px_cts, px_cls, px_acs_, px_acn, true_and, and_true, true_or, or_true, false_or, or_false, and_self, not_true_eq_false, not_false_eq_true, Classical.not_not, Nat.reduceAdd, Nat.reduceSub, Nat.reduceBEq, Nat.reduceLT, Nat.reduceLeDiff, Nat.lt_add_one, px_tg, Int.cast_ofNat_Int, Int.reduceAdd, Int.reduceSub, Int.reduceMul, Int.reduceToNat, Int.reduceLE, Int.reduceLT, Int.reduceNeg, Int.reduceEq, Bool.or_false, Bool.false_or, Bool.or_true, Bool.true_or, List.length_cons, List.length_nil, List.nil_append, List.cons_append, Option.toList_some, Option.toList_none, reduceCtorEq, Option.some.injEq, Nat.zero_le, Nat.reduceMul, Nat.mul_zero, Nat.add_zero, Int.reduceDiv, Int.reduceMod, Int.toNat_natCast, Nat.lt_irrefl, Int.natCast_add, Int.cast_ofNat_Int, px_mds_RX11_0, px_mds_RX11_1, dec_X11_past, px_eq_iff, px_lt_iff, px_le_iff, px_up_o, px_up_eq, px_up_ne, px_cp_o, pm_k, pm_l, d1, d2]
          have op2 : pm_ok (o.1, 1 - o.2.1, mm, o.2.2.2) := ⟨oo.1.1, op.2.1, by dsimp only; omega, oo.1.2.2.2⟩
          refine c_X11_opposite op2 ?_
          refine px_go (fun p => p == 29 || p == 128 || p == 21) 400 ?_
          simp (disch := omega) only [px_lits, false_implies, true_implies, px_dec_ok, px_run_s, px_rules, px_rule_is, px_mats, px_calls, ↓reduceIte, eq_self, Bool.false_eq_true, px_flds, px_o_some, px_fvs, px_pfs, px_cts, px_cls, px_acs_, px_acn, true_and, and_true, true_or, or_true, false_or, or_false, and_self, not_true_eq_false, not_false_eq_true, Classical.not_not, Nat.reduceAdd, Nat.reduceSub, Nat.reduceBEq, Nat.reduceLT, Nat.reduceLeDiff, Nat.lt_add_one, px_tg, Int.cast_ofNat_Int, Int.reduceAdd, Int.reduceSub, Int.reduceMul, Int.reduceToNat, Int.reduceLE, Int.reduceLT, Int.reduceNeg, Int.reduceEq, Bool.or_false, Bool.false_or, Bool.or_true, Bool.true_or, List.length_cons, List.length_nil, List.nil_append, List.cons_append, Option.toList_some, Option.toList_none, reduceCtorEq, Option.some.injEq, Nat.zero_le, Nat.reduceMul, Nat.mul_zero, Nat.add_zero, Int.reduceDiv, Int.reduceMod, Int.toNat_natCast, Nat.lt_irrefl, Int.natCast_add, Int.cast_ofNat_Int, px_mds_RX11_0, px_mds_RX11_1, dec_X11_past, px_eq_iff, px_lt_iff, px_le_iff, px_up_o, px_up_eq, px_up_ne, px_cp_o, pm_k, pm_l, d1, d2]
          refine ⟨by omega, ?_⟩
          try dsimp only
          rw [show 1 - (1 - o.2.1) = o.2.1 by omega]
          have ob2 : pm_ok (b.1, b.2.1, kk, b.2.2.2) := ⟨g5.1, g5.2.1, by dsimp only; omega, g5.2.2.2⟩
          have := ih (y + 1) k (b.1, b.2.1, kk, b.2.2.2) O (px_up (px_up μ1 218 k (pm_pk (b.1, b.2.1, kk, b.2.2.2))) 217 y (pm_pk (o.1, o.2.1, mm, o.2.2.2))) (some (.inl (pm_pk (o.1, 1 - o.2.1, o.2.2.1, o.2.2.2)))) (some (.inl (100 * kk + mm))) (by simpa using g0) (by omega) g2 (fun q q1 q2 => by rw [px_up_o q1, px_up_o q2, g3 q q1 q2]) (by rw [px_up_o (by omega), px_up_eq rfl]) ob2 (by dsimp only; omega) (fun i c hc => ?_) (fun c hc => g8 c (List.mem_cons_of_mem _ hc)) (fun z μ2 e1 e2 => ?_) (fun b1 O1 μ2 y2 z5 z6 e1 e2 e3 e4 e5 e6 => ?_)
          · rwa [Int.natCast_add] at this
          · rw [px_up_ne (by omega), px_up_o (by omega)]
            have := g7 (i + 1) c hc
            rw [show (y : Int) + ((i + 1 : Nat) : Int) = ((y + 1 : Nat) : Int) + i by omega] at this
            exact this
          · rw [e1] at st
            exact hz z μ2 st e2
          · rw [e1] at st
            refine hs b1 _ μ2 y2 z5 z6 st e2 (fun i hi => by rw [e3 i hi, px_up_o (by omega), px_up_ne hi]) e4 (fun i hi => by rw [e5 i (by omega), px_up_ne (by omega), px_up_o (by omega)]) (fun i c hc => ?_)
            cases i with
            | zero =>
              cases hc
              rw [show (y : Int) + ((0 : Nat) : Int) = y by omega, e5 y (by omega), px_up_eq rfl]
            | succ i =>
              have := e6 i c hc
              rw [show (y : Int) + ((i + 1 : Nat) : Int) = ((y + 1 : Nat) : Int) + i by omega]
              exact this
  have outer : ∀ (m k : Nat) (D R O : List pc_Ch) (μ1 : px_Mem) (x4 x5 x6 : Option px_X), R.length = m → D.length = k → k + m = n → O.length = L.length - f → (∀ o, o ≠ 217 → o ≠ 218 → μ1 o = μ o) → pm_at μ1 218 0 (D ++ R) → (∀ c ∈ R, pm_ok c ∧ c.2.2.1 ≤ 27) → pm_at μ1 217 0 O → (∀ c ∈ O, pm_ok c ∧ c.2.2.1 ≤ 27 + k) →
      (∀ (z : Int) (μ2 : px_Mem), pc_gp R O = .inl z → (∀ o, o ≠ 217 → o ≠ 218 → μ2 o = μ o) → Q (some (.inl z)) μ2) →
      (∀ (R1 : List pc_Ch) (μ2 : px_Mem), pc_gp R O = .inr R1 → (∀ o, o ≠ 217 → o ≠ 218 → μ2 o = μ o) → pm_at μ2 218 0 (D ++ R1) → Q (some (.inl (-1))) μ2) →
      px_J G RX11 cX11_past 7 (some .int) 2 21 [some (.inr (.inl (some 205))), some (.inl n), some (.inl f), some (.inl k), x4, x5, x6] [] μ1 Q := by
    intro m
    induction m with
    | zero =>
      intro k D R O μ1 x4 x5 x6 g0 g0a g1 g2 g3 g4 g5 g6 g7 hz hs
      have e0 : R = [] := List.eq_nil_of_length_eq_zero g0
      subst e0
      refine px_go (fun p => p == 29 || p == 128 || p == 21) 400 ?_
      simp (disch := omega) only [px_lits, false_implies, true_implies, px_dec_ok, px_run_s, px_rules, px_rule_is, px_mats, px_calls, ↓reduceIte, eq_self, Bool.false_eq_true, px_flds, px_o_some, px_fvs, px_pfs, px_cts, px_cls, px_acs_, px_acn, true_and, and_true, true_or, or_true, false_or, or_false, and_self, not_true_eq_false, not_false_eq_true, Classical.not_not, Nat.reduceAdd, Nat.reduceSub, Nat.reduceBEq, Nat.reduceLT, Nat.reduceLeDiff, Nat.lt_add_one, px_tg, Int.cast_ofNat_Int, Int.reduceAdd, Int.reduceSub, Int.reduceMul, Int.reduceToNat, Int.reduceLE, Int.reduceLT, Int.reduceNeg, Int.reduceEq, Bool.or_false, Bool.false_or, Bool.or_true, Bool.true_or, List.length_cons, List.length_nil, List.nil_append, List.cons_append, Option.toList_some, Option.toList_none, reduceCtorEq, Option.some.injEq, Nat.zero_le, Nat.reduceMul, Nat.mul_zero, Nat.add_zero, Int.reduceDiv, Int.reduceMod, Int.toNat_natCast, Nat.lt_irrefl, Int.natCast_add, Int.cast_ofNat_Int, px_mds_RX11_0, px_mds_RX11_1, dec_X11_past, px_eq_iff, px_lt_iff, px_le_iff, px_up_o, px_up_eq, px_up_ne, px_cp_o, pm_k, pm_l]
      exact ⟨fun _ => hs [] μ1 rfl g3 g4, fun q => absurd (by omega) q⟩
    | succ m ih =>
      intro k D R O μ1 x4 x5 x6 g0 g0a g1 g2 g3 g4 g5 g6 g7 hz hs
      cases R with
      | nil => cases g0
      | cons b R =>
        have ob := g5 b List.mem_cons_self
        have ob1 := ob.1.2.2.1
        have mb := g4 k b (by rw [List.getElem?_append_right (by omega), g0a, Nat.sub_self]; rfl)
        rw [Int.zero_add] at mb
        refine px_go (fun p => p == 29 || p == 128 || p == 21) 400 ?_
        simp (disch := omega) only [px_lits, false_implies, true_implies, px_dec_ok, px_run_s, px_rules, px_rule_is, px_mats, px_calls, ↓reduceIte, eq_self, Bool.false_eq_true, px_flds, px_o_some, px_fvs, px_pfs, px_cts, px_cls, px_acs_, px_acn, true_and, and_true, true_or, or_true, false_or, or_false, and_self, not_true_eq_false, not_false_eq_true, Classical.not_not, Nat.reduceAdd, Nat.reduceSub, Nat.reduceBEq, Nat.reduceLT, Nat.reduceLeDiff, Nat.lt_add_one, px_tg, Int.cast_ofNat_Int, Int.reduceAdd, Int.reduceSub, Int.reduceMul, Int.reduceToNat, Int.reduceLE, Int.reduceLT, Int.reduceNeg, Int.reduceEq, Bool.or_false, Bool.false_or, Bool.or_true, Bool.true_or, List.length_cons, List.length_nil, List.nil_append, List.cons_append, Option.toList_some, Option.toList_none, reduceCtorEq, Option.some.injEq, Nat.zero_le, Nat.reduceMul, Nat.mul_zero, Nat.add_zero, Int.reduceDiv, Int.reduceMod, Int.toNat_natCast, Nat.lt_irrefl, Int.natCast_add, Int.cast_ofNat_Int, px_mds_RX11_0, px_mds_RX11_1, dec_X11_past, px_eq_iff, px_lt_iff, px_le_iff, px_up_o, px_up_eq, px_up_ne, px_cp_o, pm_k, pm_l]
        refine ⟨fun q => by omega, fun _ => ?_⟩
        have st : pc_gp (b :: R) O = (match pc_gp1 b O with
          | .inl n => .inl n
          | .inr r => match pc_gp R r.2 with
            | .inl n => .inl n
            | .inr B1 => .inr (r.1 :: B1)) := rfl
        refine inner (L.length - f) 0 k b O μ1 x5 x6 g2 (by omega) (by omega) g3 mb ob.1 (by omega) g6 (fun c hc => ⟨(g7 c hc).1, by have := (g7 c hc).2; omega⟩) (fun z μ2 e1 e2 => ?_) (fun b1 O1 μ2 y2 z5 z6 e1 e2 e3 e4 e5 e6 => ?_)
        · rw [e1] at st
          exact hz z μ2 st e2
        · rw [e1] at st
          dsimp only at st
          obtain ⟨r1, r2, r3, r4, r5, r6, r7⟩ := pc_gp1_bd (pc_bd_of g7) ob1.1 e1
          have okO := pm_gp1_ok g7 (by omega) ob1.1 e1
          refine px_go (fun p => p == 29 || p == 128 || p == 21) 400 ?_
          simp (disch := omega) only [px_lits, false_implies, true_implies, px_dec_ok, px_run_s, px_rules, px_rule_is, px_mats, px_calls, ↓reduceIte, eq_self, Bool.false_eq_true, px_flds, px_o_some, px_fvs, px_pfs, px_cts, px_cls, px_acs_, px_acn, true_and, and_true, true_or, or_true, false_or, or_false, and_self, not_true_eq_false, not_false_eq_true, Classical.not_not, Nat.reduceAdd, Nat.reduceSub, Nat.reduceBEq, Nat.reduceLT, Nat.reduceLeDiff, Nat.lt_add_one, px_tg, Int.cast_ofNat_Int, Int.reduceAdd, Int.reduceSub, Int.reduceMul, Int.reduceToNat, Int.reduceLE, Int.reduceLT, Int.reduceNeg, Int.reduceEq, Bool.or_false, Bool.false_or, Bool.or_true, Bool.true_or, List.length_cons, List.length_nil, List.nil_append, List.cons_append, Option.toList_some, Option.toList_none, reduceCtorEq, Option.some.injEq, Nat.zero_le, Nat.reduceMul, Nat.mul_zero, Nat.add_zero, Int.reduceDiv, Int.reduceMod, Int.toNat_natCast, Nat.lt_irrefl, Int.natCast_add, Int.cast_ofNat_Int, px_mds_RX11_0, px_mds_RX11_1, dec_X11_past, px_eq_iff, px_lt_iff, px_le_iff, px_up_o, px_up_eq, px_up_ne, px_cp_o, pm_k, pm_l]
          have := ih (k + 1) (D ++ [b1]) R O1 μ2 (some (.inl y2)) z5 z6 (by simpa using g0) (by simp [g0a]) (by omega) (by rw [r7]; exact g2) e2 (fun i c hc => ?_) (fun c hc => g5 c (List.mem_cons_of_mem _ hc)) e6 (fun c hc => ⟨(okO c hc).1, by have := (okO c hc).2; omega⟩) (fun z μ3 q1 q2 => ?_) (fun R1 μ3 q1 q2 q3 => ?_)
          · rwa [Int.natCast_add] at this
          · rw [Int.zero_add, List.append_assoc, List.singleton_append] at *
            by_cases e : i = k
            · subst e
              rw [List.getElem?_append_right (by omega), g0a, Nat.sub_self] at hc
              cases hc
              exact e4
            · rw [e3 i (by omega)]
              have := g4 i c (by
                rw [List.getElem?_append] at hc ⊢
                split at hc
                · rename_i q
                  rw [if_pos q]
                  exact hc
                · rename_i q
                  rw [if_neg q]
                  obtain ⟨j, hj⟩ : ∃ j, i - D.length = j + 1 := ⟨i - D.length - 1, by omega⟩
                  rw [hj] at hc ⊢
                  exact hc)
              rw [Int.zero_add] at this
              exact this
          · rw [q1] at st
            exact hz z μ3 st q2
          · rw [q1] at st
            refine hs _ μ3 st q2 ?_
            rw [List.append_assoc] at q3
            exact q3
  refine px_enter RX11 (by decide +kernel) rfl (by simp) (by simp [px_c1]) ?_
  simp only [List.map_cons, List.map_nil, List.length_cons, List.length_nil, List.replicate, List.append_nil, Nat.reduceAdd, Nat.reduceSub, List.cons_append, List.nil_append]
  refine px_go (fun p => p == 21) 400 ?_
  simp (disch := omega) only [px_lits, false_implies, true_implies, px_dec_ok, px_run_s, px_rules, px_rule_is, px_mats, px_calls, ↓reduceIte, eq_self, Bool.false_eq_true, px_flds, px_o_some, px_fvs, px_pfs, px_cts, px_cls, px_acs_, px_acn, true_and, and_true, true_or, or_true, false_or, or_false, and_self, not_true_eq_false, not_false_eq_true, Classical.not_not, Nat.reduceAdd, Nat.reduceSub, Nat.reduceBEq, Nat.reduceLT, Nat.reduceLeDiff, Nat.lt_add_one, px_tg, Int.cast_ofNat_Int, Int.reduceAdd, Int.reduceSub, Int.reduceMul, Int.reduceToNat, Int.reduceLE, Int.reduceLT, Int.reduceNeg, Int.reduceEq, Bool.or_false, Bool.false_or, Bool.or_true, Bool.true_or, List.length_cons, List.length_nil, List.nil_append, List.cons_append, Option.toList_some, Option.toList_none, reduceCtorEq, Option.some.injEq, Nat.zero_le, Nat.reduceMul, Nat.mul_zero, Nat.add_zero, Int.reduceDiv, Int.reduceMod, Int.toNat_natCast, Nat.lt_irrefl, Int.natCast_add, Int.cast_ofNat_Int, px_mds_RX11_0, px_mds_RX11_1, dec_X11_past, px_eq_iff, px_lt_iff, px_le_iff, px_up_o, px_up_eq, px_up_ne, px_cp_o, pm_k, pm_l, hw]
  rw [show (L.length : Int) - f = ((L.length - f : Nat) : Int) by omega]
  refine c_X11_bring pm_k.2.2.2.2.2.2.2.2.2.2.1 pm_k.2.2.2.2.2.2.2.2.2.2.2.2.1 (by omega) (by rw [pm_l.2.2.2.2.2.2.2.2.2.1]; omega) (by rw [pm_l.2.2.2.2.2.2.2.2.2.2.2.1]; omega) ?_
  refine px_go (fun p => p == 21) 400 ?_
  simp (disch := omega) only [px_lits, false_implies, true_implies, px_dec_ok, px_run_s, px_rules, px_rule_is, px_mats, px_calls, ↓reduceIte, eq_self, Bool.false_eq_true, px_flds, px_o_some, px_fvs, px_pfs, px_cts, px_cls, px_acs_, px_acn, true_and, and_true, true_or, or_true, false_or, or_false, and_self, not_true_eq_false, not_false_eq_true, Classical.not_not, Nat.reduceAdd, Nat.reduceSub, Nat.reduceBEq, Nat.reduceLT, Nat.reduceLeDiff, Nat.lt_add_one, px_tg, Int.cast_ofNat_Int, Int.reduceAdd, Int.reduceSub, Int.reduceMul, Int.reduceToNat, Int.reduceLE, Int.reduceLT, Int.reduceNeg, Int.reduceEq, Bool.or_false, Bool.false_or, Bool.or_true, Bool.true_or, List.length_cons, List.length_nil, List.nil_append, List.cons_append, Option.toList_some, Option.toList_none, reduceCtorEq, Option.some.injEq, Nat.zero_le, Nat.reduceMul, Nat.mul_zero, Nat.add_zero, Int.reduceDiv, Int.reduceMod, Int.toNat_natCast, Nat.lt_irrefl, Int.natCast_add, Int.cast_ofNat_Int, px_mds_RX11_0, px_mds_RX11_1, dec_X11_past, px_eq_iff, px_lt_iff, px_le_iff, px_up_o, px_up_eq, px_up_ne, px_cp_o, pm_k, pm_l]
  have r0 : pm_at (px_cp μ 215 f 217 0 ((L.length - f : Nat) : Int)) 217 0 (L.drop f) := by
    have := (hLr.sub f).2
    rw [Int.zero_add] at this
    exact pm_at.cp this (by rw [List.length_drop]; omega)
  refine outer n 0 [] C (L.drop f) _ _ _ _ hC rfl (by omega) (by rw [List.length_drop]) (fun o o1 o2 => px_cp_o o1) (hCr.same (px_cp_o (by omega))) hCo r0 (fun c hc => ⟨(hLo c (List.mem_of_mem_drop hc)).1, by have := (hLo c (List.mem_of_mem_drop hc)).2; omega⟩) (fun z μ2 e1 e2 => h0 z μ2 e1 e2) (fun R1 μ2 e1 e2 e3 => h1 R1 μ2 e1 e2 e3)
set_option maxHeartbeats 4000000 in
set_option maxRecDepth 100000 in
theorem c_X11_drawn {G : px_G} {b : Int} {μ : px_Mem} {Q : Option px_X → px_Mem → Prop} (hx : 0 ≤ μ 205 21 ∧ μ 205 21 < 2147483647) (hb : 1 ≤ b ∧ b < 2147483648) (h1 : Q (some (.inl (μ 205 21 * 16807 % 2147483647 % b))) (px_up μ 205 21 (μ 205 21 * 16807 % 2147483647))) : px_C G yX11_drawn cX11_drawn 2 (some .int) 0 [.inr (.inl (some 205)), .inl b] μ Q := by
  refine px_enter RX11 (by decide +kernel) rfl (by simp) (by simp [px_c1]) ?_
  simp only [List.map_cons, List.map_nil, List.length_cons, List.length_nil, List.replicate, List.append_nil, Nat.reduceAdd, Nat.reduceSub, List.cons_append, List.nil_append]
  refine px_go (fun _ => false) 400 ?_
  simp (disch := omega) only [px_lits, false_implies, true_implies, px_dec_ok, px_run_s, px_rules, px_rule_is, px_mats, px_calls, ↓reduceIte, eq_self, Bool.false_eq_true, px_flds, px_o_some, px_fvs, px_pfs, px_cts, px_cls, px_acs_, px_acn, true_and, and_true, true_or, or_true, false_or, or_false, and_self, not_true_eq_false, not_false_eq_true, Classical.not_not, Nat.reduceAdd, Nat.reduceSub, Nat.reduceBEq, Nat.reduceLT, Nat.reduceLeDiff, Nat.lt_add_one, px_tg, Int.cast_ofNat_Int, Int.reduceAdd, Int.reduceSub, Int.reduceMul, Int.reduceToNat, Int.reduceLE, Int.reduceLT, Int.reduceNeg, Int.reduceEq, Bool.or_false, Bool.false_or, Bool.or_true, Bool.true_or, List.length_cons, List.length_nil, List.nil_append, List.cons_append, Option.toList_some, Option.toList_none, reduceCtorEq, Option.some.injEq, Nat.zero_le, Nat.reduceMul, Nat.mul_zero, Nat.add_zero, Int.reduceDiv, Int.reduceMod, Int.toNat_natCast, Nat.lt_irrefl, Int.natCast_add, Int.cast_ofNat_Int, px_mds_RX11_0, px_mds_RX11_1, dec_X11_drawn, px_eq_iff, px_lt_iff, px_le_iff, px_up_o, px_up_eq, px_up_ne, px_cp_o, pm_k, pm_l]
  repeat refine ⟨by omega, ?_⟩
  exact h1
set_option maxHeartbeats 4000000 in
set_option maxRecDepth 100000 in
theorem c_X11_isPlace {G : px_G} {x i : Int} {μ : px_Mem} {Q : Option px_X → px_Mem → Prop} (hx : -2147483648 ≤ x ∧ x < 2147483648) (hi : -2147483648 ≤ i ∧ i < 2147483648) (hn : ∀ h : Nat, h < 2 → 0 ≤ μ 207 (19 * h) ∧ μ 207 (19 * h) ≤ 16)
    (h1 : (0 ≤ x ∧ x < 2) ∧ (0 ≤ i ∧ i < μ 207 (19 * x)) → Q (some (.inl 1)) μ) (h0 : ¬ ((0 ≤ x ∧ x < 2) ∧ (0 ≤ i ∧ i < μ 207 (19 * x))) → Q (some (.inl 0)) μ) : px_C G yX11_isPlace cX11_isPlace 3 (some .boolean) 2 [.inr (.inl (some 205)), .inl x, .inl i] μ Q := by
  refine px_enter RX11 (by decide +kernel) rfl (by simp) (by simp [px_c1]) ?_
  simp only [List.map_cons, List.map_nil, List.length_cons, List.length_nil, List.replicate, List.append_nil, Nat.reduceAdd, Nat.reduceSub, List.cons_append, List.nil_append]
  refine px_go (fun _ => false) 400 ?_
  simp (disch := omega) only [px_lits, false_implies, true_implies, px_dec_ok, px_run_s, px_rules, px_rule_is, px_mats, px_calls, ↓reduceIte, eq_self, Bool.false_eq_true, px_flds, px_o_some, px_fvs, px_pfs, px_cts, px_cls, px_acs_, px_acn, true_and, and_true, true_or, or_true, false_or, or_false, and_self, not_true_eq_false, not_false_eq_true, Classical.not_not, Nat.reduceAdd, Nat.reduceSub, Nat.reduceBEq, Nat.reduceLT, Nat.reduceLeDiff, Nat.lt_add_one, px_tg, Int.cast_ofNat_Int, Int.reduceAdd, Int.reduceSub, Int.reduceMul, Int.reduceToNat, Int.reduceLE, Int.reduceLT, Int.reduceNeg, Int.reduceEq, Bool.or_false, Bool.false_or, Bool.or_true, Bool.true_or, List.length_cons, List.length_nil, List.nil_append, List.cons_append, Option.toList_some, Option.toList_none, reduceCtorEq, Option.some.injEq, Nat.zero_le, Nat.reduceMul, Nat.mul_zero, Nat.add_zero, Int.reduceDiv, Int.reduceMod, Int.toNat_natCast, Nat.lt_irrefl, Int.natCast_add, Int.cast_ofNat_Int, px_mds_RX11_0, px_mds_RX11_1, dec_X11_isPlace, px_eq_iff, px_lt_iff, px_le_iff, px_up_o, px_up_eq, px_up_ne, px_cp_o, pm_k, pm_l]
  refine c_X11_isHouse hx (fun q => ?_) (fun q => ?_)
  · obtain ⟨h, rfl⟩ : ∃ h : Nat, x = h := ⟨x.toNat, by omega⟩
    have hh := hn h (by omega)
    refine px_go (fun _ => false) 400 ?_
    simp (disch := omega) only [px_lits, false_implies, true_implies, px_dec_ok, px_run_s, px_rules, px_rule_is, px_mats, px_calls, ↓reduceIte, eq_self, Bool.false_eq_true, px_flds, px_o_some, px_fvs, px_pfs, px_cts, px_cls, px_acs_, px_acn, true_and, and_true, true_or, or_true, false_or, or_false, and_self, not_true_eq_false, not_false_eq_true, Classical.not_not, Nat.reduceAdd, Nat.reduceSub, Nat.reduceBEq, Nat.reduceLT, Nat.reduceLeDiff, Nat.lt_add_one, px_tg, Int.cast_ofNat_Int, Int.reduceAdd, Int.reduceSub, Int.reduceMul, Int.reduceToNat, Int.reduceLE, Int.reduceLT, Int.reduceNeg, Int.reduceEq, Bool.or_false, Bool.false_or, Bool.or_true, Bool.true_or, List.length_cons, List.length_nil, List.nil_append, List.cons_append, Option.toList_some, Option.toList_none, reduceCtorEq, Option.some.injEq, Nat.zero_le, Nat.reduceMul, Nat.mul_zero, Nat.add_zero, Int.reduceDiv, Int.reduceMod, Int.toNat_natCast, Nat.lt_irrefl, Int.natCast_add, Int.cast_ofNat_Int, px_mds_RX11_0, px_mds_RX11_1, dec_X11_isPlace, px_eq_iff, px_lt_iff, px_le_iff, px_up_o, px_up_eq, px_up_ne, px_cp_o, pm_k, pm_l]
    refine c_X11_many (by omega) ?_
    refine px_go (fun _ => false) 400 ?_
    simp (disch := omega) only [px_lits, false_implies, true_implies, px_dec_ok, px_run_s, px_rules, px_rule_is, px_mats, px_calls, ↓reduceIte, eq_self, Bool.false_eq_true, px_flds, px_o_some, px_fvs, px_pfs, px_cts, px_cls, px_acs_, px_acn, true_and, and_true, true_or, or_true, false_or, or_false, and_self, not_true_eq_false, not_false_eq_true, Classical.not_not, Nat.reduceAdd, Nat.reduceSub, Nat.reduceBEq, Nat.reduceLT, Nat.reduceLeDiff, Nat.lt_add_one, px_tg, Int.cast_ofNat_Int, Int.reduceAdd, Int.reduceSub, Int.reduceMul, Int.reduceToNat, Int.reduceLE, Int.reduceLT, Int.reduceNeg, Int.reduceEq, Bool.or_false, Bool.false_or, Bool.or_true, Bool.true_or, List.length_cons, List.length_nil, List.nil_append, List.cons_append, Option.toList_some, Option.toList_none, reduceCtorEq, Option.some.injEq, Nat.zero_le, Nat.reduceMul, Nat.mul_zero, Nat.add_zero, Int.reduceDiv, Int.reduceMod, Int.toNat_natCast, Nat.lt_irrefl, Int.natCast_add, Int.cast_ofNat_Int, px_mds_RX11_0, px_mds_RX11_1, dec_X11_isPlace, px_eq_iff, px_lt_iff, px_le_iff, px_up_o, px_up_eq, px_up_ne, px_cp_o, pm_k, pm_l]
    refine c_X11_in hi (by omega) (by omega) (fun w => ?_) (fun w => ?_)
    · refine px_go (fun _ => false) 400 ?_
      simp (disch := omega) only [px_lits, false_implies, true_implies, px_dec_ok, px_run_s, px_rules, px_rule_is, px_mats, px_calls, ↓reduceIte, eq_self, Bool.false_eq_true, px_flds, px_o_some, px_fvs, px_pfs, px_cts, px_cls, px_acs_, px_acn, true_and, and_true, true_or, or_true, false_or, or_false, and_self, not_true_eq_false, not_false_eq_true, Classical.not_not, Nat.reduceAdd, Nat.reduceSub, Nat.reduceBEq, Nat.reduceLT, Nat.reduceLeDiff, Nat.lt_add_one, px_tg, Int.cast_ofNat_Int, Int.reduceAdd, Int.reduceSub, Int.reduceMul, Int.reduceToNat, Int.reduceLE, Int.reduceLT, Int.reduceNeg, Int.reduceEq, Bool.or_false, Bool.false_or, Bool.or_true, Bool.true_or, List.length_cons, List.length_nil, List.nil_append, List.cons_append, Option.toList_some, Option.toList_none, reduceCtorEq, Option.some.injEq, Nat.zero_le, Nat.reduceMul, Nat.mul_zero, Nat.add_zero, Int.reduceDiv, Int.reduceMod, Int.toNat_natCast, Nat.lt_irrefl, Int.natCast_add, Int.cast_ofNat_Int, px_mds_RX11_0, px_mds_RX11_1, dec_X11_isPlace, px_eq_iff, px_lt_iff, px_le_iff, px_up_o, px_up_eq, px_up_ne, px_cp_o, pm_k, pm_l]
      exact h1 ⟨q, by omega⟩
    · refine px_go (fun _ => false) 400 ?_
      simp (disch := omega) only [px_lits, false_implies, true_implies, px_dec_ok, px_run_s, px_rules, px_rule_is, px_mats, px_calls, ↓reduceIte, eq_self, Bool.false_eq_true, px_flds, px_o_some, px_fvs, px_pfs, px_cts, px_cls, px_acs_, px_acn, true_and, and_true, true_or, or_true, false_or, or_false, and_self, not_true_eq_false, not_false_eq_true, Classical.not_not, Nat.reduceAdd, Nat.reduceSub, Nat.reduceBEq, Nat.reduceLT, Nat.reduceLeDiff, Nat.lt_add_one, px_tg, Int.cast_ofNat_Int, Int.reduceAdd, Int.reduceSub, Int.reduceMul, Int.reduceToNat, Int.reduceLE, Int.reduceLT, Int.reduceNeg, Int.reduceEq, Bool.or_false, Bool.false_or, Bool.or_true, Bool.true_or, List.length_cons, List.length_nil, List.nil_append, List.cons_append, Option.toList_some, Option.toList_none, reduceCtorEq, Option.some.injEq, Nat.zero_le, Nat.reduceMul, Nat.mul_zero, Nat.add_zero, Int.reduceDiv, Int.reduceMod, Int.toNat_natCast, Nat.lt_irrefl, Int.natCast_add, Int.cast_ofNat_Int, px_mds_RX11_0, px_mds_RX11_1, dec_X11_isPlace, px_eq_iff, px_lt_iff, px_le_iff, px_up_o, px_up_eq, px_up_ne, px_cp_o, pm_k, pm_l]
      exact h0 (fun r => w (by omega))
  · refine px_go (fun _ => false) 400 ?_
    simp (disch := omega) only [px_lits, false_implies, true_implies, px_dec_ok, px_run_s, px_rules, px_rule_is, px_mats, px_calls, ↓reduceIte, eq_self, Bool.false_eq_true, px_flds, px_o_some, px_fvs, px_pfs, px_cts, px_cls, px_acs_, px_acn, true_and, and_true, true_or, or_true, false_or, or_false, and_self, not_true_eq_false, not_false_eq_true, Classical.not_not, Nat.reduceAdd, Nat.reduceSub, Nat.reduceBEq, Nat.reduceLT, Nat.reduceLeDiff, Nat.lt_add_one, px_tg, Int.cast_ofNat_Int, Int.reduceAdd, Int.reduceSub, Int.reduceMul, Int.reduceToNat, Int.reduceLE, Int.reduceLT, Int.reduceNeg, Int.reduceEq, Bool.or_false, Bool.false_or, Bool.or_true, Bool.true_or, List.length_cons, List.length_nil, List.nil_append, List.cons_append, Option.toList_some, Option.toList_none, reduceCtorEq, Option.some.injEq, Nat.zero_le, Nat.reduceMul, Nat.mul_zero, Nat.add_zero, Int.reduceDiv, Int.reduceMod, Int.toNat_natCast, Nat.lt_irrefl, Int.natCast_add, Int.cast_ofNat_Int, px_mds_RX11_0, px_mds_RX11_1, dec_X11_isPlace, px_eq_iff, px_lt_iff, px_le_iff, px_up_o, px_up_eq, px_up_ne, px_cp_o, pm_k, pm_l]
    exact h0 (fun r => q r.1)
set_option maxHeartbeats 4000000 in
set_option maxRecDepth 100000 in
theorem c_X11_shown {G : px_G} {c : pc_Ch} {w : Int} {μ : px_Mem} {Q : Option px_X → px_Mem → Prop} (hc : pm_ok c) (hw : 0 ≤ w ∧ w ≤ 3) (h : Q (some (.inl (if w = 0 then c.1 else if w = 1 then c.2.1 else if w = 2 then c.2.2.1 else c.2.2.2))) μ) : px_C G yX11_shown cX11_shown 2 (some .int) 1 [.inl (pm_pk c), .inl w] μ Q := by
  rcases (show w = 0 ∨ w = 1 ∨ w = 2 ∨ w = 3 by omega) with rfl | rfl | rfl | rfl
  · refine px_enter RX11 (by decide +kernel) rfl (by simp) (by simp [px_c1]) ?_
    simp only [List.map_cons, List.map_nil, List.length_cons, List.length_nil, List.replicate, List.append_nil, Nat.reduceAdd, Nat.reduceSub, List.cons_append, List.nil_append]
    refine px_go (fun _ => false) 400 ?_
    simp (disch := omega) only [px_lits, false_implies, true_implies, px_dec_ok, px_run_s, px_rules, px_rule_is, px_mats, px_calls, ↓reduceIte, eq_self, Bool.false_eq_true, px_flds, px_o_some, px_fvs, px_pfs, px_cts, px_cls, px_acs_, px_acn, true_and, and_true, true_or, or_true, false_or, or_false, and_self, not_true_eq_false, not_false_eq_true, Classical.not_not, Nat.reduceAdd, Nat.reduceSub, Nat.reduceBEq, Nat.reduceLT, Nat.reduceLeDiff, Nat.lt_add_one, px_tg, Int.cast_ofNat_Int, Int.reduceAdd, Int.reduceSub, Int.reduceMul, Int.reduceToNat, Int.reduceLE, Int.reduceLT, Int.reduceNeg, Int.reduceEq, Bool.or_false, Bool.false_or, Bool.or_true, Bool.true_or, List.length_cons, List.length_nil, List.nil_append, List.cons_append, Option.toList_some, Option.toList_none, reduceCtorEq, Option.some.injEq, Nat.zero_le, Nat.reduceMul, Nat.mul_zero, Nat.add_zero, Int.reduceDiv, Int.reduceMod, Int.toNat_natCast, Nat.lt_irrefl, Int.natCast_add, Int.cast_ofNat_Int, px_mds_RX11_0, px_mds_RX11_1, dec_X11_shown, px_eq_iff, px_lt_iff, px_le_iff, px_up_o, px_up_eq, px_up_ne, px_cp_o]
    refine c_X11_number hc ?_
    refine px_go (fun _ => false) 400 ?_
    simp (disch := omega) only [px_lits, false_implies, true_implies, px_dec_ok, px_run_s, px_rules, px_rule_is, px_mats, px_calls, ↓reduceIte, eq_self, Bool.false_eq_true, px_flds, px_o_some, px_fvs, px_pfs, px_cts, px_cls, px_acs_, px_acn, true_and, and_true, true_or, or_true, false_or, or_false, and_self, not_true_eq_false, not_false_eq_true, Classical.not_not, Nat.reduceAdd, Nat.reduceSub, Nat.reduceBEq, Nat.reduceLT, Nat.reduceLeDiff, Nat.lt_add_one, px_tg, Int.cast_ofNat_Int, Int.reduceAdd, Int.reduceSub, Int.reduceMul, Int.reduceToNat, Int.reduceLE, Int.reduceLT, Int.reduceNeg, Int.reduceEq, Bool.or_false, Bool.false_or, Bool.or_true, Bool.true_or, List.length_cons, List.length_nil, List.nil_append, List.cons_append, Option.toList_some, Option.toList_none, reduceCtorEq, Option.some.injEq, Nat.zero_le, Nat.reduceMul, Nat.mul_zero, Nat.add_zero, Int.reduceDiv, Int.reduceMod, Int.toNat_natCast, Nat.lt_irrefl, Int.natCast_add, Int.cast_ofNat_Int, px_mds_RX11_0, px_mds_RX11_1, dec_X11_shown, px_eq_iff, px_lt_iff, px_le_iff, px_up_o, px_up_eq, px_up_ne, px_cp_o]
    exact h
  · refine px_enter RX11 (by decide +kernel) rfl (by simp) (by simp [px_c1]) ?_
    simp only [List.map_cons, List.map_nil, List.length_cons, List.length_nil, List.replicate, List.append_nil, Nat.reduceAdd, Nat.reduceSub, List.cons_append, List.nil_append]
    refine px_go (fun _ => false) 400 ?_
    simp (disch := omega) only [px_lits, false_implies, true_implies, px_dec_ok, px_run_s, px_rules, px_rule_is, px_mats, px_calls, ↓reduceIte, eq_self, Bool.false_eq_true, px_flds, px_o_some, px_fvs, px_pfs, px_cts, px_cls, px_acs_, px_acn, true_and, and_true, true_or, or_true, false_or, or_false, and_self, not_true_eq_false, not_false_eq_true, Classical.not_not, Nat.reduceAdd, Nat.reduceSub, Nat.reduceBEq, Nat.reduceLT, Nat.reduceLeDiff, Nat.lt_add_one, px_tg, Int.cast_ofNat_Int, Int.reduceAdd, Int.reduceSub, Int.reduceMul, Int.reduceToNat, Int.reduceLE, Int.reduceLT, Int.reduceNeg, Int.reduceEq, Bool.or_false, Bool.false_or, Bool.or_true, Bool.true_or, List.length_cons, List.length_nil, List.nil_append, List.cons_append, Option.toList_some, Option.toList_none, reduceCtorEq, Option.some.injEq, Nat.zero_le, Nat.reduceMul, Nat.mul_zero, Nat.add_zero, Int.reduceDiv, Int.reduceMod, Int.toNat_natCast, Nat.lt_irrefl, Int.natCast_add, Int.cast_ofNat_Int, px_mds_RX11_0, px_mds_RX11_1, dec_X11_shown, px_eq_iff, px_lt_iff, px_le_iff, px_up_o, px_up_eq, px_up_ne, px_cp_o]
    refine c_X11_sort hc ?_
    refine px_go (fun _ => false) 400 ?_
    simp (disch := omega) only [px_lits, false_implies, true_implies, px_dec_ok, px_run_s, px_rules, px_rule_is, px_mats, px_calls, ↓reduceIte, eq_self, Bool.false_eq_true, px_flds, px_o_some, px_fvs, px_pfs, px_cts, px_cls, px_acs_, px_acn, true_and, and_true, true_or, or_true, false_or, or_false, and_self, not_true_eq_false, not_false_eq_true, Classical.not_not, Nat.reduceAdd, Nat.reduceSub, Nat.reduceBEq, Nat.reduceLT, Nat.reduceLeDiff, Nat.lt_add_one, px_tg, Int.cast_ofNat_Int, Int.reduceAdd, Int.reduceSub, Int.reduceMul, Int.reduceToNat, Int.reduceLE, Int.reduceLT, Int.reduceNeg, Int.reduceEq, Bool.or_false, Bool.false_or, Bool.or_true, Bool.true_or, List.length_cons, List.length_nil, List.nil_append, List.cons_append, Option.toList_some, Option.toList_none, reduceCtorEq, Option.some.injEq, Nat.zero_le, Nat.reduceMul, Nat.mul_zero, Nat.add_zero, Int.reduceDiv, Int.reduceMod, Int.toNat_natCast, Nat.lt_irrefl, Int.natCast_add, Int.cast_ofNat_Int, px_mds_RX11_0, px_mds_RX11_1, dec_X11_shown, px_eq_iff, px_lt_iff, px_le_iff, px_up_o, px_up_eq, px_up_ne, px_cp_o]
    exact h
  · refine px_enter RX11 (by decide +kernel) rfl (by simp) (by simp [px_c1]) ?_
    simp only [List.map_cons, List.map_nil, List.length_cons, List.length_nil, List.replicate, List.append_nil, Nat.reduceAdd, Nat.reduceSub, List.cons_append, List.nil_append]
    refine px_go (fun _ => false) 400 ?_
    simp (disch := omega) only [px_lits, false_implies, true_implies, px_dec_ok, px_run_s, px_rules, px_rule_is, px_mats, px_calls, ↓reduceIte, eq_self, Bool.false_eq_true, px_flds, px_o_some, px_fvs, px_pfs, px_cts, px_cls, px_acs_, px_acn, true_and, and_true, true_or, or_true, false_or, or_false, and_self, not_true_eq_false, not_false_eq_true, Classical.not_not, Nat.reduceAdd, Nat.reduceSub, Nat.reduceBEq, Nat.reduceLT, Nat.reduceLeDiff, Nat.lt_add_one, px_tg, Int.cast_ofNat_Int, Int.reduceAdd, Int.reduceSub, Int.reduceMul, Int.reduceToNat, Int.reduceLE, Int.reduceLT, Int.reduceNeg, Int.reduceEq, Bool.or_false, Bool.false_or, Bool.or_true, Bool.true_or, List.length_cons, List.length_nil, List.nil_append, List.cons_append, Option.toList_some, Option.toList_none, reduceCtorEq, Option.some.injEq, Nat.zero_le, Nat.reduceMul, Nat.mul_zero, Nat.add_zero, Int.reduceDiv, Int.reduceMod, Int.toNat_natCast, Nat.lt_irrefl, Int.natCast_add, Int.cast_ofNat_Int, px_mds_RX11_0, px_mds_RX11_1, dec_X11_shown, px_eq_iff, px_lt_iff, px_le_iff, px_up_o, px_up_eq, px_up_ne, px_cp_o]
    refine c_X11_place hc ?_
    refine px_go (fun _ => false) 400 ?_
    simp (disch := omega) only [px_lits, false_implies, true_implies, px_dec_ok, px_run_s, px_rules, px_rule_is, px_mats, px_calls, ↓reduceIte, eq_self, Bool.false_eq_true, px_flds, px_o_some, px_fvs, px_pfs, px_cts, px_cls, px_acs_, px_acn, true_and, and_true, true_or, or_true, false_or, or_false, and_self, not_true_eq_false, not_false_eq_true, Classical.not_not, Nat.reduceAdd, Nat.reduceSub, Nat.reduceBEq, Nat.reduceLT, Nat.reduceLeDiff, Nat.lt_add_one, px_tg, Int.cast_ofNat_Int, Int.reduceAdd, Int.reduceSub, Int.reduceMul, Int.reduceToNat, Int.reduceLE, Int.reduceLT, Int.reduceNeg, Int.reduceEq, Bool.or_false, Bool.false_or, Bool.or_true, Bool.true_or, List.length_cons, List.length_nil, List.nil_append, List.cons_append, Option.toList_some, Option.toList_none, reduceCtorEq, Option.some.injEq, Nat.zero_le, Nat.reduceMul, Nat.mul_zero, Nat.add_zero, Int.reduceDiv, Int.reduceMod, Int.toNat_natCast, Nat.lt_irrefl, Int.natCast_add, Int.cast_ofNat_Int, px_mds_RX11_0, px_mds_RX11_1, dec_X11_shown, px_eq_iff, px_lt_iff, px_le_iff, px_up_o, px_up_eq, px_up_ne, px_cp_o]
    exact h
  · refine px_enter RX11 (by decide +kernel) rfl (by simp) (by simp [px_c1]) ?_
    simp only [List.map_cons, List.map_nil, List.length_cons, List.length_nil, List.replicate, List.append_nil, Nat.reduceAdd, Nat.reduceSub, List.cons_append, List.nil_append]
    refine px_go (fun _ => false) 400 ?_
    simp (disch := omega) only [px_lits, false_implies, true_implies, px_dec_ok, px_run_s, px_rules, px_rule_is, px_mats, px_calls, ↓reduceIte, eq_self, Bool.false_eq_true, px_flds, px_o_some, px_fvs, px_pfs, px_cts, px_cls, px_acs_, px_acn, true_and, and_true, true_or, or_true, false_or, or_false, and_self, not_true_eq_false, not_false_eq_true, Classical.not_not, Nat.reduceAdd, Nat.reduceSub, Nat.reduceBEq, Nat.reduceLT, Nat.reduceLeDiff, Nat.lt_add_one, px_tg, Int.cast_ofNat_Int, Int.reduceAdd, Int.reduceSub, Int.reduceMul, Int.reduceToNat, Int.reduceLE, Int.reduceLT, Int.reduceNeg, Int.reduceEq, Bool.or_false, Bool.false_or, Bool.or_true, Bool.true_or, List.length_cons, List.length_nil, List.nil_append, List.cons_append, Option.toList_some, Option.toList_none, reduceCtorEq, Option.some.injEq, Nat.zero_le, Nat.reduceMul, Nat.mul_zero, Nat.add_zero, Int.reduceDiv, Int.reduceMod, Int.toNat_natCast, Nat.lt_irrefl, Int.natCast_add, Int.cast_ofNat_Int, px_mds_RX11_0, px_mds_RX11_1, dec_X11_shown, px_eq_iff, px_lt_iff, px_le_iff, px_up_o, px_up_eq, px_up_ne, px_cp_o]
    refine c_X11_letterOf hc ?_
    refine px_go (fun _ => false) 400 ?_
    simp (disch := omega) only [px_lits, false_implies, true_implies, px_dec_ok, px_run_s, px_rules, px_rule_is, px_mats, px_calls, ↓reduceIte, eq_self, Bool.false_eq_true, px_flds, px_o_some, px_fvs, px_pfs, px_cts, px_cls, px_acs_, px_acn, true_and, and_true, true_or, or_true, false_or, or_false, and_self, not_true_eq_false, not_false_eq_true, Classical.not_not, Nat.reduceAdd, Nat.reduceSub, Nat.reduceBEq, Nat.reduceLT, Nat.reduceLeDiff, Nat.lt_add_one, px_tg, Int.cast_ofNat_Int, Int.reduceAdd, Int.reduceSub, Int.reduceMul, Int.reduceToNat, Int.reduceLE, Int.reduceLT, Int.reduceNeg, Int.reduceEq, Bool.or_false, Bool.false_or, Bool.or_true, Bool.true_or, List.length_cons, List.length_nil, List.nil_append, List.cons_append, Option.toList_some, Option.toList_none, reduceCtorEq, Option.some.injEq, Nat.zero_le, Nat.reduceMul, Nat.mul_zero, Nat.add_zero, Int.reduceDiv, Int.reduceMod, Int.toNat_natCast, Nat.lt_irrefl, Int.natCast_add, Int.cast_ofNat_Int, px_mds_RX11_0, px_mds_RX11_1, dec_X11_shown, px_eq_iff, px_lt_iff, px_le_iff, px_up_o, px_up_eq, px_up_ne, px_cp_o]
    exact h
set_option maxHeartbeats 4000000 in
set_option maxRecDepth 100000 in
theorem c_X11_whyNot {G : px_G} {s : Nat} {k : Int} {μ : px_Mem} {Q : Option px_X → px_Mem → Prop} (hs : s < 4) (hk : k = 1 ∨ k = 2) (hm : μ 211 s = 0 ∨ μ 211 s = 1 ∨ μ 211 s = 2) (h0 : μ 211 s = 0 → Q (some (.inl (-1000000011))) μ) (h1 : μ 211 s = k → Q (some (.inl 0)) μ) (h2 : μ 211 s ≠ 0 → μ 211 s ≠ k → Q (some (.inl (-1000000012))) μ) : px_C G yX11_whyNot cX11_whyNot 3 (some .int) 0 [.inr (.inl (some 205)), .inl s, .inl k] μ Q := by
  refine px_enter RX11 (by decide +kernel) rfl (by simp) (by simp [px_c1]) ?_
  simp only [List.map_cons, List.map_nil, List.length_cons, List.length_nil, List.replicate, List.append_nil, Nat.reduceAdd, Nat.reduceSub, List.cons_append, List.nil_append]
  refine px_go (fun _ => false) 400 ?_
  simp (disch := omega) only [px_lits, false_implies, true_implies, px_dec_ok, px_run_s, px_rules, px_rule_is, px_mats, px_calls, ↓reduceIte, eq_self, Bool.false_eq_true, px_flds, px_o_some, px_fvs, px_pfs, px_cts, px_cls, px_acs_, px_acn, true_and, and_true, true_or, or_true, false_or, or_false, and_self, not_true_eq_false, not_false_eq_true, Classical.not_not, Nat.reduceAdd, Nat.reduceSub, Nat.reduceBEq, Nat.reduceLT, Nat.reduceLeDiff, Nat.lt_add_one, px_tg, Int.cast_ofNat_Int, Int.reduceAdd, Int.reduceSub, Int.reduceMul, Int.reduceToNat, Int.reduceLE, Int.reduceLT, Int.reduceNeg, Int.reduceEq, Bool.or_false, Bool.false_or, Bool.or_true, Bool.true_or, List.length_cons, List.length_nil, List.nil_append, List.cons_append, Option.toList_some, Option.toList_none, reduceCtorEq, Option.some.injEq, Nat.zero_le, Nat.reduceMul, Nat.mul_zero, Nat.add_zero, Int.reduceDiv, Int.reduceMod, Int.toNat_natCast, Nat.lt_irrefl, Int.natCast_add, Int.cast_ofNat_Int, px_mds_RX11_0, px_mds_RX11_1, dec_X11_whyNot, px_eq_iff, px_lt_iff, px_le_iff, px_up_o, px_up_eq, px_up_ne, px_cp_o, pm_k, pm_l]
  exact ⟨by omega, fun q => ⟨by omega, fun r => h2 q r, fun r => h1 r⟩, fun q => h0 q⟩
