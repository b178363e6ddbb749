/-! ===== shelves, lots ===== -/
theorem pc_sk {S : Nat} (hS : px_kd S = 7) : px_kd (S + 1) = 3 ∧ px_kd (S + 2) = 8 := by
  have h1 : S < 221 := px_kd_lt (by omega)
  have key : ∀ k : Fin 221, px_kd k = 7 → px_kd (k + 1) = 3 ∧ px_kd (k + 2) = 8 := by decide +kernel
  exact key ⟨S, h1⟩ hS
def pc_shv (μ : px_Mem) (S : Nat) : Option (pc_Ch ⊕ List Int) := if μ S 2 = 0 then none else if μ S 2 = 1 then some (.inl (μ (S + 1) 0, μ (S + 1) 1, μ (S + 1) 2, μ (S + 1) 3)) else some (.inr (pc_tx μ (S + 2)))
def pc_shb (μ : px_Mem) (S : Nat) : Prop := (μ S 2 = 0 ∨ μ S 2 = 1 ∨ μ S 2 = 2) ∧ (0 ≤ μ (S + 2) 1 ∧ μ (S + 2) 1 ≤ 28)
set_option maxHeartbeats 4000000 in
set_option maxRecDepth 100000 in
theorem c_X7_holdChange {G : px_G} {S h : Nat} {i : Int} {μ : px_Mem} {Q : Option px_X → px_Mem → Prop} (hS : px_kd S = 7) (hh : px_kd h = 0) (hn : 0 ≤ μ h 4 ∧ μ h 4 ≤ 16) (hi : 0 ≤ i ∧ i < μ h 4) (hb : pc_shb μ S) (hne : h + 4 < S ∨ S + 1 < h)
    (h1 : ∀ (μ1 : px_Mem), (∀ o, o ≠ S → o ≠ S + 1 → μ1 o = μ o) → pc_shv μ1 S = some (.inl (μ (h + 1) i, μ (h + 2) i, μ (h + 3) i, μ (h + 4) i)) → pc_shb μ1 S → Q (some (.inl (μ (h + 1) i))) μ1) : px_C G yX7_holdChange cX7_holdChange 3 (some .int) 0 [.inr (.inl (some S)), .inr (.inl (some h)), .inl i] μ Q := by
  obtain ⟨hk, hl⟩ := pc_hk hh
  obtain ⟨s1, s2⟩ := pc_sk hS
  refine px_enter RX7 (by decide +kernel) rfl (by simp) (by simp [px_c1]) ?_
  simp only [List.map_cons, List.map_nil, List.length_cons, List.length_nil, List.replicate, List.append_nil, Nat.reduceAdd, Nat.reduceSub, List.cons_append, List.nil_append]
  refine px_go (fun _ => false) 400 ?_
  simp (disch := omega) only [px_lits, false_implies, true_implies, px_dec_ok, px_run_s, px_rules, px_rule_is, px_mats, px_calls, ↓reduceIte, eq_self, Bool.false_eq_true, px_flds, px_o_some, px_fvs, px_pfs, px_cts, px_cls, px_acs_, px_acn, true_and, and_true, true_or, or_true, false_or, or_false, and_self, not_true_eq_false, not_false_eq_true, Classical.not_not, Nat.reduceAdd, Nat.reduceSub, Nat.reduceBEq, Nat.reduceLT, Nat.reduceLeDiff, Nat.lt_add_one, px_tg, Int.cast_ofNat_Int, Int.reduceAdd, Int.reduceSub, Int.reduceMul, Int.reduceToNat, Int.reduceLE, Int.reduceLT, Int.reduceNeg, Int.reduceEq, Bool.or_false, Bool.false_or, Bool.or_true, Bool.true_or, List.length_cons, List.length_nil, List.nil_append, List.cons_append, Option.toList_some, Option.toList_none, reduceCtorEq, Option.some.injEq, Nat.zero_le, Nat.reduceMul, Nat.mul_zero, Nat.add_zero, Int.reduceDiv, Int.reduceMod, Int.toNat_natCast, Nat.lt_irrefl, Int.natCast_add, Int.cast_ofNat_Int, px_mds_RX7_0, dec_X7_holdChange, px_eq_iff, px_lt_iff, px_le_iff, px_up_o, px_up_eq, px_up_ne, px_cp_o, hS, s1, s2, hh, hk, hl]
  repeat refine ⟨by omega, ?_⟩
  rw [show (S : Int) + 1 - S = 1 by omega]
  refine h1 _ (fun o h2 h3 => ?_) ?_ ?_
  · simp (disch := omega) only [px_up_o]
  · unfold pc_shv
    simp (disch := omega) only [px_up_o, px_up_eq, px_up_ne]
    rfl
  · unfold pc_shb
    simp (disch := omega) only [px_up_o, px_up_eq, px_up_ne]
    exact ⟨by simp, hb.2⟩
set_option maxHeartbeats 4000000 in
set_option maxRecDepth 100000 in
theorem c_X7_holdWriting {G : px_G} {S w : Nat} {μ : px_Mem} {Q : Option px_X → px_Mem → Prop} (hS : px_kd S = 7) (hw : px_kd w = 8) (hn : 0 ≤ μ w 1 ∧ μ w 1 ≤ 28) (hne : w ≠ S + 2)
    (h1 : ∀ (μ1 : px_Mem), (∀ o, (o < S ∨ S + 3 < o) → μ1 o = μ o) → pc_shv μ1 S = some (.inr (pc_tx μ w)) → pc_shb μ1 S → Q (some (.inl (μ w 1))) μ1) : px_C G yX7_holdWriting cX7_holdWriting 2 (some .int) 2 [.inr (.inl (some S)), .inr (.inl (some w))] μ Q := by
  obtain ⟨s1, s2⟩ := pc_sk hS
  refine px_enter RX7 (by decide +kernel) rfl (by simp) (by simp [px_c1]) ?_
  simp only [List.map_cons, List.map_nil, List.length_cons, List.length_nil, List.replicate, List.append_nil, Nat.reduceAdd, Nat.reduceSub, List.cons_append, List.nil_append]
  refine px_go (fun _ => false) 400 ?_
  simp (disch := omega) only [px_lits, false_implies, true_implies, px_dec_ok, px_run_s, px_rules, px_rule_is, px_mats, px_calls, ↓reduceIte, eq_self, Bool.false_eq_true, px_flds, px_o_some, px_fvs, px_pfs, px_cts, px_cls, px_acs_, px_acn, true_and, and_true, true_or, or_true, false_or, or_false, and_self, not_true_eq_false, not_false_eq_true, Classical.not_not, Nat.reduceAdd, Nat.reduceSub, Nat.reduceBEq, Nat.reduceLT, Nat.reduceLeDiff, Nat.lt_add_one, px_tg, Int.cast_ofNat_Int, Int.reduceAdd, Int.reduceSub, Int.reduceMul, Int.reduceToNat, Int.reduceLE, Int.reduceLT, Int.reduceNeg, Int.reduceEq, Bool.or_false, Bool.false_or, Bool.or_true, Bool.true_or, List.length_cons, List.length_nil, List.nil_append, List.cons_append, Option.toList_some, Option.toList_none, reduceCtorEq, Option.some.injEq, Nat.zero_le, Nat.reduceMul, Nat.mul_zero, Nat.add_zero, Int.reduceDiv, Int.reduceMod, Int.toNat_natCast, Nat.lt_irrefl, Int.natCast_add, Int.cast_ofNat_Int, px_mds_RX7_0, dec_X7_holdWriting, px_eq_iff, px_lt_iff, px_le_iff, px_up_o, px_up_eq, px_up_ne, px_cp_o, hS, s1, s2, hw]
  refine c_X9_copyFrom s2 hw hne hn (fun μ1 f1 f2 f3 => ?_)
  refine px_go (fun _ => false) 400 ?_
  simp (disch := omega) only [px_lits, false_implies, true_implies, px_dec_ok, px_run_s, px_rules, px_rule_is, px_mats, px_calls, ↓reduceIte, eq_self, Bool.false_eq_true, px_flds, px_o_some, px_fvs, px_pfs, px_cts, px_cls, px_acs_, px_acn, true_and, and_true, true_or, or_true, false_or, or_false, and_self, not_true_eq_false, not_false_eq_true, Classical.not_not, Nat.reduceAdd, Nat.reduceSub, Nat.reduceBEq, Nat.reduceLT, Nat.reduceLeDiff, Nat.lt_add_one, px_tg, Int.cast_ofNat_Int, Int.reduceAdd, Int.reduceSub, Int.reduceMul, Int.reduceToNat, Int.reduceLE, Int.reduceLT, Int.reduceNeg, Int.reduceEq, Bool.or_false, Bool.false_or, Bool.or_true, Bool.true_or, List.length_cons, List.length_nil, List.nil_append, List.cons_append, Option.toList_some, Option.toList_none, reduceCtorEq, Option.some.injEq, Nat.zero_le, Nat.reduceMul, Nat.mul_zero, Nat.add_zero, Int.reduceDiv, Int.reduceMod, Int.toNat_natCast, Nat.lt_irrefl, Int.natCast_add, Int.cast_ofNat_Int, px_mds_RX7_0, dec_X7_holdWriting, px_eq_iff, px_lt_iff, px_le_iff, px_up_o, px_up_eq, px_up_ne, px_cp_o, hS, s1, s2, hw, f3]
  refine ⟨by omega, ?_⟩
  rw [show (S : Int) + 2 - S = 2 by omega]
  refine h1 _ (fun o ho => ?_) ?_ ?_
  · simp (disch := omega) only [px_up_o]
    exact f1 o (by omega) (by omega)
  · unfold pc_shv
    simp (disch := omega) only [px_up_o, px_up_eq, px_up_ne]
    rw [if_neg (by omega), if_neg (by omega), ← f2]
    unfold pc_tx
    simp (disch := omega) only [px_up_o, px_up_eq, px_up_ne]
  · unfold pc_shb
    simp (disch := omega) only [px_up_o, px_up_eq, px_up_ne]
    rw [f3]
    exact ⟨by simp, hn⟩
set_option maxHeartbeats 4000000 in
set_option maxRecDepth 100000 in
theorem c_X2_start {G : px_G} {x : Int} {μ : px_Mem} {Q : Option px_X → px_Mem → Prop} (hx : -2147483648 ≤ x ∧ x < 2147483648) (h1 : Q none (px_up μ 204 0 x)) : px_C G yX2_start cX2_start 2 none 0 [.inr (.inl (some 204)), .inl x] μ Q := by
  have k : px_kd 204 = 2 := by decide +kernel
  refine px_enter RX2 (by decide +kernel) rfl (by simp) (by simp [px_c1]) ?_
  simp only [List.map_cons, List.map_nil, List.length_cons, List.length_nil, List.replicate, List.append_nil, Nat.reduceAdd, Nat.reduceSub, List.cons_append, List.nil_append]
  refine px_go (fun _ => false) 400 ?_
  simp (disch := omega) only [px_lits, false_implies, true_implies, px_dec_ok, px_run_s, px_rules, px_rule_is, px_mats, px_calls, ↓reduceIte, eq_self, Bool.false_eq_true, px_flds, px_o_some, px_fvs, px_pfs, px_cts, px_cls, px_acs_, px_acn, true_and, and_true, true_or, or_true, false_or, or_false, and_self, not_true_eq_false, not_false_eq_true, Classical.not_not, Nat.reduceAdd, Nat.reduceSub, Nat.reduceBEq, Nat.reduceLT, Nat.reduceLeDiff, Nat.lt_add_one, px_tg, Int.cast_ofNat_Int, Int.reduceAdd, Int.reduceSub, Int.reduceMul, Int.reduceToNat, Int.reduceLE, Int.reduceLT, Int.reduceNeg, Int.reduceEq, Bool.or_false, Bool.false_or, Bool.or_true, Bool.true_or, List.length_cons, List.length_nil, List.nil_append, List.cons_append, Option.toList_some, Option.toList_none, reduceCtorEq, Option.some.injEq, Nat.zero_le, Nat.reduceMul, Nat.mul_zero, Nat.add_zero, Int.reduceDiv, Int.reduceMod, Int.toNat_natCast, Nat.lt_irrefl, Int.natCast_add, Int.cast_ofNat_Int, dec_X2_start, px_eq_iff, px_lt_iff, px_le_iff, px_up_o, px_up_eq, px_up_ne, px_cp_o, k]
  exact ⟨hx, h1⟩
set_option maxHeartbeats 4000000 in
set_option maxRecDepth 100000 in
theorem c_X2_next {G : px_G} {b : Int} {μ : px_Mem} {Q : Option px_X → px_Mem → Prop} (hx : 0 ≤ μ 204 0 ∧ μ 204 0 < 2147483647) (hb : 1 ≤ b ∧ b < 2147483648) (h1 : Q (some (.inl (μ 204 0 * 16807 % 2147483647 % b))) (px_up μ 204 0 (μ 204 0 * 16807 % 2147483647))) : px_C G yX2_next cX2_next 2 (some .int) 0 [.inr (.inl (some 204)), .inl b] μ Q := by
  have k : px_kd 204 = 2 := by decide +kernel
  refine px_enter RX2 (by decide +kernel) rfl (by simp) (by simp [px_c1]) ?_
  simp only [List.map_cons, List.map_nil, List.length_cons, List.length_nil, List.replicate, List.append_nil, Nat.reduceAdd, Nat.reduceSub, List.cons_append, List.nil_append]
  refine px_go (fun _ => false) 400 ?_
  simp (disch := omega) only [px_lits, false_implies, true_implies, px_dec_ok, px_run_s, px_rules, px_rule_is, px_mats, px_calls, ↓reduceIte, eq_self, Bool.false_eq_true, px_flds, px_o_some, px_fvs, px_pfs, px_cts, px_cls, px_acs_, px_acn, true_and, and_true, true_or, or_true, false_or, or_false, and_self, not_true_eq_false, not_false_eq_true, Classical.not_not, Nat.reduceAdd, Nat.reduceSub, Nat.reduceBEq, Nat.reduceLT, Nat.reduceLeDiff, Nat.lt_add_one, px_tg, Int.cast_ofNat_Int, Int.reduceAdd, Int.reduceSub, Int.reduceMul, Int.reduceToNat, Int.reduceLE, Int.reduceLT, Int.reduceNeg, Int.reduceEq, Bool.or_false, Bool.false_or, Bool.or_true, Bool.true_or, List.length_cons, List.length_nil, List.nil_append, List.cons_append, Option.toList_some, Option.toList_none, reduceCtorEq, Option.some.injEq, Nat.zero_le, Nat.reduceMul, Nat.mul_zero, Nat.add_zero, Int.reduceDiv, Int.reduceMod, Int.toNat_natCast, Nat.lt_irrefl, Int.natCast_add, Int.cast_ofNat_Int, dec_X2_next, px_eq_iff, px_lt_iff, px_le_iff, px_up_o, px_up_eq, px_up_ne, px_cp_o, k]
  repeat refine ⟨by omega, ?_⟩
  exact ⟨fun _ => ⟨by omega, by omega, h1⟩, fun q => absurd hb.1 q⟩
