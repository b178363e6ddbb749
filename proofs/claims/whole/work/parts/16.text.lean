/-! ===== a text of the class: a row of twenty-eight, and how many ===== -/
theorem pc_wk {w : Nat} (hw : px_kd w = 8) : px_kd (w + 1) = 20 ∧ px_ln (w + 1) = 28 := by
  have h1 : w < 221 := px_kd_lt (by omega)
  have key : ∀ k : Fin 221, px_kd k = 8 → px_kd (k + 1) = 20 ∧ px_ln (k + 1) = 28 := by decide +kernel
  exact key ⟨w, h1⟩ hw
theorem pc_do_put {T : List Int} {n p c : Int} : pc_do T (n, 0, p, c) = if 0 ≤ p ∧ p ≤ T.length then some (T.insertIdx p.toNat c) else none := rfl
theorem pc_do_out {T : List Int} {n p c : Int} : pc_do T (n, 1, p, c) = if 0 ≤ p ∧ T[p.toNat]? = some c then some (T.eraseIdx p.toNat) else none := rfl
def pc_tx (μ : px_Mem) (w : Nat) : List Int := (List.range (μ w 1).toNat).map (fun i : Nat => μ (w + 1) i)
theorem pc_tx_len {μ : px_Mem} {w : Nat} : (pc_tx μ w).length = (μ w 1).toNat := by unfold pc_tx; rw [List.length_map, List.length_range]
theorem pc_tx_get {μ : px_Mem} {w n : Nat} : (pc_tx μ w)[n]? = if n < (μ w 1).toNat then some (μ (w + 1) n) else none := by
  unfold pc_tx
  rw [List.getElem?_map]
  split
  · rename_i h1
    rw [List.getElem?_range h1]
    rfl
  · rename_i h1
    rw [List.getElem?_eq_none (by rw [List.length_range]; omega)]
    rfl
theorem pc_tx_at {μ : px_Mem} {w : Nat} {i : Int} (h0 : 0 ≤ i) (h1 : i < μ w 1) : (pc_tx μ w)[i.toNat]? = some (μ (w + 1) i) := by
  rw [pc_tx_get, if_pos (by omega), Int.toNat_of_nonneg h0]
set_option maxHeartbeats 4000000 in
set_option maxRecDepth 100000 in
theorem c_X9_at {G : px_G} {w : Nat} {i : Int} {μ : px_Mem} {Q : Option px_X → px_Mem → Prop} (hw : px_kd w = 8) (hn : 0 ≤ μ w 1 ∧ μ w 1 ≤ 28) (hi : -2147483648 ≤ i ∧ i < 2147483648) (h1 : 0 ≤ i → i < μ w 1 → Q (some (.inl (μ (w + 1) i))) μ) (h0 : ¬ (0 ≤ i ∧ i < μ w 1) → Q (some (.inl (-1))) μ) : px_C G yX9_at cX9_at 2 (some .int) 0 [.inr (.inl (some w)), .inl i] μ Q := by
  obtain ⟨wk, wl⟩ := pc_wk hw
  refine px_enter RX9 (by decide +kernel) rfl (by simp) (by simp [px_c1]) ?_
  simp only [List.map_cons, List.map_nil, List.length_cons, List.length_nil, List.replicate, List.append_nil, Nat.reduceAdd, Nat.reduceSub, List.cons_append, List.nil_append]
  refine px_go (fun _ => false) 400 ?_
  simp only [px_lits, false_implies, true_implies, px_dec_ok, px_run_s, px_rules, px_rule_is, px_mats, px_calls, ↓reduceIte, eq_self, Bool.false_eq_true, px_flds, px_o_some, px_fvs, px_pfs, px_cts, px_cls, px_acs_, px_acn, true_and, and_true, true_or, or_true, false_or, or_false, and_self, not_true_eq_false, not_false_eq_true, Classical.not_not, Nat.reduceAdd, Nat.reduceSub, Nat.reduceBEq, Nat.reduceLT, Nat.reduceLeDiff, Nat.lt_add_one, px_tg, Int.cast_ofNat_Int, Int.reduceAdd, Int.reduceSub, Int.reduceMul, Int.reduceToNat, Int.reduceLE, Int.reduceLT, Int.reduceNeg, Int.reduceEq, Bool.or_false, Bool.false_or, Bool.or_true, Bool.true_or, List.length_cons, List.length_nil, List.nil_append, List.cons_append, Option.toList_some, Option.toList_none, reduceCtorEq, Option.some.injEq, Nat.zero_le, Nat.reduceMul, Nat.mul_zero, Nat.add_zero, Int.reduceDiv, Int.reduceMod, Int.toNat_natCast, Nat.lt_irrefl, Int.natCast_add, Int.cast_ofNat_Int, px_mds_RX9_0, dec_X9_at, hw, wk, wl]
  simp (disch := omega) only [px_lt_iff, px_le_iff]
  exact ⟨fun _ => h0 (by omega), fun _ => ⟨fun _ => h0 (by omega), fun _ => ⟨by omega, h1 (by omega) (by omega)⟩⟩⟩
set_option maxHeartbeats 4000000 in
set_option maxRecDepth 100000 in
theorem c_X9_hasPlace {G : px_G} {w : Nat} {s p : Int} {μ : px_Mem} {Q : Option px_X → px_Mem → Prop} (hw : px_kd w = 8) (hn : 0 ≤ μ w 1 ∧ μ w 1 ≤ 28) (hs : s = 0 ∨ s = 1) (hp : -2147483648 ≤ p ∧ p < 2147483648) (h1 : 0 ≤ p ∧ p + s ≤ μ w 1 → Q (some (.inl 1)) μ) (h0 : ¬ (0 ≤ p ∧ p + s ≤ μ w 1) → Q (some (.inl 0)) μ) : px_C G yX9_hasPlace cX9_hasPlace 3 (some .boolean) 0 [.inr (.inl (some w)), .inl s, .inl p] μ Q := by
  obtain ⟨wk, wl⟩ := pc_wk hw
  refine px_enter RX9 (by decide +kernel) rfl (by simp) (by simp [px_c1]) ?_
  simp only [List.map_cons, List.map_nil, List.length_cons, List.length_nil, List.replicate, List.append_nil, Nat.reduceAdd, Nat.reduceSub, List.cons_append, List.nil_append]
  refine px_go (fun _ => false) 400 ?_
  simp only [px_lits, false_implies, true_implies, px_dec_ok, px_run_s, px_rules, px_rule_is, px_mats, px_calls, ↓reduceIte, eq_self, Bool.false_eq_true, px_flds, px_o_some, px_fvs, px_pfs, px_cts, px_cls, px_acs_, px_acn, true_and, and_true, true_or, or_true, false_or, or_false, and_self, not_true_eq_false, not_false_eq_true, Classical.not_not, Nat.reduceAdd, Nat.reduceSub, Nat.reduceBEq, Nat.reduceLT, Nat.reduceLeDiff, Nat.lt_add_one, px_tg, Int.cast_ofNat_Int, Int.reduceAdd, Int.reduceSub, Int.reduceMul, Int.reduceToNat, Int.reduceLE, Int.reduceLT, Int.reduceNeg, Int.reduceEq, Bool.or_false, Bool.false_or, Bool.or_true, Bool.true_or, List.length_cons, List.length_nil, List.nil_append, List.cons_append, Option.toList_some, Option.toList_none, reduceCtorEq, Option.some.injEq, Nat.zero_le, Nat.reduceMul, Nat.mul_zero, Nat.add_zero, Int.reduceDiv, Int.reduceMod, Int.toNat_natCast, Nat.lt_irrefl, Int.natCast_add, Int.cast_ofNat_Int, px_mds_RX9_0, dec_X9_hasPlace, hw, wk, wl]
  simp (disch := omega) only [px_lt_iff, px_le_iff, px_eq_iff]
  repeat' first | apply And.intro | intro _
  all_goals first | (exact h1 (by omega)) | (exact h0 (by omega))
set_option maxHeartbeats 4000000 in
set_option maxRecDepth 100000 in
theorem c_X9_fits {G : px_G} {w : Nat} {n s p c : Int} {μ : px_Mem} {Q : Option px_X → px_Mem → Prop} (hw : px_kd w = 8) (hn : 0 ≤ μ w 1 ∧ μ w 1 ≤ 28) (hs : s = 0 ∨ s = 1) (hp : -2147483648 ≤ p ∧ p < 2147483648) (hc : -2147483648 ≤ c ∧ c < 2147483648) (hr : ∀ i, 0 ≤ i → i < μ w 1 → 97 ≤ μ (w + 1) i ∧ μ (w + 1) i ≤ 122)
    (h1 : ∀ T1, pc_do (pc_tx μ w) (n, s, p, c) = some T1 → Q (some (.inl 1)) μ) (h0 : pc_do (pc_tx μ w) (n, s, p, c) = none → Q (some (.inl 0)) μ) : px_C G yX9_fits cX9_fits 4 (some .boolean) 1 [.inr (.inl (some w)), .inl s, .inl p, .inl c] μ Q := by
  obtain ⟨wk, wl⟩ := pc_wk hw
  have hlen : (pc_tx μ w).length = (μ w 1).toNat := pc_tx_len
  refine px_enter RX9 (by decide +kernel) rfl (by simp) (by simp [px_c1]) ?_
  simp only [List.map_cons, List.map_nil, List.length_cons, List.length_nil, List.replicate, List.append_nil, Nat.reduceAdd, Nat.reduceSub, List.cons_append, List.nil_append]
  refine px_go (fun _ => false) 400 ?_
  simp only [px_lits, false_implies, true_implies, px_dec_ok, px_run_s, px_rules, px_rule_is, px_mats, px_calls, ↓reduceIte, eq_self, Bool.false_eq_true, px_flds, px_o_some, px_fvs, px_pfs, px_cts, px_cls, px_acs_, px_acn, true_and, and_true, true_or, or_true, false_or, or_false, and_self, not_true_eq_false, not_false_eq_true, Classical.not_not, Nat.reduceAdd, Nat.reduceSub, Nat.reduceBEq, Nat.reduceLT, Nat.reduceLeDiff, Nat.lt_add_one, px_tg, Int.cast_ofNat_Int, Int.reduceAdd, Int.reduceSub, Int.reduceMul, Int.reduceToNat, Int.reduceLE, Int.reduceLT, Int.reduceNeg, Int.reduceEq, Bool.or_false, Bool.false_or, Bool.or_true, Bool.true_or, List.length_cons, List.length_nil, List.nil_append, List.cons_append, Option.toList_some, Option.toList_none, reduceCtorEq, Option.some.injEq, Nat.zero_le, Nat.reduceMul, Nat.mul_zero, Nat.add_zero, Int.reduceDiv, Int.reduceMod, Int.toNat_natCast, Nat.lt_irrefl, Int.natCast_add, Int.cast_ofNat_Int, px_mds_RX9_0, dec_X9_fits, hw, wk, wl]
  refine c_X9_hasPlace hw hn hs hp (fun q => ?_) (fun q => ?_)
  · rcases hs with rfl | rfl
    · refine px_go (fun _ => false) 400 ?_
      simp only [px_lits, false_implies, true_implies, px_dec_ok, px_run_s, px_rules, px_rule_is, px_mats, px_calls, ↓reduceIte, eq_self, Bool.false_eq_true, px_flds, px_o_some, px_fvs, px_pfs, px_cts, px_cls, px_acs_, px_acn, true_and, and_true, true_or, or_true, false_or, or_false, and_self, not_true_eq_false, not_false_eq_true, Classical.not_not, Nat.reduceAdd, Nat.reduceSub, Nat.reduceBEq, Nat.reduceLT, Nat.reduceLeDiff, Nat.lt_add_one, px_tg, Int.cast_ofNat_Int, Int.reduceAdd, Int.reduceSub, Int.reduceMul, Int.reduceToNat, Int.reduceLE, Int.reduceLT, Int.reduceNeg, Int.reduceEq, Bool.or_false, Bool.false_or, Bool.or_true, Bool.true_or, List.length_cons, List.length_nil, List.nil_append, List.cons_append, Option.toList_some, Option.toList_none, reduceCtorEq, Option.some.injEq, Nat.zero_le, Nat.reduceMul, Nat.mul_zero, Nat.add_zero, Int.reduceDiv, Int.reduceMod, Int.toNat_natCast, Nat.lt_irrefl, Int.natCast_add, Int.cast_ofNat_Int, px_mds_RX9_0, dec_X9_fits, hw, wk, wl]
      exact h1 ((pc_tx μ w).insertIdx p.toNat c) (by rw [pc_do_put, if_pos (by rw [hlen]; omega)])
    · have := hr p q.1 (by omega)
      refine px_go (fun _ => false) 400 ?_
      simp only [px_lits, false_implies, true_implies, px_dec_ok, px_run_s, px_rules, px_rule_is, px_mats, px_calls, ↓reduceIte, eq_self, Bool.false_eq_true, px_flds, px_o_some, px_fvs, px_pfs, px_cts, px_cls, px_acs_, px_acn, true_and, and_true, true_or, or_true, false_or, or_false, and_self, not_true_eq_false, not_false_eq_true, Classical.not_not, Nat.reduceAdd, Nat.reduceSub, Nat.reduceBEq, Nat.reduceLT, Nat.reduceLeDiff, Nat.lt_add_one, px_tg, Int.cast_ofNat_Int, Int.reduceAdd, Int.reduceSub, Int.reduceMul, Int.reduceToNat, Int.reduceLE, Int.reduceLT, Int.reduceNeg, Int.reduceEq, Bool.or_false, Bool.false_or, Bool.or_true, Bool.true_or, List.length_cons, List.length_nil, List.nil_append, List.cons_append, Option.toList_some, Option.toList_none, reduceCtorEq, Option.some.injEq, Nat.zero_le, Nat.reduceMul, Nat.mul_zero, Nat.add_zero, Int.reduceDiv, Int.reduceMod, Int.toNat_natCast, Nat.lt_irrefl, Int.natCast_add, Int.cast_ofNat_Int, px_mds_RX9_0, dec_X9_fits, hw, wk, wl]
      simp (disch := omega) only [px_eq_iff]
      refine ⟨by omega, fun e => h0 ?_, fun e => h1 ((pc_tx μ w).eraseIdx p.toNat) ?_⟩
      · rw [pc_do_out, if_neg]
        rw [pc_tx_at q.1 (by omega)]
        rintro ⟨-, e2⟩
        exact e (Option.some.inj e2)
      · rw [pc_do_out, if_pos]
        rw [pc_tx_at q.1 (by omega), e]
        exact ⟨q.1, rfl⟩
  · refine px_go (fun _ => false) 400 ?_
    simp only [px_lits, false_implies, true_implies, px_dec_ok, px_run_s, px_rules, px_rule_is, px_mats, px_calls, ↓reduceIte, eq_self, Bool.false_eq_true, px_flds, px_o_some, px_fvs, px_pfs, px_cts, px_cls, px_acs_, px_acn, true_and, and_true, true_or, or_true, false_or, or_false, and_self, not_true_eq_false, not_false_eq_true, Classical.not_not, Nat.reduceAdd, Nat.reduceSub, Nat.reduceBEq, Nat.reduceLT, Nat.reduceLeDiff, Nat.lt_add_one, px_tg, Int.cast_ofNat_Int, Int.reduceAdd, Int.reduceSub, Int.reduceMul, Int.reduceToNat, Int.reduceLE, Int.reduceLT, Int.reduceNeg, Int.reduceEq, Bool.or_false, Bool.false_or, Bool.or_true, Bool.true_or, List.length_cons, List.length_nil, List.nil_append, List.cons_append, Option.toList_some, Option.toList_none, reduceCtorEq, Option.some.injEq, Nat.zero_le, Nat.reduceMul, Nat.mul_zero, Nat.add_zero, Int.reduceDiv, Int.reduceMod, Int.toNat_natCast, Nat.lt_irrefl, Int.natCast_add, Int.cast_ofNat_Int, px_mds_RX9_0, dec_X9_fits, hw, wk, wl]
    refine h0 ?_
    rcases hs with rfl | rfl
    · rw [pc_do_put, if_neg (by rw [hlen]; omega)]
    · rw [pc_do_out, if_neg]
      rw [pc_tx_get]
      rintro ⟨e1, e2⟩
      rw [if_neg (by omega)] at e2
      cases e2
set_option maxHeartbeats 4000000 in
set_option maxRecDepth 100000 in
theorem c_X9_apply {G : px_G} {w : Nat} {n s p c : Int} {T1 : List Int} {μ : px_Mem} {Q : Option px_X → px_Mem → Prop} (hw : px_kd w = 8) (hn : 0 ≤ μ w 1 ∧ μ w 1 ≤ 28) (hs : s = 0 ∨ s = 1) (hd : pc_do (pc_tx μ w) (n, s, p, c) = some T1) (hT : T1.length ≤ 28)
    (h1 : ∀ μ1 : px_Mem, (∀ o, o ≠ w → o ≠ w + 1 → μ1 o = μ o) → pc_tx μ1 w = T1 → μ1 w 1 = T1.length → Q none μ1) : px_C G yX9_apply cX9_apply 4 none 1 [.inr (.inl (some w)), .inl s, .inl p, .inl c] μ Q := by
  obtain ⟨wk, wl⟩ := pc_wk hw
  have hlen : (pc_tx μ w).length = (μ w 1).toNat := pc_tx_len
  have hb := (pc_do_len hd).2
  dsimp only at hb
  rw [hlen] at hb
  refine px_enter RX9 (by decide +kernel) rfl (by simp) (by simp [px_c1]) ?_
  simp only [List.map_cons, List.map_nil, List.length_cons, List.length_nil, List.replicate, List.append_nil, Nat.reduceAdd, Nat.reduceSub, List.cons_append, List.nil_append]
  refine px_go (fun _ => false) 400 ?_
  simp only [px_lits, false_implies, true_implies, px_dec_ok, px_run_s, px_rules, px_rule_is, px_mats, px_calls, ↓reduceIte, eq_self, Bool.false_eq_true, px_flds, px_o_some, px_fvs, px_pfs, px_cts, px_cls, px_acs_, px_acn, true_and, and_true, true_or, or_true, false_or, or_false, and_self, not_true_eq_false, not_false_eq_true, Classical.not_not, Nat.reduceAdd, Nat.reduceSub, Nat.reduceBEq, Nat.reduceLT, Nat.reduceLeDiff, Nat.lt_add_one, px_tg, Int.cast_ofNat_Int, Int.reduceAdd, Int.reduceSub, Int.reduceMul, Int.reduceToNat, Int.reduceLE, Int.reduceLT, Int.reduceNeg, Int.reduceEq, Bool.or_false, Bool.false_or, Bool.or_true, Bool.true_or, List.length_cons, List.length_nil, List.nil_append, List.cons_append, Option.toList_some, Option.toList_none, reduceCtorEq, Option.some.injEq, Nat.zero_le, Nat.reduceMul, Nat.mul_zero, Nat.add_zero, Int.reduceDiv, Int.reduceMod, Int.toNat_natCast, Nat.lt_irrefl, Int.natCast_add, Int.cast_ofNat_Int, px_mds_RX9_0, dec_X9_apply, hw, wk, wl]
  refine c_X9_hasPlace hw hn hs (by omega) (fun q => ?_) (fun q => ?_)
  · rcases hs with rfl | rfl
    · rw [pc_do_put, if_pos (by rw [hlen]; omega)] at hd
      cases hd
      have hTl : ((pc_tx μ w).insertIdx p.toNat c).length = (μ w 1).toNat + 1 := by rw [List.length_insertIdx, if_pos (by omega), hlen]
      rw [hTl] at hT
      refine px_go (fun _ => false) 400 ?_
      simp only [px_lits, false_implies, true_implies, px_dec_ok, px_run_s, px_rules, px_rule_is, px_mats, px_calls, ↓reduceIte, eq_self, Bool.false_eq_true, px_flds, px_o_some, px_fvs, px_pfs, px_cts, px_cls, px_acs_, px_acn, true_and, and_true, true_or, or_true, false_or, or_false, and_self, not_true_eq_false, not_false_eq_true, Classical.not_not, Nat.reduceAdd, Nat.reduceSub, Nat.reduceBEq, Nat.reduceLT, Nat.reduceLeDiff, Nat.lt_add_one, px_tg, Int.cast_ofNat_Int, Int.reduceAdd, Int.reduceSub, Int.reduceMul, Int.reduceToNat, Int.reduceLE, Int.reduceLT, Int.reduceNeg, Int.reduceEq, Bool.or_false, Bool.false_or, Bool.or_true, Bool.true_or, List.length_cons, List.length_nil, List.nil_append, List.cons_append, Option.toList_some, Option.toList_none, reduceCtorEq, Option.some.injEq, Nat.zero_le, Nat.reduceMul, Nat.mul_zero, Nat.add_zero, Int.reduceDiv, Int.reduceMod, Int.toNat_natCast, Nat.lt_irrefl, Int.natCast_add, Int.cast_ofNat_Int, px_mds_RX9_0, dec_X9_apply, hw, wk, wl]
      simp (disch := omega) only [px_le_iff, px_up_o, px_cp_o]
      refine ⟨fun q => by omega, fun _ => ?_⟩
      repeat refine ⟨by omega, ?_⟩
      refine h1 _ (fun o h2 h3 => ?_) ?_ ?_
      · simp (disch := omega) only [px_up_o, px_cp_o]
      · apply List.ext_getElem?
        intro k
        rw [pc_tx_get, List.getElem?_insertIdx, pc_tx_get, hlen]
        simp (disch := omega) only [px_up_o, px_up_eq, px_cp_o]
        by_cases c1 : k < p.toNat
        · rw [if_pos (by omega), if_pos c1, if_pos (by omega)]
          simp (disch := omega) only [px_up_o, px_up_ne, px_cp_out]
        · rw [if_neg c1]
          by_cases c2 : k = p.toNat
          · rw [if_pos (by omega), if_pos c2, if_pos (by omega)]
            simp (disch := omega) only [px_up_o, px_up_eq]
          · rw [if_neg c2, pc_tx_get]
            by_cases c3 : k < (μ w 1).toNat + 1
            · rw [if_pos (by omega), if_pos (by omega)]
              simp (disch := omega) only [px_up_o, px_up_ne, px_cp_in]
              rw [show p + ((k : Int) - (p + 1)) = ((k - 1 : Nat) : Int) by omega]
            · rw [if_neg (by omega), if_neg (by omega)]
      · simp (disch := omega) only [px_up_o, px_up_eq, px_cp_o]
        omega
    · rw [pc_do_out, pc_tx_at q.1 (by omega)] at hd
      split at hd
      · cases hd
        have hTl : ((pc_tx μ w).eraseIdx p.toNat).length = (μ w 1).toNat - 1 := by rw [List.length_eraseIdx_of_lt (by omega), hlen]
        refine px_go (fun _ => false) 400 ?_
        simp only [px_lits, false_implies, true_implies, px_dec_ok, px_run_s, px_rules, px_rule_is, px_mats, px_calls, ↓reduceIte, eq_self, Bool.false_eq_true, px_flds, px_o_some, px_fvs, px_pfs, px_cts, px_cls, px_acs_, px_acn, true_and, and_true, true_or, or_true, false_or, or_false, and_self, not_true_eq_false, not_false_eq_true, Classical.not_not, Nat.reduceAdd, Nat.reduceSub, Nat.reduceBEq, Nat.reduceLT, Nat.reduceLeDiff, Nat.lt_add_one, px_tg, Int.cast_ofNat_Int, Int.reduceAdd, Int.reduceSub, Int.reduceMul, Int.reduceToNat, Int.reduceLE, Int.reduceLT, Int.reduceNeg, Int.reduceEq, Bool.or_false, Bool.false_or, Bool.or_true, Bool.true_or, List.length_cons, List.length_nil, List.nil_append, List.cons_append, Option.toList_some, Option.toList_none, reduceCtorEq, Option.some.injEq, Nat.zero_le, Nat.reduceMul, Nat.mul_zero, Nat.add_zero, Int.reduceDiv, Int.reduceMod, Int.toNat_natCast, Nat.lt_irrefl, Int.natCast_add, Int.cast_ofNat_Int, px_mds_RX9_0, dec_X9_apply, hw, wk, wl]
        simp (disch := omega) only [px_le_iff, px_up_o, px_cp_o]
        repeat refine ⟨by omega, ?_⟩
        refine h1 _ (fun o h2 h3 => ?_) ?_ ?_
        · simp (disch := omega) only [px_up_o, px_cp_o]
        · apply List.ext_getElem?
          intro k
          rw [pc_tx_get, List.getElem?_eraseIdx, pc_tx_get, pc_tx_get]
          simp (disch := omega) only [px_up_o, px_up_eq, px_cp_o]
          by_cases c1 : k < p.toNat
          · rw [if_pos (by omega), if_pos c1, if_pos (by omega)]
            simp (disch := omega) only [px_up_o, px_cp_out]
          · rw [if_neg c1]
            by_cases c3 : k + 1 < (μ w 1).toNat
            · rw [if_pos (by omega), if_pos c3]
              simp (disch := omega) only [px_up_o, px_cp_in]
              rw [show p + 1 + ((k : Int) - p) = ((k + 1 : Nat) : Int) by omega]
            · rw [if_neg (by omega), if_neg c3]
        · simp (disch := omega) only [px_up_o, px_up_eq, px_cp_o]
          omega
      · cases hd
  · exfalso
    apply q
    rcases hs with rfl | rfl
    · omega
    · rw [pc_do_out] at hd
      split at hd
      · rename_i e
        have := (List.getElem?_eq_some_iff.mp e.2).1
        omega
      · cases hd
theorem pc_ww {v w : Nat} (hv : px_kd v = 8) (hw : px_kd w = 8) : v = w ∨ (v ≠ w ∧ v ≠ w + 1 ∧ v + 1 ≠ w) := by
  have a := (pc_wk hv).1
  have b := (pc_wk hw).1
  by_cases e : v = w
  · exact Or.inl e
  · refine Or.inr ⟨e, fun q => ?_, fun q => ?_⟩
    · rw [← q] at b; omega
    · rw [q] at a; omega
set_option maxHeartbeats 4000000 in
set_option maxRecDepth 100000 in
theorem c_X9_copyFrom {G : px_G} {w v : Nat} {μ : px_Mem} {Q : Option px_X → px_Mem → Prop} (hw : px_kd w = 8) (hv : px_kd v = 8) (hne : v ≠ w) (hn : 0 ≤ μ v 1 ∧ μ v 1 ≤ 28)
    (h1 : ∀ μ1 : px_Mem, (∀ o, o ≠ w → o ≠ w + 1 → μ1 o = μ o) → pc_tx μ1 w = pc_tx μ v → μ1 w 1 = μ v 1 → Q none μ1) : px_C G yX9_copyFrom cX9_copyFrom 2 none 1 [.inr (.inl (some w)), .inr (.inl (some v))] μ Q := by
  obtain ⟨wk, wl⟩ := pc_wk hw
  obtain ⟨vk, vl⟩ := pc_wk hv
  have hd := pc_ww hv hw
  refine px_enter RX9 (by decide +kernel) rfl (by simp) (by simp [px_c1]) ?_
  simp only [List.map_cons, List.map_nil, List.length_cons, List.length_nil, List.replicate, List.append_nil, Nat.reduceAdd, Nat.reduceSub, List.cons_append, List.nil_append]
  refine px_go (fun _ => false) 400 ?_
  simp only [px_lits, false_implies, true_implies, px_dec_ok, px_run_s, px_rules, px_rule_is, px_mats, px_calls, ↓reduceIte, eq_self, Bool.false_eq_true, px_flds, px_o_some, px_fvs, px_pfs, px_cts, px_cls, px_acs_, px_acn, true_and, and_true, true_or, or_true, false_or, or_false, and_self, not_true_eq_false, not_false_eq_true, Classical.not_not, Nat.reduceAdd, Nat.reduceSub, Nat.reduceBEq, Nat.reduceLT, Nat.reduceLeDiff, Nat.lt_add_one, px_tg, Int.cast_ofNat_Int, Int.reduceAdd, Int.reduceSub, Int.reduceMul, Int.reduceToNat, Int.reduceLE, Int.reduceLT, Int.reduceNeg, Int.reduceEq, Bool.or_false, Bool.false_or, Bool.or_true, Bool.true_or, List.length_cons, List.length_nil, List.nil_append, List.cons_append, Option.toList_some, Option.toList_none, reduceCtorEq, Option.some.injEq, Nat.zero_le, Nat.reduceMul, Nat.mul_zero, Nat.add_zero, Int.reduceDiv, Int.reduceMod, Int.toNat_natCast, Nat.lt_irrefl, Int.natCast_add, Int.cast_ofNat_Int, px_mds_RX9_0, dec_X9_copyFrom, hw, wk, wl, hv, vk, vl]
  simp (disch := omega) only [px_cp_o]
  repeat refine ⟨by omega, ?_⟩
  refine h1 _ (fun o h2 h3 => ?_) ?_ ?_
  · simp (disch := omega) only [px_up_o, px_cp_o]
  · apply List.ext_getElem?
    intro k
    rw [pc_tx_get, pc_tx_get]
    simp (disch := omega) only [px_up_o, px_up_eq, px_cp_o]
    split
    · simp (disch := omega) only [px_up_o, px_cp_in]
      rw [show (0 : Int) + ((k : Int) - 0) = k by omega]
    · rfl
  · simp (disch := omega) only [px_up_o, px_up_eq, px_cp_o]
set_option maxHeartbeats 4000000 in
set_option maxRecDepth 100000 in
theorem c_X9_isSame {G : px_G} {w v : Nat} {μ : px_Mem} {Q : Option px_X → px_Mem → Prop} (hw : px_kd w = 8) (hv : px_kd v = 8) (hn : 0 ≤ μ v 1 ∧ μ v 1 ≤ 28) (hm : 0 ≤ μ w 1 ∧ μ w 1 ≤ 28) (rw_ : ∀ i, 0 ≤ i → i < μ w 1 → 97 ≤ μ (w + 1) i ∧ μ (w + 1) i ≤ 122) (rv_ : ∀ i, 0 ≤ i → i < μ v 1 → 97 ≤ μ (v + 1) i ∧ μ (v + 1) i ≤ 122)
    (h1 : pc_tx μ w = pc_tx μ v → Q (some (.inl 1)) μ) (h0 : pc_tx μ w ≠ pc_tx μ v → Q (some (.inl 0)) μ) : px_C G yX9_isSame cX9_isSame 3 (some .boolean) 0 [.inr (.inl (some w)), .inr (.inl (some v))] μ Q := by
  obtain ⟨wk, wl⟩ := pc_wk hw
  obtain ⟨vk, vl⟩ := pc_wk hv
  have loop : μ w 1 = μ v 1 → ∀ (n i : Nat), i + n = (μ w 1).toNat → (∀ j : Nat, j < i → μ (w + 1) j = μ (v + 1) j) → px_J G RX9 cX9_isSame 3 (some .boolean) 0 15 [some (.inr (.inl (some w))), some (.inr (.inl (some v))), some (.inl i)] [] μ Q := by
    intro he n
    induction n with
    | zero =>
      intro i h2 h3
      refine px_go (fun p => p == 15) 400 ?_
      simp only [px_lits, false_implies, true_implies, px_dec_ok, px_run_s, px_rules, px_rule_is, px_mats, px_calls, ↓reduceIte, eq_self, Bool.false_eq_true, px_flds, px_o_some, px_fvs, px_pfs, px_cts, px_cls, px_acs_, px_acn, true_and, and_true, true_or, or_true, false_or, or_false, and_self, not_true_eq_false, not_false_eq_true, Classical.not_not, Nat.reduceAdd, Nat.reduceSub, Nat.reduceBEq, Nat.reduceLT, Nat.reduceLeDiff, Nat.lt_add_one, px_tg, Int.cast_ofNat_Int, Int.reduceAdd, Int.reduceSub, Int.reduceMul, Int.reduceToNat, Int.reduceLE, Int.reduceLT, Int.reduceNeg, Int.reduceEq, Bool.or_false, Bool.false_or, Bool.or_true, Bool.true_or, List.length_cons, List.length_nil, List.nil_append, List.cons_append, Option.toList_some, Option.toList_none, reduceCtorEq, Option.some.injEq, Nat.zero_le, Nat.reduceMul, Nat.mul_zero, Nat.add_zero, Int.reduceDiv, Int.reduceMod, Int.toNat_natCast, Nat.lt_irrefl, Int.natCast_add, Int.cast_ofNat_Int, px_mds_RX9_0, dec_X9_isSame, hw, wk, wl, hv, vk, vl]
      simp (disch := omega) only [px_le_iff]
      refine ⟨fun _ => h1 ?_, fun q => absurd (by omega) q⟩
      apply List.ext_getElem?
      intro k
      rw [pc_tx_get, pc_tx_get, he]
      split
      · rw [h3 k (by omega)]
      · rfl
    | succ n ih =>
      intro i h2 h3
      have r1 := rw_ i (by omega) (by omega)
      have r2 := rv_ i (by omega) (by omega)
      refine px_go (fun p => p == 15) 400 ?_
      simp only [px_lits, false_implies, true_implies, px_dec_ok, px_run_s, px_rules, px_rule_is, px_mats, px_calls, ↓reduceIte, eq_self, Bool.false_eq_true, px_flds, px_o_some, px_fvs, px_pfs, px_cts, px_cls, px_acs_, px_acn, true_and, and_true, true_or, or_true, false_or, or_false, and_self, not_true_eq_false, not_false_eq_true, Classical.not_not, Nat.reduceAdd, Nat.reduceSub, Nat.reduceBEq, Nat.reduceLT, Nat.reduceLeDiff, Nat.lt_add_one, px_tg, Int.cast_ofNat_Int, Int.reduceAdd, Int.reduceSub, Int.reduceMul, Int.reduceToNat, Int.reduceLE, Int.reduceLT, Int.reduceNeg, Int.reduceEq, Bool.or_false, Bool.false_or, Bool.or_true, Bool.true_or, List.length_cons, List.length_nil, List.nil_append, List.cons_append, Option.toList_some, Option.toList_none, reduceCtorEq, Option.some.injEq, Nat.zero_le, Nat.reduceMul, Nat.mul_zero, Nat.add_zero, Int.reduceDiv, Int.reduceMod, Int.toNat_natCast, Nat.lt_irrefl, Int.natCast_add, Int.cast_ofNat_Int, px_mds_RX9_0, dec_X9_isSame, hw, wk, wl, hv, vk, vl]
      simp (disch := omega) only [px_le_iff, px_eq_iff]
      refine ⟨fun q => by omega, fun _ => ⟨by omega, by omega, fun e => ?_, fun e => h0 (fun q => e ?_)⟩⟩
      · have := ih (i + 1) (by omega) (fun j hj => by
          by_cases e2 : j = i
          · rw [e2]; exact e
          · exact h3 j (by omega))
        rwa [Int.natCast_add] at this
      · have e1 := pc_tx_at (μ := μ) (w := w) (i := i) (by omega) (by omega)
        rw [q, pc_tx_at (by omega) (by omega)] at e1
        exact (Option.some.inj e1).symm
  refine px_enter RX9 (by decide +kernel) rfl (by simp) (by simp [px_c1]) ?_
  simp only [List.map_cons, List.map_nil, List.length_cons, List.length_nil, List.replicate, List.append_nil, Nat.reduceAdd, Nat.reduceSub, List.cons_append, List.nil_append]
  refine px_go (fun p => p == 15) 400 ?_
  simp only [px_lits, false_implies, true_implies, px_dec_ok, px_run_s, px_rules, px_rule_is, px_mats, px_calls, ↓reduceIte, eq_self, Bool.false_eq_true, px_flds, px_o_some, px_fvs, px_pfs, px_cts, px_cls, px_acs_, px_acn, true_and, and_true, true_or, or_true, false_or, or_false, and_self, not_true_eq_false, not_false_eq_true, Classical.not_not, Nat.reduceAdd, Nat.reduceSub, Nat.reduceBEq, Nat.reduceLT, Nat.reduceLeDiff, Nat.lt_add_one, px_tg, Int.cast_ofNat_Int, Int.reduceAdd, Int.reduceSub, Int.reduceMul, Int.reduceToNat, Int.reduceLE, Int.reduceLT, Int.reduceNeg, Int.reduceEq, Bool.or_false, Bool.false_or, Bool.or_true, Bool.true_or, List.length_cons, List.length_nil, List.nil_append, List.cons_append, Option.toList_some, Option.toList_none, reduceCtorEq, Option.some.injEq, Nat.zero_le, Nat.reduceMul, Nat.mul_zero, Nat.add_zero, Int.reduceDiv, Int.reduceMod, Int.toNat_natCast, Nat.lt_irrefl, Int.natCast_add, Int.cast_ofNat_Int, px_mds_RX9_0, dec_X9_isSame, hw, wk, wl, hv, vk, vl]
  simp (disch := omega) only [px_eq_iff]
  refine ⟨fun e => loop e (μ w 1).toNat 0 (by omega) (fun j hj => by omega), fun e => h0 (fun q => e ?_)⟩
  have := congrArg List.length q
  rw [pc_tx_len, pc_tx_len] at this
  omega
