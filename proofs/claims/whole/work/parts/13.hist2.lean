/-! ===== a history as a list; turning, going, bringing ===== -/
theorem px_up_eq {μ : px_Mem} {o : Nat} {i z i1 : Int} (h : i1 = i) : px_up μ o i z o i1 = z := by simp [px_up, h]
theorem px_up_ne {μ : px_Mem} {o : Nat} {i z i1 : Int} (h : i1 ≠ i) : px_up μ o i z o i1 = μ o i1 := by simp [px_up, h]
def pc_hl (μ : px_Mem) (h : Nat) : List pc_Ch := (List.range (μ h 4).toNat).map (fun i : Nat => (μ (h + 1) i, μ (h + 2) i, μ (h + 3) i, μ (h + 4) i))
theorem pc_hl_len {μ : px_Mem} {h : Nat} : (pc_hl μ h).length = (μ h 4).toNat := by unfold pc_hl; rw [List.length_map, List.length_range]
theorem pc_hl_get {μ : px_Mem} {h : Nat} {n : Nat} : (pc_hl μ h)[n]? = if n < (μ h 4).toNat then some (μ (h + 1) n, μ (h + 2) n, μ (h + 3) n, μ (h + 4) n) else none := by
  unfold pc_hl
  rw [List.getElem?_map]
  split
  · rename_i h1
    rw [List.getElem?_range h1]
    rfl
  · rename_i h1
    rw [List.getElem?_eq_none (by rw [List.length_range]; omega)]
    rfl
theorem pc_hl_at {μ : px_Mem} {h : Nat} {i : Int} (h0 : 0 ≤ i) (h1 : i < μ h 4) : (pc_hl μ h)[i.toNat]? = some (μ (h + 1) i, μ (h + 2) i, μ (h + 3) i, μ (h + 4) i) := by
  rw [pc_hl_get, if_pos (by omega), Int.toNat_of_nonneg h0]
theorem pc_hl_mem {μ : px_Mem} {h : Nat} {i : Int} (h0 : 0 ≤ i) (h1 : i < μ h 4) : (μ (h + 1) i, μ (h + 2) i, μ (h + 3) i, μ (h + 4) i) ∈ pc_hl μ h := List.mem_of_getElem? (pc_hl_at h0 h1)
theorem pc_hl_congr {μ μ1 : px_Mem} {h g : Nat} (hn : μ1 g 4 = μ h 4) (he : ∀ i : Int, 0 ≤ i → i < μ h 4 → μ1 (g + 1) i = μ (h + 1) i ∧ μ1 (g + 2) i = μ (h + 2) i ∧ μ1 (g + 3) i = μ (h + 3) i ∧ μ1 (g + 4) i = μ (h + 4) i) : pc_hl μ1 g = pc_hl μ h := by
  apply List.ext_getElem?
  intro n
  rw [pc_hl_get, pc_hl_get, hn]
  split
  · obtain ⟨e1, e2, e3, e4⟩ := he n (by omega) (by omega)
    rw [e1, e2, e3, e4]
  · rfl
theorem pc_hl_same {μ μ1 : px_Mem} {h : Nat} (h0 : μ1 h = μ h) (h1 : μ1 (h + 1) = μ (h + 1)) (h2 : μ1 (h + 2) = μ (h + 2)) (h3 : μ1 (h + 3) = μ (h + 3)) (h4 : μ1 (h + 4) = μ (h + 4)) : pc_hl μ1 h = pc_hl μ h := by
  unfold pc_hl
  rw [h0, h1, h2, h3, h4]
theorem pc_tr_bd {s i o j k m : Int} (h : pc_tr s i o j = some (k, m)) (hi : 0 ≤ i) (hj : 0 ≤ j) : 0 ≤ k ∧ k ≤ j + 1 ∧ 0 ≤ m ∧ m ≤ i + 1 := by
  unfold pc_tr at h
  repeat' split at h
  all_goals first | (cases h; omega) | cases h
theorem pc_trz_none {s i o j : Int} (h : pc_tr s i o j = none) : pc_trz s i o j = -1 := by unfold pc_trz; rw [h]
theorem pc_trz_some {s i o j k m : Int} (h : pc_tr s i o j = some (k, m)) : pc_trz s i o j = 100 * k + m := by unfold pc_trz; rw [h]
set_option maxHeartbeats 4000000 in
set_option maxRecDepth 100000 in
theorem c_X0_pairAt {G : px_G} {h : Nat} {i : Int} {μ : px_Mem} {Q : Option px_X → px_Mem → Prop} (hh : px_kd h = 0) (hn : 0 ≤ μ h 4 ∧ μ h 4 ≤ 16) (hi : -2147483648 ≤ i ∧ i < 2147483648) (hv : pc_V (pc_hl μ h))
    (h1 : 0 ≤ i → i < μ h 4 - 1 → Q (some (.inl (pc_trz (μ (h + 2) i) (μ (h + 3) i) (μ (h + 2) (i + 1)) (μ (h + 3) (i + 1))))) μ) (h0 : ¬ (0 ≤ i ∧ i < μ h 4 - 1) → Q (some (.inl (-1))) μ) : px_C G yX0_pairAt cX0_pairAt 2 (some .int) 1 [.inr (.inl (some h)), .inl i] μ Q := by
  obtain ⟨hk, hl⟩ := pc_hk hh
  refine px_enter RX0 (by decide +kernel) rfl (by simp) (by simp [px_c1]) ?_
  simp only [List.map_cons, List.map_nil, List.length_cons, List.length_nil, List.replicate, List.append_nil, Nat.reduceAdd, Nat.reduceSub, List.cons_append, List.nil_append]
  refine px_go (fun _ => false) 400 ?_
  simp only [px_lits, false_implies, true_implies, px_dec_ok, px_run_s, px_rules, px_rule_is, px_mats, px_calls, ↓reduceIte, eq_self, Bool.false_eq_true, px_flds, px_o_some, px_fvs, px_pfs, px_cts, px_cls, px_acs_, px_acn, true_and, and_true, true_or, or_true, false_or, or_false, and_self, not_true_eq_false, not_false_eq_true, Classical.not_not, Nat.reduceAdd, Nat.reduceSub, Nat.reduceBEq, Nat.reduceLT, Nat.reduceLeDiff, Nat.lt_add_one, px_tg, Int.cast_ofNat_Int, Int.reduceAdd, Int.reduceSub, Int.reduceMul, Int.reduceToNat, Int.reduceLE, Int.reduceLT, Int.reduceNeg, Int.reduceEq, Bool.or_false, Bool.false_or, Bool.or_true, Bool.true_or, List.length_cons, List.length_nil, List.nil_append, List.cons_append, Option.toList_some, Option.toList_none, reduceCtorEq, Option.some.injEq, Nat.zero_le, Nat.reduceMul, Nat.mul_zero, Nat.add_zero, Int.reduceDiv, Int.reduceMod, Int.toNat_natCast, Nat.lt_irrefl, Int.natCast_add, Int.cast_ofNat_Int, px_mds_RX0_0, dec_X0_pairAt, hh]
  refine c_X0_hasPair hh hn hi (fun q => ?_) (fun q => ?_)
  · have e1 := hv.el (pc_hl_mem (i := i) q.1 (by omega))
    have e2 := hv.el (pc_hl_mem (i := i + 1) (by omega) (by omega))
    have p1 := hv.place (pc_hl_mem (i := i) q.1 (by omega))
    have p2 := hv.place (pc_hl_mem (i := i + 1) (by omega) (by omega))
    dsimp only [pc_el] at e1 e2 p1 p2
    refine px_go (fun _ => false) 400 ?_
    simp only [px_lits, false_implies, true_implies, px_dec_ok, px_run_s, px_rules, px_rule_is, px_mats, px_calls, ↓reduceIte, eq_self, Bool.false_eq_true, px_flds, px_o_some, px_fvs, px_pfs, px_cts, px_cls, px_acs_, px_acn, true_and, and_true, true_or, or_true, false_or, or_false, and_self, not_true_eq_false, not_false_eq_true, Classical.not_not, Nat.reduceAdd, Nat.reduceSub, Nat.reduceBEq, Nat.reduceLT, Nat.reduceLeDiff, Nat.lt_add_one, px_tg, Int.cast_ofNat_Int, Int.reduceAdd, Int.reduceSub, Int.reduceMul, Int.reduceToNat, Int.reduceLE, Int.reduceLT, Int.reduceNeg, Int.reduceEq, Bool.or_false, Bool.false_or, Bool.or_true, Bool.true_or, List.length_cons, List.length_nil, List.nil_append, List.cons_append, Option.toList_some, Option.toList_none, reduceCtorEq, Option.some.injEq, Nat.zero_le, Nat.reduceMul, Nat.mul_zero, Nat.add_zero, Int.reduceDiv, Int.reduceMod, Int.toNat_natCast, Nat.lt_irrefl, Int.natCast_add, Int.cast_ofNat_Int, px_mds_RX0_0, dec_X0_pairAt, hh, hk, hl]
    repeat refine ⟨by omega, ?_⟩
    refine c_X10_turned e1.2.1 e2.2.1 (by omega) (by omega) ?_
    refine px_go (fun _ => false) 400 ?_
    simp only [px_lits, false_implies, true_implies, px_dec_ok, px_run_s, px_rules, px_rule_is, px_mats, px_calls, ↓reduceIte, eq_self, Bool.false_eq_true, px_flds, px_o_some, px_fvs, px_pfs, px_cts, px_cls, px_acs_, px_acn, true_and, and_true, true_or, or_true, false_or, or_false, and_self, not_true_eq_false, not_false_eq_true, Classical.not_not, Nat.reduceAdd, Nat.reduceSub, Nat.reduceBEq, Nat.reduceLT, Nat.reduceLeDiff, Nat.lt_add_one, px_tg, Int.cast_ofNat_Int, Int.reduceAdd, Int.reduceSub, Int.reduceMul, Int.reduceToNat, Int.reduceLE, Int.reduceLT, Int.reduceNeg, Int.reduceEq, Bool.or_false, Bool.false_or, Bool.or_true, Bool.true_or, List.length_cons, List.length_nil, List.nil_append, List.cons_append, Option.toList_some, Option.toList_none, reduceCtorEq, Option.some.injEq, Nat.zero_le, Nat.reduceMul, Nat.mul_zero, Nat.add_zero, Int.reduceDiv, Int.reduceMod, Int.toNat_natCast, Nat.lt_irrefl, Int.natCast_add, Int.cast_ofNat_Int, px_mds_RX0_0, dec_X0_pairAt, hh, hk, hl]
    exact h1 q.1 q.2
  · refine px_go (fun _ => false) 400 ?_
    simp only [px_lits, false_implies, true_implies, px_dec_ok, px_run_s, px_rules, px_rule_is, px_mats, px_calls, ↓reduceIte, eq_self, Bool.false_eq_true, px_flds, px_o_some, px_fvs, px_pfs, px_cts, px_cls, px_acs_, px_acn, true_and, and_true, true_or, or_true, false_or, or_false, and_self, not_true_eq_false, not_false_eq_true, Classical.not_not, Nat.reduceAdd, Nat.reduceSub, Nat.reduceBEq, Nat.reduceLT, Nat.reduceLeDiff, Nat.lt_add_one, px_tg, Int.cast_ofNat_Int, Int.reduceAdd, Int.reduceSub, Int.reduceMul, Int.reduceToNat, Int.reduceLE, Int.reduceLT, Int.reduceNeg, Int.reduceEq, Bool.or_false, Bool.false_or, Bool.or_true, Bool.true_or, List.length_cons, List.length_nil, List.nil_append, List.cons_append, Option.toList_some, Option.toList_none, reduceCtorEq, Option.some.injEq, Nat.zero_le, Nat.reduceMul, Nat.mul_zero, Nat.add_zero, Int.reduceDiv, Int.reduceMod, Int.toNat_natCast, Nat.lt_irrefl, Int.natCast_add, Int.cast_ofNat_Int, px_mds_RX0_0, dec_X0_pairAt, hh, hk, hl]
    exact h0 q
set_option maxHeartbeats 4000000 in
set_option maxRecDepth 100000 in
theorem c_X0_swap {G : px_G} {h : Nat} {i : Int} {μ : px_Mem} {Q : Option px_X → px_Mem → Prop} (hh : px_kd h = 0) (hn : 0 ≤ μ h 4 ∧ μ h 4 ≤ 16) (hi : 0 ≤ i ∧ i < 2147483648) (hv : pc_V (pc_hl μ h))
    (h1 : ∀ (L1 : List pc_Ch) (μ1 : px_Mem), pc_sw (pc_hl μ h) i.toNat = some L1 → (∀ o, (o < h + 1 ∨ h + 4 < o) → μ1 o = μ o) → pc_hl μ1 h = L1 → Q (some (.inl 1)) μ1) (h0 : pc_sw (pc_hl μ h) i.toNat = none → Q (some (.inl 0)) μ) : px_C G yX0_swap cX0_swap 6 (some .boolean) 1 [.inr (.inl (some h)), .inl i] μ Q := by
  obtain ⟨hk, hl⟩ := pc_hk hh
  refine px_enter RX0 (by decide +kernel) rfl (by simp) (by simp [px_c1]) ?_
  simp only [List.map_cons, List.map_nil, List.length_cons, List.length_nil, List.replicate, List.append_nil, Nat.reduceAdd, Nat.reduceSub, List.cons_append, List.nil_append]
  refine px_go (fun _ => false) 400 ?_
  simp only [px_lits, false_implies, true_implies, px_dec_ok, px_run_s, px_rules, px_rule_is, px_mats, px_calls, ↓reduceIte, eq_self, Bool.false_eq_true, px_flds, px_o_some, px_fvs, px_pfs, px_cts, px_cls, px_acs_, px_acn, true_and, and_true, true_or, or_true, false_or, or_false, and_self, not_true_eq_false, not_false_eq_true, Classical.not_not, Nat.reduceAdd, Nat.reduceSub, Nat.reduceBEq, Nat.reduceLT, Nat.reduceLeDiff, Nat.lt_add_one, px_tg, Int.cast_ofNat_Int, Int.reduceAdd, Int.reduceSub, Int.reduceMul, Int.reduceToNat, Int.reduceLE, Int.reduceLT, Int.reduceNeg, Int.reduceEq, Bool.or_false, Bool.false_or, Bool.or_true, Bool.true_or, List.length_cons, List.length_nil, List.nil_append, List.cons_append, Option.toList_some, Option.toList_none, reduceCtorEq, Option.some.injEq, Nat.zero_le, Nat.reduceMul, Nat.mul_zero, Nat.add_zero, Int.reduceDiv, Int.reduceMod, Int.toNat_natCast, Nat.lt_irrefl, Int.natCast_add, Int.cast_ofNat_Int, px_mds_RX0_0, dec_X0_swap, hh]
  refine c_X0_hasPair hh hn (by omega) (fun q => ?_) (fun q => ?_)
  · have g1 := pc_hl_at (μ := μ) (h := h) (i := i) q.1 (by omega)
    have g2 := pc_hl_at (μ := μ) (h := h) (i := i + 1) (by omega) (by omega)
    rw [show (i + 1).toNat = i.toNat + 1 by omega] at g2
    have e1 := hv.el (List.mem_of_getElem? g1)
    have e2 := hv.el (List.mem_of_getElem? g2)
    have p1 := hv.place (List.mem_of_getElem? g1)
    have p2 := hv.place (List.mem_of_getElem? g2)
    dsimp only [pc_el] at e1 e2 p1 p2
    refine px_go (fun _ => false) 400 ?_
    simp only [px_lits, false_implies, true_implies, px_dec_ok, px_run_s, px_rules, px_rule_is, px_mats, px_calls, ↓reduceIte, eq_self, Bool.false_eq_true, px_flds, px_o_some, px_fvs, px_pfs, px_cts, px_cls, px_acs_, px_acn, true_and, and_true, true_or, or_true, false_or, or_false, and_self, not_true_eq_false, not_false_eq_true, Classical.not_not, Nat.reduceAdd, Nat.reduceSub, Nat.reduceBEq, Nat.reduceLT, Nat.reduceLeDiff, Nat.lt_add_one, px_tg, Int.cast_ofNat_Int, Int.reduceAdd, Int.reduceSub, Int.reduceMul, Int.reduceToNat, Int.reduceLE, Int.reduceLT, Int.reduceNeg, Int.reduceEq, Bool.or_false, Bool.false_or, Bool.or_true, Bool.true_or, List.length_cons, List.length_nil, List.nil_append, List.cons_append, Option.toList_some, Option.toList_none, reduceCtorEq, Option.some.injEq, Nat.zero_le, Nat.reduceMul, Nat.mul_zero, Nat.add_zero, Int.reduceDiv, Int.reduceMod, Int.toNat_natCast, Nat.lt_irrefl, Int.natCast_add, Int.cast_ofNat_Int, px_mds_RX0_0, dec_X0_swap, hh, hk, hl]
    repeat refine ⟨by omega, ?_⟩
    refine c_X10_turned e1.2.1 e2.2.1 (by omega) (by omega) ?_
    cases ht : pc_tr (μ (h + 2) i) (μ (h + 3) i) (μ (h + 2) (i + 1)) (μ (h + 3) (i + 1)) with
    | none =>
      rw [pc_trz_none ht]
      refine px_go (fun _ => false) 400 ?_
      simp only [px_lits, false_implies, true_implies, px_dec_ok, px_run_s, px_rules, px_rule_is, px_mats, px_calls, ↓reduceIte, eq_self, Bool.false_eq_true, px_flds, px_o_some, px_fvs, px_pfs, px_cts, px_cls, px_acs_, px_acn, true_and, and_true, true_or, or_true, false_or, or_false, and_self, not_true_eq_false, not_false_eq_true, Classical.not_not, Nat.reduceAdd, Nat.reduceSub, Nat.reduceBEq, Nat.reduceLT, Nat.reduceLeDiff, Nat.lt_add_one, px_tg, Int.cast_ofNat_Int, Int.reduceAdd, Int.reduceSub, Int.reduceMul, Int.reduceToNat, Int.reduceLE, Int.reduceLT, Int.reduceNeg, Int.reduceEq, Bool.or_false, Bool.false_or, Bool.or_true, Bool.true_or, List.length_cons, List.length_nil, List.nil_append, List.cons_append, Option.toList_some, Option.toList_none, reduceCtorEq, Option.some.injEq, Nat.zero_le, Nat.reduceMul, Nat.mul_zero, Nat.add_zero, Int.reduceDiv, Int.reduceMod, Int.toNat_natCast, Nat.lt_irrefl, Int.natCast_add, Int.cast_ofNat_Int, px_mds_RX0_0, dec_X0_swap, hh, hk, hl]
      refine h0 ?_
      unfold pc_sw
      rw [g1, g2]
      simp only [pc_sw2, ht]
      rfl
    | some km =>
      obtain ⟨k, m⟩ := km
      have hb := pc_tr_bd ht p1.1 p2.1
      rw [pc_trz_some ht]
      have d1 : (100 * k + m) / 100 = k := by omega
      have d2 : (100 * k + m) % 100 = m := by omega
      refine px_go (fun _ => false) 400 ?_
      simp only [px_lits, false_implies, true_implies, px_dec_ok, px_run_s, px_rules, px_rule_is, px_mats, px_calls, ↓reduceIte, eq_self, Bool.false_eq_true, px_flds, px_o_some, px_fvs, px_pfs, px_cts, px_cls, px_acs_, px_acn, true_and, and_true, true_or, or_true, false_or, or_false, and_self, not_true_eq_false, not_false_eq_true, Classical.not_not, Nat.reduceAdd, Nat.reduceSub, Nat.reduceBEq, Nat.reduceLT, Nat.reduceLeDiff, Nat.lt_add_one, px_tg, Int.cast_ofNat_Int, Int.reduceAdd, Int.reduceSub, Int.reduceMul, Int.reduceToNat, Int.reduceLE, Int.reduceLT, Int.reduceNeg, Int.reduceEq, Bool.or_false, Bool.false_or, Bool.or_true, Bool.true_or, List.length_cons, List.length_nil, List.nil_append, List.cons_append, Option.toList_some, Option.toList_none, reduceCtorEq, Option.some.injEq, Nat.zero_le, Nat.reduceMul, Nat.mul_zero, Nat.add_zero, Int.reduceDiv, Int.reduceMod, Int.toNat_natCast, Nat.lt_irrefl, Int.natCast_add, Int.cast_ofNat_Int, px_mds_RX0_0, dec_X0_swap, hh, hk, hl, d1, d2]
      simp (disch := omega) only [px_eq_iff]
      refine ⟨fun _ => ?_, fun q => by omega⟩
      repeat refine ⟨by omega, ?_⟩
      refine h1 _ _ (by unfold pc_sw; rw [g1, g2]; simp only [pc_sw2, ht, Option.map_some]; rfl) (fun o ho => ?_) ?_
      · simp (disch := omega) only [px_up_o]
      · apply List.ext_getElem?
        intro n
        rw [List.getElem?_set, List.getElem?_set, pc_hl_get, pc_hl_get]
        simp only [List.length_set, pc_hl_len]
        simp (disch := omega) only [px_up_o]
        by_cases c1 : i.toNat + 1 = n
        · rw [if_pos c1, if_pos (by omega), if_pos (by omega)]
          simp (disch := omega) only [px_up_o, px_up_eq, px_up_ne]
        · rw [if_neg c1]
          by_cases c2 : i.toNat = n
          · rw [if_pos c2, if_pos (by omega), if_pos (by omega)]
            simp (disch := omega) only [px_up_o, px_up_eq, px_up_ne]
          · rw [if_neg c2]
            split
            · simp (disch := omega) only [px_up_o, px_up_eq, px_up_ne]
            · rfl
  · refine px_go (fun _ => false) 400 ?_
    simp only [px_lits, false_implies, true_implies, px_dec_ok, px_run_s, px_rules, px_rule_is, px_mats, px_calls, ↓reduceIte, eq_self, Bool.false_eq_true, px_flds, px_o_some, px_fvs, px_pfs, px_cts, px_cls, px_acs_, px_acn, true_and, and_true, true_or, or_true, false_or, or_false, and_self, not_true_eq_false, not_false_eq_true, Classical.not_not, Nat.reduceAdd, Nat.reduceSub, Nat.reduceBEq, Nat.reduceLT, Nat.reduceLeDiff, Nat.lt_add_one, px_tg, Int.cast_ofNat_Int, Int.reduceAdd, Int.reduceSub, Int.reduceMul, Int.reduceToNat, Int.reduceLE, Int.reduceLT, Int.reduceNeg, Int.reduceEq, Bool.or_false, Bool.false_or, Bool.or_true, Bool.true_or, List.length_cons, List.length_nil, List.nil_append, List.cons_append, Option.toList_some, Option.toList_none, reduceCtorEq, Option.some.injEq, Nat.zero_le, Nat.reduceMul, Nat.mul_zero, Nat.add_zero, Int.reduceDiv, Int.reduceMod, Int.toNat_natCast, Nat.lt_irrefl, Int.natCast_add, Int.cast_ofNat_Int, px_mds_RX0_0, dec_X0_swap, hh, hk, hl]
    refine h0 ?_
    unfold pc_sw
    rw [pc_hl_get (n := i.toNat + 1), if_neg (by omega)]
    cases (pc_hl μ h)[i.toNat]? <;> rfl
