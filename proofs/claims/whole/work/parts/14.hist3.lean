theorem pc_sw_at {L : List pc_Ch} {i : Nat} {a b : pc_Ch} (ha : L[i]? = some a) (hb : L[i + 1]? = some b) : pc_sw L i = (pc_sw2 a b).map (fun q => (L.set i q.1).set (i + 1) q.2) := by
  unfold pc_sw
  rw [ha, hb]
theorem pc_brF_none {n : Nat} {L : List pc_Ch} {i : Nat} (h : pc_brF n L i = none) (k : Nat) : pc_brF (n + k) L i = none := by
  induction k with
  | zero => exact h
  | succ k ih =>
    rw [show n + (k + 1) = (n + k) + 1 by omega, pc_brF_snoc, ih]
    rfl
theorem pc_brB_none {n : Nat} {L : List pc_Ch} {i : Nat} (h : pc_brB n L i = none) (k : Nat) : pc_brB (n + k) L i = none := by
  induction k with
  | zero => exact h
  | succ k ih =>
    rw [show n + (k + 1) = (n + k) + 1 by omega, pc_brB_snoc, ih]
    rfl
set_option maxHeartbeats 4000000 in
set_option maxRecDepth 100000 in
theorem c_X0_canGoBehind {G : px_G} {h : Nat} {f t : Int} {μ : px_Mem} {Q : Option px_X → px_Mem → Prop} (hh : px_kd h = 0) (hn : 0 ≤ μ h 4 ∧ μ h 4 ≤ 16) (hf : 0 ≤ f ∧ f ≤ t) (ht : t < μ h 4) (hv : pc_V (pc_hl μ h))
    (h1 : ∀ L1, pc_brF (t - f).toNat (pc_hl μ h) f.toNat = some L1 → Q (some (.inl 1)) μ) (h0 : pc_brF (t - f).toNat (pc_hl μ h) f.toNat = none → Q (some (.inl 0)) μ) : px_C G yX0_canGoBehind cX0_canGoBehind 6 (some .boolean) 1 [.inr (.inl (some h)), .inl f, .inl t] μ Q := by
  obtain ⟨hk, hl⟩ := pc_hk hh
  have fr := hv.el (pc_hl_mem (i := f) hf.1 (by omega))
  dsimp only [pc_el] at fr
  have loop : ∀ (n : Nat) (i p : Int) (L1 : List pc_Ch), f < i → i + n = t + 1 → pc_brF (i - 1 - f).toNat (pc_hl μ h) f.toNat = some L1 → L1[(i - 1).toNat]? = some (μ (h + 1) f, μ (h + 2) f, p, μ (h + 4) f) → (∀ j : Nat, i ≤ j → L1[j]? = (pc_hl μ h)[j]?) →
      ∀ x5 : Option px_X, px_J G RX0 cX0_canGoBehind 6 (some .boolean) 1 30 [some (.inr (.inl (some h))), some (.inl f), some (.inl t), some (.inl p), some (.inl i), x5] [] μ Q := by
    intro n
    induction n with
    | zero =>
      intro i p L1 hfi hin hb hp hj x5
      refine px_go (fun p => p == 30) 400 ?_
      simp only [px_lits, false_implies, true_implies, px_dec_ok, px_run_s, px_rules, px_rule_is, px_mats, px_calls, ↓reduceIte, eq_self, Bool.false_eq_true, px_flds, px_o_some, px_fvs, px_pfs, px_cts, px_cls, px_acs_, px_acn, true_and, and_true, true_or, or_true, false_or, or_false, and_self, not_true_eq_false, not_false_eq_true, Classical.not_not, Nat.reduceAdd, Nat.reduceSub, Nat.reduceBEq, Nat.reduceLT, Nat.reduceLeDiff, Nat.lt_add_one, px_tg, Int.cast_ofNat_Int, Int.reduceAdd, Int.reduceSub, Int.reduceMul, Int.reduceToNat, Int.reduceLE, Int.reduceLT, Int.reduceNeg, Int.reduceEq, Bool.or_false, Bool.false_or, Bool.or_true, Bool.true_or, List.length_cons, List.length_nil, List.nil_append, List.cons_append, Option.toList_some, Option.toList_none, reduceCtorEq, Option.some.injEq, Nat.zero_le, Nat.reduceMul, Nat.mul_zero, Nat.add_zero, Int.reduceDiv, Int.reduceMod, Int.toNat_natCast, Nat.lt_irrefl, Int.natCast_add, Int.cast_ofNat_Int, px_mds_RX0_0, dec_X0_canGoBehind, hh, hk, hl]
      simp (disch := omega) only [px_lt_iff]
      exact ⟨fun _ => h1 L1 (by rw [show t - f = i - 1 - f by omega]; exact hb), fun q => absurd (by omega) q⟩
    | succ n ih =>
      intro i p L1 hfi hin hb hp hj x5
      have hv1 := (pc_brF_keep hb).2.1 hv
      have g2 : L1[(i - 1).toNat + 1]? = some (μ (h + 1) i, μ (h + 2) i, μ (h + 3) i, μ (h + 4) i) := by
        rw [show (i - 1).toNat + 1 = i.toNat by omega, hj i.toNat (by omega)]
        exact pc_hl_at (by omega) (by omega)
      have e2 := hv1.el (List.mem_of_getElem? g2)
      have p1 := hv1.place (List.mem_of_getElem? hp)
      have p2 := hv1.place (List.mem_of_getElem? g2)
      dsimp only [pc_el] at e2 p1 p2
      have hsw := pc_sw_at hp g2
      have hsn := pc_brF_snoc (i - 1 - f).toNat (pc_hl μ h) f.toNat
      rw [hb, Option.bind_some, show f.toNat + (i - 1 - f).toNat = (i - 1).toNat by omega, hsw] at hsn
      refine px_go (fun p => p == 30) 400 ?_
      simp only [px_lits, false_implies, true_implies, px_dec_ok, px_run_s, px_rules, px_rule_is, px_mats, px_calls, ↓reduceIte, eq_self, Bool.false_eq_true, px_flds, px_o_some, px_fvs, px_pfs, px_cts, px_cls, px_acs_, px_acn, true_and, and_true, true_or, or_true, false_or, or_false, and_self, not_true_eq_false, not_false_eq_true, Classical.not_not, Nat.reduceAdd, Nat.reduceSub, Nat.reduceBEq, Nat.reduceLT, Nat.reduceLeDiff, Nat.lt_add_one, px_tg, Int.cast_ofNat_Int, Int.reduceAdd, Int.reduceSub, Int.reduceMul, Int.reduceToNat, Int.reduceLE, Int.reduceLT, Int.reduceNeg, Int.reduceEq, Bool.or_false, Bool.false_or, Bool.or_true, Bool.true_or, List.length_cons, List.length_nil, List.nil_append, List.cons_append, Option.toList_some, Option.toList_none, reduceCtorEq, Option.some.injEq, Nat.zero_le, Nat.reduceMul, Nat.mul_zero, Nat.add_zero, Int.reduceDiv, Int.reduceMod, Int.toNat_natCast, Nat.lt_irrefl, Int.natCast_add, Int.cast_ofNat_Int, px_mds_RX0_0, dec_X0_canGoBehind, hh, hk, hl]
      simp (disch := omega) only [px_lt_iff]
      refine ⟨fun q => by omega, fun _ => ?_⟩
      repeat refine ⟨by omega, ?_⟩
      refine c_X10_turned fr.2.1 e2.2.1 (by omega) (by omega) ?_
      cases htr : pc_tr (μ (h + 2) f) p (μ (h + 2) i) (μ (h + 3) i) with
      | none =>
        rw [pc_trz_none htr]
        refine px_go (fun p => p == 30) 400 ?_
        simp only [px_lits, false_implies, true_implies, px_dec_ok, px_run_s, px_rules, px_rule_is, px_mats, px_calls, ↓reduceIte, eq_self, Bool.false_eq_true, px_flds, px_o_some, px_fvs, px_pfs, px_cts, px_cls, px_acs_, px_acn, true_and, and_true, true_or, or_true, false_or, or_false, and_self, not_true_eq_false, not_false_eq_true, Classical.not_not, Nat.reduceAdd, Nat.reduceSub, Nat.reduceBEq, Nat.reduceLT, Nat.reduceLeDiff, Nat.lt_add_one, px_tg, Int.cast_ofNat_Int, Int.reduceAdd, Int.reduceSub, Int.reduceMul, Int.reduceToNat, Int.reduceLE, Int.reduceLT, Int.reduceNeg, Int.reduceEq, Bool.or_false, Bool.false_or, Bool.or_true, Bool.true_or, List.length_cons, List.length_nil, List.nil_append, List.cons_append, Option.toList_some, Option.toList_none, reduceCtorEq, Option.some.injEq, Nat.zero_le, Nat.reduceMul, Nat.mul_zero, Nat.add_zero, Int.reduceDiv, Int.reduceMod, Int.toNat_natCast, Nat.lt_irrefl, Int.natCast_add, Int.cast_ofNat_Int, px_mds_RX0_0, dec_X0_canGoBehind, hh, hk, hl]
        refine h0 ?_
        simp only [pc_sw2, htr, Option.map_none] at hsn
        have := pc_brF_none hsn (t - i).toNat
        rw [show (i - 1 - f).toNat + 1 + (t - i).toNat = (t - f).toNat by omega] at this
        exact this
      | some km =>
        obtain ⟨k, m⟩ := km
        have hb9 := pc_tr_bd htr p1.1 p2.1
        rw [pc_trz_some htr]
        have d2 : (100 * k + m) % 100 = m := by omega
        refine px_go (fun p => p == 30) 400 ?_
        simp only [px_lits, false_implies, true_implies, px_dec_ok, px_run_s, px_rules, px_rule_is, px_mats, px_calls, ↓reduceIte, eq_self, Bool.false_eq_true, px_flds, px_o_some, px_fvs, px_pfs, px_cts, px_cls, px_acs_, px_acn, true_and, and_true, true_or, or_true, false_or, or_false, and_self, not_true_eq_false, not_false_eq_true, Classical.not_not, Nat.reduceAdd, Nat.reduceSub, Nat.reduceBEq, Nat.reduceLT, Nat.reduceLeDiff, Nat.lt_add_one, px_tg, Int.cast_ofNat_Int, Int.reduceAdd, Int.reduceSub, Int.reduceMul, Int.reduceToNat, Int.reduceLE, Int.reduceLT, Int.reduceNeg, Int.reduceEq, Bool.or_false, Bool.false_or, Bool.or_true, Bool.true_or, List.length_cons, List.length_nil, List.nil_append, List.cons_append, Option.toList_some, Option.toList_none, reduceCtorEq, Option.some.injEq, Nat.zero_le, Nat.reduceMul, Nat.mul_zero, Nat.add_zero, Int.reduceDiv, Int.reduceMod, Int.toNat_natCast, Nat.lt_irrefl, Int.natCast_add, Int.cast_ofNat_Int, px_mds_RX0_0, dec_X0_canGoBehind, hh, hk, hl, d2]
        simp (disch := omega) only [px_eq_iff]
        refine ⟨fun _ => ⟨by omega, ?_⟩, fun q => by omega⟩
        simp only [pc_sw2, htr, Option.map_some] at hsn
        refine ih (i + 1) m _ (by omega) (by omega) (by rw [show (i + 1 - 1 - f).toNat = (i - 1 - f).toNat + 1 by omega]; exact hsn) ?_ ?_ _
        · rw [List.getElem?_set, if_pos (by omega), if_pos]
          have := (List.getElem?_eq_some_iff.mp g2).1
          simp only [List.length_set]
          omega
        · intro j hj2
          rw [List.getElem?_set, if_neg (by omega), List.getElem?_set, if_neg (by omega)]
          exact hj j (by omega)
  refine px_enter RX0 (by decide +kernel) rfl (by simp) (by simp [px_c1]) ?_
  simp only [List.map_cons, List.map_nil, List.length_cons, List.length_nil, List.replicate, List.append_nil, Nat.reduceAdd, Nat.reduceSub, List.cons_append, List.nil_append]
  refine px_go (fun p => p == 30) 400 ?_
  simp only [px_lits, false_implies, true_implies, px_dec_ok, px_run_s, px_rules, px_rule_is, px_mats, px_calls, ↓reduceIte, eq_self, Bool.false_eq_true, px_flds, px_o_some, px_fvs, px_pfs, px_cts, px_cls, px_acs_, px_acn, true_and, and_true, true_or, or_true, false_or, or_false, and_self, not_true_eq_false, not_false_eq_true, Classical.not_not, Nat.reduceAdd, Nat.reduceSub, Nat.reduceBEq, Nat.reduceLT, Nat.reduceLeDiff, Nat.lt_add_one, px_tg, Int.cast_ofNat_Int, Int.reduceAdd, Int.reduceSub, Int.reduceMul, Int.reduceToNat, Int.reduceLE, Int.reduceLT, Int.reduceNeg, Int.reduceEq, Bool.or_false, Bool.false_or, Bool.or_true, Bool.true_or, List.length_cons, List.length_nil, List.nil_append, List.cons_append, Option.toList_some, Option.toList_none, reduceCtorEq, Option.some.injEq, Nat.zero_le, Nat.reduceMul, Nat.mul_zero, Nat.add_zero, Int.reduceDiv, Int.reduceMod, Int.toNat_natCast, Nat.lt_irrefl, Int.natCast_add, Int.cast_ofNat_Int, px_mds_RX0_0, dec_X0_canGoBehind, hh]
  refine c_X0_hasPlace hh hn (by omega) (fun q => ?_) (fun q => absurd ⟨hf.1, by omega⟩ q)
  refine px_go (fun p => p == 30) 400 ?_
  simp only [px_lits, false_implies, true_implies, px_dec_ok, px_run_s, px_rules, px_rule_is, px_mats, px_calls, ↓reduceIte, eq_self, Bool.false_eq_true, px_flds, px_o_some, px_fvs, px_pfs, px_cts, px_cls, px_acs_, px_acn, true_and, and_true, true_or, or_true, false_or, or_false, and_self, not_true_eq_false, not_false_eq_true, Classical.not_not, Nat.reduceAdd, Nat.reduceSub, Nat.reduceBEq, Nat.reduceLT, Nat.reduceLeDiff, Nat.lt_add_one, px_tg, Int.cast_ofNat_Int, Int.reduceAdd, Int.reduceSub, Int.reduceMul, Int.reduceToNat, Int.reduceLE, Int.reduceLT, Int.reduceNeg, Int.reduceEq, Bool.or_false, Bool.false_or, Bool.or_true, Bool.true_or, List.length_cons, List.length_nil, List.nil_append, List.cons_append, Option.toList_some, Option.toList_none, reduceCtorEq, Option.some.injEq, Nat.zero_le, Nat.reduceMul, Nat.mul_zero, Nat.add_zero, Int.reduceDiv, Int.reduceMod, Int.toNat_natCast, Nat.lt_irrefl, Int.natCast_add, Int.cast_ofNat_Int, px_mds_RX0_0, dec_X0_canGoBehind, hh]
  refine c_X0_hasPlace hh hn (by omega) (fun q => ?_) (fun q => absurd ⟨by omega, ht⟩ q)
  refine px_go (fun p => p == 30) 400 ?_
  simp only [px_lits, false_implies, true_implies, px_dec_ok, px_run_s, px_rules, px_rule_is, px_mats, px_calls, ↓reduceIte, eq_self, Bool.false_eq_true, px_flds, px_o_some, px_fvs, px_pfs, px_cts, px_cls, px_acs_, px_acn, true_and, and_true, true_or, or_true, false_or, or_false, and_self, not_true_eq_false, not_false_eq_true, Classical.not_not, Nat.reduceAdd, Nat.reduceSub, Nat.reduceBEq, Nat.reduceLT, Nat.reduceLeDiff, Nat.lt_add_one, px_tg, Int.cast_ofNat_Int, Int.reduceAdd, Int.reduceSub, Int.reduceMul, Int.reduceToNat, Int.reduceLE, Int.reduceLT, Int.reduceNeg, Int.reduceEq, Bool.or_false, Bool.false_or, Bool.or_true, Bool.true_or, List.length_cons, List.length_nil, List.nil_append, List.cons_append, Option.toList_some, Option.toList_none, reduceCtorEq, Option.some.injEq, Nat.zero_le, Nat.reduceMul, Nat.mul_zero, Nat.add_zero, Int.reduceDiv, Int.reduceMod, Int.toNat_natCast, Nat.lt_irrefl, Int.natCast_add, Int.cast_ofNat_Int, px_mds_RX0_0, dec_X0_canGoBehind, hh, hk, hl]
  refine ⟨by omega, ?_⟩
  refine loop (t - f).toNat (f + 1) (μ (h + 3) f) (pc_hl μ h) (by omega) (by omega) (by rw [show (f + 1 - 1 - f).toNat = 0 by omega]; rfl) ?_ (fun _ _ => rfl) _
  rw [show f + 1 - 1 = f by omega]
  exact pc_hl_at hf.1 (by omega)
set_option maxHeartbeats 4000000 in
set_option maxRecDepth 100000 in
theorem c_X0_canGoToEnd {G : px_G} {h : Nat} {f : Int} {μ : px_Mem} {Q : Option px_X → px_Mem → Prop} (hh : px_kd h = 0) (hn : 0 ≤ μ h 4 ∧ μ h 4 ≤ 16) (hf : 0 ≤ f ∧ f < μ h 4) (hv : pc_V (pc_hl μ h))
    (h1 : ∀ L1, pc_brF (μ h 4 - 1 - f).toNat (pc_hl μ h) f.toNat = some L1 → Q (some (.inl 1)) μ) (h0 : pc_brF (μ h 4 - 1 - f).toNat (pc_hl μ h) f.toNat = none → Q (some (.inl 0)) μ) : px_C G yX0_canGoToEnd cX0_canGoToEnd 2 (some .boolean) 2 [.inr (.inl (some h)), .inl f] μ Q := by
  refine px_enter RX0 (by decide +kernel) rfl (by simp) (by simp [px_c1]) ?_
  simp only [List.map_cons, List.map_nil, List.length_cons, List.length_nil, List.replicate, List.append_nil, Nat.reduceAdd, Nat.reduceSub, List.cons_append, List.nil_append]
  refine px_go (fun _ => false) 400 ?_
  simp only [px_lits, false_implies, true_implies, px_dec_ok, px_run_s, px_rules, px_rule_is, px_mats, px_calls, ↓reduceIte, eq_self, Bool.false_eq_true, px_flds, px_o_some, px_fvs, px_pfs, px_cts, px_cls, px_acs_, px_acn, true_and, and_true, true_or, or_true, false_or, or_false, and_self, not_true_eq_false, not_false_eq_true, Classical.not_not, Nat.reduceAdd, Nat.reduceSub, Nat.reduceBEq, Nat.reduceLT, Nat.reduceLeDiff, Nat.lt_add_one, px_tg, Int.cast_ofNat_Int, Int.reduceAdd, Int.reduceSub, Int.reduceMul, Int.reduceToNat, Int.reduceLE, Int.reduceLT, Int.reduceNeg, Int.reduceEq, Bool.or_false, Bool.false_or, Bool.or_true, Bool.true_or, List.length_cons, List.length_nil, List.nil_append, List.cons_append, Option.toList_some, Option.toList_none, reduceCtorEq, Option.some.injEq, Nat.zero_le, Nat.reduceMul, Nat.mul_zero, Nat.add_zero, Int.reduceDiv, Int.reduceMod, Int.toNat_natCast, Nat.lt_irrefl, Int.natCast_add, Int.cast_ofNat_Int, px_mds_RX0_0, dec_X0_canGoToEnd, hh]
  refine c_X0_canGoBehind hh hn (by omega) (by omega) hv (fun L1 q => ?_) (fun q => ?_)
  · refine px_go (fun _ => false) 400 ?_
    simp only [px_lits, false_implies, true_implies, px_dec_ok, px_run_s, px_rules, px_rule_is, px_mats, px_calls, ↓reduceIte, eq_self, Bool.false_eq_true, px_flds, px_o_some, px_fvs, px_pfs, px_cts, px_cls, px_acs_, px_acn, true_and, and_true, true_or, or_true, false_or, or_false, and_self, not_true_eq_false, not_false_eq_true, Classical.not_not, Nat.reduceAdd, Nat.reduceSub, Nat.reduceBEq, Nat.reduceLT, Nat.reduceLeDiff, Nat.lt_add_one, px_tg, Int.cast_ofNat_Int, Int.reduceAdd, Int.reduceSub, Int.reduceMul, Int.reduceToNat, Int.reduceLE, Int.reduceLT, Int.reduceNeg, Int.reduceEq, Bool.or_false, Bool.false_or, Bool.or_true, Bool.true_or, List.length_cons, List.length_nil, List.nil_append, List.cons_append, Option.toList_some, Option.toList_none, reduceCtorEq, Option.some.injEq, Nat.zero_le, Nat.reduceMul, Nat.mul_zero, Nat.add_zero, Int.reduceDiv, Int.reduceMod, Int.toNat_natCast, Nat.lt_irrefl, Int.natCast_add, Int.cast_ofNat_Int, px_mds_RX0_0, dec_X0_canGoToEnd, hh]
    exact h1 L1 q
  · refine px_go (fun _ => false) 400 ?_
    simp only [px_lits, false_implies, true_implies, px_dec_ok, px_run_s, px_rules, px_rule_is, px_mats, px_calls, ↓reduceIte, eq_self, Bool.false_eq_true, px_flds, px_o_some, px_fvs, px_pfs, px_cts, px_cls, px_acs_, px_acn, true_and, and_true, true_or, or_true, false_or, or_false, and_self, not_true_eq_false, not_false_eq_true, Classical.not_not, Nat.reduceAdd, Nat.reduceSub, Nat.reduceBEq, Nat.reduceLT, Nat.reduceLeDiff, Nat.lt_add_one, px_tg, Int.cast_ofNat_Int, Int.reduceAdd, Int.reduceSub, Int.reduceMul, Int.reduceToNat, Int.reduceLE, Int.reduceLT, Int.reduceNeg, Int.reduceEq, Bool.or_false, Bool.false_or, Bool.or_true, Bool.true_or, List.length_cons, List.length_nil, List.nil_append, List.cons_append, Option.toList_some, Option.toList_none, reduceCtorEq, Option.some.injEq, Nat.zero_le, Nat.reduceMul, Nat.mul_zero, Nat.add_zero, Int.reduceDiv, Int.reduceMod, Int.toNat_natCast, Nat.lt_irrefl, Int.natCast_add, Int.cast_ofNat_Int, px_mds_RX0_0, dec_X0_canGoToEnd, hh]
    exact h0 q
-- towards the end
set_option maxHeartbeats 4000000 in
set_option maxRecDepth 100000 in
theorem c_X0_bringF {G : px_G} {h : Nat} {f t : Int} {μ : px_Mem} {Q : Option px_X → px_Mem → Prop} (hh : px_kd h = 0) (hn : 0 ≤ μ h 4 ∧ μ h 4 ≤ 16) (hf : 0 ≤ f ∧ f ≤ t) (ht : t < μ h 4) (hv : pc_V (pc_hl μ h))
    (h1 : ∀ (L1 : List pc_Ch) (μ1 : px_Mem), pc_brF (t - f).toNat (pc_hl μ h) f.toNat = some L1 → (∀ o, (o < h + 1 ∨ h + 4 < o) → μ1 o = μ o) → pc_hl μ1 h = L1 → Q (some (.inl 1)) μ1)
    (h0 : ∀ μ1 : px_Mem, pc_brF (t - f).toNat (pc_hl μ h) f.toNat = none → (∀ o, (o < h + 1 ∨ h + 4 < o) → μ1 o = μ o) → Q (some (.inl 0)) μ1) : px_C G yX0_bring cX0_bring 5 (some .boolean) 2 [.inr (.inl (some h)), .inl f, .inl t] μ Q := by
  have loop : ∀ (n : Nat) (i : Int) (μ1 : px_Mem), f ≤ i → i + n = t → (∀ o, (o < h + 1 ∨ h + 4 < o) → μ1 o = μ o) → pc_brF (i - f).toNat (pc_hl μ h) f.toNat = some (pc_hl μ1 h) →
      px_J G RX0 cX0_bring 5 (some .boolean) 2 5 [some (.inr (.inl (some h))), some (.inl f), some (.inl t), some (.inl 1), some (.inl i)] [] μ1 Q := by
    intro n
    induction n with
    | zero =>
      intro i μ1 hfi hin hfr hb
      refine px_go (fun p => p == 5) 400 ?_
      simp only [px_lits, false_implies, true_implies, px_dec_ok, px_run_s, px_rules, px_rule_is, px_mats, px_calls, ↓reduceIte, eq_self, Bool.false_eq_true, px_flds, px_o_some, px_fvs, px_pfs, px_cts, px_cls, px_acs_, px_acn, true_and, and_true, true_or, or_true, false_or, or_false, and_self, not_true_eq_false, not_false_eq_true, Classical.not_not, Nat.reduceAdd, Nat.reduceSub, Nat.reduceBEq, Nat.reduceLT, Nat.reduceLeDiff, Nat.lt_add_one, px_tg, Int.cast_ofNat_Int, Int.reduceAdd, Int.reduceSub, Int.reduceMul, Int.reduceToNat, Int.reduceLE, Int.reduceLT, Int.reduceNeg, Int.reduceEq, Bool.or_false, Bool.false_or, Bool.or_true, Bool.true_or, List.length_cons, List.length_nil, List.nil_append, List.cons_append, Option.toList_some, Option.toList_none, reduceCtorEq, Option.some.injEq, Nat.zero_le, Nat.reduceMul, Nat.mul_zero, Nat.add_zero, Int.reduceDiv, Int.reduceMod, Int.toNat_natCast, Nat.lt_irrefl, Int.natCast_add, Int.cast_ofNat_Int, px_mds_RX0_0, dec_X0_bring, hh]
      simp (disch := omega) only [px_le_iff]
      refine ⟨fun _ => ⟨fun _ => ?_, fun q => absurd hf.2 q⟩, fun q => absurd (by omega) q⟩
      exact h1 _ μ1 (by rw [show t - f = i - f by omega]; exact hb) hfr rfl
    | succ n ih =>
      intro i μ1 hfi hin hfr hb
      have hv1 := (pc_brF_keep hb).2.1 hv
      have hs4 : μ1 h 4 = μ h 4 := by rw [hfr h (by omega)]
      have hsn := pc_brF_snoc (i - f).toNat (pc_hl μ h) f.toNat
      rw [hb, Option.bind_some, show f.toNat + (i - f).toNat = i.toNat by omega] at hsn
      refine px_go (fun p => p == 5) 400 ?_
      simp only [px_lits, false_implies, true_implies, px_dec_ok, px_run_s, px_rules, px_rule_is, px_mats, px_calls, ↓reduceIte, eq_self, Bool.false_eq_true, px_flds, px_o_some, px_fvs, px_pfs, px_cts, px_cls, px_acs_, px_acn, true_and, and_true, true_or, or_true, false_or, or_false, and_self, not_true_eq_false, not_false_eq_true, Classical.not_not, Nat.reduceAdd, Nat.reduceSub, Nat.reduceBEq, Nat.reduceLT, Nat.reduceLeDiff, Nat.lt_add_one, px_tg, Int.cast_ofNat_Int, Int.reduceAdd, Int.reduceSub, Int.reduceMul, Int.reduceToNat, Int.reduceLE, Int.reduceLT, Int.reduceNeg, Int.reduceEq, Bool.or_false, Bool.false_or, Bool.or_true, Bool.true_or, List.length_cons, List.length_nil, List.nil_append, List.cons_append, Option.toList_some, Option.toList_none, reduceCtorEq, Option.some.injEq, Nat.zero_le, Nat.reduceMul, Nat.mul_zero, Nat.add_zero, Int.reduceDiv, Int.reduceMod, Int.toNat_natCast, Nat.lt_irrefl, Int.natCast_add, Int.cast_ofNat_Int, px_mds_RX0_0, dec_X0_bring, hh]
      simp (disch := omega) only [px_le_iff]
      refine ⟨fun q => by omega, fun _ => ?_⟩
      refine c_X0_swap hh (by rw [hs4]; exact hn) (by omega) hv1 (fun L2 μ2 e1 e2 e3 => ?_) (fun e1 => ?_)
      · refine px_go (fun p => p == 5) 400 ?_
        simp only [px_lits, false_implies, true_implies, px_dec_ok, px_run_s, px_rules, px_rule_is, px_mats, px_calls, ↓reduceIte, eq_self, Bool.false_eq_true, px_flds, px_o_some, px_fvs, px_pfs, px_cts, px_cls, px_acs_, px_acn, true_and, and_true, true_or, or_true, false_or, or_false, and_self, not_true_eq_false, not_false_eq_true, Classical.not_not, Nat.reduceAdd, Nat.reduceSub, Nat.reduceBEq, Nat.reduceLT, Nat.reduceLeDiff, Nat.lt_add_one, px_tg, Int.cast_ofNat_Int, Int.reduceAdd, Int.reduceSub, Int.reduceMul, Int.reduceToNat, Int.reduceLE, Int.reduceLT, Int.reduceNeg, Int.reduceEq, Bool.or_false, Bool.false_or, Bool.or_true, Bool.true_or, List.length_cons, List.length_nil, List.nil_append, List.cons_append, Option.toList_some, Option.toList_none, reduceCtorEq, Option.some.injEq, Nat.zero_le, Nat.reduceMul, Nat.mul_zero, Nat.add_zero, Int.reduceDiv, Int.reduceMod, Int.toNat_natCast, Nat.lt_irrefl, Int.natCast_add, Int.cast_ofNat_Int, px_mds_RX0_0, dec_X0_bring, hh]
        refine ih (i + 1) μ2 (by omega) (by omega) (fun o ho => by rw [e2 o ho, hfr o ho]) ?_
        rw [show (i + 1 - f).toNat = (i - f).toNat + 1 by omega, hsn, e1, e3]
      · refine px_go (fun p => p == 5) 400 ?_
        simp only [px_lits, false_implies, true_implies, px_dec_ok, px_run_s, px_rules, px_rule_is, px_mats, px_calls, ↓reduceIte, eq_self, Bool.false_eq_true, px_flds, px_o_some, px_fvs, px_pfs, px_cts, px_cls, px_acs_, px_acn, true_and, and_true, true_or, or_true, false_or, or_false, and_self, not_true_eq_false, not_false_eq_true, Classical.not_not, Nat.reduceAdd, Nat.reduceSub, Nat.reduceBEq, Nat.reduceLT, Nat.reduceLeDiff, Nat.lt_add_one, px_tg, Int.cast_ofNat_Int, Int.reduceAdd, Int.reduceSub, Int.reduceMul, Int.reduceToNat, Int.reduceLE, Int.reduceLT, Int.reduceNeg, Int.reduceEq, Bool.or_false, Bool.false_or, Bool.or_true, Bool.true_or, List.length_cons, List.length_nil, List.nil_append, List.cons_append, Option.toList_some, Option.toList_none, reduceCtorEq, Option.some.injEq, Nat.zero_le, Nat.reduceMul, Nat.mul_zero, Nat.add_zero, Int.reduceDiv, Int.reduceMod, Int.toNat_natCast, Nat.lt_irrefl, Int.natCast_add, Int.cast_ofNat_Int, px_mds_RX0_0, dec_X0_bring, hh]
        have hno : pc_brF (t - f).toNat (pc_hl μ h) f.toNat = none := by
          rw [e1] at hsn
          have := pc_brF_none hsn n
          rw [show (i - f).toNat + 1 + n = (t - f).toNat by omega] at this
          exact this
        refine px_go (fun p => p == 31) 400 ?_
        simp only [px_lits, false_implies, true_implies, px_dec_ok, px_run_s, px_rules, px_rule_is, px_mats, px_calls, ↓reduceIte, eq_self, Bool.false_eq_true, px_flds, px_o_some, px_fvs, px_pfs, px_cts, px_cls, px_acs_, px_acn, true_and, and_true, true_or, or_true, false_or, or_false, and_self, not_true_eq_false, not_false_eq_true, Classical.not_not, Nat.reduceAdd, Nat.reduceSub, Nat.reduceBEq, Nat.reduceLT, Nat.reduceLeDiff, Nat.lt_add_one, px_tg, Int.cast_ofNat_Int, Int.reduceAdd, Int.reduceSub, Int.reduceMul, Int.reduceToNat, Int.reduceLE, Int.reduceLT, Int.reduceNeg, Int.reduceEq, Bool.or_false, Bool.false_or, Bool.or_true, Bool.true_or, List.length_cons, List.length_nil, List.nil_append, List.cons_append, Option.toList_some, Option.toList_none, reduceCtorEq, Option.some.injEq, Nat.zero_le, Nat.reduceMul, Nat.mul_zero, Nat.add_zero, Int.reduceDiv, Int.reduceMod, Int.toNat_natCast, Nat.lt_irrefl, Int.natCast_add, Int.cast_ofNat_Int, px_mds_RX0_0, dec_X0_bring, hh]
        simp (disch := omega) only [px_le_iff]
        have fin := h0 μ1 hno hfr
        refine ⟨fun _ => ?_, fun _ => ?_⟩
        · refine px_go (fun _ => false) 400 ?_
          simp only [px_lits, false_implies, true_implies, px_dec_ok, px_run_s, px_rules, px_rule_is, px_mats, px_calls, ↓reduceIte, eq_self, Bool.false_eq_true, px_flds, px_o_some, px_fvs, px_pfs, px_cts, px_cls, px_acs_, px_acn, true_and, and_true, true_or, or_true, false_or, or_false, and_self, not_true_eq_false, not_false_eq_true, Classical.not_not, Nat.reduceAdd, Nat.reduceSub, Nat.reduceBEq, Nat.reduceLT, Nat.reduceLeDiff, Nat.lt_add_one, px_tg, Int.cast_ofNat_Int, Int.reduceAdd, Int.reduceSub, Int.reduceMul, Int.reduceToNat, Int.reduceLE, Int.reduceLT, Int.reduceNeg, Int.reduceEq, Bool.or_false, Bool.false_or, Bool.or_true, Bool.true_or, List.length_cons, List.length_nil, List.nil_append, List.cons_append, Option.toList_some, Option.toList_none, reduceCtorEq, Option.some.injEq, Nat.zero_le, Nat.reduceMul, Nat.mul_zero, Nat.add_zero, Int.reduceDiv, Int.reduceMod, Int.toNat_natCast, Nat.lt_irrefl, Int.natCast_add, Int.cast_ofNat_Int, px_mds_RX0_0, dec_X0_bring, hh]
          simp (disch := omega) only [px_le_iff]
          exact ⟨fun _ => fin, fun q => absurd hf.2 q⟩
        · refine px_go (fun _ => false) 400 ?_
          simp only [px_lits, false_implies, true_implies, px_dec_ok, px_run_s, px_rules, px_rule_is, px_mats, px_calls, ↓reduceIte, eq_self, Bool.false_eq_true, px_flds, px_o_some, px_fvs, px_pfs, px_cts, px_cls, px_acs_, px_acn, true_and, and_true, true_or, or_true, false_or, or_false, and_self, not_true_eq_false, not_false_eq_true, Classical.not_not, Nat.reduceAdd, Nat.reduceSub, Nat.reduceBEq, Nat.reduceLT, Nat.reduceLeDiff, Nat.lt_add_one, px_tg, Int.cast_ofNat_Int, Int.reduceAdd, Int.reduceSub, Int.reduceMul, Int.reduceToNat, Int.reduceLE, Int.reduceLT, Int.reduceNeg, Int.reduceEq, Bool.or_false, Bool.false_or, Bool.or_true, Bool.true_or, List.length_cons, List.length_nil, List.nil_append, List.cons_append, Option.toList_some, Option.toList_none, reduceCtorEq, Option.some.injEq, Nat.zero_le, Nat.reduceMul, Nat.mul_zero, Nat.add_zero, Int.reduceDiv, Int.reduceMod, Int.toNat_natCast, Nat.lt_irrefl, Int.natCast_add, Int.cast_ofNat_Int, px_mds_RX0_0, dec_X0_bring, hh]
          simp (disch := omega) only [px_le_iff]
          exact ⟨fun _ => fin, fun q => absurd hf.2 q⟩
  refine px_enter RX0 (by decide +kernel) rfl (by simp) (by simp [px_c1]) ?_
  simp only [List.map_cons, List.map_nil, List.length_cons, List.length_nil, List.replicate, List.append_nil, Nat.reduceAdd, Nat.reduceSub, List.cons_append, List.nil_append]
  refine px_go (fun p => p == 5) 400 ?_
  simp only [px_lits, false_implies, true_implies, px_dec_ok, px_run_s, px_rules, px_rule_is, px_mats, px_calls, ↓reduceIte, eq_self, Bool.false_eq_true, px_flds, px_o_some, px_fvs, px_pfs, px_cts, px_cls, px_acs_, px_acn, true_and, and_true, true_or, or_true, false_or, or_false, and_self, not_true_eq_false, not_false_eq_true, Classical.not_not, Nat.reduceAdd, Nat.reduceSub, Nat.reduceBEq, Nat.reduceLT, Nat.reduceLeDiff, Nat.lt_add_one, px_tg, Int.cast_ofNat_Int, Int.reduceAdd, Int.reduceSub, Int.reduceMul, Int.reduceToNat, Int.reduceLE, Int.reduceLT, Int.reduceNeg, Int.reduceEq, Bool.or_false, Bool.false_or, Bool.or_true, Bool.true_or, List.length_cons, List.length_nil, List.nil_append, List.cons_append, Option.toList_some, Option.toList_none, reduceCtorEq, Option.some.injEq, Nat.zero_le, Nat.reduceMul, Nat.mul_zero, Nat.add_zero, Int.reduceDiv, Int.reduceMod, Int.toNat_natCast, Nat.lt_irrefl, Int.natCast_add, Int.cast_ofNat_Int, px_mds_RX0_0, dec_X0_bring, hh]
  exact loop (t - f).toNat f μ (by omega) (by omega) (fun _ _ => rfl) (by rw [show (f - f).toNat = 0 by omega]; rfl)
-- towards the front
set_option maxHeartbeats 4000000 in
set_option maxRecDepth 100000 in
theorem c_X0_bringB {G : px_G} {h : Nat} {f t : Int} {μ : px_Mem} {Q : Option px_X → px_Mem → Prop} (hh : px_kd h = 0) (hn : 0 ≤ μ h 4 ∧ μ h 4 ≤ 16) (hf : 0 ≤ t ∧ t ≤ f) (ht : f < μ h 4) (hv : pc_V (pc_hl μ h))
    (h1 : ∀ (L1 : List pc_Ch) (μ1 : px_Mem), pc_brB (f - t).toNat (pc_hl μ h) f.toNat = some L1 → (∀ o, (o < h + 1 ∨ h + 4 < o) → μ1 o = μ o) → pc_hl μ1 h = L1 → Q (some (.inl 1)) μ1)
    (h0 : ∀ μ1 : px_Mem, pc_brB (f - t).toNat (pc_hl μ h) f.toNat = none → (∀ o, (o < h + 1 ∨ h + 4 < o) → μ1 o = μ o) → Q (some (.inl 0)) μ1) : px_C G yX0_bring cX0_bring 5 (some .boolean) 2 [.inr (.inl (some h)), .inl f, .inl t] μ Q := by
  have loop : ∀ (n : Nat) (i : Int) (μ1 : px_Mem), i ≤ f → t + n = i → (∀ o, (o < h + 1 ∨ h + 4 < o) → μ1 o = μ o) → pc_brB (f - i).toNat (pc_hl μ h) f.toNat = some (pc_hl μ1 h) →
      px_J G RX0 cX0_bring 5 (some .boolean) 2 31 [some (.inr (.inl (some h))), some (.inl f), some (.inl t), some (.inl 1), some (.inl i)] [] μ1 Q := by
    intro n
    induction n with
    | zero =>
      intro i μ1 hfi hin hfr hb
      refine px_go (fun p => p == 31) 400 ?_
      simp only [px_lits, false_implies, true_implies, px_dec_ok, px_run_s, px_rules, px_rule_is, px_mats, px_calls, ↓reduceIte, eq_self, Bool.false_eq_true, px_flds, px_o_some, px_fvs, px_pfs, px_cts, px_cls, px_acs_, px_acn, true_and, and_true, true_or, or_true, false_or, or_false, and_self, not_true_eq_false, not_false_eq_true, Classical.not_not, Nat.reduceAdd, Nat.reduceSub, Nat.reduceBEq, Nat.reduceLT, Nat.reduceLeDiff, Nat.lt_add_one, px_tg, Int.cast_ofNat_Int, Int.reduceAdd, Int.reduceSub, Int.reduceMul, Int.reduceToNat, Int.reduceLE, Int.reduceLT, Int.reduceNeg, Int.reduceEq, Bool.or_false, Bool.false_or, Bool.or_true, Bool.true_or, List.length_cons, List.length_nil, List.nil_append, List.cons_append, Option.toList_some, Option.toList_none, reduceCtorEq, Option.some.injEq, Nat.zero_le, Nat.reduceMul, Nat.mul_zero, Nat.add_zero, Int.reduceDiv, Int.reduceMod, Int.toNat_natCast, Nat.lt_irrefl, Int.natCast_add, Int.cast_ofNat_Int, px_mds_RX0_0, dec_X0_bring, hh]
      simp (disch := omega) only [px_le_iff]
      refine ⟨fun _ => h1 _ μ1 (by rw [show f - t = f - i by omega]; exact hb) hfr rfl, fun q => absurd (by omega) q⟩
    | succ n ih =>
      intro i μ1 hfi hin hfr hb
      have hv1 := (pc_brB_keep hb).2.1 hv
      have hs4 : μ1 h 4 = μ h 4 := by rw [hfr h (by omega)]
      have hsn := pc_brB_snoc (f - i).toNat (pc_hl μ h) f.toNat
      rw [hb, Option.bind_some, show f.toNat - (f - i).toNat - 1 = (i - 1).toNat by omega] at hsn
      refine px_go (fun p => p == 31) 400 ?_
      simp only [px_lits, false_implies, true_implies, px_dec_ok, px_run_s, px_rules, px_rule_is, px_mats, px_calls, ↓reduceIte, eq_self, Bool.false_eq_true, px_flds, px_o_some, px_fvs, px_pfs, px_cts, px_cls, px_acs_, px_acn, true_and, and_true, true_or, or_true, false_or, or_false, and_self, not_true_eq_false, not_false_eq_true, Classical.not_not, Nat.reduceAdd, Nat.reduceSub, Nat.reduceBEq, Nat.reduceLT, Nat.reduceLeDiff, Nat.lt_add_one, px_tg, Int.cast_ofNat_Int, Int.reduceAdd, Int.reduceSub, Int.reduceMul, Int.reduceToNat, Int.reduceLE, Int.reduceLT, Int.reduceNeg, Int.reduceEq, Bool.or_false, Bool.false_or, Bool.or_true, Bool.true_or, List.length_cons, List.length_nil, List.nil_append, List.cons_append, Option.toList_some, Option.toList_none, reduceCtorEq, Option.some.injEq, Nat.zero_le, Nat.reduceMul, Nat.mul_zero, Nat.add_zero, Int.reduceDiv, Int.reduceMod, Int.toNat_natCast, Nat.lt_irrefl, Int.natCast_add, Int.cast_ofNat_Int, px_mds_RX0_0, dec_X0_bring, hh]
      simp (disch := omega) only [px_le_iff]
      refine ⟨fun q => by omega, fun _ => ?_⟩
      refine c_X0_swap hh (by rw [hs4]; exact hn) (by omega) hv1 (fun L2 μ2 e1 e2 e3 => ?_) (fun e1 => ?_)
      · refine px_go (fun p => p == 31) 400 ?_
        simp only [px_lits, false_implies, true_implies, px_dec_ok, px_run_s, px_rules, px_rule_is, px_mats, px_calls, ↓reduceIte, eq_self, Bool.false_eq_true, px_flds, px_o_some, px_fvs, px_pfs, px_cts, px_cls, px_acs_, px_acn, true_and, and_true, true_or, or_true, false_or, or_false, and_self, not_true_eq_false, not_false_eq_true, Classical.not_not, Nat.reduceAdd, Nat.reduceSub, Nat.reduceBEq, Nat.reduceLT, Nat.reduceLeDiff, Nat.lt_add_one, px_tg, Int.cast_ofNat_Int, Int.reduceAdd, Int.reduceSub, Int.reduceMul, Int.reduceToNat, Int.reduceLE, Int.reduceLT, Int.reduceNeg, Int.reduceEq, Bool.or_false, Bool.false_or, Bool.or_true, Bool.true_or, List.length_cons, List.length_nil, List.nil_append, List.cons_append, Option.toList_some, Option.toList_none, reduceCtorEq, Option.some.injEq, Nat.zero_le, Nat.reduceMul, Nat.mul_zero, Nat.add_zero, Int.reduceDiv, Int.reduceMod, Int.toNat_natCast, Nat.lt_irrefl, Int.natCast_add, Int.cast_ofNat_Int, px_mds_RX0_0, dec_X0_bring, hh]
        refine ih (i + -1) μ2 (by omega) (by omega) (fun o ho => by rw [e2 o ho, hfr o ho]) ?_
        rw [show (f - (i + -1)).toNat = (f - i).toNat + 1 by omega, hsn, e1, e3]
      · have hno : pc_brB (f - t).toNat (pc_hl μ h) f.toNat = none := by
          rw [e1] at hsn
          have := pc_brB_none hsn n
          rw [show (f - i).toNat + 1 + n = (f - t).toNat by omega] at this
          exact this
        have fin := h0 μ1 hno hfr
        refine px_go (fun p => p == 31) 400 ?_
        simp only [px_lits, false_implies, true_implies, px_dec_ok, px_run_s, px_rules, px_rule_is, px_mats, px_calls, ↓reduceIte, eq_self, Bool.false_eq_true, px_flds, px_o_some, px_fvs, px_pfs, px_cts, px_cls, px_acs_, px_acn, true_and, and_true, true_or, or_true, false_or, or_false, and_self, not_true_eq_false, not_false_eq_true, Classical.not_not, Nat.reduceAdd, Nat.reduceSub, Nat.reduceBEq, Nat.reduceLT, Nat.reduceLeDiff, Nat.lt_add_one, px_tg, Int.cast_ofNat_Int, Int.reduceAdd, Int.reduceSub, Int.reduceMul, Int.reduceToNat, Int.reduceLE, Int.reduceLT, Int.reduceNeg, Int.reduceEq, Bool.or_false, Bool.false_or, Bool.or_true, Bool.true_or, List.length_cons, List.length_nil, List.nil_append, List.cons_append, Option.toList_some, Option.toList_none, reduceCtorEq, Option.some.injEq, Nat.zero_le, Nat.reduceMul, Nat.mul_zero, Nat.add_zero, Int.reduceDiv, Int.reduceMod, Int.toNat_natCast, Nat.lt_irrefl, Int.natCast_add, Int.cast_ofNat_Int, px_mds_RX0_0, dec_X0_bring, hh]
        refine px_go (fun _ => false) 400 ?_
        simp only [px_lits, false_implies, true_implies, px_dec_ok, px_run_s, px_rules, px_rule_is, px_mats, px_calls, ↓reduceIte, eq_self, Bool.false_eq_true, px_flds, px_o_some, px_fvs, px_pfs, px_cts, px_cls, px_acs_, px_acn, true_and, and_true, true_or, or_true, false_or, or_false, and_self, not_true_eq_false, not_false_eq_true, Classical.not_not, Nat.reduceAdd, Nat.reduceSub, Nat.reduceBEq, Nat.reduceLT, Nat.reduceLeDiff, Nat.lt_add_one, px_tg, Int.cast_ofNat_Int, Int.reduceAdd, Int.reduceSub, Int.reduceMul, Int.reduceToNat, Int.reduceLE, Int.reduceLT, Int.reduceNeg, Int.reduceEq, Bool.or_false, Bool.false_or, Bool.or_true, Bool.true_or, List.length_cons, List.length_nil, List.nil_append, List.cons_append, Option.toList_some, Option.toList_none, reduceCtorEq, Option.some.injEq, Nat.zero_le, Nat.reduceMul, Nat.mul_zero, Nat.add_zero, Int.reduceDiv, Int.reduceMod, Int.toNat_natCast, Nat.lt_irrefl, Int.natCast_add, Int.cast_ofNat_Int, px_mds_RX0_0, dec_X0_bring, hh]
        simp (disch := omega) only [px_le_iff]
        exact ⟨fun _ => fin, fun _ => fin⟩
  refine px_enter RX0 (by decide +kernel) rfl (by simp) (by simp [px_c1]) ?_
  simp only [List.map_cons, List.map_nil, List.length_cons, List.length_nil, List.replicate, List.append_nil, Nat.reduceAdd, Nat.reduceSub, List.cons_append, List.nil_append]
  refine px_go (fun p => p == 5) 400 ?_
  simp only [px_lits, false_implies, true_implies, px_dec_ok, px_run_s, px_rules, px_rule_is, px_mats, px_calls, ↓reduceIte, eq_self, Bool.false_eq_true, px_flds, px_o_some, px_fvs, px_pfs, px_cts, px_cls, px_acs_, px_acn, true_and, and_true, true_or, or_true, false_or, or_false, and_self, not_true_eq_false, not_false_eq_true, Classical.not_not, Nat.reduceAdd, Nat.reduceSub, Nat.reduceBEq, Nat.reduceLT, Nat.reduceLeDiff, Nat.lt_add_one, px_tg, Int.cast_ofNat_Int, Int.reduceAdd, Int.reduceSub, Int.reduceMul, Int.reduceToNat, Int.reduceLE, Int.reduceLT, Int.reduceNeg, Int.reduceEq, Bool.or_false, Bool.false_or, Bool.or_true, Bool.true_or, List.length_cons, List.length_nil, List.nil_append, List.cons_append, Option.toList_some, Option.toList_none, reduceCtorEq, Option.some.injEq, Nat.zero_le, Nat.reduceMul, Nat.mul_zero, Nat.add_zero, Int.reduceDiv, Int.reduceMod, Int.toNat_natCast, Nat.lt_irrefl, Int.natCast_add, Int.cast_ofNat_Int, px_mds_RX0_0, dec_X0_bring, hh]
  refine px_go (fun p => p == 31) 400 ?_
  simp only [px_lits, false_implies, true_implies, px_dec_ok, px_run_s, px_rules, px_rule_is, px_mats, px_calls, ↓reduceIte, eq_self, Bool.false_eq_true, px_flds, px_o_some, px_fvs, px_pfs, px_cts, px_cls, px_acs_, px_acn, true_and, and_true, true_or, or_true, false_or, or_false, and_self, not_true_eq_false, not_false_eq_true, Classical.not_not, Nat.reduceAdd, Nat.reduceSub, Nat.reduceBEq, Nat.reduceLT, Nat.reduceLeDiff, Nat.lt_add_one, px_tg, Int.cast_ofNat_Int, Int.reduceAdd, Int.reduceSub, Int.reduceMul, Int.reduceToNat, Int.reduceLE, Int.reduceLT, Int.reduceNeg, Int.reduceEq, Bool.or_false, Bool.false_or, Bool.or_true, Bool.true_or, List.length_cons, List.length_nil, List.nil_append, List.cons_append, Option.toList_some, Option.toList_none, reduceCtorEq, Option.some.injEq, Nat.zero_le, Nat.reduceMul, Nat.mul_zero, Nat.add_zero, Int.reduceDiv, Int.reduceMod, Int.toNat_natCast, Nat.lt_irrefl, Int.natCast_add, Int.cast_ofNat_Int, px_mds_RX0_0, dec_X0_bring, hh]
  simp (disch := omega) only [px_le_iff]
  refine ⟨fun _ => ?_, fun q => absurd hf.2 q⟩
  exact loop (f - t).toNat f μ (by omega) (by omega) (fun _ _ => rfl) (by rw [show (f - f).toNat = 0 by omega]; rfl)
