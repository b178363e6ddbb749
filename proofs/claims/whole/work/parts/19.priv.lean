/-! ===== the class's own helpers: the text of a house, room, recording, needs ===== -/
theorem pc_k0 : px_kd 0 = 9 ∧ px_kd 1 = 8 ∧ px_kd 3 = 1 ∧ px_kd 4 = 22 ∧ px_kd 178 = 25 ∧ px_kd 183 = 0 := by decide +kernel
theorem pc_l0 : px_ln 4 = 2 ∧ px_ln 178 = 2 := by decide +kernel
theorem pc_kh {h : Nat} (hh : h < 2) : px_kd (7 + 5 * h) = 0 ∧ px_kd (179 + 2 * h) = 8 := by
  have key : ∀ k : Fin 2, px_kd (7 + 5 * k) = 0 ∧ px_kd (179 + 2 * k) = 8 := by decide +kernel
  exact key ⟨h, hh⟩
theorem pc_eh (h : Nat) : px_el 22 4 h = 7 + 5 * h ∧ px_el 25 178 h = 179 + 2 * h := ⟨rfl, rfl⟩
theorem pc_tx_same {μ μ1 : px_Mem} {w : Nat} (h0 : μ1 w = μ w) (h1 : μ1 (w + 1) = μ (w + 1)) : pc_tx μ1 w = pc_tx μ w := by
  unfold pc_tx
  rw [h0, h1]
theorem pc_dos_take {T T1 : List Int} {L : List pc_Ch} {i : Nat} {c : pc_Ch} (h : pc_dos T L = some T1) (hc : L[i]? = some c) : ∃ T2 T3, pc_dos T (L.take i) = some T2 ∧ pc_do T2 c = some T3 ∧ pc_dos T (L.take (i + 1)) = some T3 := by
  have hi := (List.getElem?_eq_some_iff.mp hc).1
  have e1 : L = L.take i ++ (c :: L.drop (i + 1)) := by
    have := List.take_append_drop i L
    rw [List.drop_eq_getElem_cons hi, (List.getElem?_eq_some_iff.mp hc).2] at this
    exact this.symm
  have e2 : L.take (i + 1) = L.take i ++ [c] := by rw [List.take_add_one, hc]; rfl
  rw [e1, pc_dos_app] at h
  rw [e2, pc_dos_app]
  cases h1 : pc_dos T (L.take i) with
  | none => rw [h1] at h; cases h
  | some T2 =>
    rw [h1] at h
    simp only [Option.bind_some] at h
    unfold pc_dos at h
    cases h2 : pc_do T2 c with
    | none => rw [h2] at h; cases h
    | some T3 =>
      refine ⟨T2, T3, rfl, h2, ?_⟩
      show (some T2).bind (fun T1 => pc_dos T1 [c]) = some T3
      show (pc_do T2 c).bind (fun T1 => some T1) = some T3
      rw [h2]
      rfl
set_option maxHeartbeats 4000000 in
set_option maxRecDepth 100000 in
theorem c_X10_readText {G : px_G} {h : Nat} {T : List Int} {μ : px_Mem} {Q : Option px_X → px_Mem → Prop} (hh : h < 2) (hn : 0 ≤ μ (7 + 5 * h) 4 ∧ μ (7 + 5 * h) 4 ≤ 16) (hb : 0 ≤ μ 1 1 ∧ μ 1 1 ≤ 12) (he : ∀ c ∈ pc_hl μ (7 + 5 * h), pc_el c) (hd : pc_dos (pc_tx μ 1) (pc_hl μ (7 + 5 * h)) = some T)
    (h1 : ∀ μ1 : px_Mem, (∀ o, o ≠ 179 + 2 * h → o ≠ 180 + 2 * h → μ1 o = μ o) → pc_tx μ1 (179 + 2 * h) = T → μ1 (179 + 2 * h) 1 = T.length → T.length ≤ 28 → Q (some (.inr (.inl (some (179 + 2 * h))))) μ1) : px_C G yX10_readText cX10_readText 5 (some (.object "PatchHouse$Writing")) 2 [.inr (.inl (some 0)), .inl h] μ Q := by
  obtain ⟨k1, k2⟩ := pc_kh hh
  obtain ⟨hk, hl⟩ := pc_hk k1
  obtain ⟨wk, wl⟩ := pc_wk k2
  obtain ⟨e1, e2⟩ := pc_eh h
  have hlen : (pc_hl μ (7 + 5 * h)).length = (μ (7 + 5 * h) 4).toNat := pc_hl_len
  have htl : (pc_tx μ 1).length = (μ 1 1).toNat := pc_tx_len
  have loop : ∀ (n i : Nat) (T2 : List Int) (μ1 : px_Mem), i + n = (μ (7 + 5 * h) 4).toNat → (∀ o, o ≠ 179 + 2 * h → o ≠ 180 + 2 * h → μ1 o = μ o) → pc_dos (pc_tx μ 1) ((pc_hl μ (7 + 5 * h)).take i) = some T2 → pc_tx μ1 (179 + 2 * h) = T2 → μ1 (179 + 2 * h) 1 = T2.length →
      px_J G RX10 cX10_readText 5 (some (.object "PatchHouse$Writing")) 2 28 [some (.inr (.inl (some 0))), some (.inl h), some (.inr (.inl (some (179 + 2 * h)))), some (.inr (.inl (some (7 + 5 * h)))), some (.inl i)] [] μ1 Q := by
    intro n
    induction n with
    | zero =>
      intro i T2 μ1 h2 h3 h4 h5 h6
      have g4 : μ1 (7 + 5 * h) = μ (7 + 5 * h) := h3 _ (by omega) (by omega)
      refine px_go (fun p => p == 28) 400 ?_
      simp (disch := omega) only [px_lits, false_implies, true_implies, px_dec_ok, px_run_s, px_rules, px_rule_is, px_mats, px_calls, ↓reduceIte, eq_self, Bool.false_eq_true, px_flds, px_o_some, px_fvs, px_pfs, px_cts, px_cls, px_acs_, px_acn, true_and, and_true, true_or, or_true, false_or, or_false, and_self, not_true_eq_false, not_false_eq_true, Classical.not_not, Nat.reduceAdd, Nat.reduceSub, Nat.reduceBEq, Nat.reduceLT, Nat.reduceLeDiff, Nat.lt_add_one, px_tg, Int.cast_ofNat_Int, Int.reduceAdd, Int.reduceSub, Int.reduceMul, Int.reduceToNat, Int.reduceLE, Int.reduceLT, Int.reduceNeg, Int.reduceEq, Bool.or_false, Bool.false_or, Bool.or_true, Bool.true_or, List.length_cons, List.length_nil, List.nil_append, List.cons_append, Option.toList_some, Option.toList_none, reduceCtorEq, Option.some.injEq, Nat.zero_le, Nat.reduceMul, Nat.mul_zero, Nat.add_zero, Int.reduceDiv, Int.reduceMod, Int.toNat_natCast, Nat.lt_irrefl, Int.natCast_add, Int.cast_ofNat_Int, px_mds_RX10_0, px_mds_RX10_1, dec_X10_readText, px_eq_iff, px_lt_iff, px_le_iff, px_up_o, px_up_eq, px_up_ne, px_cp_o, pc_k0, pc_l0, k1, k2, hk, hl, g4]
      refine ⟨fun _ => ?_, fun q => absurd (by omega) q⟩
      rw [List.take_of_length_le (by omega)] at h4
      have e : T2 = T := Option.some.inj (h4.symm.trans hd)
      subst e
      have := pc_dos_len hd
      exact h1 μ1 h3 h5 h6 (by omega)
    | succ n ih =>
      intro i T2 μ1 h2 h3 h4 h5 h6
      have g4 : μ1 (7 + 5 * h) = μ (7 + 5 * h) := h3 _ (by omega) (by omega)
      have g5 : μ1 (7 + 5 * h + 2) = μ (7 + 5 * h + 2) := h3 _ (by omega) (by omega)
      have g6 : μ1 (7 + 5 * h + 3) = μ (7 + 5 * h + 3) := h3 _ (by omega) (by omega)
      have g7 : μ1 (7 + 5 * h + 4) = μ (7 + 5 * h + 4) := h3 _ (by omega) (by omega)
      have hc := pc_hl_at (μ := μ) (h := 7 + 5 * h) (i := i) (by omega) (by omega)
      rw [Int.toNat_natCast] at hc
      have el := he _ (List.mem_of_getElem? hc)
      dsimp only [pc_el] at el
      obtain ⟨T3, T4, q1, q2, q3⟩ := pc_dos_take hd hc
      have e : T3 = T2 := Option.some.inj (q1.symm.trans h4)
      subst e
      have l3 := pc_dos_len q1
      have l4 := pc_dos_len q3
      simp only [List.length_take] at l3 l4
      refine px_go (fun p => p == 28) 400 ?_
      simp (disch := omega) only [px_lits, false_implies, true_implies, px_dec_ok, px_run_s, px_rules, px_rule_is, px_mats, px_calls, ↓reduceIte, eq_self, Bool.false_eq_true, px_flds, px_o_some, px_fvs, px_pfs, px_cts, px_cls, px_acs_, px_acn, true_and, and_true, true_or, or_true, false_or, or_false, and_self, not_true_eq_false, not_false_eq_true, Classical.not_not, Nat.reduceAdd, Nat.reduceSub, Nat.reduceBEq, Nat.reduceLT, Nat.reduceLeDiff, Nat.lt_add_one, px_tg, Int.cast_ofNat_Int, Int.reduceAdd, Int.reduceSub, Int.reduceMul, Int.reduceToNat, Int.reduceLE, Int.reduceLT, Int.reduceNeg, Int.reduceEq, Bool.or_false, Bool.false_or, Bool.or_true, Bool.true_or, List.length_cons, List.length_nil, List.nil_append, List.cons_append, Option.toList_some, Option.toList_none, reduceCtorEq, Option.some.injEq, Nat.zero_le, Nat.reduceMul, Nat.mul_zero, Nat.add_zero, Int.reduceDiv, Int.reduceMod, Int.toNat_natCast, Nat.lt_irrefl, Int.natCast_add, Int.cast_ofNat_Int, px_mds_RX10_0, px_mds_RX10_1, dec_X10_readText, px_eq_iff, px_lt_iff, px_le_iff, px_up_o, px_up_eq, px_up_ne, px_cp_o, pc_k0, pc_l0, k1, k2, hk, hl, g4, g5, g6, g7]
      refine ⟨fun q => by omega, fun _ => ?_⟩
      repeat refine ⟨by omega, ?_⟩
      refine c_X9_apply (n := μ (7 + 5 * h + 1) i) (T1 := T4) k2 (by omega) el.2.1 (by rw [h5]; exact q2) (by omega) (fun μ2 f1 f2 f3 => ?_)
      refine px_go (fun p => p == 28) 400 ?_
      simp (disch := omega) only [px_lits, false_implies, true_implies, px_dec_ok, px_run_s, px_rules, px_rule_is, px_mats, px_calls, ↓reduceIte, eq_self, Bool.false_eq_true, px_flds, px_o_some, px_fvs, px_pfs, px_cts, px_cls, px_acs_, px_acn, true_and, and_true, true_or, or_true, false_or, or_false, and_self, not_true_eq_false, not_false_eq_true, Classical.not_not, Nat.reduceAdd, Nat.reduceSub, Nat.reduceBEq, Nat.reduceLT, Nat.reduceLeDiff, Nat.lt_add_one, px_tg, Int.cast_ofNat_Int, Int.reduceAdd, Int.reduceSub, Int.reduceMul, Int.reduceToNat, Int.reduceLE, Int.reduceLT, Int.reduceNeg, Int.reduceEq, Bool.or_false, Bool.false_or, Bool.or_true, Bool.true_or, List.length_cons, List.length_nil, List.nil_append, List.cons_append, Option.toList_some, Option.toList_none, reduceCtorEq, Option.some.injEq, Nat.zero_le, Nat.reduceMul, Nat.mul_zero, Nat.add_zero, Int.reduceDiv, Int.reduceMod, Int.toNat_natCast, Nat.lt_irrefl, Int.natCast_add, Int.cast_ofNat_Int, px_mds_RX10_0, px_mds_RX10_1, dec_X10_readText, px_eq_iff, px_lt_iff, px_le_iff, px_up_o, px_up_eq, px_up_ne, px_cp_o, pc_k0, pc_l0, k1, k2, hk, hl]
      have := ih (i + 1) T4 μ2 (by omega) (fun o o1 o2 => by rw [f1 o o1 (by omega), h3 o o1 o2]) q3 f2 f3
      rwa [Int.natCast_add] at this
  refine px_enter RX10 (by decide +kernel) rfl (by simp) (by simp [px_c1]) ?_
  simp only [List.map_cons, List.map_nil, List.length_cons, List.length_nil, List.replicate, List.append_nil, Nat.reduceAdd, Nat.reduceSub, List.cons_append, List.nil_append]
  refine px_go (fun p => p == 28) 400 ?_
  simp (disch := omega) only [px_lits, false_implies, true_implies, px_dec_ok, px_run_s, px_rules, px_rule_is, px_mats, px_calls, ↓reduceIte, eq_self, Bool.false_eq_true, px_flds, px_o_some, px_fvs, px_pfs, px_cts, px_cls, px_acs_, px_acn, true_and, and_true, true_or, or_true, false_or, or_false, and_self, not_true_eq_false, not_false_eq_true, Classical.not_not, Nat.reduceAdd, Nat.reduceSub, Nat.reduceBEq, Nat.reduceLT, Nat.reduceLeDiff, Nat.lt_add_one, px_tg, Int.cast_ofNat_Int, Int.reduceAdd, Int.reduceSub, Int.reduceMul, Int.reduceToNat, Int.reduceLE, Int.reduceLT, Int.reduceNeg, Int.reduceEq, Bool.or_false, Bool.false_or, Bool.or_true, Bool.true_or, List.length_cons, List.length_nil, List.nil_append, List.cons_append, Option.toList_some, Option.toList_none, reduceCtorEq, Option.some.injEq, Nat.zero_le, Nat.reduceMul, Nat.mul_zero, Nat.add_zero, Int.reduceDiv, Int.reduceMod, Int.toNat_natCast, Nat.lt_irrefl, Int.natCast_add, Int.cast_ofNat_Int, px_mds_RX10_0, px_mds_RX10_1, dec_X10_readText, px_eq_iff, px_lt_iff, px_le_iff, px_up_o, px_up_eq, px_up_ne, px_cp_o, pc_k0, pc_l0, e1, e2, k1, k2]
  refine ⟨by omega, ?_⟩
  refine c_X9_copyFrom k2 pc_k0.2.1 (by omega) (by omega) (fun μ1 f1 f2 f3 => ?_)
  refine px_go (fun p => p == 28) 400 ?_
  simp (disch := omega) only [px_lits, false_implies, true_implies, px_dec_ok, px_run_s, px_rules, px_rule_is, px_mats, px_calls, ↓reduceIte, eq_self, Bool.false_eq_true, px_flds, px_o_some, px_fvs, px_pfs, px_cts, px_cls, px_acs_, px_acn, true_and, and_true, true_or, or_true, false_or, or_false, and_self, not_true_eq_false, not_false_eq_true, Classical.not_not, Nat.reduceAdd, Nat.reduceSub, Nat.reduceBEq, Nat.reduceLT, Nat.reduceLeDiff, Nat.lt_add_one, px_tg, Int.cast_ofNat_Int, Int.reduceAdd, Int.reduceSub, Int.reduceMul, Int.reduceToNat, Int.reduceLE, Int.reduceLT, Int.reduceNeg, Int.reduceEq, Bool.or_false, Bool.false_or, Bool.or_true, Bool.true_or, List.length_cons, List.length_nil, List.nil_append, List.cons_append, Option.toList_some, Option.toList_none, reduceCtorEq, Option.some.injEq, Nat.zero_le, Nat.reduceMul, Nat.mul_zero, Nat.add_zero, Int.reduceDiv, Int.reduceMod, Int.toNat_natCast, Nat.lt_irrefl, Int.natCast_add, Int.cast_ofNat_Int, px_mds_RX10_0, px_mds_RX10_1, dec_X10_readText, px_eq_iff, px_lt_iff, px_le_iff, px_up_o, px_up_eq, px_up_ne, px_cp_o, pc_k0, pc_l0, e1, e2, k1, k2]
  refine ⟨by omega, ?_⟩
  exact loop (μ (7 + 5 * h) 4).toNat 0 (pc_tx μ 1) μ1 (by omega) (fun o o1 o2 => f1 o o1 (by omega)) rfl f2 (by rw [f3, htl]; omega)
set_option maxHeartbeats 4000000 in
set_option maxRecDepth 100000 in
theorem c_X10_hasRoom {G : px_G} {h : Nat} {s : Int} {μ : px_Mem} {Q : Option px_X → px_Mem → Prop} (hh : h < 2) (hs : s = 0 ∨ s = 1) (hn : 0 ≤ μ (7 + 5 * h) 4 ∧ μ (7 + 5 * h) 4 ≤ 16) (hm : 0 ≤ μ 0 11 ∧ μ 0 11 ≤ 24) (hw : 0 ≤ μ (179 + 2 * h) 1 ∧ μ (179 + 2 * h) 1 ≤ 28)
    (h1 : μ 0 11 < 24 ∧ μ (7 + 5 * h) 4 < 16 ∧ (s = 1 ∨ μ (179 + 2 * h) 1 < 24) → Q (some (.inl 1)) μ) (h0 : ¬ (μ 0 11 < 24 ∧ μ (7 + 5 * h) 4 < 16 ∧ (s = 1 ∨ μ (179 + 2 * h) 1 < 24)) → Q (some (.inl 0)) μ) : px_C G yX10_hasRoom cX10_hasRoom 3 (some .boolean) 0 [.inr (.inl (some 0)), .inl h, .inl s] μ Q := by
  obtain ⟨k1, k2⟩ := pc_kh hh
  obtain ⟨e1, e2⟩ := pc_eh h
  refine px_enter RX10 (by decide +kernel) rfl (by simp) (by simp [px_c1]) ?_
  simp only [List.map_cons, List.map_nil, List.length_cons, List.length_nil, List.replicate, List.append_nil, Nat.reduceAdd, Nat.reduceSub, List.cons_append, List.nil_append]
  refine px_go (fun _ => false) 400 ?_
  simp (disch := omega) only [px_lits, false_implies, true_implies, px_dec_ok, px_run_s, px_rules, px_rule_is, px_mats, px_calls, ↓reduceIte, eq_self, Bool.false_eq_true, px_flds, px_o_some, px_fvs, px_pfs, px_cts, px_cls, px_acs_, px_acn, true_and, and_true, true_or, or_true, false_or, or_false, and_self, not_true_eq_false, not_false_eq_true, Classical.not_not, Nat.reduceAdd, Nat.reduceSub, Nat.reduceBEq, Nat.reduceLT, Nat.reduceLeDiff, Nat.lt_add_one, px_tg, Int.cast_ofNat_Int, Int.reduceAdd, Int.reduceSub, Int.reduceMul, Int.reduceToNat, Int.reduceLE, Int.reduceLT, Int.reduceNeg, Int.reduceEq, Bool.or_false, Bool.false_or, Bool.or_true, Bool.true_or, List.length_cons, List.length_nil, List.nil_append, List.cons_append, Option.toList_some, Option.toList_none, reduceCtorEq, Option.some.injEq, Nat.zero_le, Nat.reduceMul, Nat.mul_zero, Nat.add_zero, Int.reduceDiv, Int.reduceMod, Int.toNat_natCast, Nat.lt_irrefl, Int.natCast_add, Int.cast_ofNat_Int, px_mds_RX10_0, px_mds_RX10_1, dec_X10_hasRoom, px_eq_iff, px_lt_iff, px_le_iff, px_up_o, px_up_eq, px_up_ne, px_cp_o, pc_k0, pc_l0, e1, e2, k1, k2]
  repeat' first | apply And.intro | intro _
  all_goals first | omega | (exact h1 (by omega)) | (exact h0 (by omega))
set_option maxHeartbeats 4000000 in
set_option maxRecDepth 100000 in
theorem c_X10_append {G : px_G} {h : Nat} {s p c : Int} {μ : px_Mem} {Q : Option px_X → px_Mem → Prop} (hh : h < 2) (hs : s = 0 ∨ s = 1) (hn : 0 ≤ μ (7 + 5 * h) 4 ∧ μ (7 + 5 * h) 4 < 16) (hw : 0 ≤ μ (179 + 2 * h) 1 ∧ μ (179 + 2 * h) 1 ≤ 28) (hp : 0 ≤ p ∧ p + s ≤ μ (179 + 2 * h) 1)
    (h1 : ∀ μ1 : px_Mem, (∀ o, o ≠ 0 → (o < 7 + 5 * h ∨ 11 + 5 * h < o) → μ1 o = μ o) → (∀ i, i ≠ 11 → μ1 0 i = μ 0 i) → μ1 0 11 = μ 0 11 + 1 → μ1 (7 + 5 * h) 4 = μ (7 + 5 * h) 4 + 1 → pc_hl μ1 (7 + 5 * h) = pc_hl μ (7 + 5 * h) ++ [(μ 0 11, s, p, if s = 1 then μ (180 + 2 * h) p else c)] → Q (some (.inl (μ 0 11))) μ1) : px_C G yX10_append cX10_append 7 (some .int) 1 [.inr (.inl (some 0)), .inl h, .inl s, .inl p, .inl c] μ Q := by
  obtain ⟨k1, k2⟩ := pc_kh hh
  obtain ⟨e1, e2⟩ := pc_eh h
  have fin : ∀ r : Int, (r = if s = 1 then μ (180 + 2 * h) p else c) → px_J G RX10 cX10_append 7 (some .int) 1 20 [some (.inr (.inl (some 0))), some (.inl h), some (.inl s), some (.inl p), some (.inl c), none, none] [.inl r] μ Q := by
    intro r hr
    refine px_go (fun _ => false) 400 ?_
    simp (disch := omega) only [px_lits, false_implies, true_implies, px_dec_ok, px_run_s, px_rules, px_rule_is, px_mats, px_calls, ↓reduceIte, eq_self, Bool.false_eq_true, px_flds, px_o_some, px_fvs, px_pfs, px_cts, px_cls, px_acs_, px_acn, true_and, and_true, true_or, or_true, false_or, or_false, and_self, not_true_eq_false, not_false_eq_true, Classical.not_not, Nat.reduceAdd, Nat.reduceSub, Nat.reduceBEq, Nat.reduceLT, Nat.reduceLeDiff, Nat.lt_add_one, px_tg, Int.cast_ofNat_Int, Int.reduceAdd, Int.reduceSub, Int.reduceMul, Int.reduceToNat, Int.reduceLE, Int.reduceLT, Int.reduceNeg, Int.reduceEq, Bool.or_false, Bool.false_or, Bool.or_true, Bool.true_or, List.length_cons, List.length_nil, List.nil_append, List.cons_append, Option.toList_some, Option.toList_none, reduceCtorEq, Option.some.injEq, Nat.zero_le, Nat.reduceMul, Nat.mul_zero, Nat.add_zero, Int.reduceDiv, Int.reduceMod, Int.toNat_natCast, Nat.lt_irrefl, Int.natCast_add, Int.cast_ofNat_Int, px_mds_RX10_0, px_mds_RX10_1, dec_X10_append, px_eq_iff, px_lt_iff, px_le_iff, px_up_o, px_up_eq, px_up_ne, px_cp_o, pc_k0, pc_l0, e1, e2, k1, k2]
    refine ⟨by omega, ?_⟩
    refine c_X0_add k1 (by omega) (fun μ1 f1 f2 f3 => ?_)
    have g0 : μ1 0 = μ 0 := f1 0 (by omega)
    refine px_go (fun _ => false) 400 ?_
    simp (disch := omega) only [px_lits, false_implies, true_implies, px_dec_ok, px_run_s, px_rules, px_rule_is, px_mats, px_calls, ↓reduceIte, eq_self, Bool.false_eq_true, px_flds, px_o_some, px_fvs, px_pfs, px_cts, px_cls, px_acs_, px_acn, true_and, and_true, true_or, or_true, false_or, or_false, and_self, not_true_eq_false, not_false_eq_true, Classical.not_not, Nat.reduceAdd, Nat.reduceSub, Nat.reduceBEq, Nat.reduceLT, Nat.reduceLeDiff, Nat.lt_add_one, px_tg, Int.cast_ofNat_Int, Int.reduceAdd, Int.reduceSub, Int.reduceMul, Int.reduceToNat, Int.reduceLE, Int.reduceLT, Int.reduceNeg, Int.reduceEq, Bool.or_false, Bool.false_or, Bool.or_true, Bool.true_or, List.length_cons, List.length_nil, List.nil_append, List.cons_append, Option.toList_some, Option.toList_none, reduceCtorEq, Option.some.injEq, Nat.zero_le, Nat.reduceMul, Nat.mul_zero, Nat.add_zero, Int.reduceDiv, Int.reduceMod, Int.toNat_natCast, Nat.lt_irrefl, Int.natCast_add, Int.cast_ofNat_Int, px_mds_RX10_0, px_mds_RX10_1, dec_X10_append, px_eq_iff, px_lt_iff, px_le_iff, px_up_o, px_up_eq, px_up_ne, px_cp_o, pc_k0, pc_l0, e1, e2, k1, k2, g0]
    refine h1 _ (fun o o1 o2 => ?_) (fun i hi => ?_) ?_ ?_ ?_
    · simp (disch := omega) only [px_up_o]
      exact f1 o (by omega)
    · simp (disch := omega) only [px_up_ne]
      rw [g0]
    · simp (disch := omega) only [px_up_eq]
    · simp (disch := omega) only [px_up_o]
      exact f2
    · rw [← hr, ← f3]
      refine pc_hl_same ?_ ?_ ?_ ?_ ?_ <;> simp (disch := omega) only [px_up_o]
  refine px_enter RX10 (by decide +kernel) rfl (by simp) (by simp [px_c1]) ?_
  simp only [List.map_cons, List.map_nil, List.length_cons, List.length_nil, List.replicate, List.append_nil, Nat.reduceAdd, Nat.reduceSub, List.cons_append, List.nil_append]
  rcases hs with rfl | rfl
  · refine px_go (fun p => p == 20) 400 ?_
    simp (disch := omega) only [px_lits, false_implies, true_implies, px_dec_ok, px_run_s, px_rules, px_rule_is, px_mats, px_calls, ↓reduceIte, eq_self, Bool.false_eq_true, px_flds, px_o_some, px_fvs, px_pfs, px_cts, px_cls, px_acs_, px_acn, true_and, and_true, true_or, or_true, false_or, or_false, and_self, not_true_eq_false, not_false_eq_true, Classical.not_not, Nat.reduceAdd, Nat.reduceSub, Nat.reduceBEq, Nat.reduceLT, Nat.reduceLeDiff, Nat.lt_add_one, px_tg, Int.cast_ofNat_Int, Int.reduceAdd, Int.reduceSub, Int.reduceMul, Int.reduceToNat, Int.reduceLE, Int.reduceLT, Int.reduceNeg, Int.reduceEq, Bool.or_false, Bool.false_or, Bool.or_true, Bool.true_or, List.length_cons, List.length_nil, List.nil_append, List.cons_append, Option.toList_some, Option.toList_none, reduceCtorEq, Option.some.injEq, Nat.zero_le, Nat.reduceMul, Nat.mul_zero, Nat.add_zero, Int.reduceDiv, Int.reduceMod, Int.toNat_natCast, Nat.lt_irrefl, Int.natCast_add, Int.cast_ofNat_Int, px_mds_RX10_0, px_mds_RX10_1, dec_X10_append, px_eq_iff, px_lt_iff, px_le_iff, px_up_o, px_up_eq, px_up_ne, px_cp_o, pc_k0, pc_l0, e1, e2, k1, k2]
    exact fin c (by rw [if_neg (by decide)])
  · refine px_go (fun p => p == 20) 400 ?_
    simp (disch := omega) only [px_lits, false_implies, true_implies, px_dec_ok, px_run_s, px_rules, px_rule_is, px_mats, px_calls, ↓reduceIte, eq_self, Bool.false_eq_true, px_flds, px_o_some, px_fvs, px_pfs, px_cts, px_cls, px_acs_, px_acn, true_and, and_true, true_or, or_true, false_or, or_false, and_self, not_true_eq_false, not_false_eq_true, Classical.not_not, Nat.reduceAdd, Nat.reduceSub, Nat.reduceBEq, Nat.reduceLT, Nat.reduceLeDiff, Nat.lt_add_one, px_tg, Int.cast_ofNat_Int, Int.reduceAdd, Int.reduceSub, Int.reduceMul, Int.reduceToNat, Int.reduceLE, Int.reduceLT, Int.reduceNeg, Int.reduceEq, Bool.or_false, Bool.false_or, Bool.or_true, Bool.true_or, List.length_cons, List.length_nil, List.nil_append, List.cons_append, Option.toList_some, Option.toList_none, reduceCtorEq, Option.some.injEq, Nat.zero_le, Nat.reduceMul, Nat.mul_zero, Nat.add_zero, Int.reduceDiv, Int.reduceMod, Int.toNat_natCast, Nat.lt_irrefl, Int.natCast_add, Int.cast_ofNat_Int, px_mds_RX10_0, px_mds_RX10_1, dec_X10_append, px_eq_iff, px_lt_iff, px_le_iff, px_up_o, px_up_eq, px_up_ne, px_cp_o, pc_k0, pc_l0, e1, e2, k1, k2]
    refine ⟨by omega, ?_⟩
    refine c_X9_at k2 (by omega) (by omega) (fun q1 q2 => ?_) (fun q => absurd ⟨hp.1, by omega⟩ q)
    refine px_go (fun p => p == 20) 400 ?_
    simp (disch := omega) only [px_lits, false_implies, true_implies, px_dec_ok, px_run_s, px_rules, px_rule_is, px_mats, px_calls, ↓reduceIte, eq_self, Bool.false_eq_true, px_flds, px_o_some, px_fvs, px_pfs, px_cts, px_cls, px_acs_, px_acn, true_and, and_true, true_or, or_true, false_or, or_false, and_self, not_true_eq_false, not_false_eq_true, Classical.not_not, Nat.reduceAdd, Nat.reduceSub, Nat.reduceBEq, Nat.reduceLT, Nat.reduceLeDiff, Nat.lt_add_one, px_tg, Int.cast_ofNat_Int, Int.reduceAdd, Int.reduceSub, Int.reduceMul, Int.reduceToNat, Int.reduceLE, Int.reduceLT, Int.reduceNeg, Int.reduceEq, Bool.or_false, Bool.false_or, Bool.or_true, Bool.true_or, List.length_cons, List.length_nil, List.nil_append, List.cons_append, Option.toList_some, Option.toList_none, reduceCtorEq, Option.some.injEq, Nat.zero_le, Nat.reduceMul, Nat.mul_zero, Nat.add_zero, Int.reduceDiv, Int.reduceMod, Int.toNat_natCast, Nat.lt_irrefl, Int.natCast_add, Int.cast_ofNat_Int, px_mds_RX10_0, px_mds_RX10_1, dec_X10_append, px_eq_iff, px_lt_iff, px_le_iff, px_up_o, px_up_eq, px_up_ne, px_cp_o, pc_k0, pc_l0, e1, e2, k1, k2]
    exact fin _ (by rw [if_pos rfl, show 179 + 2 * h + 1 = 180 + 2 * h by omega])
