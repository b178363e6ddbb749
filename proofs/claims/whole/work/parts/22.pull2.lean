/-! ===== the other steps of a pull ===== -/
def pc_room : Int → List pc_Ch → Prop
  | _, [] => True
  | n, c :: B => n + (if c.2.1 = 0 then 1 else -1) ≤ 24 ∧ pc_room (n + (if c.2.1 = 0 then 1 else -1)) B
set_option maxHeartbeats 4000000 in
set_option maxRecDepth 100000 in
theorem c_X6_hasRoom {G : px_G} {l : Int} {f n : Nat} {μ : px_Mem} {Q : Option px_X → px_Mem → Prop} (hf : μ 188 3 = f) (hc : μ 188 4 = n) (hfn : f + n ≤ 16) (ho : 0 ≤ μ 189 4 ∧ μ 189 4 ≤ 16) (hl : 0 ≤ l ∧ l ≤ 28) (hs : ∀ i : Int, f ≤ i → i < f + n → μ 196 i = 0 ∨ μ 196 i = 1)
    (h1 : μ 189 4 + n ≤ 16 → pc_room l (pc_sg μ 195 196 197 198 f n) → Q (some (.inl 1)) μ) (h0 : ¬ (μ 189 4 + n ≤ 16 ∧ pc_room l (pc_sg μ 195 196 197 198 f n)) → Q (some (.inl 0)) μ) : px_C G yX6_hasRoom cX6_hasRoom 4 (some .boolean) 0 [.inr (.inl (some 188)), .inl l] μ Q := by
  obtain ⟨k188, k189, k194, k199⟩ := pc_kp
  obtain ⟨hk, hkl⟩ := pc_hk k194
  have loop : μ 189 4 + n ≤ 16 → ∀ (m : Nat) (i z : Int), f ≤ i → i + m = f + n → f - i ≤ z ∧ z ≤ 28 + (i - f) → (pc_room z (pc_sg μ 195 196 197 198 i m) ↔ pc_room l (pc_sg μ 195 196 197 198 f n)) →
      px_J G RX6 cX6_hasRoom 4 (some .boolean) 0 26 [some (.inr (.inl (some 188))), some (.inl l), some (.inl z), some (.inl i)] [] μ Q := by
    intro hsz m
    induction m with
    | zero =>
      intro i z h2 h3 h4 h5
      refine px_go (fun p => p == 26) 400 ?_
      simp (disch := omega) only [px_lits, false_implies, true_implies, px_dec_ok, px_run_s, px_rules, px_rule_is, px_mats, px_calls, ↓reduceIte, eq_self, Bool.false_eq_true, px_flds, px_o_some, px_fvs, px_pfs, px_cts, px_cls, px_acs_, px_acn, true_and, and_true, true_or, or_true, false_or, or_false, and_self, not_true_eq_false, not_false_eq_true, Classical.not_not, Nat.reduceAdd, Nat.reduceSub, Nat.reduceBEq, Nat.reduceLT, Nat.reduceLeDiff, Nat.lt_add_one, px_tg, Int.cast_ofNat_Int, Int.reduceAdd, Int.reduceSub, Int.reduceMul, Int.reduceToNat, Int.reduceLE, Int.reduceLT, Int.reduceNeg, Int.reduceEq, Bool.or_false, Bool.false_or, Bool.or_true, Bool.true_or, List.length_cons, List.length_nil, List.nil_append, List.cons_append, Option.toList_some, Option.toList_none, reduceCtorEq, Option.some.injEq, Nat.zero_le, Nat.reduceMul, Nat.mul_zero, Nat.add_zero, Int.reduceDiv, Int.reduceMod, Int.toNat_natCast, Nat.lt_irrefl, Int.natCast_add, Int.cast_ofNat_Int, px_mds_RX6_0, dec_X6_hasRoom, px_eq_iff, px_lt_iff, px_le_iff, px_up_o, px_up_eq, px_up_ne, px_cp_o, k188, k189, k194, hf, hc]
      exact ⟨fun _ => h1 hsz (h5.mp trivial), fun q => absurd (by omega) q⟩
    | succ m ih =>
      intro i z h2 h3 h4 h5
      have hsi := hs i h2 (by omega)
      have hst : pc_room z (pc_sg μ 195 196 197 198 i (m + 1)) ↔ (z + (if μ 196 i = 0 then 1 else -1) ≤ 24 ∧ pc_room (z + (if μ 196 i = 0 then 1 else -1)) (pc_sg μ 195 196 197 198 (i + 1) m)) := Iff.rfl
      rw [hst] at h5
      rcases hsi with e | e
      · rw [e, if_pos rfl] at h5
        refine px_go (fun p => p == 26) 400 ?_
        simp (disch := omega) only [px_lits, false_implies, true_implies, px_dec_ok, px_run_s, px_rules, px_rule_is, px_mats, px_calls, ↓reduceIte, eq_self, Bool.false_eq_true, px_flds, px_o_some, px_fvs, px_pfs, px_cts, px_cls, px_acs_, px_acn, true_and, and_true, true_or, or_true, false_or, or_false, and_self, not_true_eq_false, not_false_eq_true, Classical.not_not, Nat.reduceAdd, Nat.reduceSub, Nat.reduceBEq, Nat.reduceLT, Nat.reduceLeDiff, Nat.lt_add_one, px_tg, Int.cast_ofNat_Int, Int.reduceAdd, Int.reduceSub, Int.reduceMul, Int.reduceToNat, Int.reduceLE, Int.reduceLT, Int.reduceNeg, Int.reduceEq, Bool.or_false, Bool.false_or, Bool.or_true, Bool.true_or, List.length_cons, List.length_nil, List.nil_append, List.cons_append, Option.toList_some, Option.toList_none, reduceCtorEq, Option.some.injEq, Nat.zero_le, Nat.reduceMul, Nat.mul_zero, Nat.add_zero, Int.reduceDiv, Int.reduceMod, Int.toNat_natCast, Nat.lt_irrefl, Int.natCast_add, Int.cast_ofNat_Int, px_mds_RX6_0, dec_X6_hasRoom, px_eq_iff, px_lt_iff, px_le_iff, px_up_o, px_up_eq, px_up_ne, px_cp_o, k188, k189, k194, hf, hc, hk, hkl, e]
        refine ⟨fun q => by omega, fun _ => ⟨by omega, fun q => ?_, fun q => h0 (fun r => q (h5.mpr r.2).1)⟩⟩
        exact ih (i + 1) (z + 1) (by omega) (by omega) (by omega) ⟨fun r => h5.mp ⟨q, r⟩, fun r => (h5.mpr r).2⟩
      · rw [e, if_neg (by decide)] at h5
        refine px_go (fun p => p == 26) 400 ?_
        simp (disch := omega) only [px_lits, false_implies, true_implies, px_dec_ok, px_run_s, px_rules, px_rule_is, px_mats, px_calls, ↓reduceIte, eq_self, Bool.false_eq_true, px_flds, px_o_some, px_fvs, px_pfs, px_cts, px_cls, px_acs_, px_acn, true_and, and_true, true_or, or_true, false_or, or_false, and_self, not_true_eq_false, not_false_eq_true, Classical.not_not, Nat.reduceAdd, Nat.reduceSub, Nat.reduceBEq, Nat.reduceLT, Nat.reduceLeDiff, Nat.lt_add_one, px_tg, Int.cast_ofNat_Int, Int.reduceAdd, Int.reduceSub, Int.reduceMul, Int.reduceToNat, Int.reduceLE, Int.reduceLT, Int.reduceNeg, Int.reduceEq, Bool.or_false, Bool.false_or, Bool.or_true, Bool.true_or, List.length_cons, List.length_nil, List.nil_append, List.cons_append, Option.toList_some, Option.toList_none, reduceCtorEq, Option.some.injEq, Nat.zero_le, Nat.reduceMul, Nat.mul_zero, Nat.add_zero, Int.reduceDiv, Int.reduceMod, Int.toNat_natCast, Nat.lt_irrefl, Int.natCast_add, Int.cast_ofNat_Int, px_mds_RX6_0, dec_X6_hasRoom, px_eq_iff, px_lt_iff, px_le_iff, px_up_o, px_up_eq, px_up_ne, px_cp_o, k188, k189, k194, hf, hc, hk, hkl, e]
        refine ⟨fun q => by omega, fun _ => ⟨by omega, fun q => ?_, fun q => h0 (fun r => q (h5.mpr r.2).1)⟩⟩
        exact ih (i + 1) (z + -1) (by omega) (by omega) (by omega) ⟨fun r => h5.mp ⟨q, r⟩, fun r => (h5.mpr r).2⟩
  refine px_enter RX6 (by decide +kernel) rfl (by simp) (by simp [px_c1]) ?_
  simp only [List.map_cons, List.map_nil, List.length_cons, List.length_nil, List.replicate, List.append_nil, Nat.reduceAdd, Nat.reduceSub, List.cons_append, List.nil_append]
  refine px_go (fun p => p == 26) 400 ?_
  simp (disch := omega) only [px_lits, false_implies, true_implies, px_dec_ok, px_run_s, px_rules, px_rule_is, px_mats, px_calls, ↓reduceIte, eq_self, Bool.false_eq_true, px_flds, px_o_some, px_fvs, px_pfs, px_cts, px_cls, px_acs_, px_acn, true_and, and_true, true_or, or_true, false_or, or_false, and_self, not_true_eq_false, not_false_eq_true, Classical.not_not, Nat.reduceAdd, Nat.reduceSub, Nat.reduceBEq, Nat.reduceLT, Nat.reduceLeDiff, Nat.lt_add_one, px_tg, Int.cast_ofNat_Int, Int.reduceAdd, Int.reduceSub, Int.reduceMul, Int.reduceToNat, Int.reduceLE, Int.reduceLT, Int.reduceNeg, Int.reduceEq, Bool.or_false, Bool.false_or, Bool.or_true, Bool.true_or, List.length_cons, List.length_nil, List.nil_append, List.cons_append, Option.toList_some, Option.toList_none, reduceCtorEq, Option.some.injEq, Nat.zero_le, Nat.reduceMul, Nat.mul_zero, Nat.add_zero, Int.reduceDiv, Int.reduceMod, Int.toNat_natCast, Nat.lt_irrefl, Int.natCast_add, Int.cast_ofNat_Int, px_mds_RX6_0, dec_X6_hasRoom, px_eq_iff, px_lt_iff, px_le_iff, px_up_o, px_up_eq, px_up_ne, px_cp_o, k188, k189, k194, hf, hc]
  exact ⟨fun q => loop q n f l (by omega) (by omega) (by omega) Iff.rfl, fun q => h0 (fun r => q r.1)⟩
set_option maxHeartbeats 4000000 in
set_option maxRecDepth 100000 in
theorem c_X6_goPast {G : px_G} {f n no : Nat} {μ : px_Mem} {Q : Option px_X → px_Mem → Prop} (hf : μ 188 3 = f) (hc : μ 188 4 = n) (hfn : f + n ≤ 16) (ho : μ 189 4 = f + no) (hon : f + no ≤ 16) (hB : pc_bd 27 (pc_sg μ 195 196 197 198 f n)) (hO : pc_bd 27 (pc_sg μ 190 191 192 193 f no))
    (h0 : ∀ (z : Int) (μ1 : px_Mem), pc_gp (pc_sg μ 195 196 197 198 f n) (pc_sg μ 190 191 192 193 f no) = .inl z → (∀ o, o ≠ 197 → o ≠ 199 → μ1 o = μ o) → Q (some (.inl z)) μ1)
    (h1 : ∀ (B1 : List pc_Ch) (μ1 : px_Mem), pc_gp (pc_sg μ 195 196 197 198 f n) (pc_sg μ 190 191 192 193 f no) = .inr B1 → (∀ o, o ≠ 197 → o ≠ 199 → μ1 o = μ o) → pc_sg μ1 195 196 197 198 f n = B1 → Q (some (.inl (-1))) μ1) : px_C G yX6_goPast cX6_goPast 4 (some .int) 1 [.inr (.inl (some 188))] μ Q := by
  obtain ⟨k188, k189, k194, k199⟩ := pc_kp
  obtain ⟨tk, tl⟩ := pc_hk k194
  obtain ⟨ok, ol⟩ := pc_hk k189
  have inner : ∀ (k : Nat) (o c : Int) (μ1 : px_Mem) (x3 : Option px_X) (P : Int → px_Mem → Prop), f ≤ o → o + k = f + no → f ≤ c → c < f + n → (∀ q, q ≠ 197 → q ≠ 199 → μ1 q = μ q) → (0 ≤ μ1 197 c ∧ μ1 197 c + k ≤ 60) → (μ 196 c = 0 ∨ μ 196 c = 1) → pc_bd 60 (pc_sg μ1 190 191 199 193 o k) →
      (∀ (z : Int) (μ2 : px_Mem), pc_gp1 (μ1 195 c, μ1 196 c, μ1 197 c, μ1 198 c) (pc_sg μ1 190 191 199 193 o k) = .inl z → (∀ q, q ≠ 197 → q ≠ 199 → μ2 q = μ q) → Q (some (.inl z)) μ2) →
      (∀ (b1 : pc_Ch) (O1 : List pc_Ch) (μ2 : px_Mem) (o2 : Int) (x3 : Option px_X), pc_gp1 (μ1 195 c, μ1 196 c, μ1 197 c, μ1 198 c) (pc_sg μ1 190 191 199 193 o k) = .inr (b1, O1) → (∀ q, q ≠ 197 → q ≠ 199 → μ2 q = μ q) → (∀ i, i ≠ c → μ2 197 i = μ1 197 i) → μ2 197 c = b1.2.2.1 → (∀ i, i < o → μ2 199 i = μ1 199 i) → pc_sg μ2 190 191 199 193 o k = O1 →
        px_J G RX6 cX6_goPast 4 (some .int) 1 141 [some (.inr (.inl (some 188))), some (.inl c), some (.inl o2), x3] [] μ2 Q) →
      px_J G RX6 cX6_goPast 4 (some .int) 1 46 [some (.inr (.inl (some 188))), some (.inl c), some (.inl o), x3] [] μ1 Q := by
    intro k
    induction k with
    | zero =>
      intro o c μ1 x3 P h2 h3 h4 h5 h6 h7 h8 h9 hz hs
      have g189 : μ1 189 = μ 189 := h6 _ (by omega) (by omega)
      refine px_go (fun p => p == 46 || p == 141) 400 ?_
      simp (disch := omega) only [px_lits, false_implies, true_implies, px_dec_ok, px_run_s, px_rules, px_rule_is, px_mats, px_calls, ↓reduceIte, eq_self, Bool.false_eq_true, px_flds, px_o_some, px_fvs, px_pfs, px_cts, px_cls, px_acs_, px_acn, true_and, and_true, true_or, or_true, false_or, or_false, and_self, not_true_eq_false, not_false_eq_true, Classical.not_not, Nat.reduceAdd, Nat.reduceSub, Nat.reduceBEq, Nat.reduceLT, Nat.reduceLeDiff, Nat.lt_add_one, px_tg, Int.cast_ofNat_Int, Int.reduceAdd, Int.reduceSub, Int.reduceMul, Int.reduceToNat, Int.reduceLE, Int.reduceLT, Int.reduceNeg, Int.reduceEq, Bool.or_false, Bool.false_or, Bool.or_true, Bool.true_or, List.length_cons, List.length_nil, List.nil_append, List.cons_append, Option.toList_some, Option.toList_none, reduceCtorEq, Option.some.injEq, Nat.zero_le, Nat.reduceMul, Nat.mul_zero, Nat.add_zero, Int.reduceDiv, Int.reduceMod, Int.toNat_natCast, Nat.lt_irrefl, Int.natCast_add, Int.cast_ofNat_Int, px_mds_RX6_0, dec_X6_goPast, px_eq_iff, px_lt_iff, px_le_iff, px_up_o, px_up_eq, px_up_ne, px_cp_o, k188, k189, k194, k199, pc_lp, g189, ho]
      refine ⟨fun _ => hs _ _ μ1 o x3 rfl h6 (fun _ _ => rfl) rfl (fun _ _ => rfl) rfl, fun q => absurd (by omega) q⟩
    | succ k ih =>
      intro o c μ1 x3 P h2 h3 h4 h5 h6 h7 h8 h9 hz hs
      have g189 : μ1 189 = μ 189 := h6 _ (by omega) (by omega)
      have g196 : μ1 196 = μ 196 := h6 _ (by omega) (by omega)
      have hob := h9 (μ1 190 o, μ1 191 o, μ1 199 o, μ1 193 o) List.mem_cons_self
      dsimp only at hob
      refine px_go (fun p => p == 46 || p == 141) 400 ?_
      simp (disch := omega) only [px_lits, false_implies, true_implies, px_dec_ok, px_run_s, px_rules, px_rule_is, px_mats, px_calls, ↓reduceIte, eq_self, Bool.false_eq_true, px_flds, px_o_some, px_fvs, px_pfs, px_cts, px_cls, px_acs_, px_acn, true_and, and_true, true_or, or_true, false_or, or_false, and_self, not_true_eq_false, not_false_eq_true, Classical.not_not, Nat.reduceAdd, Nat.reduceSub, Nat.reduceBEq, Nat.reduceLT, Nat.reduceLeDiff, Nat.lt_add_one, px_tg, Int.cast_ofNat_Int, Int.reduceAdd, Int.reduceSub, Int.reduceMul, Int.reduceToNat, Int.reduceLE, Int.reduceLT, Int.reduceNeg, Int.reduceEq, Bool.or_false, Bool.false_or, Bool.or_true, Bool.true_or, List.length_cons, List.length_nil, List.nil_append, List.cons_append, Option.toList_some, Option.toList_none, reduceCtorEq, Option.some.injEq, Nat.zero_le, Nat.reduceMul, Nat.mul_zero, Nat.add_zero, Int.reduceDiv, Int.reduceMod, Int.toNat_natCast, Nat.lt_irrefl, Int.natCast_add, Int.cast_ofNat_Int, px_mds_RX6_0, dec_X6_goPast, px_eq_iff, px_lt_iff, px_le_iff, px_up_o, px_up_eq, px_up_ne, px_cp_o, k188, k189, k194, k199, pc_lp, g189, ho, ok, ol, tk, tl]
      refine ⟨fun q => by omega, fun _ => ⟨by omega, ?_⟩⟩
      refine c_X10_opposite hob.2.1 ?_
      refine px_go (fun p => p == 46 || p == 141) 400 ?_
      simp (disch := omega) only [px_lits, false_implies, true_implies, px_dec_ok, px_run_s, px_rules, px_rule_is, px_mats, px_calls, ↓reduceIte, eq_self, Bool.false_eq_true, px_flds, px_o_some, px_fvs, px_pfs, px_cts, px_cls, px_acs_, px_acn, true_and, and_true, true_or, or_true, false_or, or_false, and_self, not_true_eq_false, not_false_eq_true, Classical.not_not, Nat.reduceAdd, Nat.reduceSub, Nat.reduceBEq, Nat.reduceLT, Nat.reduceLeDiff, Nat.lt_add_one, px_tg, Int.cast_ofNat_Int, Int.reduceAdd, Int.reduceSub, Int.reduceMul, Int.reduceToNat, Int.reduceLE, Int.reduceLT, Int.reduceNeg, Int.reduceEq, Bool.or_false, Bool.false_or, Bool.or_true, Bool.true_or, List.length_cons, List.length_nil, List.nil_append, List.cons_append, Option.toList_some, Option.toList_none, reduceCtorEq, Option.some.injEq, Nat.zero_le, Nat.reduceMul, Nat.mul_zero, Nat.add_zero, Int.reduceDiv, Int.reduceMod, Int.toNat_natCast, Nat.lt_irrefl, Int.natCast_add, Int.cast_ofNat_Int, px_mds_RX6_0, dec_X6_goPast, px_eq_iff, px_lt_iff, px_le_iff, px_up_o, px_up_eq, px_up_ne, px_cp_o, k188, k189, k194, k199, pc_lp, g189, ho, ok, ol, tk, tl]
      repeat refine ⟨by omega, ?_⟩
      refine c_X10_turned (by omega) (by rw [g196]; exact h8) (by omega) (by omega) ?_
      have st : pc_gp1 (μ1 195 c, μ1 196 c, μ1 197 c, μ1 198 c) (pc_sg μ1 190 191 199 193 o (k + 1)) = (match pc_tr (1 - μ1 191 o) (μ1 199 o) (μ1 196 c) (μ1 197 c) with
        | none => .inl (μ1 190 o)
        | some q => match pc_gp1 (μ1 195 c, μ1 196 c, q.1, μ1 198 c) (pc_sg μ1 190 191 199 193 (o + 1) k) with
          | .inl n => .inl n
          | .inr r => .inr (r.1, (μ1 190 o, μ1 191 o, q.2, μ1 193 o) :: r.2)) := rfl
      cases htr : pc_tr (1 - μ1 191 o) (μ1 199 o) (μ1 196 c) (μ1 197 c) with
      | none =>
        rw [htr] at st
        rw [pc_trz_none htr]
        refine px_go (fun p => p == 46 || p == 141) 400 ?_
        simp (disch := omega) only [px_lits, false_implies, true_implies, px_dec_ok, px_run_s, px_rules, px_rule_is, px_mats, px_calls, ↓reduceIte, eq_self, Bool.false_eq_true, px_flds, px_o_some, px_fvs, px_pfs, px_cts, px_cls, px_acs_, px_acn, true_and, and_true, true_or, or_true, false_or, or_false, and_self, not_true_eq_false, not_false_eq_true, Classical.not_not, Nat.reduceAdd, Nat.reduceSub, Nat.reduceBEq, Nat.reduceLT, Nat.reduceLeDiff, Nat.lt_add_one, px_tg, Int.cast_ofNat_Int, Int.reduceAdd, Int.reduceSub, Int.reduceMul, Int.reduceToNat, Int.reduceLE, Int.reduceLT, Int.reduceNeg, Int.reduceEq, Bool.or_false, Bool.false_or, Bool.or_true, Bool.true_or, List.length_cons, List.length_nil, List.nil_append, List.cons_append, Option.toList_some, Option.toList_none, reduceCtorEq, Option.some.injEq, Nat.zero_le, Nat.reduceMul, Nat.mul_zero, Nat.add_zero, Int.reduceDiv, Int.reduceMod, Int.toNat_natCast, Nat.lt_irrefl, Int.natCast_add, Int.cast_ofNat_Int, px_mds_RX6_0, dec_X6_goPast, px_eq_iff, px_lt_iff, px_le_iff, px_up_o, px_up_eq, px_up_ne, px_cp_o, k188, k189, k194, k199, pc_lp, g189, ho, ok, ol, tk, tl]
        refine ⟨by omega, hz _ μ1 st h6⟩
      | some km =>
        obtain ⟨kk, mm⟩ := km
        have hb9 := pc_tr_bd htr hob.2.2.1 h7.1
        rw [htr] at st
        dsimp only at st
        rw [pc_trz_some htr]
        have d1 : (100 * kk + mm) / 100 = kk := by omega
        have d2 : (100 * kk + mm) % 100 = mm := by omega
        refine px_go (fun p => p == 46 || p == 141) 400 ?_
        simp (disch := omega) only [px_lits, false_implies, true_implies, px_dec_ok, px_run_s, px_rules, px_rule_is, px_mats, px_calls, ↓reduceIte, eq_self, Bool.false_eq_true, px_flds, px_o_some, px_fvs, px_pfs, px_cts, px_cls, px_acs_, px_acn, true_and, and_true, true_or, or_true, false_or, or_false, and_self, not_true_eq_false, not_false_eq_true, Classical.not_not, Nat.reduceAdd, Nat.reduceSub, Nat.reduceBEq, Nat.reduceLT, Nat.reduceLeDiff, Nat.lt_add_one, px_tg, Int.cast_ofNat_Int, Int.reduceAdd, Int.reduceSub, Int.reduceMul, Int.reduceToNat, Int.reduceLE, Int.reduceLT, Int.reduceNeg, Int.reduceEq, Bool.or_false, Bool.false_or, Bool.or_true, Bool.true_or, List.length_cons, List.length_nil, List.nil_append, List.cons_append, Option.toList_some, Option.toList_none, reduceCtorEq, Option.some.injEq, Nat.zero_le, Nat.reduceMul, Nat.mul_zero, Nat.add_zero, Int.reduceDiv, Int.reduceMod, Int.toNat_natCast, Nat.lt_irrefl, Int.natCast_add, Int.cast_ofNat_Int, px_mds_RX6_0, dec_X6_goPast, px_eq_iff, px_lt_iff, px_le_iff, px_up_o, px_up_eq, px_up_ne, px_cp_o, k188, k189, k194, k199, pc_lp, g189, ho, ok, ol, tk, tl, d1, d2]
        refine ⟨fun _ => ?_, fun q => by omega⟩
        repeat refine ⟨by omega, ?_⟩
        have eq : ∀ q, q ≠ 197 → q ≠ 199 → px_up (px_up μ1 197 c kk) 199 o mm q = μ q := fun q q1 q2 => by
          simp (disch := omega) only [px_up_o]
          exact h6 q q1 q2
        have esg : pc_sg (px_up (px_up μ1 197 c kk) 199 o mm) 190 191 199 193 (o + 1) k = pc_sg μ1 190 191 199 193 (o + 1) k := by
          refine pc_sg_congr (fun i i0 i1 => ?_)
          simp (disch := omega) only [px_up_o, px_up_ne, and_self]
        have eb : (px_up (px_up μ1 197 c kk) 199 o mm 195 c, px_up (px_up μ1 197 c kk) 199 o mm 196 c, px_up (px_up μ1 197 c kk) 199 o mm 197 c, px_up (px_up μ1 197 c kk) 199 o mm 198 c) = (μ1 195 c, μ1 196 c, kk, μ1 198 c) := by
          simp (disch := omega) only [px_up_o, px_up_eq]
        refine ih (o + 1) c _ _ P (by omega) (by omega) h4 h5 eq (by simp (disch := omega) only [px_up_o, px_up_eq]; omega) h8 (by rw [esg]; exact fun x hx => h9 x (List.mem_cons_of_mem _ hx)) (fun z μ2 e1 e2 => ?_) (fun b1 O1 μ2 o2 x3 e1 e2 e3 e4 e5 e6 => ?_)
        · rw [esg, eb] at e1
          rw [e1] at st
          exact hz z μ2 st e2
        · rw [esg, eb] at e1
          rw [e1] at st
          refine hs b1 _ μ2 o2 x3 st e2 (fun i hi => ?_) e4 (fun i hi => ?_) ?_
          · rw [e3 i hi]
            simp (disch := omega) only [px_up_o, px_up_ne]
          · rw [e5 i (by omega)]
            simp (disch := omega) only [px_up_ne, px_up_o]
          · show (μ2 190 o, μ2 191 o, μ2 199 o, μ2 193 o) :: pc_sg μ2 190 191 199 193 (o + 1) k = _
            rw [e6, e5 o (by omega), e2 190 (by omega) (by omega), e2 191 (by omega) (by omega), e2 193 (by omega) (by omega)]
            simp (disch := omega) only [px_up_eq]
            rw [h6 190 (by omega) (by omega), h6 191 (by omega) (by omega), h6 193 (by omega) (by omega)]
  have outer : ∀ (m : Nat) (c : Int) (μ1 : px_Mem) (x2 x3 : Option px_X), f ≤ c → c + m = f + n → (∀ q, q ≠ 197 → q ≠ 199 → μ1 q = μ q) → (∀ i, c ≤ i → μ1 197 i = μ 197 i) → pc_bd (27 + (c - f)) (pc_sg μ1 190 191 199 193 f no) →
      (∀ (z : Int) (μ2 : px_Mem), pc_gp (pc_sg μ1 195 196 197 198 c m) (pc_sg μ1 190 191 199 193 f no) = .inl z → (∀ q, q ≠ 197 → q ≠ 199 → μ2 q = μ q) → Q (some (.inl z)) μ2) →
      (∀ (B1 : List pc_Ch) (μ2 : px_Mem), pc_gp (pc_sg μ1 195 196 197 198 c m) (pc_sg μ1 190 191 199 193 f no) = .inr B1 → (∀ q, q ≠ 197 → q ≠ 199 → μ2 q = μ q) → (∀ i, i < c → μ2 197 i = μ1 197 i) → pc_sg μ2 195 196 197 198 c m = B1 → Q (some (.inl (-1))) μ2) →
      px_J G RX6 cX6_goPast 4 (some .int) 1 28 [some (.inr (.inl (some 188))), some (.inl c), x2, x3] [] μ1 Q := by
    intro m
    induction m with
    | zero =>
      intro c μ1 x2 x3 h2 h3 h4 h5 h6 hz hs
      have g188 : μ1 188 = μ 188 := h4 _ (by omega) (by omega)
      refine px_go (fun p => p == 46 || p == 28) 400 ?_
      simp (disch := omega) only [px_lits, false_implies, true_implies, px_dec_ok, px_run_s, px_rules, px_rule_is, px_mats, px_calls, ↓reduceIte, eq_self, Bool.false_eq_true, px_flds, px_o_some, px_fvs, px_pfs, px_cts, px_cls, px_acs_, px_acn, true_and, and_true, true_or, or_true, false_or, or_false, and_self, not_true_eq_false, not_false_eq_true, Classical.not_not, Nat.reduceAdd, Nat.reduceSub, Nat.reduceBEq, Nat.reduceLT, Nat.reduceLeDiff, Nat.lt_add_one, px_tg, Int.cast_ofNat_Int, Int.reduceAdd, Int.reduceSub, Int.reduceMul, Int.reduceToNat, Int.reduceLE, Int.reduceLT, Int.reduceNeg, Int.reduceEq, Bool.or_false, Bool.false_or, Bool.or_true, Bool.true_or, List.length_cons, List.length_nil, List.nil_append, List.cons_append, Option.toList_some, Option.toList_none, reduceCtorEq, Option.some.injEq, Nat.zero_le, Nat.reduceMul, Nat.mul_zero, Nat.add_zero, Int.reduceDiv, Int.reduceMod, Int.toNat_natCast, Nat.lt_irrefl, Int.natCast_add, Int.cast_ofNat_Int, px_mds_RX6_0, dec_X6_goPast, px_eq_iff, px_lt_iff, px_le_iff, px_up_o, px_up_eq, px_up_ne, px_cp_o, k188, k189, k194, k199, pc_lp, g188, hf, hc]
      exact ⟨fun _ => hs [] μ1 rfl h4 (fun _ _ => rfl) rfl, fun q => absurd (by omega) q⟩
    | succ m ih =>
      intro c μ1 x2 x3 h2 h3 h4 h5 h6 hz hs
      have g188 : μ1 188 = μ 188 := h4 _ (by omega) (by omega)
      have hbc := hB (μ 195 c, μ 196 c, μ 197 c, μ 198 c) (by
        have := pc_sg_get (μ := μ) (a1 := 195) (a2 := 196) (a3 := 197) (a4 := 198) (n := n) (f := f) (k := (c - f).toNat) (by omega)
        rw [show (f : Int) + ((c - f).toNat : Int) = c by omega] at this
        exact List.mem_of_getElem? this)
      dsimp only at hbc
      refine px_go (fun p => p == 46 || p == 28) 400 ?_
      simp (disch := omega) only [px_lits, false_implies, true_implies, px_dec_ok, px_run_s, px_rules, px_rule_is, px_mats, px_calls, ↓reduceIte, eq_self, Bool.false_eq_true, px_flds, px_o_some, px_fvs, px_pfs, px_cts, px_cls, px_acs_, px_acn, true_and, and_true, true_or, or_true, false_or, or_false, and_self, not_true_eq_false, not_false_eq_true, Classical.not_not, Nat.reduceAdd, Nat.reduceSub, Nat.reduceBEq, Nat.reduceLT, Nat.reduceLeDiff, Nat.lt_add_one, px_tg, Int.cast_ofNat_Int, Int.reduceAdd, Int.reduceSub, Int.reduceMul, Int.reduceToNat, Int.reduceLE, Int.reduceLT, Int.reduceNeg, Int.reduceEq, Bool.or_false, Bool.false_or, Bool.or_true, Bool.true_or, List.length_cons, List.length_nil, List.nil_append, List.cons_append, Option.toList_some, Option.toList_none, reduceCtorEq, Option.some.injEq, Nat.zero_le, Nat.reduceMul, Nat.mul_zero, Nat.add_zero, Int.reduceDiv, Int.reduceMod, Int.toNat_natCast, Nat.lt_irrefl, Int.natCast_add, Int.cast_ofNat_Int, px_mds_RX6_0, dec_X6_goPast, px_eq_iff, px_lt_iff, px_le_iff, px_up_o, px_up_eq, px_up_ne, px_cp_o, k188, k189, k194, k199, pc_lp, g188, hf, hc]
      refine ⟨fun q => by omega, fun _ => ?_⟩
      have e7 := h5 c (by omega)
      have st : pc_gp (pc_sg μ1 195 196 197 198 c (m + 1)) (pc_sg μ1 190 191 199 193 f no) = (match pc_gp1 (μ1 195 c, μ1 196 c, μ1 197 c, μ1 198 c) (pc_sg μ1 190 191 199 193 f no) with
        | .inl n => .inl n
        | .inr r => match pc_gp (pc_sg μ1 195 196 197 198 (c + 1) m) r.2 with
          | .inl n => .inl n
          | .inr B1 => .inr (r.1 :: B1)) := rfl
      refine inner no f c μ1 x3 (fun _ _ => True) (by omega) (by omega) h2 (by omega) h4 (by rw [e7]; omega) hbc.2.1 (fun x hx => by
        have := h6 x hx
        exact ⟨this.1, this.2.1, by omega⟩) (fun z μ2 e1 e2 => ?_) (fun b1 O1 μ2 o2 y3 e1 e2 e3 e4 e5 e6 => ?_)
      · rw [e1] at st
        exact hz z μ2 st e2
      · rw [e1] at st
        dsimp only at st
        obtain ⟨r1, r2, r3, r4, r5, r6, r7⟩ := pc_gp1_bd (K := 27 + (c - f)) h6 (by dsimp only; rw [e7]; omega) e1
        dsimp only at r2 r3 r4
        have esg : pc_sg μ2 195 196 197 198 (c + 1) m = pc_sg μ1 195 196 197 198 (c + 1) m := by
          refine pc_sg_congr (fun i i0 i1 => ?_)
          rw [e2 195 (by omega) (by omega), e2 196 (by omega) (by omega), e2 198 (by omega) (by omega), h4 195 (by omega) (by omega), h4 196 (by omega) (by omega), h4 198 (by omega) (by omega), e3 _ (by omega)]
          exact ⟨rfl, rfl, rfl, rfl⟩
        refine px_go (fun p => p == 46 || p == 28) 400 ?_
        simp (disch := omega) only [px_lits, false_implies, true_implies, px_dec_ok, px_run_s, px_rules, px_rule_is, px_mats, px_calls, ↓reduceIte, eq_self, Bool.false_eq_true, px_flds, px_o_some, px_fvs, px_pfs, px_cts, px_cls, px_acs_, px_acn, true_and, and_true, true_or, or_true, false_or, or_false, and_self, not_true_eq_false, not_false_eq_true, Classical.not_not, Nat.reduceAdd, Nat.reduceSub, Nat.reduceBEq, Nat.reduceLT, Nat.reduceLeDiff, Nat.lt_add_one, px_tg, Int.cast_ofNat_Int, Int.reduceAdd, Int.reduceSub, Int.reduceMul, Int.reduceToNat, Int.reduceLE, Int.reduceLT, Int.reduceNeg, Int.reduceEq, Bool.or_false, Bool.false_or, Bool.or_true, Bool.true_or, List.length_cons, List.length_nil, List.nil_append, List.cons_append, Option.toList_some, Option.toList_none, reduceCtorEq, Option.some.injEq, Nat.zero_le, Nat.reduceMul, Nat.mul_zero, Nat.add_zero, Int.reduceDiv, Int.reduceMod, Int.toNat_natCast, Nat.lt_irrefl, Int.natCast_add, Int.cast_ofNat_Int, px_mds_RX6_0, dec_X6_goPast, px_eq_iff, px_lt_iff, px_le_iff, px_up_o, px_up_eq, px_up_ne, px_cp_o, k188, k189, k194, k199, pc_lp, hf, hc]
        refine ih (c + 1) μ2 _ _ (by omega) (by omega) e2 (fun i hi => ?_) (by rw [e6]; rw [show 27 + (c + 1 - (f : Int)) = 27 + (c - f) + 1 by omega]; exact r1) (fun z μ3 q1 q2 => ?_) (fun B1 μ3 q1 q2 q3 q4 => ?_)
        · rw [e3 i (by omega), h5 i (by omega)]
        · rw [esg, e6] at q1
          rw [q1] at st
          exact hz z μ3 st q2
        · rw [esg, e6] at q1
          rw [q1] at st
          refine hs _ μ3 st q2 (fun i hi => by rw [q3 i (by omega), e3 i (by omega)]) ?_
          show (μ3 195 c, μ3 196 c, μ3 197 c, μ3 198 c) :: pc_sg μ3 195 196 197 198 (c + 1) m = _
          rw [q4, q2 195 (by omega) (by omega), q2 196 (by omega) (by omega), q2 198 (by omega) (by omega), q3 c (by omega), e4, ← h4 195 (by omega) (by omega), ← h4 196 (by omega) (by omega), ← h4 198 (by omega) (by omega), ← r2, ← r3, ← r4]
  refine px_enter RX6 (by decide +kernel) rfl (by simp) (by simp [px_c1]) ?_
  simp only [List.map_cons, List.map_nil, List.length_cons, List.length_nil, List.replicate, List.append_nil, Nat.reduceAdd, Nat.reduceSub, List.cons_append, List.nil_append]
  refine px_go (fun p => p == 28) 400 ?_
  simp (disch := omega) only [px_lits, false_implies, true_implies, px_dec_ok, px_run_s, px_rules, px_rule_is, px_mats, px_calls, ↓reduceIte, eq_self, Bool.false_eq_true, px_flds, px_o_some, px_fvs, px_pfs, px_cts, px_cls, px_acs_, px_acn, true_and, and_true, true_or, or_true, false_or, or_false, and_self, not_true_eq_false, not_false_eq_true, Classical.not_not, Nat.reduceAdd, Nat.reduceSub, Nat.reduceBEq, Nat.reduceLT, Nat.reduceLeDiff, Nat.lt_add_one, px_tg, Int.cast_ofNat_Int, Int.reduceAdd, Int.reduceSub, Int.reduceMul, Int.reduceToNat, Int.reduceLE, Int.reduceLT, Int.reduceNeg, Int.reduceEq, Bool.or_false, Bool.false_or, Bool.or_true, Bool.true_or, List.length_cons, List.length_nil, List.nil_append, List.cons_append, Option.toList_some, Option.toList_none, reduceCtorEq, Option.some.injEq, Nat.zero_le, Nat.reduceMul, Nat.mul_zero, Nat.add_zero, Int.reduceDiv, Int.reduceMod, Int.toNat_natCast, Nat.lt_irrefl, Int.natCast_add, Int.cast_ofNat_Int, px_mds_RX6_0, dec_X6_goPast, px_eq_iff, px_lt_iff, px_le_iff, px_up_o, px_up_eq, px_up_ne, px_cp_o, k188, k189, k194, k199, pc_lp, hf, hc, ok, ol, ho]
  repeat refine ⟨by omega, ?_⟩
  have eO : pc_sg (px_cp μ 192 0 199 0 ((f : Int) + no)) 190 191 199 193 f no = pc_sg μ 190 191 192 193 f no := by
    refine pc_sg_congr (fun i i0 i1 => ?_)
    simp (disch := omega) only [px_cp_o, px_cp_in]
    rw [show (0 : Int) + ((f : Int) + i - 0) = f + i by omega]
    refine ⟨?_, ?_, ?_, ?_⟩ <;> first | trivial | rfl
  have eB : pc_sg (px_cp μ 192 0 199 0 ((f : Int) + no)) 195 196 197 198 f n = pc_sg μ 195 196 197 198 f n := by
    refine pc_sg_congr (fun i i0 i1 => ?_)
    simp (disch := omega) only [px_cp_o, and_self]
  refine outer n f _ _ _ (by omega) (by omega) (fun q q1 q2 => by simp (disch := omega) only [px_cp_o]) (fun i hi => by simp (disch := omega) only [px_cp_o]) (by rw [eO, show (27 : Int) + (f - f) = 27 by omega]; exact hO) (fun z μ2 e1 e2 => ?_) (fun B1 μ2 e1 e2 e3 e4 => ?_)
  · rw [eO, eB] at e1
    exact h0 z μ2 e1 e2
  · rw [eO, eB] at e1
    exact h1 B1 μ2 e1 e2 e4
