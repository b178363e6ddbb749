/-! ===== what a change needs, what needs it ===== -/
def pc_nds (L : List pc_Ch) (i : Nat) : Int := pc_set ((pc_gb (L.take (i + 1))).dropLast)
theorem pc_set_snoc (L : List pc_Ch) (c : pc_Ch) : pc_set (L ++ [c]) = px_or (pc_set L) (px_shl 1 c.1) := by
  unfold pc_set
  rw [List.foldl_append]
  rfl
set_option maxHeartbeats 4000000 in
set_option maxRecDepth 100000 in
theorem c_X10_needsAt {G : px_G} {h : Nat} {a : Int} {μ : px_Mem} {Q : Option px_X → px_Mem → Prop} (hh : px_kd h = 0) (hne : h ≠ 183) (hn : 0 ≤ μ h 4 ∧ μ h 4 ≤ 16) (ha : 0 ≤ a ∧ a < μ h 4) (hv : pc_V (pc_hl μ h))
    (h1 : ∀ μ1 : px_Mem, (∀ o, (o < 183 ∨ 187 < o) → μ1 o = μ o) → Q (some (.inl (pc_nds (pc_hl μ h) a.toNat))) μ1) : px_C G yX10_needsAt cX10_needsAt 6 (some .int) 4 [.inr (.inl (some 0)), .inr (.inl (some h)), .inl a] μ Q := by
  have k183 : px_kd 183 = 0 := by decide +kernel
  obtain ⟨sk, sl⟩ := pc_hk k183
  have hd := pc_hh hh k183
  refine px_enter RX10 (by decide +kernel) rfl (by simp) (by simp [px_c1]) ?_
  simp only [List.map_cons, List.map_nil, List.length_cons, List.length_nil, List.replicate, List.append_nil, Nat.reduceAdd, Nat.reduceSub, List.cons_append, List.nil_append]
  refine px_go (fun _ => false) 400 ?_
  simp (disch := omega) only [px_lits, false_implies, true_implies, px_dec_ok, px_run_s, px_rules, px_rule_is, px_mats, px_calls, ↓reduceIte, eq_self, Bool.false_eq_true, px_flds, px_o_some, px_fvs, px_pfs, px_cts, px_cls, px_acs_, px_acn, true_and, and_true, true_or, or_true, false_or, or_false, and_self, not_true_eq_false, not_false_eq_true, Classical.not_not, Nat.reduceAdd, Nat.reduceSub, Nat.reduceBEq, Nat.reduceLT, Nat.reduceLeDiff, Nat.lt_add_one, px_tg, Int.cast_ofNat_Int, Int.reduceAdd, Int.reduceSub, Int.reduceMul, Int.reduceToNat, Int.reduceLE, Int.reduceLT, Int.reduceNeg, Int.reduceEq, Bool.or_false, Bool.false_or, Bool.or_true, Bool.true_or, List.length_cons, List.length_nil, List.nil_append, List.cons_append, Option.toList_some, Option.toList_none, reduceCtorEq, Option.some.injEq, Nat.zero_le, Nat.reduceMul, Nat.mul_zero, Nat.add_zero, Int.reduceDiv, Int.reduceMod, Int.toNat_natCast, Nat.lt_irrefl, Int.natCast_add, Int.cast_ofNat_Int, px_mds_RX10_0, px_mds_RX10_1, dec_X10_needsAt, px_eq_iff, px_lt_iff, px_le_iff, px_up_o, px_up_eq, px_up_ne, px_cp_o, pc_k0, k183, hh]
  refine c_X0_copyFrom k183 hh hne hn (fun μ1 f1 f2 f3 => ?_)
  refine px_go (fun _ => false) 400 ?_
  simp (disch := omega) only [px_lits, false_implies, true_implies, px_dec_ok, px_run_s, px_rules, px_rule_is, px_mats, px_calls, ↓reduceIte, eq_self, Bool.false_eq_true, px_flds, px_o_some, px_fvs, px_pfs, px_cts, px_cls, px_acs_, px_acn, true_and, and_true, true_or, or_true, false_or, or_false, and_self, not_true_eq_false, not_false_eq_true, Classical.not_not, Nat.reduceAdd, Nat.reduceSub, Nat.reduceBEq, Nat.reduceLT, Nat.reduceLeDiff, Nat.lt_add_one, px_tg, Int.cast_ofNat_Int, Int.reduceAdd, Int.reduceSub, Int.reduceMul, Int.reduceToNat, Int.reduceLE, Int.reduceLT, Int.reduceNeg, Int.reduceEq, Bool.or_false, Bool.false_or, Bool.or_true, Bool.true_or, List.length_cons, List.length_nil, List.nil_append, List.cons_append, Option.toList_some, Option.toList_none, reduceCtorEq, Option.some.injEq, Nat.zero_le, Nat.reduceMul, Nat.mul_zero, Nat.add_zero, Int.reduceDiv, Int.reduceMod, Int.toNat_natCast, Nat.lt_irrefl, Int.natCast_add, Int.cast_ofNat_Int, px_mds_RX10_0, px_mds_RX10_1, dec_X10_needsAt, px_eq_iff, px_lt_iff, px_le_iff, px_up_o, px_up_eq, px_up_ne, px_cp_o, pc_k0, k183, hh]
  refine c_X0_gather k183 (by omega) (by omega) (by omega) (by rw [f3]; exact hv) (fun B R μ2 g1 g2 g3 g4 => ?_)
  rw [f3, show (0 : Int).toNat = 0 by rfl, List.drop_zero] at g1
  rw [show (0 : Int).toNat = 0 by rfl, List.take_zero, List.nil_append] at g3
  have hBl : B.length ≤ 16 := by
    have e := congrArg List.length g3
    rw [List.length_append, pc_hl_len, g2 183 (by omega), f2] at e
    omega
  have hBp : 0 < B.length := by
    rw [g1]
    apply pc_gb_ne
    intro q
    have e := congrArg List.length q
    rw [List.length_take, pc_hl_len, List.length_nil] at e
    omega
  have hs : ∀ i : Nat, i < B.length → μ2 184 i = (B[i]?.map (fun c => c.1)).getD 0 := by
    intro i hi
    have e2 : μ2 183 4 = μ h 4 := by rw [g2 183 (by omega), f2]
    have hl9 : (pc_hl μ2 183).length = (μ h 4).toNat := by rw [pc_hl_len, e2]
    rw [g3, List.length_append] at hl9
    have e := pc_hl_get (μ := μ2) (h := 183) (n := i)
    rw [if_pos (by omega), g3, List.getElem?_append_left hi] at e
    rw [e]
    rfl
  have loop : ∀ (n i : Nat) (s : Int), i + n = B.length - 1 → s = pc_set (B.take i) → px_J G RX10 cX10_needsAt 6 (some .int) 4 24 [some (.inr (.inl (some 0))), some (.inr (.inl (some h))), some (.inl a), some (.inl (B.length - 1)), some (.inl s), some (.inl i)] [] μ2 Q := by
    intro n
    induction n with
    | zero =>
      intro i s h2 h3
      refine px_go (fun p => p == 24) 400 ?_
      simp (disch := omega) only [px_lits, false_implies, true_implies, px_dec_ok, px_run_s, px_rules, px_rule_is, px_mats, px_calls, ↓reduceIte, eq_self, Bool.false_eq_true, px_flds, px_o_some, px_fvs, px_pfs, px_cts, px_cls, px_acs_, px_acn, true_and, and_true, true_or, or_true, false_or, or_false, and_self, not_true_eq_false, not_false_eq_true, Classical.not_not, Nat.reduceAdd, Nat.reduceSub, Nat.reduceBEq, Nat.reduceLT, Nat.reduceLeDiff, Nat.lt_add_one, px_tg, Int.cast_ofNat_Int, Int.reduceAdd, Int.reduceSub, Int.reduceMul, Int.reduceToNat, Int.reduceLE, Int.reduceLT, Int.reduceNeg, Int.reduceEq, Bool.or_false, Bool.false_or, Bool.or_true, Bool.true_or, List.length_cons, List.length_nil, List.nil_append, List.cons_append, Option.toList_some, Option.toList_none, reduceCtorEq, Option.some.injEq, Nat.zero_le, Nat.reduceMul, Nat.mul_zero, Nat.add_zero, Int.reduceDiv, Int.reduceMod, Int.toNat_natCast, Nat.lt_irrefl, Int.natCast_add, Int.cast_ofNat_Int, px_mds_RX10_0, px_mds_RX10_1, dec_X10_needsAt, px_eq_iff, px_lt_iff, px_le_iff, px_up_o, px_up_eq, px_up_ne, px_cp_o, pc_k0, k183, hh]
      refine ⟨fun _ => ?_, fun q => absurd (by omega) q⟩
      have := h1 μ2 (fun o ho => by rw [g2 o (by omega), f1 o (by omega)])
      rw [h3]
      unfold pc_nds at this
      rw [← g1, List.dropLast_eq_take, show B.length - 1 = i by omega] at this
      exact this
    | succ n ih =>
      intro i s h2 h3
      refine px_go (fun p => p == 24) 400 ?_
      simp (disch := omega) only [px_lits, false_implies, true_implies, px_dec_ok, px_run_s, px_rules, px_rule_is, px_mats, px_calls, ↓reduceIte, eq_self, Bool.false_eq_true, px_flds, px_o_some, px_fvs, px_pfs, px_cts, px_cls, px_acs_, px_acn, true_and, and_true, true_or, or_true, false_or, or_false, and_self, not_true_eq_false, not_false_eq_true, Classical.not_not, Nat.reduceAdd, Nat.reduceSub, Nat.reduceBEq, Nat.reduceLT, Nat.reduceLeDiff, Nat.lt_add_one, px_tg, Int.cast_ofNat_Int, Int.reduceAdd, Int.reduceSub, Int.reduceMul, Int.reduceToNat, Int.reduceLE, Int.reduceLT, Int.reduceNeg, Int.reduceEq, Bool.or_false, Bool.false_or, Bool.or_true, Bool.true_or, List.length_cons, List.length_nil, List.nil_append, List.cons_append, Option.toList_some, Option.toList_none, reduceCtorEq, Option.some.injEq, Nat.zero_le, Nat.reduceMul, Nat.mul_zero, Nat.add_zero, Int.reduceDiv, Int.reduceMod, Int.toNat_natCast, Nat.lt_irrefl, Int.natCast_add, Int.cast_ofNat_Int, px_mds_RX10_0, px_mds_RX10_1, dec_X10_needsAt, px_eq_iff, px_lt_iff, px_le_iff, px_up_o, px_up_eq, px_up_ne, px_cp_o, pc_k0, k183, hh, sk, sl]
      refine ⟨fun q => by omega, fun _ => ⟨by omega, ?_⟩⟩
      obtain ⟨c, hc⟩ : ∃ c, B[i]? = some c := ⟨_, List.getElem?_eq_getElem (by omega)⟩
      have e := hs i (by omega)
      rw [hc] at e
      have := ih (i + 1) (px_or s (px_shl 1 (μ2 184 i))) (by omega) (by
        rw [List.take_add_one, hc, Option.toList_some, pc_set_snoc, ← h3, e]
        rfl)
      rwa [Int.natCast_add] at this
  refine px_go (fun p => p == 24) 400 ?_
  simp (disch := omega) only [px_lits, false_implies, true_implies, px_dec_ok, px_run_s, px_rules, px_rule_is, px_mats, px_calls, ↓reduceIte, eq_self, Bool.false_eq_true, px_flds, px_o_some, px_fvs, px_pfs, px_cts, px_cls, px_acs_, px_acn, true_and, and_true, true_or, or_true, false_or, or_false, and_self, not_true_eq_false, not_false_eq_true, Classical.not_not, Nat.reduceAdd, Nat.reduceSub, Nat.reduceBEq, Nat.reduceLT, Nat.reduceLeDiff, Nat.lt_add_one, px_tg, Int.cast_ofNat_Int, Int.reduceAdd, Int.reduceSub, Int.reduceMul, Int.reduceToNat, Int.reduceLE, Int.reduceLT, Int.reduceNeg, Int.reduceEq, Bool.or_false, Bool.false_or, Bool.or_true, Bool.true_or, List.length_cons, List.length_nil, List.nil_append, List.cons_append, Option.toList_some, Option.toList_none, reduceCtorEq, Option.some.injEq, Nat.zero_le, Nat.reduceMul, Nat.mul_zero, Nat.add_zero, Int.reduceDiv, Int.reduceMod, Int.toNat_natCast, Nat.lt_irrefl, Int.natCast_add, Int.cast_ofNat_Int, px_mds_RX10_0, px_mds_RX10_1, dec_X10_needsAt, px_eq_iff, px_lt_iff, px_le_iff, px_up_o, px_up_eq, px_up_ne, px_cp_o, pc_k0, k183, hh]
  exact loop (B.length - 1) 0 0 (by omega) rfl
def pc_num (L : List pc_Ch) (i : Nat) : Int := ((L[i]?).map (fun c => c.1)).getD 0
def pc_ndi (L : List pc_Ch) (a : Nat) : Nat → Nat → Int → Int
  | 0, _, s => s
  | n + 1, i, s => pc_ndi L a n (i + 1) (if px_and (px_shr (pc_nds L i) (pc_num L a)) 1 = 1 then px_or s (px_shl 1 (pc_num L i)) else s)
set_option maxHeartbeats 4000000 in
set_option maxRecDepth 100000 in
theorem c_X10_needingIt {G : px_G} {h : Nat} {a : Int} {μ : px_Mem} {Q : Option px_X → px_Mem → Prop} (hh : px_kd h = 0) (hne : h ≠ 183) (hn : 0 ≤ μ h 4 ∧ μ h 4 ≤ 16) (ha : 0 ≤ a ∧ a < μ h 4) (hv : pc_V (pc_hl μ h))
    (h1 : ∀ μ1 : px_Mem, (∀ o, (o < 183 ∨ 187 < o) → μ1 o = μ o) → Q (some (.inl (pc_ndi (pc_hl μ h) a.toNat ((μ h 4).toNat - a.toNat - 1) (a.toNat + 1) 0))) μ1) : px_C G yX10_needingIt cX10_needingIt 5 (some .int) 5 [.inr (.inl (some 0)), .inr (.inl (some h)), .inl a] μ Q := by
  obtain ⟨hk, hl⟩ := pc_hk hh
  have k183 : px_kd 183 = 0 := by decide +kernel
  have hd := pc_hh hh k183
  have num : ∀ i : Int, 0 ≤ i → i < μ h 4 → μ (h + 1) i = pc_num (pc_hl μ h) i.toNat := by
    intro i i0 i1
    unfold pc_num
    rw [pc_hl_at i0 i1]
    rfl
  have loop : ∀ (n i : Nat) (s : Int) (μ1 : px_Mem), i + n = (μ h 4).toNat → (∀ o, (o < 183 ∨ 187 < o) → μ1 o = μ o) → pc_ndi (pc_hl μ h) a.toNat ((μ h 4).toNat - a.toNat - 1) (a.toNat + 1) 0 = pc_ndi (pc_hl μ h) a.toNat n i s →
      px_J G RX10 cX10_needingIt 5 (some .int) 5 7 [some (.inr (.inl (some 0))), some (.inr (.inl (some h))), some (.inl a), some (.inl s), some (.inl i)] [] μ1 Q := by
    intro n
    induction n with
    | zero =>
      intro i s μ1 h2 h3 h4
      have g0 : μ1 h = μ h := h3 h (by omega)
      refine px_go (fun p => p == 7) 400 ?_
      simp (disch := omega) only [px_lits, false_implies, true_implies, px_dec_ok, px_run_s, px_rules, px_rule_is, px_mats, px_calls, ↓reduceIte, eq_self, Bool.false_eq_true, px_flds, px_o_some, px_fvs, px_pfs, px_cts, px_cls, px_acs_, px_acn, true_and, and_true, true_or, or_true, false_or, or_false, and_self, not_true_eq_false, not_false_eq_true, Classical.not_not, Nat.reduceAdd, Nat.reduceSub, Nat.reduceBEq, Nat.reduceLT, Nat.reduceLeDiff, Nat.lt_add_one, px_tg, Int.cast_ofNat_Int, Int.reduceAdd, Int.reduceSub, Int.reduceMul, Int.reduceToNat, Int.reduceLE, Int.reduceLT, Int.reduceNeg, Int.reduceEq, Bool.or_false, Bool.false_or, Bool.or_true, Bool.true_or, List.length_cons, List.length_nil, List.nil_append, List.cons_append, Option.toList_some, Option.toList_none, reduceCtorEq, Option.some.injEq, Nat.zero_le, Nat.reduceMul, Nat.mul_zero, Nat.add_zero, Int.reduceDiv, Int.reduceMod, Int.toNat_natCast, Nat.lt_irrefl, Int.natCast_add, Int.cast_ofNat_Int, px_mds_RX10_0, px_mds_RX10_1, dec_X10_needingIt, px_eq_iff, px_lt_iff, px_le_iff, px_up_o, px_up_eq, px_up_ne, px_cp_o, pc_k0, hh, hk, hl, g0]
      refine ⟨fun _ => ?_, fun q => absurd (by omega) q⟩
      have := h1 μ1 h3
      rw [h4] at this
      exact this
    | succ n ih =>
      intro i s μ1 h2 h3 h4
      have g0 : μ1 h = μ h := h3 h (by omega)
      have g1 : μ1 (h + 1) = μ (h + 1) := h3 _ (by omega)
      have gl : pc_hl μ1 h = pc_hl μ h := pc_hl_same (h3 _ (by omega)) (h3 _ (by omega)) (h3 _ (by omega)) (h3 _ (by omega)) (h3 _ (by omega))
      refine px_go (fun p => p == 7) 400 ?_
      simp (disch := omega) only [px_lits, false_implies, true_implies, px_dec_ok, px_run_s, px_rules, px_rule_is, px_mats, px_calls, ↓reduceIte, eq_self, Bool.false_eq_true, px_flds, px_o_some, px_fvs, px_pfs, px_cts, px_cls, px_acs_, px_acn, true_and, and_true, true_or, or_true, false_or, or_false, and_self, not_true_eq_false, not_false_eq_true, Classical.not_not, Nat.reduceAdd, Nat.reduceSub, Nat.reduceBEq, Nat.reduceLT, Nat.reduceLeDiff, Nat.lt_add_one, px_tg, Int.cast_ofNat_Int, Int.reduceAdd, Int.reduceSub, Int.reduceMul, Int.reduceToNat, Int.reduceLE, Int.reduceLT, Int.reduceNeg, Int.reduceEq, Bool.or_false, Bool.false_or, Bool.or_true, Bool.true_or, List.length_cons, List.length_nil, List.nil_append, List.cons_append, Option.toList_some, Option.toList_none, reduceCtorEq, Option.some.injEq, Nat.zero_le, Nat.reduceMul, Nat.mul_zero, Nat.add_zero, Int.reduceDiv, Int.reduceMod, Int.toNat_natCast, Nat.lt_irrefl, Int.natCast_add, Int.cast_ofNat_Int, px_mds_RX10_0, px_mds_RX10_1, dec_X10_needingIt, px_eq_iff, px_lt_iff, px_le_iff, px_up_o, px_up_eq, px_up_ne, px_cp_o, pc_k0, hh, hk, hl, g0]
      refine ⟨fun q => by omega, fun _ => ?_⟩
      refine c_X10_needsAt hh hne (by rw [g0]; exact hn) (by rw [g0]; omega) (by rw [gl]; exact hv) (fun μ2 f1 => ?_)
      have g2 : μ2 (h + 1) = μ (h + 1) := by rw [f1 _ (by omega), g1]
      rw [gl, Int.toNat_natCast]
      have hr := px_and_r (px_shr (pc_nds (pc_hl μ h) i) (μ (h + 1) a)) 1
      refine px_go (fun p => p == 7) 400 ?_
      simp (disch := omega) only [px_lits, false_implies, true_implies, px_dec_ok, px_run_s, px_rules, px_rule_is, px_mats, px_calls, ↓reduceIte, eq_self, Bool.false_eq_true, px_flds, px_o_some, px_fvs, px_pfs, px_cts, px_cls, px_acs_, px_acn, true_and, and_true, true_or, or_true, false_or, or_false, and_self, not_true_eq_false, not_false_eq_true, Classical.not_not, Nat.reduceAdd, Nat.reduceSub, Nat.reduceBEq, Nat.reduceLT, Nat.reduceLeDiff, Nat.lt_add_one, px_tg, Int.cast_ofNat_Int, Int.reduceAdd, Int.reduceSub, Int.reduceMul, Int.reduceToNat, Int.reduceLE, Int.reduceLT, Int.reduceNeg, Int.reduceEq, Bool.or_false, Bool.false_or, Bool.or_true, Bool.true_or, List.length_cons, List.length_nil, List.nil_append, List.cons_append, Option.toList_some, Option.toList_none, reduceCtorEq, Option.some.injEq, Nat.zero_le, Nat.reduceMul, Nat.mul_zero, Nat.add_zero, Int.reduceDiv, Int.reduceMod, Int.toNat_natCast, Nat.lt_irrefl, Int.natCast_add, Int.cast_ofNat_Int, px_mds_RX10_0, px_mds_RX10_1, dec_X10_needingIt, px_eq_iff, px_lt_iff, px_le_iff, px_up_o, px_up_eq, px_up_ne, px_cp_o, pc_k0, hh, hk, hl, g2]
      refine ⟨by omega, ?_⟩
      have st : pc_ndi (pc_hl μ h) a.toNat (n + 1) i s = pc_ndi (pc_hl μ h) a.toNat n (i + 1) (if px_and (px_shr (pc_nds (pc_hl μ h) i) (pc_num (pc_hl μ h) a.toNat)) 1 = 1 then px_or s (px_shl 1 (pc_num (pc_hl μ h) i)) else s) := rfl
      rw [st] at h4
      have n1 := num a ha.1 ha.2
      have n2 := num i (by omega) (by omega)
      rw [Int.toNat_natCast] at n2
      rw [← n1, ← n2] at h4
      refine ⟨fun q => ?_, fun q => ⟨by omega, ?_⟩⟩
      · rw [if_neg q] at h4
        have := ih (i + 1) s μ2 (by omega) (fun o ho => by rw [f1 o ho, h3 o ho]) h4
        rwa [Int.natCast_add] at this
      · rw [if_pos q] at h4
        have := ih (i + 1) _ μ2 (by omega) (fun o ho => by rw [f1 o ho, h3 o ho]) h4
        rwa [Int.natCast_add] at this
  refine px_enter RX10 (by decide +kernel) rfl (by simp) (by simp [px_c1]) ?_
  simp only [List.map_cons, List.map_nil, List.length_cons, List.length_nil, List.replicate, List.append_nil, Nat.reduceAdd, Nat.reduceSub, List.cons_append, List.nil_append]
  refine px_go (fun p => p == 7) 400 ?_
  simp (disch := omega) only [px_lits, false_implies, true_implies, px_dec_ok, px_run_s, px_rules, px_rule_is, px_mats, px_calls, ↓reduceIte, eq_self, Bool.false_eq_true, px_flds, px_o_some, px_fvs, px_pfs, px_cts, px_cls, px_acs_, px_acn, true_and, and_true, true_or, or_true, false_or, or_false, and_self, not_true_eq_false, not_false_eq_true, Classical.not_not, Nat.reduceAdd, Nat.reduceSub, Nat.reduceBEq, Nat.reduceLT, Nat.reduceLeDiff, Nat.lt_add_one, px_tg, Int.cast_ofNat_Int, Int.reduceAdd, Int.reduceSub, Int.reduceMul, Int.reduceToNat, Int.reduceLE, Int.reduceLT, Int.reduceNeg, Int.reduceEq, Bool.or_false, Bool.false_or, Bool.or_true, Bool.true_or, List.length_cons, List.length_nil, List.nil_append, List.cons_append, Option.toList_some, Option.toList_none, reduceCtorEq, Option.some.injEq, Nat.zero_le, Nat.reduceMul, Nat.mul_zero, Nat.add_zero, Int.reduceDiv, Int.reduceMod, Int.toNat_natCast, Nat.lt_irrefl, Int.natCast_add, Int.cast_ofNat_Int, px_mds_RX10_0, px_mds_RX10_1, dec_X10_needingIt, px_eq_iff, px_lt_iff, px_le_iff, px_up_o, px_up_eq, px_up_ne, px_cp_o, pc_k0, hh, hk, hl]
  have := loop ((μ h 4).toNat - a.toNat - 1) (a.toNat + 1) 0 μ (by omega) (fun _ _ => rfl) rfl
  rwa [Int.natCast_add, Int.toNat_of_nonneg ha.1] at this
