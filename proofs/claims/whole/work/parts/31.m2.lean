/-! ===== the reference: rows; bringing, needs, the front ===== -/
theorem px_cp_step {μ : px_Mem} {a c : Nat} {sp dp : Int} {k : Nat} (h : a ≠ c ∨ dp ≤ sp) : px_up (px_cp μ a sp c dp k) c (dp + k) (px_cp μ a sp c dp k a (sp + k)) = px_cp μ a sp c dp (k + 1) := by
  funext o i
  unfold px_up px_cp
  by_cases h1 : o = c ∧ i = dp + k
  · rw [if_pos h1, if_neg, if_pos ⟨h1.1, by omega, by omega⟩, h1.2, show sp + (dp + (k : Int) - dp) = sp + k by omega]
    intro q
    omega
  · rw [if_neg h1]
    by_cases h2 : o = c ∧ dp ≤ i ∧ i < dp + k
    · rw [if_pos h2, if_pos ⟨h2.1, by omega, by omega⟩]
    · rw [if_neg h2, if_neg]
      intro q
      apply h2
      refine ⟨q.1, q.2.1, ?_⟩
      rcases (show i < dp + k ∨ i = dp + k by omega) with r | r
      · exact r
      · exact absurd ⟨q.1, r⟩ h1
set_option maxHeartbeats 4000000 in
set_option maxRecDepth 100000 in
theorem c_X11_bring {G : px_G} {a c : Nat} {sp dp : Int} {n : Nat} {μ : px_Mem} {Q : Option px_X → px_Mem → Prop} (ha : px_kd a = 20) (hc : px_kd c = 20) (h : a ≠ c ∨ dp ≤ sp) (hs : 0 ≤ sp ∧ sp + n ≤ px_ln a) (hd : 0 ≤ dp ∧ dp + n ≤ px_ln c) (h1 : Q none (px_cp μ a sp c dp n)) : px_C G yX11_bring cX11_bring 6 none 0 [.inr (.inl (some a)), .inl sp, .inr (.inl (some c)), .inl dp, .inl n] μ Q := by
  have l1 := px_ln_le a
  have l2 := px_ln_le c
  have loop : ∀ (m k : Nat), k + m = n → px_J G RX11 cX11_bring 6 none 0 3 [some (.inr (.inl (some a))), some (.inl sp), some (.inr (.inl (some c))), some (.inl dp), some (.inl n), some (.inl k)] [] (px_cp μ a sp c dp k) Q := by
    intro m
    induction m with
    | zero =>
      intro k hk
      refine px_go (fun p => p == 3) 400 ?_
      simp only [px_lits, false_implies, true_implies, px_dec_ok, px_run_s, px_rules, px_rule_is, px_mats, px_calls, ↓reduceIte, eq_self, Bool.false_eq_true, px_flds, px_o_some, px_fvs, px_pfs, px_cts, px_cls, px_acs_, px_acn, true_and, and_true, true_or, or_true, false_or, or_false, and_self, not_true_eq_false, not_false_eq_true, Classical.not_not, Nat.reduceAdd, Nat.reduceSub, Nat.reduceBEq, Nat.reduceLT, Nat.reduceLeDiff, Nat.lt_add_one, px_tg, Int.cast_ofNat_Int, Int.reduceAdd, Int.reduceSub, Int.reduceMul, Int.reduceToNat, Int.reduceLE, Int.reduceLT, Int.reduceNeg, Int.reduceEq, Bool.or_false, Bool.false_or, Bool.or_true, Bool.true_or, List.length_cons, List.length_nil, List.nil_append, List.cons_append, Option.toList_some, Option.toList_none, reduceCtorEq, Option.some.injEq, Nat.zero_le, Nat.reduceMul, Nat.mul_zero, Nat.add_zero, Int.reduceDiv, Int.reduceMod, Int.toNat_natCast, Nat.lt_irrefl, Int.natCast_add, Int.cast_ofNat_Int, px_mds_RX11_0, px_mds_RX11_1, dec_X11_bring, ha, hc]
      simp (disch := omega) only [px_le_iff]
      refine ⟨fun _ => ?_, fun q => absurd (by omega) q⟩
      rw [show k = n by omega]
      exact h1
    | succ m ih =>
      intro k hk
      refine px_go (fun p => p == 3) 400 ?_
      simp only [px_lits, false_implies, true_implies, px_dec_ok, px_run_s, px_rules, px_rule_is, px_mats, px_calls, ↓reduceIte, eq_self, Bool.false_eq_true, px_flds, px_o_some, px_fvs, px_pfs, px_cts, px_cls, px_acs_, px_acn, true_and, and_true, true_or, or_true, false_or, or_false, and_self, not_true_eq_false, not_false_eq_true, Classical.not_not, Nat.reduceAdd, Nat.reduceSub, Nat.reduceBEq, Nat.reduceLT, Nat.reduceLeDiff, Nat.lt_add_one, px_tg, Int.cast_ofNat_Int, Int.reduceAdd, Int.reduceSub, Int.reduceMul, Int.reduceToNat, Int.reduceLE, Int.reduceLT, Int.reduceNeg, Int.reduceEq, Bool.or_false, Bool.false_or, Bool.or_true, Bool.true_or, List.length_cons, List.length_nil, List.nil_append, List.cons_append, Option.toList_some, Option.toList_none, reduceCtorEq, Option.some.injEq, Nat.zero_le, Nat.reduceMul, Nat.mul_zero, Nat.add_zero, Int.reduceDiv, Int.reduceMod, Int.toNat_natCast, Nat.lt_irrefl, Int.natCast_add, Int.cast_ofNat_Int, px_mds_RX11_0, px_mds_RX11_1, dec_X11_bring, ha, hc]
      simp (disch := omega) only [px_le_iff]
      refine ⟨fun q => by omega, fun _ => ⟨by omega, by omega, ?_⟩⟩
      rw [px_cp_step h]
      have := ih (k + 1) (by omega)
      rwa [Int.natCast_add] at this
  have e0 : px_cp μ a sp c dp ((0 : Nat) : Int) = μ := by
    funext o i
    unfold px_cp
    rw [if_neg]
    intro q
    omega
  refine px_enter RX11 (by decide +kernel) rfl (by simp) (by simp [px_c1]) ?_
  simp only [List.map_cons, List.map_nil, List.length_cons, List.length_nil, List.replicate, List.append_nil, Nat.reduceAdd, Nat.reduceSub, List.cons_append, List.nil_append]
  refine px_go (fun p => p == 3) 400 ?_
  simp only [px_lits, false_implies, true_implies, px_dec_ok, px_run_s, px_rules, px_rule_is, px_mats, px_calls, ↓reduceIte, eq_self, Bool.false_eq_true, px_flds, px_o_some, px_fvs, px_pfs, px_cts, px_cls, px_acs_, px_acn, true_and, and_true, true_or, or_true, false_or, or_false, and_self, not_true_eq_false, not_false_eq_true, Classical.not_not, Nat.reduceAdd, Nat.reduceSub, Nat.reduceBEq, Nat.reduceLT, Nat.reduceLeDiff, Nat.lt_add_one, px_tg, Int.cast_ofNat_Int, Int.reduceAdd, Int.reduceSub, Int.reduceMul, Int.reduceToNat, Int.reduceLE, Int.reduceLT, Int.reduceNeg, Int.reduceEq, Bool.or_false, Bool.false_or, Bool.or_true, Bool.true_or, List.length_cons, List.length_nil, List.nil_append, List.cons_append, Option.toList_some, Option.toList_none, reduceCtorEq, Option.some.injEq, Nat.zero_le, Nat.reduceMul, Nat.mul_zero, Nat.add_zero, Int.reduceDiv, Int.reduceMod, Int.toNat_natCast, Nat.lt_irrefl, Int.natCast_add, Int.cast_ofNat_Int, px_mds_RX11_0, px_mds_RX11_1, dec_X11_bring, ha, hc]
  have := loop n 0 (by omega)
  rw [e0] at this
  exact this
theorem pm_at.cp {μ : px_Mem} {a c : Nat} {sp dp : Int} {n : Nat} {L : List pc_Ch} (h : pm_at μ a sp L) (hn : L.length ≤ n) : pm_at (px_cp μ a sp c dp n) c dp L := by
  intro i x hx
  have := (List.getElem?_eq_some_iff.mp hx).1
  rw [px_cp_in (by omega), show sp + (dp + (i : Int) - dp) = sp + i by omega]
  exact h i x hx
theorem pm_at.app {μ : px_Mem} {a : Nat} {f : Int} {L R : List pc_Ch} (h1 : pm_at μ a f L) (h2 : pm_at μ a (f + L.length) R) : pm_at μ a f (L ++ R) := by
  intro i c hc
  rw [List.getElem?_append] at hc
  split at hc
  · exact h1 i c hc
  · rename_i q
    have := h2 _ c hc
    rw [show f + (L.length : Int) + ((i - L.length : Nat) : Int) = f + i by omega] at this
    exact this
theorem pm_at.sub {μ : px_Mem} {a : Nat} {f : Int} {L : List pc_Ch} (h : pm_at μ a f L) (n : Nat) : pm_at μ a f (L.take n) ∧ pm_at μ a (f + n) (L.drop n) := by
  refine ⟨fun i c hc => ?_, fun i c hc => ?_⟩
  · rw [List.getElem?_take] at hc
    split at hc
    · exact h i c hc
    · cases hc
  · rw [List.getElem?_drop] at hc
    have := h _ c hc
    rw [Int.natCast_add] at this
    rw [Int.add_assoc]
    exact this
set_option maxHeartbeats 4000000 in
set_option maxRecDepth 100000 in
theorem c_X11_isBroughtF {G : px_G} {a : Nat} {f t : Nat} {L : List pc_Ch} {μ : px_Mem} {Q : Option px_X → px_Mem → Prop} (ha : px_kd a = 20) (hl : L.length ≤ px_ln a) (hf : f ≤ t) (ht : t < L.length) (hv : pc_V L) (hr : pm_at μ a 0 L)
    (h1 : ∀ (L1 : List pc_Ch) (μ1 : px_Mem), pc_brF (t - f) L f = some L1 → (∀ o, o ≠ a → μ1 o = μ o) → pm_at μ1 a 0 L1 → Q (some (.inl 1)) μ1) (h0 : ∀ μ1 : px_Mem, pc_brF (t - f) L f = none → (∀ o, o ≠ a → μ1 o = μ o) → Q (some (.inl 0)) μ1) : px_C G yX11_isBrought cX11_isBrought 4 (some .boolean) 3 [.inr (.inl (some a)), .inl f, .inl t] μ Q := by
  have l1 := px_ln_le a
  have loop : ∀ (n i : Nat) (L2 : List pc_Ch) (μ1 : px_Mem), f ≤ i → i + n = t → (∀ o, o ≠ a → μ1 o = μ o) → pc_brF (i - f) L f = some L2 → pm_at μ1 a 0 L2 → px_J G RX11 cX11_isBrought 4 (some .boolean) 3 25 [some (.inr (.inl (some a))), some (.inl f), some (.inl t), some (.inl i)] [] μ1 Q := by
    intro n
    induction n with
    | zero =>
      intro i L2 μ1 h2 h3 h4 h5 h6
      refine px_go (fun p => p == 25) 400 ?_
      simp (disch := omega) only [px_lits, false_implies, true_implies, px_dec_ok, px_run_s, px_rules, px_rule_is, px_mats, px_calls, ↓reduceIte, eq_self, Bool.false_eq_true, px_flds, px_o_some, px_fvs, px_pfs, px_cts, px_cls, px_acs_, px_acn, true_and, and_true, true_or, or_true, false_or, or_false, and_self, not_true_eq_false, not_false_eq_true, Classical.not_not, Nat.reduceAdd, Nat.reduceSub, Nat.reduceBEq, Nat.reduceLT, Nat.reduceLeDiff, Nat.lt_add_one, px_tg, Int.cast_ofNat_Int, Int.reduceAdd, Int.reduceSub, Int.reduceMul, Int.reduceToNat, Int.reduceLE, Int.reduceLT, Int.reduceNeg, Int.reduceEq, Bool.or_false, Bool.false_or, Bool.or_true, Bool.true_or, List.length_cons, List.length_nil, List.nil_append, List.cons_append, Option.toList_some, Option.toList_none, reduceCtorEq, Option.some.injEq, Nat.zero_le, Nat.reduceMul, Nat.mul_zero, Nat.add_zero, Int.reduceDiv, Int.reduceMod, Int.toNat_natCast, Nat.lt_irrefl, Int.natCast_add, Int.cast_ofNat_Int, px_mds_RX11_0, px_mds_RX11_1, dec_X11_isBrought, px_eq_iff, px_lt_iff, px_le_iff, px_up_o, px_up_eq, px_up_ne, px_cp_o, ha]
      exact ⟨fun _ => h1 L2 μ1 (by rw [show t = i by omega]; exact h5) h4 h6, fun q => absurd (by omega) q⟩
    | succ n ih =>
      intro i L2 μ1 h2 h3 h4 h5 h6
      have hk := pc_brF_keep h5
      have hsn := pc_brF_snoc (i - f) L f
      rw [h5, Option.bind_some, show f + (i - f) = i by omega] at hsn
      refine px_go (fun p => p == 25) 400 ?_
      simp (disch := omega) only [px_lits, false_implies, true_implies, px_dec_ok, px_run_s, px_rules, px_rule_is, px_mats, px_calls, ↓reduceIte, eq_self, Bool.false_eq_true, px_flds, px_o_some, px_fvs, px_pfs, px_cts, px_cls, px_acs_, px_acn, true_and, and_true, true_or, or_true, false_or, or_false, and_self, not_true_eq_false, not_false_eq_true, Classical.not_not, Nat.reduceAdd, Nat.reduceSub, Nat.reduceBEq, Nat.reduceLT, Nat.reduceLeDiff, Nat.lt_add_one, px_tg, Int.cast_ofNat_Int, Int.reduceAdd, Int.reduceSub, Int.reduceMul, Int.reduceToNat, Int.reduceLE, Int.reduceLT, Int.reduceNeg, Int.reduceEq, Bool.or_false, Bool.false_or, Bool.or_true, Bool.true_or, List.length_cons, List.length_nil, List.nil_append, List.cons_append, Option.toList_some, Option.toList_none, reduceCtorEq, Option.some.injEq, Nat.zero_le, Nat.reduceMul, Nat.mul_zero, Nat.add_zero, Int.reduceDiv, Int.reduceMod, Int.toNat_natCast, Nat.lt_irrefl, Int.natCast_add, Int.cast_ofNat_Int, px_mds_RX11_0, px_mds_RX11_1, dec_X11_isBrought, px_eq_iff, px_lt_iff, px_le_iff, px_up_o, px_up_eq, px_up_ne, px_cp_o, ha]
      refine ⟨fun q => by omega, fun _ => ?_⟩
      refine c_X11_isTurned ha (by rw [hk.1]; exact hl) (by rw [hk.1]; omega) (hk.2.1 hv) h6 (fun L3 μ2 e1 e2 e3 e4 => ?_) (fun e1 => ?_)
      · refine px_go (fun p => p == 25) 400 ?_
        simp (disch := omega) only [px_lits, false_implies, true_implies, px_dec_ok, px_run_s, px_rules, px_rule_is, px_mats, px_calls, ↓reduceIte, eq_self, Bool.false_eq_true, px_flds, px_o_some, px_fvs, px_pfs, px_cts, px_cls, px_acs_, px_acn, true_and, and_true, true_or, or_true, false_or, or_false, and_self, not_true_eq_false, not_false_eq_true, Classical.not_not, Nat.reduceAdd, Nat.reduceSub, Nat.reduceBEq, Nat.reduceLT, Nat.reduceLeDiff, Nat.lt_add_one, px_tg, Int.cast_ofNat_Int, Int.reduceAdd, Int.reduceSub, Int.reduceMul, Int.reduceToNat, Int.reduceLE, Int.reduceLT, Int.reduceNeg, Int.reduceEq, Bool.or_false, Bool.false_or, Bool.or_true, Bool.true_or, List.length_cons, List.length_nil, List.nil_append, List.cons_append, Option.toList_some, Option.toList_none, reduceCtorEq, Option.some.injEq, Nat.zero_le, Nat.reduceMul, Nat.mul_zero, Nat.add_zero, Int.reduceDiv, Int.reduceMod, Int.toNat_natCast, Nat.lt_irrefl, Int.natCast_add, Int.cast_ofNat_Int, px_mds_RX11_0, px_mds_RX11_1, dec_X11_isBrought, px_eq_iff, px_lt_iff, px_le_iff, px_up_o, px_up_eq, px_up_ne, px_cp_o, ha]
        have := ih (i + 1) L3 μ2 (by omega) (by omega) (fun o ho => by rw [e2 o ho, h4 o ho]) (by rw [show i + 1 - f = i - f + 1 by omega, hsn, e1]) e4
        rwa [Int.natCast_add] at this
      · refine px_go (fun p => p == 25) 400 ?_
        simp (disch := omega) only [px_lits, false_implies, true_implies, px_dec_ok, px_run_s, px_rules, px_rule_is, px_mats, px_calls, ↓reduceIte, eq_self, Bool.false_eq_true, px_flds, px_o_some, px_fvs, px_pfs, px_cts, px_cls, px_acs_, px_acn, true_and, and_true, true_or, or_true, false_or, or_false, and_self, not_true_eq_false, not_false_eq_true, Classical.not_not, Nat.reduceAdd, Nat.reduceSub, Nat.reduceBEq, Nat.reduceLT, Nat.reduceLeDiff, Nat.lt_add_one, px_tg, Int.cast_ofNat_Int, Int.reduceAdd, Int.reduceSub, Int.reduceMul, Int.reduceToNat, Int.reduceLE, Int.reduceLT, Int.reduceNeg, Int.reduceEq, Bool.or_false, Bool.false_or, Bool.or_true, Bool.true_or, List.length_cons, List.length_nil, List.nil_append, List.cons_append, Option.toList_some, Option.toList_none, reduceCtorEq, Option.some.injEq, Nat.zero_le, Nat.reduceMul, Nat.mul_zero, Nat.add_zero, Int.reduceDiv, Int.reduceMod, Int.toNat_natCast, Nat.lt_irrefl, Int.natCast_add, Int.cast_ofNat_Int, px_mds_RX11_0, px_mds_RX11_1, dec_X11_isBrought, px_eq_iff, px_lt_iff, px_le_iff, px_up_o, px_up_eq, px_up_ne, px_cp_o, ha]
        refine h0 μ1 ?_ h4
        rw [e1] at hsn
        have := pc_brF_none hsn n
        rw [show i - f + 1 + n = t - f by omega] at this
        exact this
  refine px_enter RX11 (by decide +kernel) rfl (by simp) (by simp [px_c1]) ?_
  simp only [List.map_cons, List.map_nil, List.length_cons, List.length_nil, List.replicate, List.append_nil, Nat.reduceAdd, Nat.reduceSub, List.cons_append, List.nil_append]
  refine px_go (fun p => p == 25 || p == 2) 400 ?_
  simp (disch := omega) only [px_lits, false_implies, true_implies, px_dec_ok, px_run_s, px_rules, px_rule_is, px_mats, px_calls, ↓reduceIte, eq_self, Bool.false_eq_true, px_flds, px_o_some, px_fvs, px_pfs, px_cts, px_cls, px_acs_, px_acn, true_and, and_true, true_or, or_true, false_or, or_false, and_self, not_true_eq_false, not_false_eq_true, Classical.not_not, Nat.reduceAdd, Nat.reduceSub, Nat.reduceBEq, Nat.reduceLT, Nat.reduceLeDiff, Nat.lt_add_one, px_tg, Int.cast_ofNat_Int, Int.reduceAdd, Int.reduceSub, Int.reduceMul, Int.reduceToNat, Int.reduceLE, Int.reduceLT, Int.reduceNeg, Int.reduceEq, Bool.or_false, Bool.false_or, Bool.or_true, Bool.true_or, List.length_cons, List.length_nil, List.nil_append, List.cons_append, Option.toList_some, Option.toList_none, reduceCtorEq, Option.some.injEq, Nat.zero_le, Nat.reduceMul, Nat.mul_zero, Nat.add_zero, Int.reduceDiv, Int.reduceMod, Int.toNat_natCast, Nat.lt_irrefl, Int.natCast_add, Int.cast_ofNat_Int, px_mds_RX11_0, px_mds_RX11_1, dec_X11_isBrought, px_eq_iff, px_lt_iff, px_le_iff, px_up_o, px_up_eq, px_up_ne, px_cp_o, ha]
  refine px_go (fun p => p == 25) 400 ?_
  simp (disch := omega) only [px_lits, false_implies, true_implies, px_dec_ok, px_run_s, px_rules, px_rule_is, px_mats, px_calls, ↓reduceIte, eq_self, Bool.false_eq_true, px_flds, px_o_some, px_fvs, px_pfs, px_cts, px_cls, px_acs_, px_acn, true_and, and_true, true_or, or_true, false_or, or_false, and_self, not_true_eq_false, not_false_eq_true, Classical.not_not, Nat.reduceAdd, Nat.reduceSub, Nat.reduceBEq, Nat.reduceLT, Nat.reduceLeDiff, Nat.lt_add_one, px_tg, Int.cast_ofNat_Int, Int.reduceAdd, Int.reduceSub, Int.reduceMul, Int.reduceToNat, Int.reduceLE, Int.reduceLT, Int.reduceNeg, Int.reduceEq, Bool.or_false, Bool.false_or, Bool.or_true, Bool.true_or, List.length_cons, List.length_nil, List.nil_append, List.cons_append, Option.toList_some, Option.toList_none, reduceCtorEq, Option.some.injEq, Nat.zero_le, Nat.reduceMul, Nat.mul_zero, Nat.add_zero, Int.reduceDiv, Int.reduceMod, Int.toNat_natCast, Nat.lt_irrefl, Int.natCast_add, Int.cast_ofNat_Int, px_mds_RX11_0, px_mds_RX11_1, dec_X11_isBrought, px_eq_iff, px_lt_iff, px_le_iff, px_up_o, px_up_eq, px_up_ne, px_cp_o, ha]
  refine ⟨fun _ => loop (t - f) f L μ (by omega) (by omega) (fun _ _ => rfl) (by rw [Nat.sub_self]; rfl) hr, fun q => absurd (by omega) q⟩
set_option maxHeartbeats 4000000 in
set_option maxRecDepth 100000 in
theorem c_X11_isBroughtB {G : px_G} {a : Nat} {f t : Nat} {L : List pc_Ch} {μ : px_Mem} {Q : Option px_X → px_Mem → Prop} (ha : px_kd a = 20) (hl : L.length ≤ px_ln a) (hf : t ≤ f) (ht : f < L.length) (hv : pc_V L) (hr : pm_at μ a 0 L)
    (h1 : ∀ (L1 : List pc_Ch) (μ1 : px_Mem), pc_brB (f - t) L f = some L1 → (∀ o, o ≠ a → μ1 o = μ o) → pm_at μ1 a 0 L1 → Q (some (.inl 1)) μ1) (h0 : ∀ μ1 : px_Mem, pc_brB (f - t) L f = none → (∀ o, o ≠ a → μ1 o = μ o) → Q (some (.inl 0)) μ1) : px_C G yX11_isBrought cX11_isBrought 4 (some .boolean) 3 [.inr (.inl (some a)), .inl f, .inl t] μ Q := by
  have l1 := px_ln_le a
  have loop : ∀ (n i : Nat) (L2 : List pc_Ch) (μ1 : px_Mem), i ≤ f → t + n = i → (∀ o, o ≠ a → μ1 o = μ o) → pc_brB (f - i) L f = some L2 → pm_at μ1 a 0 L2 → px_J G RX11 cX11_isBrought 4 (some .boolean) 3 2 [some (.inr (.inl (some a))), some (.inl f), some (.inl t), some (.inl i)] [] μ1 Q := by
    intro n
    induction n with
    | zero =>
      intro i L2 μ1 h2 h3 h4 h5 h6
      refine px_go (fun p => p == 2) 400 ?_
      simp (disch := omega) only [px_lits, false_implies, true_implies, px_dec_ok, px_run_s, px_rules, px_rule_is, px_mats, px_calls, ↓reduceIte, eq_self, Bool.false_eq_true, px_flds, px_o_some, px_fvs, px_pfs, px_cts, px_cls, px_acs_, px_acn, true_and, and_true, true_or, or_true, false_or, or_false, and_self, not_true_eq_false, not_false_eq_true, Classical.not_not, Nat.reduceAdd, Nat.reduceSub, Nat.reduceBEq, Nat.reduceLT, Nat.reduceLeDiff, Nat.lt_add_one, px_tg, Int.cast_ofNat_Int, Int.reduceAdd, Int.reduceSub, Int.reduceMul, Int.reduceToNat, Int.reduceLE, Int.reduceLT, Int.reduceNeg, Int.reduceEq, Bool.or_false, Bool.false_or, Bool.or_true, Bool.true_or, List.length_cons, List.length_nil, List.nil_append, List.cons_append, Option.toList_some, Option.toList_none, reduceCtorEq, Option.some.injEq, Nat.zero_le, Nat.reduceMul, Nat.mul_zero, Nat.add_zero, Int.reduceDiv, Int.reduceMod, Int.toNat_natCast, Nat.lt_irrefl, Int.natCast_add, Int.cast_ofNat_Int, px_mds_RX11_0, px_mds_RX11_1, dec_X11_isBrought, px_eq_iff, px_lt_iff, px_le_iff, px_up_o, px_up_eq, px_up_ne, px_cp_o, ha]
      refine ⟨fun _ => ⟨fun _ => h1 L2 μ1 (by rw [show t = i by omega]; exact h5) h4 h6, fun q => absurd (by omega) q⟩, fun q => absurd (by omega) q⟩
    | succ n ih =>
      intro i L2 μ1 h2 h3 h4 h5 h6
      have hk := pc_brB_keep h5
      have hsn := pc_brB_snoc (f - i) L f
      rw [h5, Option.bind_some, show f - (f - i) - 1 = i - 1 by omega] at hsn
      refine px_go (fun p => p == 2) 400 ?_
      simp (disch := omega) only [px_lits, false_implies, true_implies, px_dec_ok, px_run_s, px_rules, px_rule_is, px_mats, px_calls, ↓reduceIte, eq_self, Bool.false_eq_true, px_flds, px_o_some, px_fvs, px_pfs, px_cts, px_cls, px_acs_, px_acn, true_and, and_true, true_or, or_true, false_or, or_false, and_self, not_true_eq_false, not_false_eq_true, Classical.not_not, Nat.reduceAdd, Nat.reduceSub, Nat.reduceBEq, Nat.reduceLT, Nat.reduceLeDiff, Nat.lt_add_one, px_tg, Int.cast_ofNat_Int, Int.reduceAdd, Int.reduceSub, Int.reduceMul, Int.reduceToNat, Int.reduceLE, Int.reduceLT, Int.reduceNeg, Int.reduceEq, Bool.or_false, Bool.false_or, Bool.or_true, Bool.true_or, List.length_cons, List.length_nil, List.nil_append, List.cons_append, Option.toList_some, Option.toList_none, reduceCtorEq, Option.some.injEq, Nat.zero_le, Nat.reduceMul, Nat.mul_zero, Nat.add_zero, Int.reduceDiv, Int.reduceMod, Int.toNat_natCast, Nat.lt_irrefl, Int.natCast_add, Int.cast_ofNat_Int, px_mds_RX11_0, px_mds_RX11_1, dec_X11_isBrought, px_eq_iff, px_lt_iff, px_le_iff, px_up_o, px_up_eq, px_up_ne, px_cp_o, ha]
      refine ⟨fun q => by omega, fun _ => ?_⟩
      rw [show ((i : Int) - 1) = ((i - 1 : Nat) : Int) by omega]
      refine c_X11_isTurned ha (by rw [hk.1]; exact hl) (by rw [hk.1]; omega) (hk.2.1 hv) h6 (fun L3 μ2 e1 e2 e3 e4 => ?_) (fun e1 => ?_)
      · refine px_go (fun p => p == 2) 400 ?_
        simp (disch := omega) only [px_lits, false_implies, true_implies, px_dec_ok, px_run_s, px_rules, px_rule_is, px_mats, px_calls, ↓reduceIte, eq_self, Bool.false_eq_true, px_flds, px_o_some, px_fvs, px_pfs, px_cts, px_cls, px_acs_, px_acn, true_and, and_true, true_or, or_true, false_or, or_false, and_self, not_true_eq_false, not_false_eq_true, Classical.not_not, Nat.reduceAdd, Nat.reduceSub, Nat.reduceBEq, Nat.reduceLT, Nat.reduceLeDiff, Nat.lt_add_one, px_tg, Int.cast_ofNat_Int, Int.reduceAdd, Int.reduceSub, Int.reduceMul, Int.reduceToNat, Int.reduceLE, Int.reduceLT, Int.reduceNeg, Int.reduceEq, Bool.or_false, Bool.false_or, Bool.or_true, Bool.true_or, List.length_cons, List.length_nil, List.nil_append, List.cons_append, Option.toList_some, Option.toList_none, reduceCtorEq, Option.some.injEq, Nat.zero_le, Nat.reduceMul, Nat.mul_zero, Nat.add_zero, Int.reduceDiv, Int.reduceMod, Int.toNat_natCast, Nat.lt_irrefl, Int.natCast_add, Int.cast_ofNat_Int, px_mds_RX11_0, px_mds_RX11_1, dec_X11_isBrought, px_eq_iff, px_lt_iff, px_le_iff, px_up_o, px_up_eq, px_up_ne, px_cp_o, ha]
        have := ih (i - 1) L3 μ2 (by omega) (by omega) (fun o ho => by rw [e2 o ho, h4 o ho]) (by rw [show f - (i - 1) = f - i + 1 by omega, hsn, e1]) e4
        rwa [show ((i - 1 : Nat) : Int) = (i : Int) + -1 by omega] at this
      · refine px_go (fun p => p == 2) 400 ?_
        simp (disch := omega) only [px_lits, false_implies, true_implies, px_dec_ok, px_run_s, px_rules, px_rule_is, px_mats, px_calls, ↓reduceIte, eq_self, Bool.false_eq_true, px_flds, px_o_some, px_fvs, px_pfs, px_cts, px_cls, px_acs_, px_acn, true_and, and_true, true_or, or_true, false_or, or_false, and_self, not_true_eq_false, not_false_eq_true, Classical.not_not, Nat.reduceAdd, Nat.reduceSub, Nat.reduceBEq, Nat.reduceLT, Nat.reduceLeDiff, Nat.lt_add_one, px_tg, Int.cast_ofNat_Int, Int.reduceAdd, Int.reduceSub, Int.reduceMul, Int.reduceToNat, Int.reduceLE, Int.reduceLT, Int.reduceNeg, Int.reduceEq, Bool.or_false, Bool.false_or, Bool.or_true, Bool.true_or, List.length_cons, List.length_nil, List.nil_append, List.cons_append, Option.toList_some, Option.toList_none, reduceCtorEq, Option.some.injEq, Nat.zero_le, Nat.reduceMul, Nat.mul_zero, Nat.add_zero, Int.reduceDiv, Int.reduceMod, Int.toNat_natCast, Nat.lt_irrefl, Int.natCast_add, Int.cast_ofNat_Int, px_mds_RX11_0, px_mds_RX11_1, dec_X11_isBrought, px_eq_iff, px_lt_iff, px_le_iff, px_up_o, px_up_eq, px_up_ne, px_cp_o, ha]
        refine h0 μ1 ?_ h4
        rw [e1] at hsn
        have := pc_brB_none hsn n
        rw [show f - i + 1 + n = f - t by omega] at this
        exact this
  refine px_enter RX11 (by decide +kernel) rfl (by simp) (by simp [px_c1]) ?_
  simp only [List.map_cons, List.map_nil, List.length_cons, List.length_nil, List.replicate, List.append_nil, Nat.reduceAdd, Nat.reduceSub, List.cons_append, List.nil_append]
  refine px_go (fun p => p == 2) 400 ?_
  simp (disch := omega) only [px_lits, false_implies, true_implies, px_dec_ok, px_run_s, px_rules, px_rule_is, px_mats, px_calls, ↓reduceIte, eq_self, Bool.false_eq_true, px_flds, px_o_some, px_fvs, px_pfs, px_cts, px_cls, px_acs_, px_acn, true_and, and_true, true_or, or_true, false_or, or_false, and_self, not_true_eq_false, not_false_eq_true, Classical.not_not, Nat.reduceAdd, Nat.reduceSub, Nat.reduceBEq, Nat.reduceLT, Nat.reduceLeDiff, Nat.lt_add_one, px_tg, Int.cast_ofNat_Int, Int.reduceAdd, Int.reduceSub, Int.reduceMul, Int.reduceToNat, Int.reduceLE, Int.reduceLT, Int.reduceNeg, Int.reduceEq, Bool.or_false, Bool.false_or, Bool.or_true, Bool.true_or, List.length_cons, List.length_nil, List.nil_append, List.cons_append, Option.toList_some, Option.toList_none, reduceCtorEq, Option.some.injEq, Nat.zero_le, Nat.reduceMul, Nat.mul_zero, Nat.add_zero, Int.reduceDiv, Int.reduceMod, Int.toNat_natCast, Nat.lt_irrefl, Int.natCast_add, Int.cast_ofNat_Int, px_mds_RX11_0, px_mds_RX11_1, dec_X11_isBrought, px_eq_iff, px_lt_iff, px_le_iff, px_up_o, px_up_eq, px_up_ne, px_cp_o, ha]
  exact loop (f - t) f L μ (by omega) (by omega) (fun _ _ => rfl) (by rw [Nat.sub_self]; rfl) hr
set_option maxHeartbeats 4000000 in
set_option maxRecDepth 100000 in
theorem c_X11_placeIn {G : px_G} {a n : Nat} {x : Int} {L : List pc_Ch} {μ : px_Mem} {Q : Option px_X → px_Mem → Prop} (ha : px_kd a = 20) (hn : L.length = n) (hl : L.length ≤ px_ln a) (hx : -2147483648 ≤ x ∧ x < 2147483648) (hv : pc_V L) (hr : pm_at μ a 0 L)
    (h1 : ∀ z : Int, (z = -1 ∧ (∀ j : Nat, j < n → pc_num L j ≠ x)) ∨ (∃ k : Nat, z = k ∧ k < n ∧ pc_num L k = x) → Q (some (.inl z)) μ) : px_C G yX11_placeIn cX11_placeIn 5 (some .int) 1 [.inr (.inl (some a)), .inl n, .inl x] μ Q := by
  have l1 := px_ln_le a
  have loop : ∀ (m i : Nat) (z : Int), i + m = n → ((z = -1 ∧ (∀ j : Nat, j < i → pc_num L j ≠ x)) ∨ (∃ k : Nat, z = k ∧ k < i ∧ pc_num L k = x)) → px_J G RX11 cX11_placeIn 5 (some .int) 1 5 [some (.inr (.inl (some a))), some (.inl n), some (.inl x), some (.inl z), some (.inl i)] [] μ Q := by
    intro m
    induction m with
    | zero =>
      intro i z h2 h3
      refine px_go (fun p => p == 5) 400 ?_
      simp (disch := omega) only [px_lits, false_implies, true_implies, px_dec_ok, px_run_s, px_rules, px_rule_is, px_mats, px_calls, ↓reduceIte, eq_self, Bool.false_eq_true, px_flds, px_o_some, px_fvs, px_pfs, px_cts, px_cls, px_acs_, px_acn, true_and, and_true, true_or, or_true, false_or, or_false, and_self, not_true_eq_false, not_false_eq_true, Classical.not_not, Nat.reduceAdd, Nat.reduceSub, Nat.reduceBEq, Nat.reduceLT, Nat.reduceLeDiff, Nat.lt_add_one, px_tg, Int.cast_ofNat_Int, Int.reduceAdd, Int.reduceSub, Int.reduceMul, Int.reduceToNat, Int.reduceLE, Int.reduceLT, Int.reduceNeg, Int.reduceEq, Bool.or_false, Bool.false_or, Bool.or_true, Bool.true_or, List.length_cons, List.length_nil, List.nil_append, List.cons_append, Option.toList_some, Option.toList_none, reduceCtorEq, Option.some.injEq, Nat.zero_le, Nat.reduceMul, Nat.mul_zero, Nat.add_zero, Int.reduceDiv, Int.reduceMod, Int.toNat_natCast, Nat.lt_irrefl, Int.natCast_add, Int.cast_ofNat_Int, px_mds_RX11_0, px_mds_RX11_1, dec_X11_placeIn, px_eq_iff, px_lt_iff, px_le_iff, px_up_o, px_up_eq, px_up_ne, px_cp_o, ha]
      refine ⟨fun _ => h1 z ?_, fun q => absurd (by omega) q⟩
      rw [show n = i by omega]
      exact h3
    | succ m ih =>
      intro i z h2 h3
      obtain ⟨c, hc⟩ : ∃ c, L[i]? = some c := ⟨_, List.getElem?_eq_getElem (by omega)⟩
      have oc := hv.ok (List.mem_of_getElem? hc)
      have mc := hr i c hc
      rw [Int.zero_add] at mc
      have nc : pc_num L i = c.1 := by unfold pc_num; rw [hc]; rfl
      have o1 := oc.1
      refine px_go (fun p => p == 5) 400 ?_
      simp (disch := omega) only [px_lits, false_implies, true_implies, px_dec_ok, px_run_s, px_rules, px_rule_is, px_mats, px_calls, ↓reduceIte, eq_self, Bool.false_eq_true, px_flds, px_o_some, px_fvs, px_pfs, px_cts, px_cls, px_acs_, px_acn, true_and, and_true, true_or, or_true, false_or, or_false, and_self, not_true_eq_false, not_false_eq_true, Classical.not_not, Nat.reduceAdd, Nat.reduceSub, Nat.reduceBEq, Nat.reduceLT, Nat.reduceLeDiff, Nat.lt_add_one, px_tg, Int.cast_ofNat_Int, Int.reduceAdd, Int.reduceSub, Int.reduceMul, Int.reduceToNat, Int.reduceLE, Int.reduceLT, Int.reduceNeg, Int.reduceEq, Bool.or_false, Bool.false_or, Bool.or_true, Bool.true_or, List.length_cons, List.length_nil, List.nil_append, List.cons_append, Option.toList_some, Option.toList_none, reduceCtorEq, Option.some.injEq, Nat.zero_le, Nat.reduceMul, Nat.mul_zero, Nat.add_zero, Int.reduceDiv, Int.reduceMod, Int.toNat_natCast, Nat.lt_irrefl, Int.natCast_add, Int.cast_ofNat_Int, px_mds_RX11_0, px_mds_RX11_1, dec_X11_placeIn, px_eq_iff, px_lt_iff, px_le_iff, px_up_o, px_up_eq, px_up_ne, px_cp_o, ha]
      refine ⟨fun q => by omega, fun _ => ⟨by omega, ?_⟩⟩
      rw [mc]
      refine c_X11_number oc ?_
      refine px_go (fun p => p == 5) 400 ?_
      simp (disch := omega) only [px_lits, false_implies, true_implies, px_dec_ok, px_run_s, px_rules, px_rule_is, px_mats, px_calls, ↓reduceIte, eq_self, Bool.false_eq_true, px_flds, px_o_some, px_fvs, px_pfs, px_cts, px_cls, px_acs_, px_acn, true_and, and_true, true_or, or_true, false_or, or_false, and_self, not_true_eq_false, not_false_eq_true, Classical.not_not, Nat.reduceAdd, Nat.reduceSub, Nat.reduceBEq, Nat.reduceLT, Nat.reduceLeDiff, Nat.lt_add_one, px_tg, Int.cast_ofNat_Int, Int.reduceAdd, Int.reduceSub, Int.reduceMul, Int.reduceToNat, Int.reduceLE, Int.reduceLT, Int.reduceNeg, Int.reduceEq, Bool.or_false, Bool.false_or, Bool.or_true, Bool.true_or, List.length_cons, List.length_nil, List.nil_append, List.cons_append, Option.toList_some, Option.toList_none, reduceCtorEq, Option.some.injEq, Nat.zero_le, Nat.reduceMul, Nat.mul_zero, Nat.add_zero, Int.reduceDiv, Int.reduceMod, Int.toNat_natCast, Nat.lt_irrefl, Int.natCast_add, Int.cast_ofNat_Int, px_mds_RX11_0, px_mds_RX11_1, dec_X11_placeIn, px_eq_iff, px_lt_iff, px_le_iff, px_up_o, px_up_eq, px_up_ne, px_cp_o, ha]
      refine ⟨fun q => ?_, fun q => ?_⟩
      · have := ih (i + 1) z (by omega) (by
          rcases h3 with ⟨z1, z2⟩ | ⟨k, z1, z2, z3⟩
          · refine Or.inl ⟨z1, fun j hj => ?_⟩
            by_cases e : j = i
            · rw [e, nc]; exact q
            · exact z2 j (by omega)
          · exact Or.inr ⟨k, z1, by omega, z3⟩)
        rwa [Int.natCast_add] at this
      · have := ih (i + 1) i (by omega) (Or.inr ⟨i, rfl, by omega, by rw [nc]; exact q⟩)
        rwa [Int.natCast_add] at this
  refine px_enter RX11 (by decide +kernel) rfl (by simp) (by simp [px_c1]) ?_
  simp only [List.map_cons, List.map_nil, List.length_cons, List.length_nil, List.replicate, List.append_nil, Nat.reduceAdd, Nat.reduceSub, List.cons_append, List.nil_append]
  refine px_go (fun p => p == 5) 400 ?_
  simp (disch := omega) only [px_lits, false_implies, true_implies, px_dec_ok, px_run_s, px_rules, px_rule_is, px_mats, px_calls, ↓reduceIte, eq_self, Bool.false_eq_true, px_flds, px_o_some, px_fvs, px_pfs, px_cts, px_cls, px_acs_, px_acn, true_and, and_true, true_or, or_true, false_or, or_false, and_self, not_true_eq_false, not_false_eq_true, Classical.not_not, Nat.reduceAdd, Nat.reduceSub, Nat.reduceBEq, Nat.reduceLT, Nat.reduceLeDiff, Nat.lt_add_one, px_tg, Int.cast_ofNat_Int, Int.reduceAdd, Int.reduceSub, Int.reduceMul, Int.reduceToNat, Int.reduceLE, Int.reduceLT, Int.reduceNeg, Int.reduceEq, Bool.or_false, Bool.false_or, Bool.or_true, Bool.true_or, List.length_cons, List.length_nil, List.nil_append, List.cons_append, Option.toList_some, Option.toList_none, reduceCtorEq, Option.some.injEq, Nat.zero_le, Nat.reduceMul, Nat.mul_zero, Nat.add_zero, Int.reduceDiv, Int.reduceMod, Int.toNat_natCast, Nat.lt_irrefl, Int.natCast_add, Int.cast_ofNat_Int, px_mds_RX11_0, px_mds_RX11_1, dec_X11_placeIn, px_eq_iff, px_lt_iff, px_le_iff, px_up_o, px_up_eq, px_up_ne, px_cp_o, ha]
  exact loop n 0 (-1) (by omega) (Or.inl ⟨rfl, fun j hj => by omega⟩)
set_option maxHeartbeats 4000000 in
set_option maxRecDepth 100000 in
theorem c_X11_fronted {G : px_G} {a n : Nat} {set : Int} {L : List pc_Ch} {μ : px_Mem} {Q : Option px_X → px_Mem → Prop} (ha : px_kd a = 20) (hn : L.length = n) (hl : L.length ≤ px_ln a) (hv : pc_V L) (hr : pm_at μ a 0 L)
    (h1 : ∀ (L1 : List pc_Ch) (f : Nat) (μ1 : px_Mem), pc_fr set n 0 L 0 = some (L1, f) → (∀ o, o ≠ a → μ1 o = μ o) → pm_at μ1 a 0 L1 → pc_V L1 → L1.length = n → Q (some (.inl f)) μ1)
    (h0 : ∀ μ1 : px_Mem, pc_fr set n 0 L 0 = none → (∀ o, o ≠ a → μ1 o = μ o) → Q (some (.inl (-1))) μ1) : px_C G yX11_fronted cX11_fronted 6 (some .int) 4 [.inr (.inl (some 205)), .inr (.inl (some a)), .inl n, .inl set] μ Q := by
  have l1 := px_ln_le a
  have loop : ∀ (m i f : Nat) (L2 : List pc_Ch) (μ1 : px_Mem), i + m = n → f ≤ i → L2.length = n → (∀ o, o ≠ a → μ1 o = μ o) → pc_V L2 → pm_at μ1 a 0 L2 → pc_fr set n 0 L 0 = pc_fr set m i L2 f →
      px_J G RX11 cX11_fronted 6 (some .int) 4 6 [some (.inr (.inl (some 205))), some (.inr (.inl (some a))), some (.inl n), some (.inl set), some (.inl f), some (.inl i)] [] μ1 Q := by
    intro m
    induction m with
    | zero =>
      intro i f L2 μ1 h2 h3 h3b h4 h5 h6 h7
      refine px_go (fun p => p == 6) 400 ?_
      simp (disch := omega) only [px_lits, false_implies, true_implies, px_dec_ok, px_run_s, px_rules, px_rule_is, px_mats, px_calls, ↓reduceIte, eq_self, Bool.false_eq_true, px_flds, px_o_some, px_fvs, px_pfs, px_cts, px_cls, px_acs_, px_acn, true_and, and_true, true_or, or_true, false_or, or_false, and_self, not_true_eq_false, not_false_eq_true, Classical.not_not, Nat.reduceAdd, Nat.reduceSub, Nat.reduceBEq, Nat.reduceLT, Nat.reduceLeDiff, Nat.lt_add_one, px_tg, Int.cast_ofNat_Int, Int.reduceAdd, Int.reduceSub, Int.reduceMul, Int.reduceToNat, Int.reduceLE, Int.reduceLT, Int.reduceNeg, Int.reduceEq, Bool.or_false, Bool.false_or, Bool.or_true, Bool.true_or, List.length_cons, List.length_nil, List.nil_append, List.cons_append, Option.toList_some, Option.toList_none, reduceCtorEq, Option.some.injEq, Nat.zero_le, Nat.reduceMul, Nat.mul_zero, Nat.add_zero, Int.reduceDiv, Int.reduceMod, Int.toNat_natCast, Nat.lt_irrefl, Int.natCast_add, Int.cast_ofNat_Int, px_mds_RX11_0, px_mds_RX11_1, dec_X11_fronted, px_eq_iff, px_lt_iff, px_le_iff, px_up_o, px_up_eq, px_up_ne, px_cp_o, ha]
      exact ⟨fun _ => h1 L2 f μ1 h7 h4 h6 h5 h3b, fun q => absurd (by omega) q⟩
    | succ m ih =>
      intro i f L2 μ1 h2 h3 h3b h4 h5 h6 h7
      obtain ⟨c, hc⟩ : ∃ c, L2[i]? = some c := ⟨_, List.getElem?_eq_getElem (by omega)⟩
      have oc := h5.ok (List.mem_of_getElem? hc)
      have mc := h6 i c hc
      rw [Int.zero_add] at mc
      rw [pc_fr_step hc] at h7
      have hr9 := px_and_r (px_shr set c.1) 1
      refine px_go (fun p => p == 6) 400 ?_
      simp (disch := omega) only [px_lits, false_implies, true_implies, px_dec_ok, px_run_s, px_rules, px_rule_is, px_mats, px_calls, ↓reduceIte, eq_self, Bool.false_eq_true, px_flds, px_o_some, px_fvs, px_pfs, px_cts, px_cls, px_acs_, px_acn, true_and, and_true, true_or, or_true, false_or, or_false, and_self, not_true_eq_false, not_false_eq_true, Classical.not_not, Nat.reduceAdd, Nat.reduceSub, Nat.reduceBEq, Nat.reduceLT, Nat.reduceLeDiff, Nat.lt_add_one, px_tg, Int.cast_ofNat_Int, Int.reduceAdd, Int.reduceSub, Int.reduceMul, Int.reduceToNat, Int.reduceLE, Int.reduceLT, Int.reduceNeg, Int.reduceEq, Bool.or_false, Bool.false_or, Bool.or_true, Bool.true_or, List.length_cons, List.length_nil, List.nil_append, List.cons_append, Option.toList_some, Option.toList_none, reduceCtorEq, Option.some.injEq, Nat.zero_le, Nat.reduceMul, Nat.mul_zero, Nat.add_zero, Int.reduceDiv, Int.reduceMod, Int.toNat_natCast, Nat.lt_irrefl, Int.natCast_add, Int.cast_ofNat_Int, px_mds_RX11_0, px_mds_RX11_1, dec_X11_fronted, px_eq_iff, px_lt_iff, px_le_iff, px_up_o, px_up_eq, px_up_ne, px_cp_o, ha]
      refine ⟨fun q => by omega, fun _ => ⟨by omega, ?_⟩⟩
      rw [mc]
      refine c_X11_number oc ?_
      refine px_go (fun p => p == 6) 400 ?_
      simp (disch := omega) only [px_lits, false_implies, true_implies, px_dec_ok, px_run_s, px_rules, px_rule_is, px_mats, px_calls, ↓reduceIte, eq_self, Bool.false_eq_true, px_flds, px_o_some, px_fvs, px_pfs, px_cts, px_cls, px_acs_, px_acn, true_and, and_true, true_or, or_true, false_or, or_false, and_self, not_true_eq_false, not_false_eq_true, Classical.not_not, Nat.reduceAdd, Nat.reduceSub, Nat.reduceBEq, Nat.reduceLT, Nat.reduceLeDiff, Nat.lt_add_one, px_tg, Int.cast_ofNat_Int, Int.reduceAdd, Int.reduceSub, Int.reduceMul, Int.reduceToNat, Int.reduceLE, Int.reduceLT, Int.reduceNeg, Int.reduceEq, Bool.or_false, Bool.false_or, Bool.or_true, Bool.true_or, List.length_cons, List.length_nil, List.nil_append, List.cons_append, Option.toList_some, Option.toList_none, reduceCtorEq, Option.some.injEq, Nat.zero_le, Nat.reduceMul, Nat.mul_zero, Nat.add_zero, Int.reduceDiv, Int.reduceMod, Int.toNat_natCast, Nat.lt_irrefl, Int.natCast_add, Int.cast_ofNat_Int, px_mds_RX11_0, px_mds_RX11_1, dec_X11_fronted, px_eq_iff, px_lt_iff, px_le_iff, px_up_o, px_up_eq, px_up_ne, px_cp_o, ha]
      refine ⟨fun q => ?_, fun q => ?_⟩
      · rw [if_neg q] at h7
        have := ih (i + 1) f L2 μ1 (by omega) (by omega) h3b h4 h5 h6 h7
        rwa [Int.natCast_add] at this
      · rw [if_pos q] at h7
        refine c_X11_isBroughtB ha (by omega) h3 (by omega) h5 h6 (fun L3 μ2 q1 q2 q3 => ?_) (fun μ2 q1 q2 => ?_)
        · refine px_go (fun p => p == 6) 400 ?_
          simp (disch := omega) only [px_lits, false_implies, true_implies, px_dec_ok, px_run_s, px_rules, px_rule_is, px_mats, px_calls, ↓reduceIte, eq_self, Bool.false_eq_true, px_flds, px_o_some, px_fvs, px_pfs, px_cts, px_cls, px_acs_, px_acn, true_and, and_true, true_or, or_true, false_or, or_false, and_self, not_true_eq_false, not_false_eq_true, Classical.not_not, Nat.reduceAdd, Nat.reduceSub, Nat.reduceBEq, Nat.reduceLT, Nat.reduceLeDiff, Nat.lt_add_one, px_tg, Int.cast_ofNat_Int, Int.reduceAdd, Int.reduceSub, Int.reduceMul, Int.reduceToNat, Int.reduceLE, Int.reduceLT, Int.reduceNeg, Int.reduceEq, Bool.or_false, Bool.false_or, Bool.or_true, Bool.true_or, List.length_cons, List.length_nil, List.nil_append, List.cons_append, Option.toList_some, Option.toList_none, reduceCtorEq, Option.some.injEq, Nat.zero_le, Nat.reduceMul, Nat.mul_zero, Nat.add_zero, Int.reduceDiv, Int.reduceMod, Int.toNat_natCast, Nat.lt_irrefl, Int.natCast_add, Int.cast_ofNat_Int, px_mds_RX11_0, px_mds_RX11_1, dec_X11_fronted, px_eq_iff, px_lt_iff, px_le_iff, px_up_o, px_up_eq, px_up_ne, px_cp_o, ha]
          rw [q1, Option.bind_some] at h7
          have hk := pc_brB_keep q1
          have := ih (i + 1) (f + 1) L3 μ2 (by omega) (by omega) (by rw [hk.1]; exact h3b) (fun o ho => by rw [q2 o ho, h4 o ho]) (hk.2.1 h5) q3 h7
          rwa [Int.natCast_add, Int.natCast_add] at this
        · refine px_go (fun p => p == 6) 400 ?_
          simp (disch := omega) only [px_lits, false_implies, true_implies, px_dec_ok, px_run_s, px_rules, px_rule_is, px_mats, px_calls, ↓reduceIte, eq_self, Bool.false_eq_true, px_flds, px_o_some, px_fvs, px_pfs, px_cts, px_cls, px_acs_, px_acn, true_and, and_true, true_or, or_true, false_or, or_false, and_self, not_true_eq_false, not_false_eq_true, Classical.not_not, Nat.reduceAdd, Nat.reduceSub, Nat.reduceBEq, Nat.reduceLT, Nat.reduceLeDiff, Nat.lt_add_one, px_tg, Int.cast_ofNat_Int, Int.reduceAdd, Int.reduceSub, Int.reduceMul, Int.reduceToNat, Int.reduceLE, Int.reduceLT, Int.reduceNeg, Int.reduceEq, Bool.or_false, Bool.false_or, Bool.or_true, Bool.true_or, List.length_cons, List.length_nil, List.nil_append, List.cons_append, Option.toList_some, Option.toList_none, reduceCtorEq, Option.some.injEq, Nat.zero_le, Nat.reduceMul, Nat.mul_zero, Nat.add_zero, Int.reduceDiv, Int.reduceMod, Int.toNat_natCast, Nat.lt_irrefl, Int.natCast_add, Int.cast_ofNat_Int, px_mds_RX11_0, px_mds_RX11_1, dec_X11_fronted, px_eq_iff, px_lt_iff, px_le_iff, px_up_o, px_up_eq, px_up_ne, px_cp_o, ha]
          rw [q1] at h7
          exact h0 μ2 h7 (fun o ho => by rw [q2 o ho, h4 o ho])
  refine px_enter RX11 (by decide +kernel) rfl (by simp) (by simp [px_c1]) ?_
  simp only [List.map_cons, List.map_nil, List.length_cons, List.length_nil, List.replicate, List.append_nil, Nat.reduceAdd, Nat.reduceSub, List.cons_append, List.nil_append]
  refine px_go (fun p => p == 6) 400 ?_
  simp (disch := omega) only [px_lits, false_implies, true_implies, px_dec_ok, px_run_s, px_rules, px_rule_is, px_mats, px_calls, ↓reduceIte, eq_self, Bool.false_eq_true, px_flds, px_o_some, px_fvs, px_pfs, px_cts, px_cls, px_acs_, px_acn, true_and, and_true, true_or, or_true, false_or, or_false, and_self, not_true_eq_false, not_false_eq_true, Classical.not_not, Nat.reduceAdd, Nat.reduceSub, Nat.reduceBEq, Nat.reduceLT, Nat.reduceLeDiff, Nat.lt_add_one, px_tg, Int.cast_ofNat_Int, Int.reduceAdd, Int.reduceSub, Int.reduceMul, Int.reduceToNat, Int.reduceLE, Int.reduceLT, Int.reduceNeg, Int.reduceEq, Bool.or_false, Bool.false_or, Bool.or_true, Bool.true_or, List.length_cons, List.length_nil, List.nil_append, List.cons_append, Option.toList_some, Option.toList_none, reduceCtorEq, Option.some.injEq, Nat.zero_le, Nat.reduceMul, Nat.mul_zero, Nat.add_zero, Int.reduceDiv, Int.reduceMod, Int.toNat_natCast, Nat.lt_irrefl, Int.natCast_add, Int.cast_ofNat_Int, px_mds_RX11_0, px_mds_RX11_1, dec_X11_fronted, px_eq_iff, px_lt_iff, px_le_iff, px_up_o, px_up_eq, px_up_ne, px_cp_o, ha]
  exact loop n 0 0 L μ (by omega) (by omega) hn (fun _ _ => rfl) hv hr rfl
