/-! ===== the reference: the text of a house; what comes ===== -/
def pm_beg (μ : px_Mem) (T : List Int) : Prop := μ 205 0 = T.length ∧ T.length ≤ 12 ∧ pm_il μ 206 0 T
theorem pm_il.cp {μ : px_Mem} {a c : Nat} {sp dp : Int} {n : Nat} {T : List Int} (h : pm_il μ a sp T) (hn : T.length ≤ n) : pm_il (px_cp μ a sp c dp n) c dp T := by
  intro i x hx
  have := (List.getElem?_eq_some_iff.mp hx).1
  rw [px_cp_in (by omega), show sp + (dp + (i : Int) - dp) = sp + i by omega]
  exact h i x hx
set_option maxHeartbeats 4000000 in
set_option maxRecDepth 100000 in
theorem c_X11_layText {G : px_G} {h : Nat} {B T : List Int} {L : List pc_Ch} {μ : px_Mem} {Q : Option px_X → px_Mem → Prop} (hh : h < 2) (hb : pm_beg μ B) (hBr : ∀ x ∈ B, 97 ≤ x ∧ x ≤ 122) (hn : μ 207 (19 * h) = L.length) (hl : L.length ≤ 16) (he : ∀ c ∈ L, pc_el c) (hr : pm_at μ 207 (19 * h + 3) L) (hd : pc_dos B L = some T)
    (h1 : ∀ μ1 : px_Mem, (∀ o, o ≠ 219 → μ1 o = μ o) → (∀ i : Int, (i < 32 * h ∨ 32 * (h : Int) + 32 ≤ i) → μ1 219 i = μ 219 i) → pm_il μ1 219 (32 * h) T → Q (some (.inl T.length)) μ1) : px_C G yX11_layText cX11_layText 5 (some .int) 2 [.inr (.inl (some 205)), .inl h] μ Q := by
  obtain ⟨b1, b2, b3⟩ := hb
  have hf : 32 * h = 0 ∨ 32 * h = 32 := by omega
  have loop : ∀ (m k : Nat) (T2 : List Int) (μ1 : px_Mem), k + m = L.length → pc_dos B (L.take k) = some T2 → (∀ x ∈ T2, 97 ≤ x ∧ x ≤ 122) → (∀ o, o ≠ 219 → μ1 o = μ o) → (∀ i : Int, (i < 32 * h ∨ 32 * (h : Int) + 32 ≤ i) → μ1 219 i = μ 219 i) → pm_il μ1 219 (32 * h) T2 →
      px_J G RX11 cX11_layText 5 (some .int) 2 30 [some (.inr (.inl (some 205))), some (.inl h), some (.inl (32 * h)), some (.inl T2.length), some (.inl k)] [] μ1 Q := by
    intro m
    induction m with
    | zero =>
      intro k T2 μ1 g1 g2 g3 g4 g5 g6
      have g207 : μ1 207 = μ 207 := g4 _ (by omega)
      refine px_go (fun p => p == 30) 400 ?_
      simp (disch := omega) only [px_lits, false_implies, true_implies, px_dec_ok, px_run_s, px_rules, px_rule_is, px_mats, px_calls, ↓reduceIte, eq_self, Bool.false_eq_true, px_flds, px_o_some, px_fvs, px_pfs, px_cts, px_cls, px_acs_, px_acn, true_and, and_true, true_or, or_true, false_or, or_false, and_self, not_true_eq_false, not_false_eq_true, Classical.not_not, Nat.reduceAdd, Nat.reduceSub, Nat.reduceBEq, Nat.reduceLT, Nat.reduceLeDiff, Nat.lt_add_one, px_tg, Int.cast_ofNat_Int, Int.reduceAdd, Int.reduceSub, Int.reduceMul, Int.reduceToNat, Int.reduceLE, Int.reduceLT, Int.reduceNeg, Int.reduceEq, Bool.or_false, Bool.false_or, Bool.or_true, Bool.true_or, List.length_cons, List.length_nil, List.nil_append, List.cons_append, Option.toList_some, Option.toList_none, reduceCtorEq, Option.some.injEq, Nat.zero_le, Nat.reduceMul, Nat.mul_zero, Nat.add_zero, Int.reduceDiv, Int.reduceMod, Int.toNat_natCast, Nat.lt_irrefl, Int.natCast_add, Int.cast_ofNat_Int, px_mds_RX11_0, px_mds_RX11_1, dec_X11_layText, px_eq_iff, px_lt_iff, px_le_iff, px_up_o, px_up_eq, px_up_ne, px_cp_o, pm_k, pm_l]
      refine c_X11_many hh ?_
      refine px_go (fun p => p == 30) 400 ?_
      simp (disch := omega) only [px_lits, false_implies, true_implies, px_dec_ok, px_run_s, px_rules, px_rule_is, px_mats, px_calls, ↓reduceIte, eq_self, Bool.false_eq_true, px_flds, px_o_some, px_fvs, px_pfs, px_cts, px_cls, px_acs_, px_acn, true_and, and_true, true_or, or_true, false_or, or_false, and_self, not_true_eq_false, not_false_eq_true, Classical.not_not, Nat.reduceAdd, Nat.reduceSub, Nat.reduceBEq, Nat.reduceLT, Nat.reduceLeDiff, Nat.lt_add_one, px_tg, Int.cast_ofNat_Int, Int.reduceAdd, Int.reduceSub, Int.reduceMul, Int.reduceToNat, Int.reduceLE, Int.reduceLT, Int.reduceNeg, Int.reduceEq, Bool.or_false, Bool.false_or, Bool.or_true, Bool.true_or, List.length_cons, List.length_nil, List.nil_append, List.cons_append, Option.toList_some, Option.toList_none, reduceCtorEq, Option.some.injEq, Nat.zero_le, Nat.reduceMul, Nat.mul_zero, Nat.add_zero, Int.reduceDiv, Int.reduceMod, Int.toNat_natCast, Nat.lt_irrefl, Int.natCast_add, Int.cast_ofNat_Int, px_mds_RX11_0, px_mds_RX11_1, dec_X11_layText, px_eq_iff, px_lt_iff, px_le_iff, px_up_o, px_up_eq, px_up_ne, px_cp_o, pm_k, pm_l, g207, hn]
      refine ⟨fun _ => ?_, fun q => absurd (by omega) q⟩
      rw [List.take_of_length_le (by omega)] at g2
      have e : T2 = T := Option.some.inj (g2.symm.trans hd)
      subst e
      exact h1 μ1 g4 g5 g6
    | succ m ih =>
      intro k T2 μ1 g1 g2 g3 g4 g5 g6
      have g207 : μ1 207 = μ 207 := g4 _ (by omega)
      obtain ⟨c, hc⟩ : ∃ c, L[k]? = some c := ⟨_, List.getElem?_eq_getElem (by omega)⟩
      have el := he c (List.mem_of_getElem? hc)
      have mc := hr k c hc
      obtain ⟨T3, T4, q1, q2, q3⟩ := pc_dos_take hd hc
      have e : T3 = T2 := Option.some.inj (q1.symm.trans g2)
      subst e
      have l3 := pc_dos_len q1
      simp only [List.length_take] at l3
      have pl := (pc_do_len q2).2
      have oc : pm_ok c := ⟨el.1, el.2.1, by omega, el.2.2⟩
      refine px_go (fun p => p == 30) 400 ?_
      simp (disch := omega) only [px_lits, false_implies, true_implies, px_dec_ok, px_run_s, px_rules, px_rule_is, px_mats, px_calls, ↓reduceIte, eq_self, Bool.false_eq_true, px_flds, px_o_some, px_fvs, px_pfs, px_cts, px_cls, px_acs_, px_acn, true_and, and_true, true_or, or_true, false_or, or_false, and_self, not_true_eq_false, not_false_eq_true, Classical.not_not, Nat.reduceAdd, Nat.reduceSub, Nat.reduceBEq, Nat.reduceLT, Nat.reduceLeDiff, Nat.lt_add_one, px_tg, Int.cast_ofNat_Int, Int.reduceAdd, Int.reduceSub, Int.reduceMul, Int.reduceToNat, Int.reduceLE, Int.reduceLT, Int.reduceNeg, Int.reduceEq, Bool.or_false, Bool.false_or, Bool.or_true, Bool.true_or, List.length_cons, List.length_nil, List.nil_append, List.cons_append, Option.toList_some, Option.toList_none, reduceCtorEq, Option.some.injEq, Nat.zero_le, Nat.reduceMul, Nat.mul_zero, Nat.add_zero, Int.reduceDiv, Int.reduceMod, Int.toNat_natCast, Nat.lt_irrefl, Int.natCast_add, Int.cast_ofNat_Int, px_mds_RX11_0, px_mds_RX11_1, dec_X11_layText, px_eq_iff, px_lt_iff, px_le_iff, px_up_o, px_up_eq, px_up_ne, px_cp_o, pm_k, pm_l]
      refine c_X11_many hh ?_
      refine px_go (fun p => p == 30) 400 ?_
      simp (disch := omega) only [px_lits, false_implies, true_implies, px_dec_ok, px_run_s, px_rules, px_rule_is, px_mats, px_calls, ↓reduceIte, eq_self, Bool.false_eq_true, px_flds, px_o_some, px_fvs, px_pfs, px_cts, px_cls, px_acs_, px_acn, true_and, and_true, true_or, or_true, false_or, or_false, and_self, not_true_eq_false, not_false_eq_true, Classical.not_not, Nat.reduceAdd, Nat.reduceSub, Nat.reduceBEq, Nat.reduceLT, Nat.reduceLeDiff, Nat.lt_add_one, px_tg, Int.cast_ofNat_Int, Int.reduceAdd, Int.reduceSub, Int.reduceMul, Int.reduceToNat, Int.reduceLE, Int.reduceLT, Int.reduceNeg, Int.reduceEq, Bool.or_false, Bool.false_or, Bool.or_true, Bool.true_or, List.length_cons, List.length_nil, List.nil_append, List.cons_append, Option.toList_some, Option.toList_none, reduceCtorEq, Option.some.injEq, Nat.zero_le, Nat.reduceMul, Nat.mul_zero, Nat.add_zero, Int.reduceDiv, Int.reduceMod, Int.toNat_natCast, Nat.lt_irrefl, Int.natCast_add, Int.cast_ofNat_Int, px_mds_RX11_0, px_mds_RX11_1, dec_X11_layText, px_eq_iff, px_lt_iff, px_le_iff, px_up_o, px_up_eq, px_up_ne, px_cp_o, pm_k, pm_l, g207, hn]
      refine ⟨fun q => by omega, fun _ => ?_⟩
      refine c_X11_at hh (by omega) ?_
      rw [g207, mc]
      refine px_go (fun p => p == 30) 400 ?_
      simp (disch := omega) only [px_lits, false_implies, true_implies, px_dec_ok, px_run_s, px_rules, px_rule_is, px_mats, px_calls, ↓reduceIte, eq_self, Bool.false_eq_true, px_flds, px_o_some, px_fvs, px_pfs, px_cts, px_cls, px_acs_, px_acn, true_and, and_true, true_or, or_true, false_or, or_false, and_self, not_true_eq_false, not_false_eq_true, Classical.not_not, Nat.reduceAdd, Nat.reduceSub, Nat.reduceBEq, Nat.reduceLT, Nat.reduceLeDiff, Nat.lt_add_one, px_tg, Int.cast_ofNat_Int, Int.reduceAdd, Int.reduceSub, Int.reduceMul, Int.reduceToNat, Int.reduceLE, Int.reduceLT, Int.reduceNeg, Int.reduceEq, Bool.or_false, Bool.false_or, Bool.or_true, Bool.true_or, List.length_cons, List.length_nil, List.nil_append, List.cons_append, Option.toList_some, Option.toList_none, reduceCtorEq, Option.some.injEq, Nat.zero_le, Nat.reduceMul, Nat.mul_zero, Nat.add_zero, Int.reduceDiv, Int.reduceMod, Int.toNat_natCast, Nat.lt_irrefl, Int.natCast_add, Int.cast_ofNat_Int, px_mds_RX11_0, px_mds_RX11_1, dec_X11_layText, px_eq_iff, px_lt_iff, px_le_iff, px_up_o, px_up_eq, px_up_ne, px_cp_o, pm_k, pm_l]
      rw [show (32 * (h : Int)) = ((32 * h : Nat) : Int) by omega]
      refine c_X11_done hf (by omega) g3 oc (by rw [show ((32 * h : Nat) : Int) = 32 * (h : Int) by omega]; exact g6) (fun T5 μ2 e1 e2 e3 e4 => ?_) (fun e1 => ?_)
      · have e : T5 = T4 := Option.some.inj (e1.symm.trans q2)
        subst e
        rw [show ((32 * h : Nat) : Int) = 32 * (h : Int) by omega] at e3 e4 ⊢
        refine px_go (fun p => p == 30) 400 ?_
        simp (disch := omega) only [px_lits, false_implies, true_implies, px_dec_ok, px_run_s, px_rules, px_rule_is, px_mats, px_calls, ↓reduceIte, eq_self, Bool.false_eq_true, px_flds, px_o_some, px_fvs, px_pfs, px_cts, px_cls, px_acs_, px_acn, true_and, and_true, true_or, or_true, false_or, or_false, and_self, not_true_eq_false, not_false_eq_true, Classical.not_not, Nat.reduceAdd, Nat.reduceSub, Nat.reduceBEq, Nat.reduceLT, Nat.reduceLeDiff, Nat.lt_add_one, px_tg, Int.cast_ofNat_Int, Int.reduceAdd, Int.reduceSub, Int.reduceMul, Int.reduceToNat, Int.reduceLE, Int.reduceLT, Int.reduceNeg, Int.reduceEq, Bool.or_false, Bool.false_or, Bool.or_true, Bool.true_or, List.length_cons, List.length_nil, List.nil_append, List.cons_append, Option.toList_some, Option.toList_none, reduceCtorEq, Option.some.injEq, Nat.zero_le, Nat.reduceMul, Nat.mul_zero, Nat.add_zero, Int.reduceDiv, Int.reduceMod, Int.toNat_natCast, Nat.lt_irrefl, Int.natCast_add, Int.cast_ofNat_Int, px_mds_RX11_0, px_mds_RX11_1, dec_X11_layText, px_eq_iff, px_lt_iff, px_le_iff, px_up_o, px_up_eq, px_up_ne, px_cp_o, pm_k, pm_l]
        have := ih (k + 1) T5 μ2 (by omega) q3 (fun x hx => by
          rcases pc_do_mem q2 x hx with w | w
          · exact g3 x w
          · rw [w]; exact el.2.2) (fun o ho => by rw [e2 o ho, g4 o ho]) (fun i hi => by rw [e3 i hi, g5 i hi]) e4
        rwa [Int.natCast_add] at this
      · rw [e1] at q2
        cases q2
  refine px_enter RX11 (by decide +kernel) rfl (by simp) (by simp [px_c1]) ?_
  simp only [List.map_cons, List.map_nil, List.length_cons, List.length_nil, List.replicate, List.append_nil, Nat.reduceAdd, Nat.reduceSub, List.cons_append, List.nil_append]
  refine px_go (fun p => p == 30) 400 ?_
  simp (disch := omega) only [px_lits, false_implies, true_implies, px_dec_ok, px_run_s, px_rules, px_rule_is, px_mats, px_calls, ↓reduceIte, eq_self, Bool.false_eq_true, px_flds, px_o_some, px_fvs, px_pfs, px_cts, px_cls, px_acs_, px_acn, true_and, and_true, true_or, or_true, false_or, or_false, and_self, not_true_eq_false, not_false_eq_true, Classical.not_not, Nat.reduceAdd, Nat.reduceSub, Nat.reduceBEq, Nat.reduceLT, Nat.reduceLeDiff, Nat.lt_add_one, px_tg, Int.cast_ofNat_Int, Int.reduceAdd, Int.reduceSub, Int.reduceMul, Int.reduceToNat, Int.reduceLE, Int.reduceLT, Int.reduceNeg, Int.reduceEq, Bool.or_false, Bool.false_or, Bool.or_true, Bool.true_or, List.length_cons, List.length_nil, List.nil_append, List.cons_append, Option.toList_some, Option.toList_none, reduceCtorEq, Option.some.injEq, Nat.zero_le, Nat.reduceMul, Nat.mul_zero, Nat.add_zero, Int.reduceDiv, Int.reduceMod, Int.toNat_natCast, Nat.lt_irrefl, Int.natCast_add, Int.cast_ofNat_Int, px_mds_RX11_0, px_mds_RX11_1, dec_X11_layText, px_eq_iff, px_lt_iff, px_le_iff, px_up_o, px_up_eq, px_up_ne, px_cp_o, pm_k, pm_l, b1]
  refine c_X11_bring pm_k.2.1 pm_k.2.2.2.2.2.2.2.2.2.2.2.2.2.2.1 (by omega) (by rw [pm_l.1]; omega) (by rw [pm_l.2.2.2.2.2.2.2.2.2.2.2.2.2.1]; omega) ?_
  have g205 : ∀ n : Int, px_cp μ 206 0 219 (32 * (h : Int)) n 205 = μ 205 := fun n => px_cp_o (by omega)
  refine px_go (fun p => p == 30) 400 ?_
  simp (disch := omega) only [px_lits, false_implies, true_implies, px_dec_ok, px_run_s, px_rules, px_rule_is, px_mats, px_calls, ↓reduceIte, eq_self, Bool.false_eq_true, px_flds, px_o_some, px_fvs, px_pfs, px_cts, px_cls, px_acs_, px_acn, true_and, and_true, true_or, or_true, false_or, or_false, and_self, not_true_eq_false, not_false_eq_true, Classical.not_not, Nat.reduceAdd, Nat.reduceSub, Nat.reduceBEq, Nat.reduceLT, Nat.reduceLeDiff, Nat.lt_add_one, px_tg, Int.cast_ofNat_Int, Int.reduceAdd, Int.reduceSub, Int.reduceMul, Int.reduceToNat, Int.reduceLE, Int.reduceLT, Int.reduceNeg, Int.reduceEq, Bool.or_false, Bool.false_or, Bool.or_true, Bool.true_or, List.length_cons, List.length_nil, List.nil_append, List.cons_append, Option.toList_some, Option.toList_none, reduceCtorEq, Option.some.injEq, Nat.zero_le, Nat.reduceMul, Nat.mul_zero, Nat.add_zero, Int.reduceDiv, Int.reduceMod, Int.toNat_natCast, Nat.lt_irrefl, Int.natCast_add, Int.cast_ofNat_Int, px_mds_RX11_0, px_mds_RX11_1, dec_X11_layText, px_eq_iff, px_lt_iff, px_le_iff, px_up_o, px_up_eq, px_up_ne, px_cp_o, pm_k, pm_l, g205, b1]
  exact loop L.length 0 B _ (by omega) rfl hBr (fun o ho => px_cp_o ho) (fun i hi => px_cp_out (by omega)) (b3.cp (Nat.le_refl _))
set_option maxHeartbeats 4000000 in
set_option maxRecDepth 100000 in
theorem c_X11_layOwn {G : px_G} {h : Nat} {L : List pc_Ch} {μ : px_Mem} {Q : Option px_X → px_Mem → Prop} (hh : h < 2) (hn : μ 207 (19 * h) = L.length) (hl : L.length ≤ 16) (hr : pm_at μ 207 (19 * h + 3) L)
    (h1 : ∀ μ1 : px_Mem, (∀ o, o ≠ 205 → o ≠ 215 → μ1 o = μ o) → (∀ i, i ≠ 14 → μ1 205 i = μ 205 i) → μ1 205 14 = L.length → pm_at μ1 215 0 L → Q (some (.inl L.length)) μ1) : px_C G yX11_layOwn cX11_layOwn 2 (some .int) 1 [.inr (.inl (some 205)), .inl h] μ Q := by
  refine px_enter RX11 (by decide +kernel) rfl (by simp) (by simp [px_c1]) ?_
  simp only [List.map_cons, List.map_nil, List.length_cons, List.length_nil, List.replicate, List.append_nil, Nat.reduceAdd, Nat.reduceSub, List.cons_append, List.nil_append]
  refine px_go (fun _ => false) 400 ?_
  simp (disch := omega) only [px_lits, false_implies, true_implies, px_dec_ok, px_run_s, px_rules, px_rule_is, px_mats, px_calls, ↓reduceIte, eq_self, Bool.false_eq_true, px_flds, px_o_some, px_fvs, px_pfs, px_cts, px_cls, px_acs_, px_acn, true_and, and_true, true_or, or_true, false_or, or_false, and_self, not_true_eq_false, not_false_eq_true, Classical.not_not, Nat.reduceAdd, Nat.reduceSub, Nat.reduceBEq, Nat.reduceLT, Nat.reduceLeDiff, Nat.lt_add_one, px_tg, Int.cast_ofNat_Int, Int.reduceAdd, Int.reduceSub, Int.reduceMul, Int.reduceToNat, Int.reduceLE, Int.reduceLT, Int.reduceNeg, Int.reduceEq, Bool.or_false, Bool.false_or, Bool.or_true, Bool.true_or, List.length_cons, List.length_nil, List.nil_append, List.cons_append, Option.toList_some, Option.toList_none, reduceCtorEq, Option.some.injEq, Nat.zero_le, Nat.reduceMul, Nat.mul_zero, Nat.add_zero, Int.reduceDiv, Int.reduceMod, Int.toNat_natCast, Nat.lt_irrefl, Int.natCast_add, Int.cast_ofNat_Int, px_mds_RX11_0, px_mds_RX11_1, dec_X11_layOwn, px_eq_iff, px_lt_iff, px_le_iff, px_up_o, px_up_eq, px_up_ne, px_cp_o, pm_k, pm_l]
  refine c_X11_many hh ?_
  refine px_go (fun _ => false) 400 ?_
  simp (disch := omega) only [px_lits, false_implies, true_implies, px_dec_ok, px_run_s, px_rules, px_rule_is, px_mats, px_calls, ↓reduceIte, eq_self, Bool.false_eq_true, px_flds, px_o_some, px_fvs, px_pfs, px_cts, px_cls, px_acs_, px_acn, true_and, and_true, true_or, or_true, false_or, or_false, and_self, not_true_eq_false, not_false_eq_true, Classical.not_not, Nat.reduceAdd, Nat.reduceSub, Nat.reduceBEq, Nat.reduceLT, Nat.reduceLeDiff, Nat.lt_add_one, px_tg, Int.cast_ofNat_Int, Int.reduceAdd, Int.reduceSub, Int.reduceMul, Int.reduceToNat, Int.reduceLE, Int.reduceLT, Int.reduceNeg, Int.reduceEq, Bool.or_false, Bool.false_or, Bool.or_true, Bool.true_or, List.length_cons, List.length_nil, List.nil_append, List.cons_append, Option.toList_some, Option.toList_none, reduceCtorEq, Option.some.injEq, Nat.zero_le, Nat.reduceMul, Nat.mul_zero, Nat.add_zero, Int.reduceDiv, Int.reduceMod, Int.toNat_natCast, Nat.lt_irrefl, Int.natCast_add, Int.cast_ofNat_Int, px_mds_RX11_0, px_mds_RX11_1, dec_X11_layOwn, px_eq_iff, px_lt_iff, px_le_iff, px_up_o, px_up_eq, px_up_ne, px_cp_o, pm_k, pm_l, hn]
  refine c_X11_bring pm_k.2.2.1 pm_k.2.2.2.2.2.2.2.2.2.2.1 (by omega) (by rw [pm_l.2.1]; omega) (by rw [pm_l.2.2.2.2.2.2.2.2.2.1]; omega) ?_
  refine px_go (fun _ => false) 400 ?_
  simp (disch := omega) only [px_lits, false_implies, true_implies, px_dec_ok, px_run_s, px_rules, px_rule_is, px_mats, px_calls, ↓reduceIte, eq_self, Bool.false_eq_true, px_flds, px_o_some, px_fvs, px_pfs, px_cts, px_cls, px_acs_, px_acn, true_and, and_true, true_or, or_true, false_or, or_false, and_self, not_true_eq_false, not_false_eq_true, Classical.not_not, Nat.reduceAdd, Nat.reduceSub, Nat.reduceBEq, Nat.reduceLT, Nat.reduceLeDiff, Nat.lt_add_one, px_tg, Int.cast_ofNat_Int, Int.reduceAdd, Int.reduceSub, Int.reduceMul, Int.reduceToNat, Int.reduceLE, Int.reduceLT, Int.reduceNeg, Int.reduceEq, Bool.or_false, Bool.false_or, Bool.or_true, Bool.true_or, List.length_cons, List.length_nil, List.nil_append, List.cons_append, Option.toList_some, Option.toList_none, reduceCtorEq, Option.some.injEq, Nat.zero_le, Nat.reduceMul, Nat.mul_zero, Nat.add_zero, Int.reduceDiv, Int.reduceMod, Int.toNat_natCast, Nat.lt_irrefl, Int.natCast_add, Int.cast_ofNat_Int, px_mds_RX11_0, px_mds_RX11_1, dec_X11_layOwn, px_eq_iff, px_lt_iff, px_le_iff, px_up_o, px_up_eq, px_up_ne, px_cp_o, pm_k, pm_l]
  refine c_X11_many hh ?_
  rw [px_cp_o (by omega), hn]
  refine px_go (fun _ => false) 400 ?_
  simp (disch := omega) only [px_lits, false_implies, true_implies, px_dec_ok, px_run_s, px_rules, px_rule_is, px_mats, px_calls, ↓reduceIte, eq_self, Bool.false_eq_true, px_flds, px_o_some, px_fvs, px_pfs, px_cts, px_cls, px_acs_, px_acn, true_and, and_true, true_or, or_true, false_or, or_false, and_self, not_true_eq_false, not_false_eq_true, Classical.not_not, Nat.reduceAdd, Nat.reduceSub, Nat.reduceBEq, Nat.reduceLT, Nat.reduceLeDiff, Nat.lt_add_one, px_tg, Int.cast_ofNat_Int, Int.reduceAdd, Int.reduceSub, Int.reduceMul, Int.reduceToNat, Int.reduceLE, Int.reduceLT, Int.reduceNeg, Int.reduceEq, Bool.or_false, Bool.false_or, Bool.or_true, Bool.true_or, List.length_cons, List.length_nil, List.nil_append, List.cons_append, Option.toList_some, Option.toList_none, reduceCtorEq, Option.some.injEq, Nat.zero_le, Nat.reduceMul, Nat.mul_zero, Nat.add_zero, Int.reduceDiv, Int.reduceMod, Int.toNat_natCast, Nat.lt_irrefl, Int.natCast_add, Int.cast_ofNat_Int, px_mds_RX11_0, px_mds_RX11_1, dec_X11_layOwn, px_eq_iff, px_lt_iff, px_le_iff, px_up_o, px_up_eq, px_up_ne, px_cp_o, pm_k, pm_l]
  refine h1 _ (fun o o1 o2 => by rw [px_up_o o1, px_cp_o o2]) (fun i hi => by rw [px_up_ne hi, px_cp_o (by omega)]) (by rw [px_up_eq rfl]) ?_
  exact (pm_at.cp hr (Nat.le_refl _)).same (px_up_o (by omega))
set_option maxHeartbeats 4000000 in
set_option maxRecDepth 100000 in
theorem c_X11_isTooMuch {G : px_G} {h n no : Nat} {B T : List Int} {L C : List pc_Ch} {μ : px_Mem} {Q : Option px_X → px_Mem → Prop} (hh : h < 2) (hb : pm_beg μ B) (hBr : ∀ x ∈ B, 97 ≤ x ∧ x ≤ 122) (hn : μ 207 (19 * h) = L.length) (hl : L.length ≤ 16) (he : ∀ c ∈ L, pc_el c) (hr : pm_at μ 207 (19 * h + 3) L) (hd : pc_dos B L = some T) (hw : μ 205 14 = no) (hno : no ≤ 16) (hC : C.length = n) (hCl : n ≤ 16) (hCo : ∀ c ∈ C, pm_ok c) (hCr : pm_at μ 218 0 C)
    (h0 : ∀ μ1 : px_Mem, (∀ o, o ≠ 219 → μ1 o = μ o) → no + n ≤ 16 → pc_room T.length C → Q (some (.inl 0)) μ1) (h1 : ∀ μ1 : px_Mem, (∀ o, o ≠ 219 → μ1 o = μ o) → ¬ (no + n ≤ 16 ∧ pc_room T.length C) → Q (some (.inl 1)) μ1) : px_C G yX11_isTooMuch cX11_isTooMuch 6 (some .boolean) 3 [.inr (.inl (some 205)), .inl h, .inl n] μ Q := by
  have hTl := pc_dos_len hd
  have b2 := hb.2.1
  have loop : ∀ (μ1 : px_Mem), (∀ o, o ≠ 219 → μ1 o = μ o) → ∀ (m k : Nat) (z b : Int), k + m = n → -(k : Int) ≤ z ∧ z ≤ 28 + k → (b = 0 ∧ ((no + n ≤ 16 ∧ pc_room T.length C) ↔ pc_room z (C.drop k)) ∨ (b = 1 ∧ ¬ (no + n ≤ 16 ∧ pc_room T.length C))) →
      px_J G RX11 cX11_isTooMuch 6 (some .boolean) 3 27 [some (.inr (.inl (some 205))), some (.inl h), some (.inl n), some (.inl z), some (.inl b), some (.inl k)] [] μ1 Q := by
    intro μ1 g m
    induction m with
    | zero =>
      intro k z b g1 g2 g3
      rw [List.drop_eq_nil_of_le (by omega)] at g3
      refine px_go (fun p => p == 27) 400 ?_
      simp (disch := omega) only [px_lits, false_implies, true_implies, px_dec_ok, px_run_s, px_rules, px_rule_is, px_mats, px_calls, ↓reduceIte, eq_self, Bool.false_eq_true, px_flds, px_o_some, px_fvs, px_pfs, px_cts, px_cls, px_acs_, px_acn, true_and, and_true, true_or, or_true, false_or, or_false, and_self, not_true_eq_false, not_false_eq_true, Classical.not_not, Nat.reduceAdd, Nat.reduceSub, Nat.reduceBEq, Nat.reduceLT, Nat.reduceLeDiff, Nat.lt_add_one, px_tg, Int.cast_ofNat_Int, Int.reduceAdd, Int.reduceSub, Int.reduceMul, Int.reduceToNat, Int.reduceLE, Int.reduceLT, Int.reduceNeg, Int.reduceEq, Bool.or_false, Bool.false_or, Bool.or_true, Bool.true_or, List.length_cons, List.length_nil, List.nil_append, List.cons_append, Option.toList_some, Option.toList_none, reduceCtorEq, Option.some.injEq, Nat.zero_le, Nat.reduceMul, Nat.mul_zero, Nat.add_zero, Int.reduceDiv, Int.reduceMod, Int.toNat_natCast, Nat.lt_irrefl, Int.natCast_add, Int.cast_ofNat_Int, px_mds_RX11_0, px_mds_RX11_1, dec_X11_isTooMuch, px_eq_iff, px_lt_iff, px_le_iff, px_up_o, px_up_eq, px_up_ne, px_cp_o, pm_k, pm_l]
      refine ⟨fun _ => ?_, fun q => absurd (by omega) q⟩
      rcases g3 with ⟨e, q⟩ | ⟨e, q⟩
      · subst e
        have := q.mpr trivial
        exact ⟨Or.inl rfl, h0 μ1 g this.1 this.2⟩
      · subst e
        exact ⟨Or.inr rfl, h1 μ1 g q⟩
    | succ m ih =>
      intro k z b g1 g2 g3
      obtain ⟨c, hc⟩ : ∃ c, C[k]? = some c := ⟨_, List.getElem?_eq_getElem (by omega)⟩
      have oc := hCo c (List.mem_of_getElem? hc)
      have mc := hCr k c hc
      rw [Int.zero_add, ← g 218 (by omega)] at mc
      have hdr : C.drop k = c :: C.drop (k + 1) := by
        rw [List.drop_eq_getElem_cons (by omega), (List.getElem?_eq_some_iff.mp hc).2]
      rw [hdr] at g3
      have st : ∀ z, pc_room z (c :: C.drop (k + 1)) ↔ (z + (if c.2.1 = 0 then 1 else -1) ≤ 24 ∧ pc_room (z + (if c.2.1 = 0 then 1 else -1)) (C.drop (k + 1))) := fun z => Iff.rfl
      rw [st] at g3
      have hcs := oc.2.1
      refine px_go (fun p => p == 27) 400 ?_
      simp (disch := omega) only [px_lits, false_implies, true_implies, px_dec_ok, px_run_s, px_rules, px_rule_is, px_mats, px_calls, ↓reduceIte, eq_self, Bool.false_eq_true, px_flds, px_o_some, px_fvs, px_pfs, px_cts, px_cls, px_acs_, px_acn, true_and, and_true, true_or, or_true, false_or, or_false, and_self, not_true_eq_false, not_false_eq_true, Classical.not_not, Nat.reduceAdd, Nat.reduceSub, Nat.reduceBEq, Nat.reduceLT, Nat.reduceLeDiff, Nat.lt_add_one, px_tg, Int.cast_ofNat_Int, Int.reduceAdd, Int.reduceSub, Int.reduceMul, Int.reduceToNat, Int.reduceLE, Int.reduceLT, Int.reduceNeg, Int.reduceEq, Bool.or_false, Bool.false_or, Bool.or_true, Bool.true_or, List.length_cons, List.length_nil, List.nil_append, List.cons_append, Option.toList_some, Option.toList_none, reduceCtorEq, Option.some.injEq, Nat.zero_le, Nat.reduceMul, Nat.mul_zero, Nat.add_zero, Int.reduceDiv, Int.reduceMod, Int.toNat_natCast, Nat.lt_irrefl, Int.natCast_add, Int.cast_ofNat_Int, px_mds_RX11_0, px_mds_RX11_1, dec_X11_isTooMuch, px_eq_iff, px_lt_iff, px_le_iff, px_up_o, px_up_eq, px_up_ne, px_cp_o, pm_k, pm_l]
      refine ⟨fun q => by omega, fun _ => ⟨by omega, ?_⟩⟩
      rw [mc]
      refine c_X11_sort oc ?_
      have nx : ∀ z2 b2 : Int, (-((k + 1 : Nat) : Int) ≤ z2 ∧ z2 ≤ 28 + ((k + 1 : Nat) : Int)) → (b2 = 0 ∧ ((no + n ≤ 16 ∧ pc_room T.length C) ↔ pc_room z2 (C.drop (k + 1))) ∨ (b2 = 1 ∧ ¬ (no + n ≤ 16 ∧ pc_room T.length C))) → px_J G RX11 cX11_isTooMuch 6 (some .boolean) 3 27 [some (.inr (.inl (some 205))), some (.inl h), some (.inl n), some (.inl z2), some (.inl b2), some (.inl ((k : Int) + 1))] [] μ1 Q := by
        intro z2 b2 e1 e2
        have := ih (k + 1) z2 b2 (by omega) e1 e2
        rwa [Int.natCast_add] at this
      rcases g3 with ⟨rfl, q⟩ | ⟨rfl, q⟩
      · rcases hcs with e | e
        · rw [e, if_pos rfl] at q
          rw [e]
          refine px_go (fun p => p == 27) 400 ?_
          simp (disch := omega) only [px_lits, false_implies, true_implies, px_dec_ok, px_run_s, px_rules, px_rule_is, px_mats, px_calls, ↓reduceIte, eq_self, Bool.false_eq_true, px_flds, px_o_some, px_fvs, px_pfs, px_cts, px_cls, px_acs_, px_acn, true_and, and_true, true_or, or_true, false_or, or_false, and_self, not_true_eq_false, not_false_eq_true, Classical.not_not, Nat.reduceAdd, Nat.reduceSub, Nat.reduceBEq, Nat.reduceLT, Nat.reduceLeDiff, Nat.lt_add_one, px_tg, Int.cast_ofNat_Int, Int.reduceAdd, Int.reduceSub, Int.reduceMul, Int.reduceToNat, Int.reduceLE, Int.reduceLT, Int.reduceNeg, Int.reduceEq, Bool.or_false, Bool.false_or, Bool.or_true, Bool.true_or, List.length_cons, List.length_nil, List.nil_append, List.cons_append, Option.toList_some, Option.toList_none, reduceCtorEq, Option.some.injEq, Nat.zero_le, Nat.reduceMul, Nat.mul_zero, Nat.add_zero, Int.reduceDiv, Int.reduceMod, Int.toNat_natCast, Nat.lt_irrefl, Int.natCast_add, Int.cast_ofNat_Int, px_mds_RX11_0, px_mds_RX11_1, dec_X11_isTooMuch, px_eq_iff, px_lt_iff, px_le_iff, px_up_o, px_up_eq, px_up_ne, px_cp_o, pm_k, pm_l]
          exact ⟨fun w => nx _ _ (by omega) (Or.inl ⟨rfl, ⟨fun r => (q.mp r).2, fun r => q.mpr ⟨w, r⟩⟩⟩), fun w => nx _ _ (by omega) (Or.inr ⟨rfl, fun r => w (q.mp r).1⟩)⟩
        · rw [e, if_neg (by decide)] at q
          rw [e]
          refine px_go (fun p => p == 27) 400 ?_
          simp (disch := omega) only [px_lits, false_implies, true_implies, px_dec_ok, px_run_s, px_rules, px_rule_is, px_mats, px_calls, ↓reduceIte, eq_self, Bool.false_eq_true, px_flds, px_o_some, px_fvs, px_pfs, px_cts, px_cls, px_acs_, px_acn, true_and, and_true, true_or, or_true, false_or, or_false, and_self, not_true_eq_false, not_false_eq_true, Classical.not_not, Nat.reduceAdd, Nat.reduceSub, Nat.reduceBEq, Nat.reduceLT, Nat.reduceLeDiff, Nat.lt_add_one, px_tg, Int.cast_ofNat_Int, Int.reduceAdd, Int.reduceSub, Int.reduceMul, Int.reduceToNat, Int.reduceLE, Int.reduceLT, Int.reduceNeg, Int.reduceEq, Bool.or_false, Bool.false_or, Bool.or_true, Bool.true_or, List.length_cons, List.length_nil, List.nil_append, List.cons_append, Option.toList_some, Option.toList_none, reduceCtorEq, Option.some.injEq, Nat.zero_le, Nat.reduceMul, Nat.mul_zero, Nat.add_zero, Int.reduceDiv, Int.reduceMod, Int.toNat_natCast, Nat.lt_irrefl, Int.natCast_add, Int.cast_ofNat_Int, px_mds_RX11_0, px_mds_RX11_1, dec_X11_isTooMuch, px_eq_iff, px_lt_iff, px_le_iff, px_up_o, px_up_eq, px_up_ne, px_cp_o, pm_k, pm_l]
          exact ⟨fun w => nx _ _ (by omega) (Or.inl ⟨rfl, ⟨fun r => (q.mp r).2, fun r => q.mpr ⟨w, r⟩⟩⟩), fun w => nx _ _ (by omega) (Or.inr ⟨rfl, fun r => w (q.mp r).1⟩)⟩
      · rcases hcs with e | e
        · rw [e]
          refine px_go (fun p => p == 27) 400 ?_
          simp (disch := omega) only [px_lits, false_implies, true_implies, px_dec_ok, px_run_s, px_rules, px_rule_is, px_mats, px_calls, ↓reduceIte, eq_self, Bool.false_eq_true, px_flds, px_o_some, px_fvs, px_pfs, px_cts, px_cls, px_acs_, px_acn, true_and, and_true, true_or, or_true, false_or, or_false, and_self, not_true_eq_false, not_false_eq_true, Classical.not_not, Nat.reduceAdd, Nat.reduceSub, Nat.reduceBEq, Nat.reduceLT, Nat.reduceLeDiff, Nat.lt_add_one, px_tg, Int.cast_ofNat_Int, Int.reduceAdd, Int.reduceSub, Int.reduceMul, Int.reduceToNat, Int.reduceLE, Int.reduceLT, Int.reduceNeg, Int.reduceEq, Bool.or_false, Bool.false_or, Bool.or_true, Bool.true_or, List.length_cons, List.length_nil, List.nil_append, List.cons_append, Option.toList_some, Option.toList_none, reduceCtorEq, Option.some.injEq, Nat.zero_le, Nat.reduceMul, Nat.mul_zero, Nat.add_zero, Int.reduceDiv, Int.reduceMod, Int.toNat_natCast, Nat.lt_irrefl, Int.natCast_add, Int.cast_ofNat_Int, px_mds_RX11_0, px_mds_RX11_1, dec_X11_isTooMuch, px_eq_iff, px_lt_iff, px_le_iff, px_up_o, px_up_eq, px_up_ne, px_cp_o, pm_k, pm_l]
          exact nx _ _ (by omega) (Or.inr ⟨rfl, q⟩)
        · rw [e]
          refine px_go (fun p => p == 27) 400 ?_
          simp (disch := omega) only [px_lits, false_implies, true_implies, px_dec_ok, px_run_s, px_rules, px_rule_is, px_mats, px_calls, ↓reduceIte, eq_self, Bool.false_eq_true, px_flds, px_o_some, px_fvs, px_pfs, px_cts, px_cls, px_acs_, px_acn, true_and, and_true, true_or, or_true, false_or, or_false, and_self, not_true_eq_false, not_false_eq_true, Classical.not_not, Nat.reduceAdd, Nat.reduceSub, Nat.reduceBEq, Nat.reduceLT, Nat.reduceLeDiff, Nat.lt_add_one, px_tg, Int.cast_ofNat_Int, Int.reduceAdd, Int.reduceSub, Int.reduceMul, Int.reduceToNat, Int.reduceLE, Int.reduceLT, Int.reduceNeg, Int.reduceEq, Bool.or_false, Bool.false_or, Bool.or_true, Bool.true_or, List.length_cons, List.length_nil, List.nil_append, List.cons_append, Option.toList_some, Option.toList_none, reduceCtorEq, Option.some.injEq, Nat.zero_le, Nat.reduceMul, Nat.mul_zero, Nat.add_zero, Int.reduceDiv, Int.reduceMod, Int.toNat_natCast, Nat.lt_irrefl, Int.natCast_add, Int.cast_ofNat_Int, px_mds_RX11_0, px_mds_RX11_1, dec_X11_isTooMuch, px_eq_iff, px_lt_iff, px_le_iff, px_up_o, px_up_eq, px_up_ne, px_cp_o, pm_k, pm_l]
          exact nx _ _ (by omega) (Or.inr ⟨rfl, q⟩)
  refine px_enter RX11 (by decide +kernel) rfl (by simp) (by simp [px_c1]) ?_
  simp only [List.map_cons, List.map_nil, List.length_cons, List.length_nil, List.replicate, List.append_nil, Nat.reduceAdd, Nat.reduceSub, List.cons_append, List.nil_append]
  refine px_go (fun p => p == 27) 400 ?_
  simp (disch := omega) only [px_lits, false_implies, true_implies, px_dec_ok, px_run_s, px_rules, px_rule_is, px_mats, px_calls, ↓reduceIte, eq_self, Bool.false_eq_true, px_flds, px_o_some, px_fvs, px_pfs, px_cts, px_cls, px_acs_, px_acn, true_and, and_true, true_or, or_true, false_or, or_false, and_self, not_true_eq_false, not_false_eq_true, Classical.not_not, Nat.reduceAdd, Nat.reduceSub, Nat.reduceBEq, Nat.reduceLT, Nat.reduceLeDiff, Nat.lt_add_one, px_tg, Int.cast_ofNat_Int, Int.reduceAdd, Int.reduceSub, Int.reduceMul, Int.reduceToNat, Int.reduceLE, Int.reduceLT, Int.reduceNeg, Int.reduceEq, Bool.or_false, Bool.false_or, Bool.or_true, Bool.true_or, List.length_cons, List.length_nil, List.nil_append, List.cons_append, Option.toList_some, Option.toList_none, reduceCtorEq, Option.some.injEq, Nat.zero_le, Nat.reduceMul, Nat.mul_zero, Nat.add_zero, Int.reduceDiv, Int.reduceMod, Int.toNat_natCast, Nat.lt_irrefl, Int.natCast_add, Int.cast_ofNat_Int, px_mds_RX11_0, px_mds_RX11_1, dec_X11_isTooMuch, px_eq_iff, px_lt_iff, px_le_iff, px_up_o, px_up_eq, px_up_ne, px_cp_o, pm_k, pm_l]
  refine c_X11_layText hh hb hBr hn hl he hr hd (fun μ1 e1 e2 e3 => ?_)
  have g205 : μ1 205 = μ 205 := e1 _ (by omega)
  refine px_go (fun p => p == 27) 400 ?_
  simp (disch := omega) only [px_lits, false_implies, true_implies, px_dec_ok, px_run_s, px_rules, px_rule_is, px_mats, px_calls, ↓reduceIte, eq_self, Bool.false_eq_true, px_flds, px_o_some, px_fvs, px_pfs, px_cts, px_cls, px_acs_, px_acn, true_and, and_true, true_or, or_true, false_or, or_false, and_self, not_true_eq_false, not_false_eq_true, Classical.not_not, Nat.reduceAdd, Nat.reduceSub, Nat.reduceBEq, Nat.reduceLT, Nat.reduceLeDiff, Nat.lt_add_one, px_tg, Int.cast_ofNat_Int, Int.reduceAdd, Int.reduceSub, Int.reduceMul, Int.reduceToNat, Int.reduceLE, Int.reduceLT, Int.reduceNeg, Int.reduceEq, Bool.or_false, Bool.false_or, Bool.or_true, Bool.true_or, List.length_cons, List.length_nil, List.nil_append, List.cons_append, Option.toList_some, Option.toList_none, reduceCtorEq, Option.some.injEq, Nat.zero_le, Nat.reduceMul, Nat.mul_zero, Nat.add_zero, Int.reduceDiv, Int.reduceMod, Int.toNat_natCast, Nat.lt_irrefl, Int.natCast_add, Int.cast_ofNat_Int, px_mds_RX11_0, px_mds_RX11_1, dec_X11_isTooMuch, px_eq_iff, px_lt_iff, px_le_iff, px_up_o, px_up_eq, px_up_ne, px_cp_o, pm_k, pm_l, g205, hw]
  refine ⟨fun q => ?_, fun q => ?_⟩
  · exact loop μ1 e1 n 0 _ 0 (by omega) (by omega) (Or.inl ⟨rfl, ⟨fun r => r.2, fun r => ⟨by omega, r⟩⟩⟩)
  · exact loop μ1 e1 n 0 _ 1 (by omega) (by omega) (Or.inr ⟨rfl, fun r => q (by omega)⟩)
