/-! ===== the reference: takeOff, turn, undo, drift, told, text ===== -/
theorem pm_at.len {μ : px_Mem} {a : Nat} {f : Int} {L : List pc_Ch} (h : pm_at μ a f L) (n : Nat) : pm_at μ a f (L.take n) := (h.sub n).1
theorem pa_M.own {A : pa_A} {μ μ1 : px_Mem} (R : pa_M A μ) (f : ∀ o, o ≠ 205 → o ≠ 215 → μ1 o = μ o) (f5 : ∀ i, i ≠ 14 → μ1 205 i = μ 205 i) : pa_M A μ1 := R.same ⟨f5 0 (by omega), f5 2 (by omega), f5 4 (by omega)⟩ (fun o _ _ => f o (by omega) (by omega))
set_option maxHeartbeats 4000000 in
set_option maxRecDepth 100000 in
theorem c_X11_takeOff {G : px_G} {A : pa_A} {x c : Int} {μ : px_Mem} {Q : Option px_X → px_Mem → Prop} (I : pa_I A) (R : pa_M A μ) (hx : -2147483648 ≤ x ∧ x < 2147483648) (hc : -2147483648 ≤ c ∧ c < 2147483648) (hq : pa_Qm μ (pa_takeOff A x c) Q) : px_C G yX11_takeOff cX11_takeOff 4 (some .int) 4 [.inr (.inl (some 205)), .inl x, .inl c] μ Q := by
  refine px_enter RX11 (by decide +kernel) rfl (by simp) (by simp [px_c1]) ?_
  simp only [List.map_cons, List.map_nil, List.length_cons, List.length_nil, List.replicate, List.append_nil, Nat.reduceAdd, Nat.reduceSub, List.cons_append, List.nil_append]
  refine px_go (fun _ => false) 400 ?_
  simp (disch := omega) only [px_lits, false_implies, true_implies, px_dec_ok, px_run_s, px_rules, px_rule_is, px_mats, px_calls, ↓reduceIte, eq_self, Bool.false_eq_true, px_flds, px_o_some, px_fvs, px_pfs, px_cts, px_cls, px_acs_, px_acn, true_and, and_true, true_or, or_true, false_or, or_false, and_self, not_true_eq_false, not_false_eq_true, Classical.not_not, Nat.reduceAdd, Nat.reduceSub, Nat.reduceBEq, Nat.reduceLT, Nat.reduceLeDiff, Nat.lt_add_one, px_tg, Int.cast_ofNat_Int, Int.reduceAdd, Int.reduceSub, Int.reduceMul, Int.reduceToNat, Int.reduceLE, Int.reduceLT, Int.reduceNeg, Int.reduceEq, Bool.or_false, Bool.false_or, Bool.or_true, Bool.true_or, List.length_cons, List.length_nil, List.nil_append, List.cons_append, Option.toList_some, Option.toList_none, reduceCtorEq, Option.some.injEq, Nat.zero_le, Nat.reduceMul, Nat.mul_zero, Nat.add_zero, Int.reduceDiv, Int.reduceMod, Int.toNat_natCast, Nat.lt_irrefl, Int.natCast_add, Int.cast_ofNat_Int, px_mds_RX11_0, px_mds_RX11_1, dec_X11_takeOff, px_eq_iff, px_lt_iff, px_le_iff, px_up_o, px_up_eq, px_up_ne, px_cp_o, pm_k, pm_l]
  refine c_X11_isHouse hx (fun q => ?_) (fun q => ?_)
  · obtain ⟨h, hh, rfl⟩ := pa_nat q
    obtain ⟨l1, l2, l3⟩ := R.hl hh
    have V := I.V h
    have st : pa_takeOff A h c = (match pa_find (pa_L A h) c with
      | none => (A, -1000000001)
      | some k => match pc_brF ((pa_L A h).length - 1 - k) (pa_L A h) k with
        | none => (A, -1000000003)
        | some L1 => (pa_put (pa_push A) h L1.dropLast, (pa_L A h).length - 1)) := by
      unfold pa_takeOff
      rw [if_neg (fun n => n q), Int.toNat_natCast]
      rfl
    rw [st] at hq
    refine px_go (fun _ => false) 400 ?_
    simp (disch := omega) only [px_lits, false_implies, true_implies, px_dec_ok, px_run_s, px_rules, px_rule_is, px_mats, px_calls, ↓reduceIte, eq_self, Bool.false_eq_true, px_flds, px_o_some, px_fvs, px_pfs, px_cts, px_cls, px_acs_, px_acn, true_and, and_true, true_or, or_true, false_or, or_false, and_self, not_true_eq_false, not_false_eq_true, Classical.not_not, Nat.reduceAdd, Nat.reduceSub, Nat.reduceBEq, Nat.reduceLT, Nat.reduceLeDiff, Nat.lt_add_one, px_tg, Int.cast_ofNat_Int, Int.reduceAdd, Int.reduceSub, Int.reduceMul, Int.reduceToNat, Int.reduceLE, Int.reduceLT, Int.reduceNeg, Int.reduceEq, Bool.or_false, Bool.false_or, Bool.or_true, Bool.true_or, List.length_cons, List.length_nil, List.nil_append, List.cons_append, Option.toList_some, Option.toList_none, reduceCtorEq, Option.some.injEq, Nat.zero_le, Nat.reduceMul, Nat.mul_zero, Nat.add_zero, Int.reduceDiv, Int.reduceMod, Int.toNat_natCast, Nat.lt_irrefl, Int.natCast_add, Int.cast_ofNat_Int, px_mds_RX11_0, px_mds_RX11_1, dec_X11_takeOff, px_eq_iff, px_lt_iff, px_le_iff, px_up_o, px_up_eq, px_up_ne, px_cp_o, pm_k, pm_l]
    refine pm_find I R hh hc (fun w => ?_) (fun a w w1 => ?_)
    · rw [w] at hq
      refine px_go (fun _ => false) 400 ?_
      simp (disch := omega) only [px_lits, false_implies, true_implies, px_dec_ok, px_run_s, px_rules, px_rule_is, px_mats, px_calls, ↓reduceIte, eq_self, Bool.false_eq_true, px_flds, px_o_some, px_fvs, px_pfs, px_cts, px_cls, px_acs_, px_acn, true_and, and_true, true_or, or_true, false_or, or_false, and_self, not_true_eq_false, not_false_eq_true, Classical.not_not, Nat.reduceAdd, Nat.reduceSub, Nat.reduceBEq, Nat.reduceLT, Nat.reduceLeDiff, Nat.lt_add_one, px_tg, Int.cast_ofNat_Int, Int.reduceAdd, Int.reduceSub, Int.reduceMul, Int.reduceToNat, Int.reduceLE, Int.reduceLT, Int.reduceNeg, Int.reduceEq, Bool.or_false, Bool.false_or, Bool.or_true, Bool.true_or, List.length_cons, List.length_nil, List.nil_append, List.cons_append, Option.toList_some, Option.toList_none, reduceCtorEq, Option.some.injEq, Nat.zero_le, Nat.reduceMul, Nat.mul_zero, Nat.add_zero, Int.reduceDiv, Int.reduceMod, Int.toNat_natCast, Nat.lt_irrefl, Int.natCast_add, Int.cast_ofNat_Int, px_mds_RX11_0, px_mds_RX11_1, dec_X11_takeOff, px_eq_iff, px_lt_iff, px_le_iff, px_up_o, px_up_eq, px_up_ne, px_cp_o, pm_k, pm_l]
      exact hq.at rfl (fun _ _ => rfl) R
    · rw [w] at hq
      dsimp only at hq
      refine px_go (fun _ => false) 400 ?_
      simp (disch := omega) only [px_lits, false_implies, true_implies, px_dec_ok, px_run_s, px_rules, px_rule_is, px_mats, px_calls, ↓reduceIte, eq_self, Bool.false_eq_true, px_flds, px_o_some, px_fvs, px_pfs, px_cts, px_cls, px_acs_, px_acn, true_and, and_true, true_or, or_true, false_or, or_false, and_self, not_true_eq_false, not_false_eq_true, Classical.not_not, Nat.reduceAdd, Nat.reduceSub, Nat.reduceBEq, Nat.reduceLT, Nat.reduceLeDiff, Nat.lt_add_one, px_tg, Int.cast_ofNat_Int, Int.reduceAdd, Int.reduceSub, Int.reduceMul, Int.reduceToNat, Int.reduceLE, Int.reduceLT, Int.reduceNeg, Int.reduceEq, Bool.or_false, Bool.false_or, Bool.or_true, Bool.true_or, List.length_cons, List.length_nil, List.nil_append, List.cons_append, Option.toList_some, Option.toList_none, reduceCtorEq, Option.some.injEq, Nat.zero_le, Nat.reduceMul, Nat.mul_zero, Nat.add_zero, Int.reduceDiv, Int.reduceMod, Int.toNat_natCast, Nat.lt_irrefl, Int.natCast_add, Int.cast_ofNat_Int, px_mds_RX11_0, px_mds_RX11_1, dec_X11_takeOff, px_eq_iff, px_lt_iff, px_le_iff, px_up_o, px_up_eq, px_up_ne, px_cp_o, pm_k, pm_l]
      refine c_X11_layOwn hh l1 l3 l2 (fun μ1 f1 f2 f3 f4 => ?_)
      have R1 := R.own f1 f2
      refine px_go (fun _ => false) 400 ?_
      simp (disch := omega) only [px_lits, false_implies, true_implies, px_dec_ok, px_run_s, px_rules, px_rule_is, px_mats, px_calls, ↓reduceIte, eq_self, Bool.false_eq_true, px_flds, px_o_some, px_fvs, px_pfs, px_cts, px_cls, px_acs_, px_acn, true_and, and_true, true_or, or_true, false_or, or_false, and_self, not_true_eq_false, not_false_eq_true, Classical.not_not, Nat.reduceAdd, Nat.reduceSub, Nat.reduceBEq, Nat.reduceLT, Nat.reduceLeDiff, Nat.lt_add_one, px_tg, Int.cast_ofNat_Int, Int.reduceAdd, Int.reduceSub, Int.reduceMul, Int.reduceToNat, Int.reduceLE, Int.reduceLT, Int.reduceNeg, Int.reduceEq, Bool.or_false, Bool.false_or, Bool.or_true, Bool.true_or, List.length_cons, List.length_nil, List.nil_append, List.cons_append, Option.toList_some, Option.toList_none, reduceCtorEq, Option.some.injEq, Nat.zero_le, Nat.reduceMul, Nat.mul_zero, Nat.add_zero, Int.reduceDiv, Int.reduceMod, Int.toNat_natCast, Nat.lt_irrefl, Int.natCast_add, Int.cast_ofNat_Int, px_mds_RX11_0, px_mds_RX11_1, dec_X11_takeOff, px_eq_iff, px_lt_iff, px_le_iff, px_up_o, px_up_eq, px_up_ne, px_cp_o, pm_k, pm_l]
      refine pm_find I R1 hh hc (fun w9 => by rw [w] at w9; cases w9) (fun a9 w9 w91 => ?_)
      have : a9 = a := Option.some.inj (w9.symm.trans w)
      subst this
      refine px_go (fun _ => false) 400 ?_
      simp (disch := omega) only [px_lits, false_implies, true_implies, px_dec_ok, px_run_s, px_rules, px_rule_is, px_mats, px_calls, ↓reduceIte, eq_self, Bool.false_eq_true, px_flds, px_o_some, px_fvs, px_pfs, px_cts, px_cls, px_acs_, px_acn, true_and, and_true, true_or, or_true, false_or, or_false, and_self, not_true_eq_false, not_false_eq_true, Classical.not_not, Nat.reduceAdd, Nat.reduceSub, Nat.reduceBEq, Nat.reduceLT, Nat.reduceLeDiff, Nat.lt_add_one, px_tg, Int.cast_ofNat_Int, Int.reduceAdd, Int.reduceSub, Int.reduceMul, Int.reduceToNat, Int.reduceLE, Int.reduceLT, Int.reduceNeg, Int.reduceEq, Bool.or_false, Bool.false_or, Bool.or_true, Bool.true_or, List.length_cons, List.length_nil, List.nil_append, List.cons_append, Option.toList_some, Option.toList_none, reduceCtorEq, Option.some.injEq, Nat.zero_le, Nat.reduceMul, Nat.mul_zero, Nat.add_zero, Int.reduceDiv, Int.reduceMod, Int.toNat_natCast, Nat.lt_irrefl, Int.natCast_add, Int.cast_ofNat_Int, px_mds_RX11_0, px_mds_RX11_1, dec_X11_takeOff, px_eq_iff, px_lt_iff, px_le_iff, px_up_o, px_up_eq, px_up_ne, px_cp_o, pm_k, pm_l]
      rw [show ((pa_L A h).length : Int) - 1 = (((pa_L A h).length - 1 : Nat) : Int) by omega]
      have ln : ((pa_L A h).length : Int) - 1 = (((pa_L A h).length - 1 : Nat) : Int) := by omega
      refine c_X11_isBroughtF pm_k.2.2.2.2.2.2.2.2.2.2.1 (by rw [pm_l.2.2.2.2.2.2.2.2.2.1]; exact l3) (by omega) (by omega) V f4 (fun L1 μ2 v1 v2 v3 => ?_) (fun μ2 v1 v2 => ?_)
      · rw [v1] at hq
        dsimp only at hq
        have ll := (pc_brF_keep v1).1
        have R2 : pa_M A μ2 := R1.same (by rw [v2 205 (by omega)]; exact ⟨rfl, rfl, rfl⟩) (fun o _ _ => v2 o (by omega))
        refine px_go (fun _ => false) 400 ?_
        simp (disch := omega) only [px_lits, false_implies, true_implies, px_dec_ok, px_run_s, px_rules, px_rule_is, px_mats, px_calls, ↓reduceIte, eq_self, Bool.false_eq_true, px_flds, px_o_some, px_fvs, px_pfs, px_cts, px_cls, px_acs_, px_acn, true_and, and_true, true_or, or_true, false_or, or_false, and_self, not_true_eq_false, not_false_eq_true, Classical.not_not, Nat.reduceAdd, Nat.reduceSub, Nat.reduceBEq, Nat.reduceLT, Nat.reduceLeDiff, Nat.lt_add_one, px_tg, Int.cast_ofNat_Int, Int.reduceAdd, Int.reduceSub, Int.reduceMul, Int.reduceToNat, Int.reduceLE, Int.reduceLT, Int.reduceNeg, Int.reduceEq, Bool.or_false, Bool.false_or, Bool.or_true, Bool.true_or, List.length_cons, List.length_nil, List.nil_append, List.cons_append, Option.toList_some, Option.toList_none, reduceCtorEq, Option.some.injEq, Nat.zero_le, Nat.reduceMul, Nat.mul_zero, Nat.add_zero, Int.reduceDiv, Int.reduceMod, Int.toNat_natCast, Nat.lt_irrefl, Int.natCast_add, Int.cast_ofNat_Int, px_mds_RX11_0, px_mds_RX11_1, dec_X11_takeOff, px_eq_iff, px_lt_iff, px_le_iff, px_up_o, px_up_eq, px_up_ne, px_cp_o, pm_k, pm_l]
        refine c_X11_note R2.p R2.w (fun μ3 g1 g2 g3 => ?_)
        have R3 := R2.push g1 g2 g3
        refine px_go (fun _ => false) 400 ?_
        simp (disch := omega) only [px_lits, false_implies, true_implies, px_dec_ok, px_run_s, px_rules, px_rule_is, px_mats, px_calls, ↓reduceIte, eq_self, Bool.false_eq_true, px_flds, px_o_some, px_fvs, px_pfs, px_cts, px_cls, px_acs_, px_acn, true_and, and_true, true_or, or_true, false_or, or_false, and_self, not_true_eq_false, not_false_eq_true, Classical.not_not, Nat.reduceAdd, Nat.reduceSub, Nat.reduceBEq, Nat.reduceLT, Nat.reduceLeDiff, Nat.lt_add_one, px_tg, Int.cast_ofNat_Int, Int.reduceAdd, Int.reduceSub, Int.reduceMul, Int.reduceToNat, Int.reduceLE, Int.reduceLT, Int.reduceNeg, Int.reduceEq, Bool.or_false, Bool.false_or, Bool.or_true, Bool.true_or, List.length_cons, List.length_nil, List.nil_append, List.cons_append, Option.toList_some, Option.toList_none, reduceCtorEq, Option.some.injEq, Nat.zero_le, Nat.reduceMul, Nat.mul_zero, Nat.add_zero, Int.reduceDiv, Int.reduceMod, Int.toNat_natCast, Nat.lt_irrefl, Int.natCast_add, Int.cast_ofNat_Int, px_mds_RX11_0, px_mds_RX11_1, dec_X11_takeOff, px_eq_iff, px_lt_iff, px_le_iff, px_up_o, px_up_eq, px_up_ne, px_cp_o, pm_k, pm_l]
        rw [ln]
        refine c_X11_bring pm_k.2.2.2.2.2.2.2.2.2.2.1 pm_k.2.2.1 (by omega) (by rw [pm_l.2.2.2.2.2.2.2.2.2.1]; omega) (by rw [pm_l.2.1]; omega) ?_
        refine px_go (fun _ => false) 400 ?_
        simp (disch := omega) only [px_lits, false_implies, true_implies, px_dec_ok, px_run_s, px_rules, px_rule_is, px_mats, px_calls, ↓reduceIte, eq_self, Bool.false_eq_true, px_flds, px_o_some, px_fvs, px_pfs, px_cts, px_cls, px_acs_, px_acn, true_and, and_true, true_or, or_true, false_or, or_false, and_self, not_true_eq_false, not_false_eq_true, Classical.not_not, Nat.reduceAdd, Nat.reduceSub, Nat.reduceBEq, Nat.reduceLT, Nat.reduceLeDiff, Nat.lt_add_one, px_tg, Int.cast_ofNat_Int, Int.reduceAdd, Int.reduceSub, Int.reduceMul, Int.reduceToNat, Int.reduceLE, Int.reduceLT, Int.reduceNeg, Int.reduceEq, Bool.or_false, Bool.false_or, Bool.or_true, Bool.true_or, List.length_cons, List.length_nil, List.nil_append, List.cons_append, Option.toList_some, Option.toList_none, reduceCtorEq, Option.some.injEq, Nat.zero_le, Nat.reduceMul, Nat.mul_zero, Nat.add_zero, Int.reduceDiv, Int.reduceMod, Int.toNat_natCast, Nat.lt_irrefl, Int.natCast_add, Int.cast_ofNat_Int, px_mds_RX11_0, px_mds_RX11_1, dec_X11_takeOff, px_eq_iff, px_lt_iff, px_le_iff, px_up_o, px_up_eq, px_up_ne, px_cp_o, pm_k, pm_l]
        refine ⟨by omega, ?_⟩
        refine hq.at rfl (fun o ho => ?_) ?_
        · rw [px_up_o (by omega), px_cp_o (by omega), g1 o (by omega) (by omega), v2 o (by omega), f1 o (by omega) (by omega)]
        · have h1 := R3.h1 hh
          refine R3.putn hh (fun o _ _ o3 => by rw [px_up_o (by omega), px_cp_o (by omega)]) (by rw [px_up_o (by omega), px_cp_o (by omega)]; exact ⟨rfl, rfl⟩) (by rw [px_up_o (by omega), px_cp_o (by omega)]; exact R3.n) (fun i hi => by rw [px_up_ne (by omega), px_cp_out (by omega)]) ⟨?_, ?_, ?_, ?_, ?_⟩
          · rw [px_up_eq rfl, List.length_dropLast, ll]
            omega
          · rw [px_up_ne (by omega), px_cp_out (by omega)]
            exact h1.2.1
          · rw [px_up_ne (by omega), px_cp_out (by omega)]
            exact h1.2.2.1
          · have o5 : pm_at μ3 215 0 L1.dropLast := by
              rw [List.dropLast_eq_take]
              exact (v3.same (g1 215 (by omega) (by omega))).len _
            have cp := pm_at.cp (c := 207) (dp := 19 * h + 3) (n := (pa_L A h).length - 1) o5 (by rw [List.length_dropLast, ll]; exact Nat.le_refl _)
            intro i d hd
            rw [px_up_ne (by omega)]
            exact cp i d hd
          · show L1.dropLast.length ≤ 16
            rw [List.length_dropLast, ll]
            omega
      · rw [v1] at hq
        dsimp only at hq
        refine px_go (fun _ => false) 400 ?_
        simp (disch := omega) only [px_lits, false_implies, true_implies, px_dec_ok, px_run_s, px_rules, px_rule_is, px_mats, px_calls, ↓reduceIte, eq_self, Bool.false_eq_true, px_flds, px_o_some, px_fvs, px_pfs, px_cts, px_cls, px_acs_, px_acn, true_and, and_true, true_or, or_true, false_or, or_false, and_self, not_true_eq_false, not_false_eq_true, Classical.not_not, Nat.reduceAdd, Nat.reduceSub, Nat.reduceBEq, Nat.reduceLT, Nat.reduceLeDiff, Nat.lt_add_one, px_tg, Int.cast_ofNat_Int, Int.reduceAdd, Int.reduceSub, Int.reduceMul, Int.reduceToNat, Int.reduceLE, Int.reduceLT, Int.reduceNeg, Int.reduceEq, Bool.or_false, Bool.false_or, Bool.or_true, Bool.true_or, List.length_cons, List.length_nil, List.nil_append, List.cons_append, Option.toList_some, Option.toList_none, reduceCtorEq, Option.some.injEq, Nat.zero_le, Nat.reduceMul, Nat.mul_zero, Nat.add_zero, Int.reduceDiv, Int.reduceMod, Int.toNat_natCast, Nat.lt_irrefl, Int.natCast_add, Int.cast_ofNat_Int, px_mds_RX11_0, px_mds_RX11_1, dec_X11_takeOff, px_eq_iff, px_lt_iff, px_le_iff, px_up_o, px_up_eq, px_up_ne, px_cp_o, pm_k, pm_l]
        exact hq.at rfl (fun o ho => by rw [v2 o (by omega), f1 o (by omega) (by omega)]) (R1.same (by rw [v2 205 (by omega)]; exact ⟨rfl, rfl, rfl⟩) (fun o _ _ => v2 o (by omega)))
  · refine px_go (fun _ => false) 400 ?_
    simp (disch := omega) only [px_lits, false_implies, true_implies, px_dec_ok, px_run_s, px_rules, px_rule_is, px_mats, px_calls, ↓reduceIte, eq_self, Bool.false_eq_true, px_flds, px_o_some, px_fvs, px_pfs, px_cts, px_cls, px_acs_, px_acn, true_and, and_true, true_or, or_true, false_or, or_false, and_self, not_true_eq_false, not_false_eq_true, Classical.not_not, Nat.reduceAdd, Nat.reduceSub, Nat.reduceBEq, Nat.reduceLT, Nat.reduceLeDiff, Nat.lt_add_one, px_tg, Int.cast_ofNat_Int, Int.reduceAdd, Int.reduceSub, Int.reduceMul, Int.reduceToNat, Int.reduceLE, Int.reduceLT, Int.reduceNeg, Int.reduceEq, Bool.or_false, Bool.false_or, Bool.or_true, Bool.true_or, List.length_cons, List.length_nil, List.nil_append, List.cons_append, Option.toList_some, Option.toList_none, reduceCtorEq, Option.some.injEq, Nat.zero_le, Nat.reduceMul, Nat.mul_zero, Nat.add_zero, Int.reduceDiv, Int.reduceMod, Int.toNat_natCast, Nat.lt_irrefl, Int.natCast_add, Int.cast_ofNat_Int, px_mds_RX11_0, px_mds_RX11_1, dec_X11_takeOff, px_eq_iff, px_lt_iff, px_le_iff, px_up_o, px_up_eq, px_up_ne, px_cp_o, pm_k, pm_l]
    refine hq.at ?_ (fun _ _ => rfl) R
    unfold pa_takeOff
    rw [if_pos q]
set_option maxHeartbeats 4000000 in
set_option maxRecDepth 100000 in
theorem c_X11_turn {G : px_G} {A : pa_A} {x i : Int} {μ : px_Mem} {Q : Option px_X → px_Mem → Prop} (I : pa_I A) (R : pa_M A μ) (hx : -2147483648 ≤ x ∧ x < 2147483648) (hi : -2147483648 ≤ i ∧ i < 2147483648) (hq : pa_Qm μ (pa_turn A x i) Q) : px_C G yX11_turn cX11_turn 4 (some .int) 3 [.inr (.inl (some 205)), .inl x, .inl i] μ Q := by
  refine px_enter RX11 (by decide +kernel) rfl (by simp) (by simp [px_c1]) ?_
  simp only [List.map_cons, List.map_nil, List.length_cons, List.length_nil, List.replicate, List.append_nil, Nat.reduceAdd, Nat.reduceSub, List.cons_append, List.nil_append]
  refine px_go (fun _ => false) 400 ?_
  simp (disch := omega) only [px_lits, false_implies, true_implies, px_dec_ok, px_run_s, px_rules, px_rule_is, px_mats, px_calls, ↓reduceIte, eq_self, Bool.false_eq_true, px_flds, px_o_some, px_fvs, px_pfs, px_cts, px_cls, px_acs_, px_acn, true_and, and_true, true_or, or_true, false_or, or_false, and_self, not_true_eq_false, not_false_eq_true, Classical.not_not, Nat.reduceAdd, Nat.reduceSub, Nat.reduceBEq, Nat.reduceLT, Nat.reduceLeDiff, Nat.lt_add_one, px_tg, Int.cast_ofNat_Int, Int.reduceAdd, Int.reduceSub, Int.reduceMul, Int.reduceToNat, Int.reduceLE, Int.reduceLT, Int.reduceNeg, Int.reduceEq, Bool.or_false, Bool.false_or, Bool.or_true, Bool.true_or, List.length_cons, List.length_nil, List.nil_append, List.cons_append, Option.toList_some, Option.toList_none, reduceCtorEq, Option.some.injEq, Nat.zero_le, Nat.reduceMul, Nat.mul_zero, Nat.add_zero, Int.reduceDiv, Int.reduceMod, Int.toNat_natCast, Nat.lt_irrefl, Int.natCast_add, Int.cast_ofNat_Int, px_mds_RX11_0, px_mds_RX11_1, dec_X11_turn, px_eq_iff, px_lt_iff, px_le_iff, px_up_o, px_up_eq, px_up_ne, px_cp_o, pm_k, pm_l]
  refine c_X11_isHouse hx (fun q => ?_) (fun q => ?_)
  · obtain ⟨h, hh, rfl⟩ := pa_nat q
    obtain ⟨l1, l2, l3⟩ := R.hl hh
    have V := I.V h
    refine px_go (fun _ => false) 400 ?_
    simp (disch := omega) only [px_lits, false_implies, true_implies, px_dec_ok, px_run_s, px_rules, px_rule_is, px_mats, px_calls, ↓reduceIte, eq_self, Bool.false_eq_true, px_flds, px_o_some, px_fvs, px_pfs, px_cts, px_cls, px_acs_, px_acn, true_and, and_true, true_or, or_true, false_or, or_false, and_self, not_true_eq_false, not_false_eq_true, Classical.not_not, Nat.reduceAdd, Nat.reduceSub, Nat.reduceBEq, Nat.reduceLT, Nat.reduceLeDiff, Nat.lt_add_one, px_tg, Int.cast_ofNat_Int, Int.reduceAdd, Int.reduceSub, Int.reduceMul, Int.reduceToNat, Int.reduceLE, Int.reduceLT, Int.reduceNeg, Int.reduceEq, Bool.or_false, Bool.false_or, Bool.or_true, Bool.true_or, List.length_cons, List.length_nil, List.nil_append, List.cons_append, Option.toList_some, Option.toList_none, reduceCtorEq, Option.some.injEq, Nat.zero_le, Nat.reduceMul, Nat.mul_zero, Nat.add_zero, Int.reduceDiv, Int.reduceMod, Int.toNat_natCast, Nat.lt_irrefl, Int.natCast_add, Int.cast_ofNat_Int, px_mds_RX11_0, px_mds_RX11_1, dec_X11_turn, px_eq_iff, px_lt_iff, px_le_iff, px_up_o, px_up_eq, px_up_ne, px_cp_o, pm_k, pm_l]
    refine c_X11_many hh ?_
    refine px_go (fun _ => false) 400 ?_
    simp (disch := omega) only [px_lits, false_implies, true_implies, px_dec_ok, px_run_s, px_rules, px_rule_is, px_mats, px_calls, ↓reduceIte, eq_self, Bool.false_eq_true, px_flds, px_o_some, px_fvs, px_pfs, px_cts, px_cls, px_acs_, px_acn, true_and, and_true, true_or, or_true, false_or, or_false, and_self, not_true_eq_false, not_false_eq_true, Classical.not_not, Nat.reduceAdd, Nat.reduceSub, Nat.reduceBEq, Nat.reduceLT, Nat.reduceLeDiff, Nat.lt_add_one, px_tg, Int.cast_ofNat_Int, Int.reduceAdd, Int.reduceSub, Int.reduceMul, Int.reduceToNat, Int.reduceLE, Int.reduceLT, Int.reduceNeg, Int.reduceEq, Bool.or_false, Bool.false_or, Bool.or_true, Bool.true_or, List.length_cons, List.length_nil, List.nil_append, List.cons_append, Option.toList_some, Option.toList_none, reduceCtorEq, Option.some.injEq, Nat.zero_le, Nat.reduceMul, Nat.mul_zero, Nat.add_zero, Int.reduceDiv, Int.reduceMod, Int.toNat_natCast, Nat.lt_irrefl, Int.natCast_add, Int.cast_ofNat_Int, px_mds_RX11_0, px_mds_RX11_1, dec_X11_turn, px_eq_iff, px_lt_iff, px_le_iff, px_up_o, px_up_eq, px_up_ne, px_cp_o, pm_k, pm_l, l1]
    refine c_X11_in hi (by omega) (by omega) (fun w => ?_) (fun w => ?_)
    · obtain ⟨j, rfl⟩ : ∃ j : Nat, i = j := ⟨i.toNat, by omega⟩
      have st : pa_turn A h j = (match pc_sw (pa_L A h) j with
        | none => (A, -1000000003)
        | some L1 => (pa_put (pa_push A) h L1, pc_num L1 j)) := by
        unfold pa_turn
        rw [if_neg (fun n => n ⟨q, by rw [Int.toNat_natCast]; omega⟩), Int.toNat_natCast, Int.toNat_natCast]
        rfl
      rw [st] at hq
      refine px_go (fun _ => false) 400 ?_
      simp (disch := omega) only [px_lits, false_implies, true_implies, px_dec_ok, px_run_s, px_rules, px_rule_is, px_mats, px_calls, ↓reduceIte, eq_self, Bool.false_eq_true, px_flds, px_o_some, px_fvs, px_pfs, px_cts, px_cls, px_acs_, px_acn, true_and, and_true, true_or, or_true, false_or, or_false, and_self, not_true_eq_false, not_false_eq_true, Classical.not_not, Nat.reduceAdd, Nat.reduceSub, Nat.reduceBEq, Nat.reduceLT, Nat.reduceLeDiff, Nat.lt_add_one, px_tg, Int.cast_ofNat_Int, Int.reduceAdd, Int.reduceSub, Int.reduceMul, Int.reduceToNat, Int.reduceLE, Int.reduceLT, Int.reduceNeg, Int.reduceEq, Bool.or_false, Bool.false_or, Bool.or_true, Bool.true_or, List.length_cons, List.length_nil, List.nil_append, List.cons_append, Option.toList_some, Option.toList_none, reduceCtorEq, Option.some.injEq, Nat.zero_le, Nat.reduceMul, Nat.mul_zero, Nat.add_zero, Int.reduceDiv, Int.reduceMod, Int.toNat_natCast, Nat.lt_irrefl, Int.natCast_add, Int.cast_ofNat_Int, px_mds_RX11_0, px_mds_RX11_1, dec_X11_turn, px_eq_iff, px_lt_iff, px_le_iff, px_up_o, px_up_eq, px_up_ne, px_cp_o, pm_k, pm_l]
      refine c_X11_layOwn hh l1 l3 l2 (fun μ1 f1 f2 f3 f4 => ?_)
      have R1 := R.own f1 f2
      refine px_go (fun _ => false) 400 ?_
      simp (disch := omega) only [px_lits, false_implies, true_implies, px_dec_ok, px_run_s, px_rules, px_rule_is, px_mats, px_calls, ↓reduceIte, eq_self, Bool.false_eq_true, px_flds, px_o_some, px_fvs, px_pfs, px_cts, px_cls, px_acs_, px_acn, true_and, and_true, true_or, or_true, false_or, or_false, and_self, not_true_eq_false, not_false_eq_true, Classical.not_not, Nat.reduceAdd, Nat.reduceSub, Nat.reduceBEq, Nat.reduceLT, Nat.reduceLeDiff, Nat.lt_add_one, px_tg, Int.cast_ofNat_Int, Int.reduceAdd, Int.reduceSub, Int.reduceMul, Int.reduceToNat, Int.reduceLE, Int.reduceLT, Int.reduceNeg, Int.reduceEq, Bool.or_false, Bool.false_or, Bool.or_true, Bool.true_or, List.length_cons, List.length_nil, List.nil_append, List.cons_append, Option.toList_some, Option.toList_none, reduceCtorEq, Option.some.injEq, Nat.zero_le, Nat.reduceMul, Nat.mul_zero, Nat.add_zero, Int.reduceDiv, Int.reduceMod, Int.toNat_natCast, Nat.lt_irrefl, Int.natCast_add, Int.cast_ofNat_Int, px_mds_RX11_0, px_mds_RX11_1, dec_X11_turn, px_eq_iff, px_lt_iff, px_le_iff, px_up_o, px_up_eq, px_up_ne, px_cp_o, pm_k, pm_l]
      refine c_X11_isTurned pm_k.2.2.2.2.2.2.2.2.2.2.1 (by rw [pm_l.2.2.2.2.2.2.2.2.2.1]; exact l3) (by omega) V f4 (fun L1 μ2 v1 v2 _ v3 => ?_) (fun v1 => ?_)
      · rw [v1] at hq
        dsimp only at hq
        have ll := pc_sw_len v1
        have V1 := pc_sw_V v1 V
        have R2 : pa_M A μ2 := R1.same (by rw [v2 205 (by omega)]; exact ⟨rfl, rfl, rfl⟩) (fun o _ _ => v2 o (by omega))
        refine px_go (fun _ => false) 400 ?_
        simp (disch := omega) only [px_lits, false_implies, true_implies, px_dec_ok, px_run_s, px_rules, px_rule_is, px_mats, px_calls, ↓reduceIte, eq_self, Bool.false_eq_true, px_flds, px_o_some, px_fvs, px_pfs, px_cts, px_cls, px_acs_, px_acn, true_and, and_true, true_or, or_true, false_or, or_false, and_self, not_true_eq_false, not_false_eq_true, Classical.not_not, Nat.reduceAdd, Nat.reduceSub, Nat.reduceBEq, Nat.reduceLT, Nat.reduceLeDiff, Nat.lt_add_one, px_tg, Int.cast_ofNat_Int, Int.reduceAdd, Int.reduceSub, Int.reduceMul, Int.reduceToNat, Int.reduceLE, Int.reduceLT, Int.reduceNeg, Int.reduceEq, Bool.or_false, Bool.false_or, Bool.or_true, Bool.true_or, List.length_cons, List.length_nil, List.nil_append, List.cons_append, Option.toList_some, Option.toList_none, reduceCtorEq, Option.some.injEq, Nat.zero_le, Nat.reduceMul, Nat.mul_zero, Nat.add_zero, Int.reduceDiv, Int.reduceMod, Int.toNat_natCast, Nat.lt_irrefl, Int.natCast_add, Int.cast_ofNat_Int, px_mds_RX11_0, px_mds_RX11_1, dec_X11_turn, px_eq_iff, px_lt_iff, px_le_iff, px_up_o, px_up_eq, px_up_ne, px_cp_o, pm_k, pm_l]
        refine c_X11_note R2.p R2.w (fun μ3 g1 g2 g3 => ?_)
        have R3 := R2.push g1 g2 g3
        have o5 : pm_at μ3 215 0 L1 := v3.same (g1 215 (by omega) (by omega))
        refine px_go (fun _ => false) 400 ?_
        simp (disch := omega) only [px_lits, false_implies, true_implies, px_dec_ok, px_run_s, px_rules, px_rule_is, px_mats, px_calls, ↓reduceIte, eq_self, Bool.false_eq_true, px_flds, px_o_some, px_fvs, px_pfs, px_cts, px_cls, px_acs_, px_acn, true_and, and_true, true_or, or_true, false_or, or_false, and_self, not_true_eq_false, not_false_eq_true, Classical.not_not, Nat.reduceAdd, Nat.reduceSub, Nat.reduceBEq, Nat.reduceLT, Nat.reduceLeDiff, Nat.lt_add_one, px_tg, Int.cast_ofNat_Int, Int.reduceAdd, Int.reduceSub, Int.reduceMul, Int.reduceToNat, Int.reduceLE, Int.reduceLT, Int.reduceNeg, Int.reduceEq, Bool.or_false, Bool.false_or, Bool.or_true, Bool.true_or, List.length_cons, List.length_nil, List.nil_append, List.cons_append, Option.toList_some, Option.toList_none, reduceCtorEq, Option.some.injEq, Nat.zero_le, Nat.reduceMul, Nat.mul_zero, Nat.add_zero, Int.reduceDiv, Int.reduceMod, Int.toNat_natCast, Nat.lt_irrefl, Int.natCast_add, Int.cast_ofNat_Int, px_mds_RX11_0, px_mds_RX11_1, dec_X11_turn, px_eq_iff, px_lt_iff, px_le_iff, px_up_o, px_up_eq, px_up_ne, px_cp_o, pm_k, pm_l]
        refine c_X11_bring pm_k.2.2.2.2.2.2.2.2.2.2.1 pm_k.2.2.1 (by omega) (by rw [pm_l.2.2.2.2.2.2.2.2.2.1]; omega) (by rw [pm_l.2.1]; omega) ?_
        have hj : L1[j]? = some L1[j] := List.getElem?_eq_getElem (by omega)
        have e5 : μ3 215 j = pm_pk L1[j] := by
          have := o5 j _ hj
          rwa [Int.zero_add] at this
        refine px_go (fun _ => false) 400 ?_
        simp (disch := omega) only [px_lits, false_implies, true_implies, px_dec_ok, px_run_s, px_rules, px_rule_is, px_mats, px_calls, ↓reduceIte, eq_self, Bool.false_eq_true, px_flds, px_o_some, px_fvs, px_pfs, px_cts, px_cls, px_acs_, px_acn, true_and, and_true, true_or, or_true, false_or, or_false, and_self, not_true_eq_false, not_false_eq_true, Classical.not_not, Nat.reduceAdd, Nat.reduceSub, Nat.reduceBEq, Nat.reduceLT, Nat.reduceLeDiff, Nat.lt_add_one, px_tg, Int.cast_ofNat_Int, Int.reduceAdd, Int.reduceSub, Int.reduceMul, Int.reduceToNat, Int.reduceLE, Int.reduceLT, Int.reduceNeg, Int.reduceEq, Bool.or_false, Bool.false_or, Bool.or_true, Bool.true_or, List.length_cons, List.length_nil, List.nil_append, List.cons_append, Option.toList_some, Option.toList_none, reduceCtorEq, Option.some.injEq, Nat.zero_le, Nat.reduceMul, Nat.mul_zero, Nat.add_zero, Int.reduceDiv, Int.reduceMod, Int.toNat_natCast, Nat.lt_irrefl, Int.natCast_add, Int.cast_ofNat_Int, px_mds_RX11_0, px_mds_RX11_1, dec_X11_turn, px_eq_iff, px_lt_iff, px_le_iff, px_up_o, px_up_eq, px_up_ne, px_cp_o, pm_k, pm_l, e5]
        refine ⟨by omega, ?_⟩
        refine c_X11_number (V1.ok (List.getElem_mem (by omega))) ?_
        refine px_go (fun _ => false) 400 ?_
        simp (disch := omega) only [px_lits, false_implies, true_implies, px_dec_ok, px_run_s, px_rules, px_rule_is, px_mats, px_calls, ↓reduceIte, eq_self, Bool.false_eq_true, px_flds, px_o_some, px_fvs, px_pfs, px_cts, px_cls, px_acs_, px_acn, true_and, and_true, true_or, or_true, false_or, or_false, and_self, not_true_eq_false, not_false_eq_true, Classical.not_not, Nat.reduceAdd, Nat.reduceSub, Nat.reduceBEq, Nat.reduceLT, Nat.reduceLeDiff, Nat.lt_add_one, px_tg, Int.cast_ofNat_Int, Int.reduceAdd, Int.reduceSub, Int.reduceMul, Int.reduceToNat, Int.reduceLE, Int.reduceLT, Int.reduceNeg, Int.reduceEq, Bool.or_false, Bool.false_or, Bool.or_true, Bool.true_or, List.length_cons, List.length_nil, List.nil_append, List.cons_append, Option.toList_some, Option.toList_none, reduceCtorEq, Option.some.injEq, Nat.zero_le, Nat.reduceMul, Nat.mul_zero, Nat.add_zero, Int.reduceDiv, Int.reduceMod, Int.toNat_natCast, Nat.lt_irrefl, Int.natCast_add, Int.cast_ofNat_Int, px_mds_RX11_0, px_mds_RX11_1, dec_X11_turn, px_eq_iff, px_lt_iff, px_le_iff, px_up_o, px_up_eq, px_up_ne, px_cp_o, pm_k, pm_l]
        have en : L1[j].1 = pc_num L1 j := by unfold pc_num; rw [hj]; rfl
        rw [en]
        refine hq.at rfl (fun o ho => ?_) ?_
        · rw [px_cp_o (by omega), g1 o (by omega) (by omega), v2 o (by omega), f1 o (by omega) (by omega)]
        · have h1 := R3.h1 hh
          refine R3.putn hh (fun o _ _ o3 => by rw [px_cp_o (by omega)]) (by rw [px_cp_o (by omega)]; exact ⟨rfl, rfl⟩) (by rw [px_cp_o (by omega)]; exact R3.n) (fun i hi => by rw [px_cp_out (by omega)]) ⟨?_, ?_, ?_, ?_, ?_⟩
          · rw [px_cp_out (by omega), h1.1]
            show ((pa_L A h).length : Int) = (L1.length : Int)
            rw [ll]
          · rw [px_cp_out (by omega)]
            exact h1.2.1
          · rw [px_cp_out (by omega)]
            exact h1.2.2.1
          · exact pm_at.cp o5 (by rw [ll]; exact Nat.le_refl _)
          · show L1.length ≤ 16
            omega
      · rw [v1] at hq
        refine px_go (fun _ => false) 400 ?_
        simp (disch := omega) only [px_lits, false_implies, true_implies, px_dec_ok, px_run_s, px_rules, px_rule_is, px_mats, px_calls, ↓reduceIte, eq_self, Bool.false_eq_true, px_flds, px_o_some, px_fvs, px_pfs, px_cts, px_cls, px_acs_, px_acn, true_and, and_true, true_or, or_true, false_or, or_false, and_self, not_true_eq_false, not_false_eq_true, Classical.not_not, Nat.reduceAdd, Nat.reduceSub, Nat.reduceBEq, Nat.reduceLT, Nat.reduceLeDiff, Nat.lt_add_one, px_tg, Int.cast_ofNat_Int, Int.reduceAdd, Int.reduceSub, Int.reduceMul, Int.reduceToNat, Int.reduceLE, Int.reduceLT, Int.reduceNeg, Int.reduceEq, Bool.or_false, Bool.false_or, Bool.or_true, Bool.true_or, List.length_cons, List.length_nil, List.nil_append, List.cons_append, Option.toList_some, Option.toList_none, reduceCtorEq, Option.some.injEq, Nat.zero_le, Nat.reduceMul, Nat.mul_zero, Nat.add_zero, Int.reduceDiv, Int.reduceMod, Int.toNat_natCast, Nat.lt_irrefl, Int.natCast_add, Int.cast_ofNat_Int, px_mds_RX11_0, px_mds_RX11_1, dec_X11_turn, px_eq_iff, px_lt_iff, px_le_iff, px_up_o, px_up_eq, px_up_ne, px_cp_o, pm_k, pm_l]
        exact hq.at rfl (fun o ho => f1 o (by omega) (by omega)) R1
    · refine px_go (fun _ => false) 400 ?_
      simp (disch := omega) only [px_lits, false_implies, true_implies, px_dec_ok, px_run_s, px_rules, px_rule_is, px_mats, px_calls, ↓reduceIte, eq_self, Bool.false_eq_true, px_flds, px_o_some, px_fvs, px_pfs, px_cts, px_cls, px_acs_, px_acn, true_and, and_true, true_or, or_true, false_or, or_false, and_self, not_true_eq_false, not_false_eq_true, Classical.not_not, Nat.reduceAdd, Nat.reduceSub, Nat.reduceBEq, Nat.reduceLT, Nat.reduceLeDiff, Nat.lt_add_one, px_tg, Int.cast_ofNat_Int, Int.reduceAdd, Int.reduceSub, Int.reduceMul, Int.reduceToNat, Int.reduceLE, Int.reduceLT, Int.reduceNeg, Int.reduceEq, Bool.or_false, Bool.false_or, Bool.or_true, Bool.true_or, List.length_cons, List.length_nil, List.nil_append, List.cons_append, Option.toList_some, Option.toList_none, reduceCtorEq, Option.some.injEq, Nat.zero_le, Nat.reduceMul, Nat.mul_zero, Nat.add_zero, Int.reduceDiv, Int.reduceMod, Int.toNat_natCast, Nat.lt_irrefl, Int.natCast_add, Int.cast_ofNat_Int, px_mds_RX11_0, px_mds_RX11_1, dec_X11_turn, px_eq_iff, px_lt_iff, px_le_iff, px_up_o, px_up_eq, px_up_ne, px_cp_o, pm_k, pm_l]
      refine hq.at ?_ (fun _ _ => rfl) R
      unfold pa_turn
      rw [if_pos]
      rw [Int.toNat_natCast]
      intro n
      exact w ⟨n.2.1, by omega⟩
  · refine px_go (fun _ => false) 400 ?_
    simp (disch := omega) only [px_lits, false_implies, true_implies, px_dec_ok, px_run_s, px_rules, px_rule_is, px_mats, px_calls, ↓reduceIte, eq_self, Bool.false_eq_true, px_flds, px_o_some, px_fvs, px_pfs, px_cts, px_cls, px_acs_, px_acn, true_and, and_true, true_or, or_true, false_or, or_false, and_self, not_true_eq_false, not_false_eq_true, Classical.not_not, Nat.reduceAdd, Nat.reduceSub, Nat.reduceBEq, Nat.reduceLT, Nat.reduceLeDiff, Nat.lt_add_one, px_tg, Int.cast_ofNat_Int, Int.reduceAdd, Int.reduceSub, Int.reduceMul, Int.reduceToNat, Int.reduceLE, Int.reduceLT, Int.reduceNeg, Int.reduceEq, Bool.or_false, Bool.false_or, Bool.or_true, Bool.true_or, List.length_cons, List.length_nil, List.nil_append, List.cons_append, Option.toList_some, Option.toList_none, reduceCtorEq, Option.some.injEq, Nat.zero_le, Nat.reduceMul, Nat.mul_zero, Nat.add_zero, Int.reduceDiv, Int.reduceMod, Int.toNat_natCast, Nat.lt_irrefl, Int.natCast_add, Int.cast_ofNat_Int, px_mds_RX11_0, px_mds_RX11_1, dec_X11_turn, px_eq_iff, px_lt_iff, px_le_iff, px_up_o, px_up_eq, px_up_ne, px_cp_o, pm_k, pm_l]
    refine hq.at ?_ (fun _ _ => rfl) R
    unfold pa_turn
    rw [if_pos (fun n => q n.1)]
set_option maxHeartbeats 4000000 in
set_option maxRecDepth 100000 in
theorem c_X11_undo {G : px_G} {A : pa_A} {μ : px_Mem} {Q : Option px_X → px_Mem → Prop} (R : pa_M A μ) (hq : pa_Qm μ (pa_undo A) Q) : px_C G yX11_undo cX11_undo 1 (some .int) 1 [.inr (.inl (some 205))] μ Q := by
  obtain ⟨p1, p2, p3⟩ := R.p
  refine px_enter RX11 (by decide +kernel) rfl (by simp) (by simp [px_c1]) ?_
  simp only [List.map_cons, List.map_nil, List.length_cons, List.length_nil, List.replicate, List.append_nil, Nat.reduceAdd, Nat.reduceSub, List.cons_append, List.nil_append]
  refine px_go (fun _ => false) 400 ?_
  simp (disch := omega) only [px_lits, false_implies, true_implies, px_dec_ok, px_run_s, px_rules, px_rule_is, px_mats, px_calls, ↓reduceIte, eq_self, Bool.false_eq_true, px_flds, px_o_some, px_fvs, px_pfs, px_cts, px_cls, px_acs_, px_acn, true_and, and_true, true_or, or_true, false_or, or_false, and_self, not_true_eq_false, not_false_eq_true, Classical.not_not, Nat.reduceAdd, Nat.reduceSub, Nat.reduceBEq, Nat.reduceLT, Nat.reduceLeDiff, Nat.lt_add_one, px_tg, Int.cast_ofNat_Int, Int.reduceAdd, Int.reduceSub, Int.reduceMul, Int.reduceToNat, Int.reduceLE, Int.reduceLT, Int.reduceNeg, Int.reduceEq, Bool.or_false, Bool.false_or, Bool.or_true, Bool.true_or, List.length_cons, List.length_nil, List.nil_append, List.cons_append, Option.toList_some, Option.toList_none, reduceCtorEq, Option.some.injEq, Nat.zero_le, Nat.reduceMul, Nat.mul_zero, Nat.add_zero, Int.reduceDiv, Int.reduceMod, Int.toNat_natCast, Nat.lt_irrefl, Int.natCast_add, Int.cast_ofNat_Int, px_mds_RX11_0, px_mds_RX11_1, dec_X11_undo, px_eq_iff, px_lt_iff, px_le_iff, px_up_o, px_up_eq, px_up_ne, px_cp_o, pm_k, pm_l, p1]
  refine ⟨fun w => ?_, fun w => ?_⟩
  · cases hp : A.past with
    | nil => rw [hp] at w; simp at w
    | cons s P =>
      rw [hp] at p1 p2 p3
      rw [List.length_cons] at p1 p2
      have e1 : (((s :: P).length : Nat) : Int) - 1 = (P.length : Int) := by rw [List.length_cons]; omega
      rw [e1]
      refine c_X11_bring (n := 38) pm_k.2.2.2.1 pm_k.2.2.1 (by omega) (by rw [pm_l.2.2.1]; omega) (by rw [pm_l.2.1]; omega) ?_
      refine px_go (fun _ => false) 400 ?_
      simp (disch := omega) only [px_lits, false_implies, true_implies, px_dec_ok, px_run_s, px_rules, px_rule_is, px_mats, px_calls, ↓reduceIte, eq_self, Bool.false_eq_true, px_flds, px_o_some, px_fvs, px_pfs, px_cts, px_cls, px_acs_, px_acn, true_and, and_true, true_or, or_true, false_or, or_false, and_self, not_true_eq_false, not_false_eq_true, Classical.not_not, Nat.reduceAdd, Nat.reduceSub, Nat.reduceBEq, Nat.reduceLT, Nat.reduceLeDiff, Nat.lt_add_one, px_tg, Int.cast_ofNat_Int, Int.reduceAdd, Int.reduceSub, Int.reduceMul, Int.reduceToNat, Int.reduceLE, Int.reduceLT, Int.reduceNeg, Int.reduceEq, Bool.or_false, Bool.false_or, Bool.or_true, Bool.true_or, List.length_cons, List.length_nil, List.nil_append, List.cons_append, Option.toList_some, Option.toList_none, reduceCtorEq, Option.some.injEq, Nat.zero_le, Nat.reduceMul, Nat.mul_zero, Nat.add_zero, Int.reduceDiv, Int.reduceMod, Int.toNat_natCast, Nat.lt_irrefl, Int.natCast_add, Int.cast_ofNat_Int, px_mds_RX11_0, px_mds_RX11_1, dec_X11_undo, px_eq_iff, px_lt_iff, px_le_iff, px_up_o, px_up_eq, px_up_ne, px_cp_o, pm_k, pm_l]
      have fr : ∀ o, o ≠ 207 → o ≠ 205 → px_cp (px_up μ 205 4 (P.length : Int)) 208 (38 * (P.length : Int)) 207 0 38 o = μ o := fun o o1 o2 => by rw [px_cp_o o1, px_up_o o2]
      have f5 : ∀ i, i ≠ 4 → px_cp (px_up μ 205 4 (P.length : Int)) 208 (38 * (P.length : Int)) 207 0 38 205 i = μ 205 i := fun i hi => by rw [px_cp_o (by omega), px_up_ne hi]
      refine hq.at (A1 := pa_mk A.beg A.num s P A.im A.sh) (by unfold pa_undo; rw [hp]) (fun o ho => fr o (by omega) (by omega)) ⟨by rw [f5 2 (by omega)]; exact R.n, R.b.same (f5 0 (by omega)) (fr _ (by omega) (by omega)), ?_, ⟨?_, by show P.length ≤ 8; omega, fun i t ht => ?_⟩, R.i.same (fr _ (by omega) (by omega)) (fr _ (by omega) (by omega)) rfl, R.s.same (fr _ (by omega) (by omega)) (fr _ (by omega) (by omega)) (fr _ (by omega) (by omega)) rfl⟩
      · have h0 := p3 0 s rfl
        refine h0.move (fun i i0 i1 => ?_)
        rw [px_cp_in (by omega), px_up_o (by omega)]
        congr 1
        rw [List.length_cons]
        omega
      · rw [px_cp_o (by omega), px_up_eq rfl]
        rfl
      · have hi := p3 (i + 1) t ht
        refine hi.move (fun j j0 j1 => ?_)
        rw [px_cp_o (by omega), px_up_o (by omega)]
        congr 1
        show 38 * ((P.length : Int) - 1 - i) + j = _
        rw [List.length_cons]
        omega
  · refine hq.at ?_ (fun _ _ => rfl) R
    have : A.past = [] := List.eq_nil_of_length_eq_zero (by omega)
    unfold pa_undo
    rw [this]
theorem pm_next {G : px_G} {b x : Int} {μ : px_Mem} {Q : Option px_X → px_Mem → Prop} (e : μ 205 21 = x) (hx : 0 ≤ x ∧ x < 2147483647) (hb : 1 ≤ b ∧ b < 2147483648) (h1 : ∀ μ1 : px_Mem, (∀ o, o ≠ 205 → μ1 o = μ o) → (∀ i, i ≠ 21 → μ1 205 i = μ 205 i) → μ1 205 21 = pa_lcg x → Q (some (.inl (pa_lcg x % b))) μ1) : px_C G yX11_drawn cX11_drawn 2 (some .int) 0 [.inr (.inl (some 205)), .inl b] μ Q := by
  subst e
  exact c_X11_drawn hx hb (h1 _ (fun o ho => px_up_o ho) (fun i hi => px_up_ne hi) (px_up_eq rfl))
set_option maxHeartbeats 4000000 in
set_option maxRecDepth 100000 in
theorem c_X11_isLot {G : px_G} {A : pa_A} {μ : px_Mem} {Q : Option px_X → px_Mem → Prop} (I : pa_I A) (R : pa_M A μ) {x : Int} (ex : μ 205 21 = x) (hx : 0 ≤ x ∧ x < 2147483647)
    (hq : ∀ μ1 : px_Mem, (∀ o, o < 205 → μ1 o = μ o) → pa_M (pa_lot A x).1 μ1 → μ1 205 21 = (pa_lot A x).2.1 → Q (some (.inl (pa_lot A x).2.2)) μ1) : px_C G yX11_isLot cX11_isLot 6 (some .boolean) 3 [.inr (.inl (some 205))] μ Q := by
  have x1 := pa_lcg_r hx
  have x2 := pa_lcg_r x1
  have x3 := pa_lcg_r x2
  have x4 := pa_lcg_r x3
  have hn := I.n
  refine px_enter RX11 (by decide +kernel) rfl (by simp) (by simp [px_c1]) ?_
  simp only [List.map_cons, List.map_nil, List.length_cons, List.length_nil, List.replicate, List.append_nil, Nat.reduceAdd, Nat.reduceSub, List.cons_append, List.nil_append]
  refine px_go (fun _ => false) 400 ?_
  simp (disch := omega) only [px_lits, false_implies, true_implies, px_dec_ok, px_run_s, px_rules, px_rule_is, px_mats, px_calls, ↓reduceIte, eq_self, Bool.false_eq_true, px_flds, px_o_some, px_fvs, px_pfs, px_cts, px_cls, px_acs_, px_acn, true_and, and_true, true_or, or_true, false_or, or_false, and_self, not_true_eq_false, not_false_eq_true, Classical.not_not, Nat.reduceAdd, Nat.reduceSub, Nat.reduceBEq, Nat.reduceLT, Nat.reduceLeDiff, Nat.lt_add_one, px_tg, Int.cast_ofNat_Int, Int.reduceAdd, Int.reduceSub, Int.reduceMul, Int.reduceToNat, Int.reduceLE, Int.reduceLT, Int.reduceNeg, Int.reduceEq, Bool.or_false, Bool.false_or, Bool.or_true, Bool.true_or, List.length_cons, List.length_nil, List.nil_append, List.cons_append, Option.toList_some, Option.toList_none, reduceCtorEq, Option.some.injEq, Nat.zero_le, Nat.reduceMul, Nat.mul_zero, Nat.add_zero, Int.reduceDiv, Int.reduceMod, Int.toNat_natCast, Nat.lt_irrefl, Int.natCast_add, Int.cast_ofNat_Int, px_mds_RX11_0, px_mds_RX11_1, dec_X11_isLot, px_eq_iff, px_lt_iff, px_le_iff, px_up_o, px_up_eq, px_up_ne, px_cp_o, pm_k, pm_l]
  refine pm_next ex hx (by omega) (fun μ1 f1 f15 g1 => ?_)
  obtain ⟨h, hh, eh⟩ := pa_nat (x := pa_lcg x % 2) (by unfold pa_isH; omega)
  have hT := (I.Tl h).1
  have st : pa_lot A x = pa_lot2 A h (if pa_lcg (pa_lcg x) % 3 = 2 then 1 else 0) (pa_lcg (pa_lcg x)) := by
    unfold pa_lot
    rw [eh, Int.toNat_natCast]
  rw [eh]
  rw [st] at hq
  refine px_go (fun _ => false) 400 ?_
  simp (disch := omega) only [px_lits, false_implies, true_implies, px_dec_ok, px_run_s, px_rules, px_rule_is, px_mats, px_calls, ↓reduceIte, eq_self, Bool.false_eq_true, px_flds, px_o_some, px_fvs, px_pfs, px_cts, px_cls, px_acs_, px_acn, true_and, and_true, true_or, or_true, false_or, or_false, and_self, not_true_eq_false, not_false_eq_true, Classical.not_not, Nat.reduceAdd, Nat.reduceSub, Nat.reduceBEq, Nat.reduceLT, Nat.reduceLeDiff, Nat.lt_add_one, px_tg, Int.cast_ofNat_Int, Int.reduceAdd, Int.reduceSub, Int.reduceMul, Int.reduceToNat, Int.reduceLE, Int.reduceLT, Int.reduceNeg, Int.reduceEq, Bool.or_false, Bool.false_or, Bool.or_true, Bool.true_or, List.length_cons, List.length_nil, List.nil_append, List.cons_append, Option.toList_some, Option.toList_none, reduceCtorEq, Option.some.injEq, Nat.zero_le, Nat.reduceMul, Nat.mul_zero, Nat.add_zero, Int.reduceDiv, Int.reduceMod, Int.toNat_natCast, Nat.lt_irrefl, Int.natCast_add, Int.cast_ofNat_Int, px_mds_RX11_0, px_mds_RX11_1, dec_X11_isLot, px_eq_iff, px_lt_iff, px_le_iff, px_up_o, px_up_eq, px_up_ne, px_cp_o, pm_k, pm_l]
  refine pm_next g1 x1 (by omega) (fun μ2 f2 f25 g2 => ?_)
  have R2 : pa_M A μ2 := R.same ⟨by rw [f25 0 (by omega), f15 0 (by omega)], by rw [f25 2 (by omega), f15 2 (by omega)], by rw [f25 4 (by omega), f15 4 (by omega)]⟩ (fun o _ _ => by rw [f2 o (by omega), f1 o (by omega)])
  have fin : ∀ (s p l z : Int) (μ3 : px_Mem), (s = 0 ∨ s = 1) → (∀ o, o < 205 → μ3 o = μ o) → pa_M A μ3 → (0 ≤ p ∧ p ≤ 28) → (0 ≤ l ∧ l ≤ 1000) → μ3 205 21 = z →
      (∀ μ4 : px_Mem, (∀ o, o < 205 → μ4 o = μ o) → pa_M (pa_lot3 A h s p l z).1 μ4 → μ4 205 21 = z → Q (some (.inl (pa_lot3 A h s p l z).2.2)) μ4) →
      px_J G RX11 cX11_isLot 6 (some .boolean) 3 76 [some (.inr (.inl (some 205))), some (.inl h), some (.inl s), some (.inl (pa_T A h).length), some (.inl p), none] [.inl l] μ3 Q := by
    intro s p l z μ3 hs fr R3 hp hl e2 hq3
    obtain ⟨l1, l2, l3⟩ := R3.hl hh
    have rn := R3.n
    refine px_go (fun _ => false) 400 ?_
    simp (disch := omega) only [px_lits, false_implies, true_implies, px_dec_ok, px_run_s, px_rules, px_rule_is, px_mats, px_calls, ↓reduceIte, eq_self, Bool.false_eq_true, px_flds, px_o_some, px_fvs, px_pfs, px_cts, px_cls, px_acs_, px_acn, true_and, and_true, true_or, or_true, false_or, or_false, and_self, not_true_eq_false, not_false_eq_true, Classical.not_not, Nat.reduceAdd, Nat.reduceSub, Nat.reduceBEq, Nat.reduceLT, Nat.reduceLeDiff, Nat.lt_add_one, px_tg, Int.cast_ofNat_Int, Int.reduceAdd, Int.reduceSub, Int.reduceMul, Int.reduceToNat, Int.reduceLE, Int.reduceLT, Int.reduceNeg, Int.reduceEq, Bool.or_false, Bool.false_or, Bool.or_true, Bool.true_or, List.length_cons, List.length_nil, List.nil_append, List.cons_append, Option.toList_some, Option.toList_none, reduceCtorEq, Option.some.injEq, Nat.zero_le, Nat.reduceMul, Nat.mul_zero, Nat.add_zero, Int.reduceDiv, Int.reduceMod, Int.toNat_natCast, Nat.lt_irrefl, Int.natCast_add, Int.cast_ofNat_Int, px_mds_RX11_0, px_mds_RX11_1, dec_X11_isLot, px_eq_iff, px_lt_iff, px_le_iff, px_up_o, px_up_eq, px_up_ne, px_cp_o, pm_k, pm_l]
    refine c_X11_isFull hh hs (by omega) (by omega) (by omega) (fun v => ?_) (fun v => ?_)
    · have rm : pa_room A h s := ⟨by omega, by omega, by omega⟩
      have e3 : pa_lot3 A h s p l z = (pa_app A h s p l, z, 1) := by
        unfold pa_lot3
        rw [if_pos rm]
      rw [e3] at hq3
      refine px_go (fun _ => false) 400 ?_
      simp (disch := omega) only [px_lits, false_implies, true_implies, px_dec_ok, px_run_s, px_rules, px_rule_is, px_mats, px_calls, ↓reduceIte, eq_self, Bool.false_eq_true, px_flds, px_o_some, px_fvs, px_pfs, px_cts, px_cls, px_acs_, px_acn, true_and, and_true, true_or, or_true, false_or, or_false, and_self, not_true_eq_false, not_false_eq_true, Classical.not_not, Nat.reduceAdd, Nat.reduceSub, Nat.reduceBEq, Nat.reduceLT, Nat.reduceLeDiff, Nat.lt_add_one, px_tg, Int.cast_ofNat_Int, Int.reduceAdd, Int.reduceSub, Int.reduceMul, Int.reduceToNat, Int.reduceLE, Int.reduceLT, Int.reduceNeg, Int.reduceEq, Bool.or_false, Bool.false_or, Bool.or_true, Bool.true_or, List.length_cons, List.length_nil, List.nil_append, List.cons_append, Option.toList_some, Option.toList_none, reduceCtorEq, Option.some.injEq, Nat.zero_le, Nat.reduceMul, Nat.mul_zero, Nat.add_zero, Int.reduceDiv, Int.reduceMod, Int.toNat_natCast, Nat.lt_irrefl, Int.natCast_add, Int.cast_ofNat_Int, px_mds_RX11_0, px_mds_RX11_1, dec_X11_isLot, px_eq_iff, px_lt_iff, px_le_iff, px_up_o, px_up_eq, px_up_ne, px_cp_o, pm_k, pm_l]
      refine c_X11_recorded (v := A.now) hh R3.w rm.2.1 (fun μ4 b1 b2 b3 b4 => ?_)
      refine px_go (fun _ => false) 400 ?_
      simp (disch := omega) only [px_lits, false_implies, true_implies, px_dec_ok, px_run_s, px_rules, px_rule_is, px_mats, px_calls, ↓reduceIte, eq_self, Bool.false_eq_true, px_flds, px_o_some, px_fvs, px_pfs, px_cts, px_cls, px_acs_, px_acn, true_and, and_true, true_or, or_true, false_or, or_false, and_self, not_true_eq_false, not_false_eq_true, Classical.not_not, Nat.reduceAdd, Nat.reduceSub, Nat.reduceBEq, Nat.reduceLT, Nat.reduceLeDiff, Nat.lt_add_one, px_tg, Int.cast_ofNat_Int, Int.reduceAdd, Int.reduceSub, Int.reduceMul, Int.reduceToNat, Int.reduceLE, Int.reduceLT, Int.reduceNeg, Int.reduceEq, Bool.or_false, Bool.false_or, Bool.or_true, Bool.true_or, List.length_cons, List.length_nil, List.nil_append, List.cons_append, Option.toList_some, Option.toList_none, reduceCtorEq, Option.some.injEq, Nat.zero_le, Nat.reduceMul, Nat.mul_zero, Nat.add_zero, Int.reduceDiv, Int.reduceMod, Int.toNat_natCast, Nat.lt_irrefl, Int.natCast_add, Int.cast_ofNat_Int, px_mds_RX11_0, px_mds_RX11_1, dec_X11_isLot, px_eq_iff, px_lt_iff, px_le_iff, px_up_o, px_up_eq, px_up_ne, px_cp_o, pm_k, pm_l]
      rw [rn] at b3 b4
      refine hq3 μ4 (fun o ho => by rw [b1 o (by omega) (by omega), fr o ho]) ?_ (by rw [b2 21 (by omega)]; exact e2)
      exact ⟨b3, R3.b.same (b2 0 (by omega)) (b1 _ (by omega) (by omega)), b4, R3.p.same (b2 4 (by omega)) (b1 _ (by omega) (by omega)), R3.i.same (b1 _ (by omega) (by omega)) (b1 _ (by omega) (by omega)) rfl, R3.s.same (b1 _ (by omega) (by omega)) (b1 _ (by omega) (by omega)) (b1 _ (by omega) (by omega)) rfl⟩
    · have e3 : pa_lot3 A h s p l z = (A, z, 0) := by
        unfold pa_lot3
        rw [if_neg]
        intro rm
        have := rm.1; have := rm.2.1; have := rm.2.2
        omega
      rw [e3] at hq3
      refine px_go (fun _ => false) 400 ?_
      simp (disch := omega) only [px_lits, false_implies, true_implies, px_dec_ok, px_run_s, px_rules, px_rule_is, px_mats, px_calls, ↓reduceIte, eq_self, Bool.false_eq_true, px_flds, px_o_some, px_fvs, px_pfs, px_cts, px_cls, px_acs_, px_acn, true_and, and_true, true_or, or_true, false_or, or_false, and_self, not_true_eq_false, not_false_eq_true, Classical.not_not, Nat.reduceAdd, Nat.reduceSub, Nat.reduceBEq, Nat.reduceLT, Nat.reduceLeDiff, Nat.lt_add_one, px_tg, Int.cast_ofNat_Int, Int.reduceAdd, Int.reduceSub, Int.reduceMul, Int.reduceToNat, Int.reduceLE, Int.reduceLT, Int.reduceNeg, Int.reduceEq, Bool.or_false, Bool.false_or, Bool.or_true, Bool.true_or, List.length_cons, List.length_nil, List.nil_append, List.cons_append, Option.toList_some, Option.toList_none, reduceCtorEq, Option.some.injEq, Nat.zero_le, Nat.reduceMul, Nat.mul_zero, Nat.add_zero, Int.reduceDiv, Int.reduceMod, Int.toNat_natCast, Nat.lt_irrefl, Int.natCast_add, Int.cast_ofNat_Int, px_mds_RX11_0, px_mds_RX11_1, dec_X11_isLot, px_eq_iff, px_lt_iff, px_le_iff, px_up_o, px_up_eq, px_up_ne, px_cp_o, pm_k, pm_l]
      exact hq3 μ3 fr R3 e2
  by_cases hs : pa_lcg (pa_lcg x) % 3 = 2
  · rw [if_pos hs] at hq
    refine px_go (fun p => p == 76) 400 ?_
    simp (disch := omega) only [px_lits, false_implies, true_implies, px_dec_ok, px_run_s, px_rules, px_rule_is, px_mats, px_calls, ↓reduceIte, eq_self, Bool.false_eq_true, px_flds, px_o_some, px_fvs, px_pfs, px_cts, px_cls, px_acs_, px_acn, true_and, and_true, true_or, or_true, false_or, or_false, and_self, not_true_eq_false, not_false_eq_true, Classical.not_not, Nat.reduceAdd, Nat.reduceSub, Nat.reduceBEq, Nat.reduceLT, Nat.reduceLeDiff, Nat.lt_add_one, px_tg, Int.cast_ofNat_Int, Int.reduceAdd, Int.reduceSub, Int.reduceMul, Int.reduceToNat, Int.reduceLE, Int.reduceLT, Int.reduceNeg, Int.reduceEq, Bool.or_false, Bool.false_or, Bool.or_true, Bool.true_or, List.length_cons, List.length_nil, List.nil_append, List.cons_append, Option.toList_some, Option.toList_none, reduceCtorEq, Option.some.injEq, Nat.zero_le, Nat.reduceMul, Nat.mul_zero, Nat.add_zero, Int.reduceDiv, Int.reduceMod, Int.toNat_natCast, Nat.lt_irrefl, Int.natCast_add, Int.cast_ofNat_Int, px_mds_RX11_0, px_mds_RX11_1, dec_X11_isLot, px_eq_iff, px_lt_iff, px_le_iff, px_up_o, px_up_eq, px_up_ne, px_cp_o, pm_k, pm_l, hs]
    refine pm_text I R2 hh (fun μ3 f3 f4 R3 t1 => ?_)
    have m4 : μ3 205 21 = pa_lcg (pa_lcg x) := by rw [f3 205 (by omega)]; exact g2
    refine px_go (fun p => p == 76) 400 ?_
    simp (disch := omega) only [px_lits, false_implies, true_implies, px_dec_ok, px_run_s, px_rules, px_rule_is, px_mats, px_calls, ↓reduceIte, eq_self, Bool.false_eq_true, px_flds, px_o_some, px_fvs, px_pfs, px_cts, px_cls, px_acs_, px_acn, true_and, and_true, true_or, or_true, false_or, or_false, and_self, not_true_eq_false, not_false_eq_true, Classical.not_not, Nat.reduceAdd, Nat.reduceSub, Nat.reduceBEq, Nat.reduceLT, Nat.reduceLeDiff, Nat.lt_add_one, px_tg, Int.cast_ofNat_Int, Int.reduceAdd, Int.reduceSub, Int.reduceMul, Int.reduceToNat, Int.reduceLE, Int.reduceLT, Int.reduceNeg, Int.reduceEq, Bool.or_false, Bool.false_or, Bool.or_true, Bool.true_or, List.length_cons, List.length_nil, List.nil_append, List.cons_append, Option.toList_some, Option.toList_none, reduceCtorEq, Option.some.injEq, Nat.zero_le, Nat.reduceMul, Nat.mul_zero, Nat.add_zero, Int.reduceDiv, Int.reduceMod, Int.toNat_natCast, Nat.lt_irrefl, Int.natCast_add, Int.cast_ofNat_Int, px_mds_RX11_0, px_mds_RX11_1, dec_X11_isLot, px_eq_iff, px_lt_iff, px_le_iff, px_up_o, px_up_eq, px_up_ne, px_cp_o, pm_k, pm_l, hs]
    refine ⟨fun v => ?_, fun v => ?_⟩
    · have e2 : pa_lot2 A h 1 (pa_lcg (pa_lcg x)) = pa_lot3 A h 1 (pa_lcg (pa_lcg (pa_lcg x)) % (pa_T A h).length) (pa_at (pa_T A h) (pa_lcg (pa_lcg (pa_lcg x)) % (pa_T A h).length)) (pa_lcg (pa_lcg (pa_lcg x))) := by
        unfold pa_lot2
        rw [if_pos rfl, if_neg (by omega)]
      rw [e2] at hq
      have hm := pa_mod (pa_lcg (pa_lcg (pa_lcg x))) (show 0 < ((pa_T A h).length : Int) by omega)
      refine pm_next m4 x2 (by omega) (fun μ4 f4 f45 g4 => ?_)
      have e9 : μ4 219 (32 * h + pa_lcg (pa_lcg (pa_lcg x)) % ((pa_T A h).length : Int)) = pa_at (pa_T A h) (pa_lcg (pa_lcg (pa_lcg x)) % ((pa_T A h).length : Int)) := by
        rw [f4 219 (by omega)]
        exact pm_il_at t1 hm.1 hm.2
      have el : 97 ≤ pa_at (pa_T A h) (pa_lcg (pa_lcg (pa_lcg x)) % ((pa_T A h).length : Int)) ∧ pa_at (pa_T A h) (pa_lcg (pa_lcg (pa_lcg x)) % ((pa_T A h).length : Int)) ≤ 122 := by
        unfold pa_at
        rw [List.getElem?_eq_getElem (by omega)]
        exact (I.Tl h).2 _ (List.getElem_mem _)
      refine px_go (fun p => p == 76) 400 ?_
      simp (disch := omega) only [px_lits, false_implies, true_implies, px_dec_ok, px_run_s, px_rules, px_rule_is, px_mats, px_calls, ↓reduceIte, eq_self, Bool.false_eq_true, px_flds, px_o_some, px_fvs, px_pfs, px_cts, px_cls, px_acs_, px_acn, true_and, and_true, true_or, or_true, false_or, or_false, and_self, not_true_eq_false, not_false_eq_true, Classical.not_not, Nat.reduceAdd, Nat.reduceSub, Nat.reduceBEq, Nat.reduceLT, Nat.reduceLeDiff, Nat.lt_add_one, px_tg, Int.cast_ofNat_Int, Int.reduceAdd, Int.reduceSub, Int.reduceMul, Int.reduceToNat, Int.reduceLE, Int.reduceLT, Int.reduceNeg, Int.reduceEq, Bool.or_false, Bool.false_or, Bool.or_true, Bool.true_or, List.length_cons, List.length_nil, List.nil_append, List.cons_append, Option.toList_some, Option.toList_none, reduceCtorEq, Option.some.injEq, Nat.zero_le, Nat.reduceMul, Nat.mul_zero, Nat.add_zero, Int.reduceDiv, Int.reduceMod, Int.toNat_natCast, Nat.lt_irrefl, Int.natCast_add, Int.cast_ofNat_Int, px_mds_RX11_0, px_mds_RX11_1, dec_X11_isLot, px_eq_iff, px_lt_iff, px_le_iff, px_up_o, px_up_eq, px_up_ne, px_cp_o, pm_k, pm_l, hs, e9]
      refine ⟨by omega, ?_⟩
      refine fin 1 _ _ _ μ4 (.inr rfl) (fun o ho => by rw [f4 o (by omega), f3 o (by omega), f2 o (by omega), f1 o (by omega)]) (R3.same ⟨f45 0 (by omega), f45 2 (by omega), f45 4 (by omega)⟩ (fun o _ _ => f4 o (by omega))) (by omega) (by omega) g4 (fun μ5 c1 c2 c3 => ?_)
      refine hq μ5 c1 c2 ?_
      rw [c3]
      unfold pa_lot3
      split <;> rfl
    · have e2 : pa_lot2 A h 1 (pa_lcg (pa_lcg x)) = (A, pa_lcg (pa_lcg x), 0) := by
        unfold pa_lot2
        rw [if_pos rfl, if_pos (by omega)]
      rw [e2] at hq
      exact hq μ3 (fun o ho => by rw [f3 o (by omega), f2 o (by omega), f1 o (by omega)]) R3 m4
  · rw [if_neg hs] at hq
    have e2 : pa_lot2 A h 0 (pa_lcg (pa_lcg x)) = pa_lot3 A h 0 (pa_lcg (pa_lcg (pa_lcg x)) % ((pa_T A h).length + 1)) (97 + pa_lcg (pa_lcg (pa_lcg (pa_lcg x))) % 26) (pa_lcg (pa_lcg (pa_lcg (pa_lcg x)))) := by
      unfold pa_lot2
      rw [if_neg (by omega)]
    rw [e2] at hq
    have hs0 : pa_lcg (pa_lcg x) % 3 / 2 = 0 := by omega
    refine px_go (fun p => p == 76) 400 ?_
    simp (disch := omega) only [px_lits, false_implies, true_implies, px_dec_ok, px_run_s, px_rules, px_rule_is, px_mats, px_calls, ↓reduceIte, eq_self, Bool.false_eq_true, px_flds, px_o_some, px_fvs, px_pfs, px_cts, px_cls, px_acs_, px_acn, true_and, and_true, true_or, or_true, false_or, or_false, and_self, not_true_eq_false, not_false_eq_true, Classical.not_not, Nat.reduceAdd, Nat.reduceSub, Nat.reduceBEq, Nat.reduceLT, Nat.reduceLeDiff, Nat.lt_add_one, px_tg, Int.cast_ofNat_Int, Int.reduceAdd, Int.reduceSub, Int.reduceMul, Int.reduceToNat, Int.reduceLE, Int.reduceLT, Int.reduceNeg, Int.reduceEq, Bool.or_false, Bool.false_or, Bool.or_true, Bool.true_or, List.length_cons, List.length_nil, List.nil_append, List.cons_append, Option.toList_some, Option.toList_none, reduceCtorEq, Option.some.injEq, Nat.zero_le, Nat.reduceMul, Nat.mul_zero, Nat.add_zero, Int.reduceDiv, Int.reduceMod, Int.toNat_natCast, Nat.lt_irrefl, Int.natCast_add, Int.cast_ofNat_Int, px_mds_RX11_0, px_mds_RX11_1, dec_X11_isLot, px_eq_iff, px_lt_iff, px_le_iff, px_up_o, px_up_eq, px_up_ne, px_cp_o, pm_k, pm_l, hs0]
    refine ⟨by omega, ?_⟩
    refine pm_text I R2 hh (fun μ3 f3 f4 R3 t1 => ?_)
    have m4 : μ3 205 21 = pa_lcg (pa_lcg x) := by rw [f3 205 (by omega)]; exact g2
    refine px_go (fun p => p == 76) 400 ?_
    simp (disch := omega) only [px_lits, false_implies, true_implies, px_dec_ok, px_run_s, px_rules, px_rule_is, px_mats, px_calls, ↓reduceIte, eq_self, Bool.false_eq_true, px_flds, px_o_some, px_fvs, px_pfs, px_cts, px_cls, px_acs_, px_acn, true_and, and_true, true_or, or_true, false_or, or_false, and_self, not_true_eq_false, not_false_eq_true, Classical.not_not, Nat.reduceAdd, Nat.reduceSub, Nat.reduceBEq, Nat.reduceLT, Nat.reduceLeDiff, Nat.lt_add_one, px_tg, Int.cast_ofNat_Int, Int.reduceAdd, Int.reduceSub, Int.reduceMul, Int.reduceToNat, Int.reduceLE, Int.reduceLT, Int.reduceNeg, Int.reduceEq, Bool.or_false, Bool.false_or, Bool.or_true, Bool.true_or, List.length_cons, List.length_nil, List.nil_append, List.cons_append, Option.toList_some, Option.toList_none, reduceCtorEq, Option.some.injEq, Nat.zero_le, Nat.reduceMul, Nat.mul_zero, Nat.add_zero, Int.reduceDiv, Int.reduceMod, Int.toNat_natCast, Nat.lt_irrefl, Int.natCast_add, Int.cast_ofNat_Int, px_mds_RX11_0, px_mds_RX11_1, dec_X11_isLot, px_eq_iff, px_lt_iff, px_le_iff, px_up_o, px_up_eq, px_up_ne, px_cp_o, pm_k, pm_l]
    have hm := pa_mod (pa_lcg (pa_lcg (pa_lcg x))) (show 0 < ((pa_T A h).length : Int) + 1 by omega)
    refine pm_next m4 x2 (by omega) (fun μ4 f4 f45 g4 => ?_)
    refine px_go (fun p => p == 76) 400 ?_
    simp (disch := omega) only [px_lits, false_implies, true_implies, px_dec_ok, px_run_s, px_rules, px_rule_is, px_mats, px_calls, ↓reduceIte, eq_self, Bool.false_eq_true, px_flds, px_o_some, px_fvs, px_pfs, px_cts, px_cls, px_acs_, px_acn, true_and, and_true, true_or, or_true, false_or, or_false, and_self, not_true_eq_false, not_false_eq_true, Classical.not_not, Nat.reduceAdd, Nat.reduceSub, Nat.reduceBEq, Nat.reduceLT, Nat.reduceLeDiff, Nat.lt_add_one, px_tg, Int.cast_ofNat_Int, Int.reduceAdd, Int.reduceSub, Int.reduceMul, Int.reduceToNat, Int.reduceLE, Int.reduceLT, Int.reduceNeg, Int.reduceEq, Bool.or_false, Bool.false_or, Bool.or_true, Bool.true_or, List.length_cons, List.length_nil, List.nil_append, List.cons_append, Option.toList_some, Option.toList_none, reduceCtorEq, Option.some.injEq, Nat.zero_le, Nat.reduceMul, Nat.mul_zero, Nat.add_zero, Int.reduceDiv, Int.reduceMod, Int.toNat_natCast, Nat.lt_irrefl, Int.natCast_add, Int.cast_ofNat_Int, px_mds_RX11_0, px_mds_RX11_1, dec_X11_isLot, px_eq_iff, px_lt_iff, px_le_iff, px_up_o, px_up_eq, px_up_ne, px_cp_o, pm_k, pm_l]
    refine pm_next g4 x3 (by omega) (fun μ5 f5 f55 g5 => ?_)
    refine px_go (fun p => p == 76) 400 ?_
    simp (disch := omega) only [px_lits, false_implies, true_implies, px_dec_ok, px_run_s, px_rules, px_rule_is, px_mats, px_calls, ↓reduceIte, eq_self, Bool.false_eq_true, px_flds, px_o_some, px_fvs, px_pfs, px_cts, px_cls, px_acs_, px_acn, true_and, and_true, true_or, or_true, false_or, or_false, and_self, not_true_eq_false, not_false_eq_true, Classical.not_not, Nat.reduceAdd, Nat.reduceSub, Nat.reduceBEq, Nat.reduceLT, Nat.reduceLeDiff, Nat.lt_add_one, px_tg, Int.cast_ofNat_Int, Int.reduceAdd, Int.reduceSub, Int.reduceMul, Int.reduceToNat, Int.reduceLE, Int.reduceLT, Int.reduceNeg, Int.reduceEq, Bool.or_false, Bool.false_or, Bool.or_true, Bool.true_or, List.length_cons, List.length_nil, List.nil_append, List.cons_append, Option.toList_some, Option.toList_none, reduceCtorEq, Option.some.injEq, Nat.zero_le, Nat.reduceMul, Nat.mul_zero, Nat.add_zero, Int.reduceDiv, Int.reduceMod, Int.toNat_natCast, Nat.lt_irrefl, Int.natCast_add, Int.cast_ofNat_Int, px_mds_RX11_0, px_mds_RX11_1, dec_X11_isLot, px_eq_iff, px_lt_iff, px_le_iff, px_up_o, px_up_eq, px_up_ne, px_cp_o, pm_k, pm_l]
    refine fin 0 _ _ _ μ5 (.inl rfl) (fun o ho => by rw [f5 o (by omega), f4 o (by omega), f3 o (by omega), f2 o (by omega), f1 o (by omega)]) (R3.same ⟨by rw [f55 0 (by omega), f45 0 (by omega)], by rw [f55 2 (by omega), f45 2 (by omega)], by rw [f55 4 (by omega), f45 4 (by omega)]⟩ (fun o _ _ => by rw [f5 o (by omega), f4 o (by omega)])) (by omega) (by omega) g5 (fun μ6 c1 c2 c3 => ?_)
    refine hq μ6 c1 c2 ?_
    rw [c3]
    unfold pa_lot3
    split <;> rfl
set_option maxHeartbeats 4000000 in
set_option maxRecDepth 100000 in
theorem c_X11_drift {G : px_G} {A : pa_A} {n s : Int} {μ : px_Mem} {Q : Option px_X → px_Mem → Prop} (I : pa_I A) (R : pa_M A μ) (hn : -2147483648 ≤ n ∧ n < 2147483648) (hs : -2147483648 ≤ s ∧ s < 2147483648) (hq : pa_Qm μ (pa_drift A n s) Q) : px_C G yX11_drift cX11_drift 5 (some .int) 4 [.inr (.inl (some 205)), .inl n, .inl s] μ Q := by
  have loop : ∀ (m : Nat) (A1 : pa_A) (x d j : Int) (μ1 : px_Mem), n ≤ 20 → n = j + m → 0 ≤ j → (0 ≤ d ∧ d ≤ j) → pa_I A1 → pa_M A1 μ1 → μ1 205 21 = x → (0 ≤ x ∧ x < 2147483647) → (∀ o, o < 205 → μ1 o = μ o) → pa_Qm μ (pa_lots m A1 x d) Q →
      px_J G RX11 cX11_drift 5 (some .int) 4 38 [some (.inr (.inl (some 205))), some (.inl n), some (.inl s), some (.inl d), some (.inl j)] [] μ1 Q := by
    intro m
    induction m with
    | zero =>
      intro A1 x d j μ1 g0 g1 g2 g3 I1 R1 ex hx fr hq1
      refine px_go (fun p => p == 38) 400 ?_
      simp (disch := omega) only [px_lits, false_implies, true_implies, px_dec_ok, px_run_s, px_rules, px_rule_is, px_mats, px_calls, ↓reduceIte, eq_self, Bool.false_eq_true, px_flds, px_o_some, px_fvs, px_pfs, px_cts, px_cls, px_acs_, px_acn, true_and, and_true, true_or, or_true, false_or, or_false, and_self, not_true_eq_false, not_false_eq_true, Classical.not_not, Nat.reduceAdd, Nat.reduceSub, Nat.reduceBEq, Nat.reduceLT, Nat.reduceLeDiff, Nat.lt_add_one, px_tg, Int.cast_ofNat_Int, Int.reduceAdd, Int.reduceSub, Int.reduceMul, Int.reduceToNat, Int.reduceLE, Int.reduceLT, Int.reduceNeg, Int.reduceEq, Bool.or_false, Bool.false_or, Bool.or_true, Bool.true_or, List.length_cons, List.length_nil, List.nil_append, List.cons_append, Option.toList_some, Option.toList_none, reduceCtorEq, Option.some.injEq, Nat.zero_le, Nat.reduceMul, Nat.mul_zero, Nat.add_zero, Int.reduceDiv, Int.reduceMod, Int.toNat_natCast, Nat.lt_irrefl, Int.natCast_add, Int.cast_ofNat_Int, px_mds_RX11_0, px_mds_RX11_1, dec_X11_drift, px_eq_iff, px_lt_iff, px_le_iff, px_up_o, px_up_eq, px_up_ne, px_cp_o, pm_k, pm_l]
      exact ⟨fun _ => hq1.at rfl fr R1, fun v => by omega⟩
    | succ m ih =>
      intro A1 x d j μ1 g0 g1 g2 g3 I1 R1 ex hx fr hq1
      refine px_go (fun p => p == 38) 400 ?_
      simp (disch := omega) only [px_lits, false_implies, true_implies, px_dec_ok, px_run_s, px_rules, px_rule_is, px_mats, px_calls, ↓reduceIte, eq_self, Bool.false_eq_true, px_flds, px_o_some, px_fvs, px_pfs, px_cts, px_cls, px_acs_, px_acn, true_and, and_true, true_or, or_true, false_or, or_false, and_self, not_true_eq_false, not_false_eq_true, Classical.not_not, Nat.reduceAdd, Nat.reduceSub, Nat.reduceBEq, Nat.reduceLT, Nat.reduceLeDiff, Nat.lt_add_one, px_tg, Int.cast_ofNat_Int, Int.reduceAdd, Int.reduceSub, Int.reduceMul, Int.reduceToNat, Int.reduceLE, Int.reduceLT, Int.reduceNeg, Int.reduceEq, Bool.or_false, Bool.false_or, Bool.or_true, Bool.true_or, List.length_cons, List.length_nil, List.nil_append, List.cons_append, Option.toList_some, Option.toList_none, reduceCtorEq, Option.some.injEq, Nat.zero_le, Nat.reduceMul, Nat.mul_zero, Nat.add_zero, Int.reduceDiv, Int.reduceMod, Int.toNat_natCast, Nat.lt_irrefl, Int.natCast_add, Int.cast_ofNat_Int, px_mds_RX11_0, px_mds_RX11_1, dec_X11_drift, px_eq_iff, px_lt_iff, px_le_iff, px_up_o, px_up_eq, px_up_ne, px_cp_o, pm_k, pm_l]
      refine ⟨fun v => by omega, fun _ => ?_⟩
      have li := pi_lot I1 hx
      refine c_X11_isLot I1 R1 ex hx (fun μ2 f2 R2 e2 => ?_)
      have hq2 : pa_Qm μ (pa_lots m (pa_lot A1 x).1 (pa_lot A1 x).2.1 (d + (pa_lot A1 x).2.2)) Q := hq1
      have l01 := pa_lot_01 A1 x
      have nx := ih (pa_lot A1 x).1 (pa_lot A1 x).2.1 (d + (pa_lot A1 x).2.2) (j + 1) μ2 g0 (by omega) (by omega) (by omega) li.1 R2 e2 li.2 (fun o ho => by rw [f2 o ho, fr o ho]) hq2
      rcases l01 with e | e
      · rw [e] at nx ⊢
        refine px_go (fun p => p == 38) 400 ?_
        simp (disch := omega) only [px_lits, false_implies, true_implies, px_dec_ok, px_run_s, px_rules, px_rule_is, px_mats, px_calls, ↓reduceIte, eq_self, Bool.false_eq_true, px_flds, px_o_some, px_fvs, px_pfs, px_cts, px_cls, px_acs_, px_acn, true_and, and_true, true_or, or_true, false_or, or_false, and_self, not_true_eq_false, not_false_eq_true, Classical.not_not, Nat.reduceAdd, Nat.reduceSub, Nat.reduceBEq, Nat.reduceLT, Nat.reduceLeDiff, Nat.lt_add_one, px_tg, Int.cast_ofNat_Int, Int.reduceAdd, Int.reduceSub, Int.reduceMul, Int.reduceToNat, Int.reduceLE, Int.reduceLT, Int.reduceNeg, Int.reduceEq, Bool.or_false, Bool.false_or, Bool.or_true, Bool.true_or, List.length_cons, List.length_nil, List.nil_append, List.cons_append, Option.toList_some, Option.toList_none, reduceCtorEq, Option.some.injEq, Nat.zero_le, Nat.reduceMul, Nat.mul_zero, Nat.add_zero, Int.reduceDiv, Int.reduceMod, Int.toNat_natCast, Nat.lt_irrefl, Int.natCast_add, Int.cast_ofNat_Int, px_mds_RX11_0, px_mds_RX11_1, dec_X11_drift, px_eq_iff, px_lt_iff, px_le_iff, px_up_o, px_up_eq, px_up_ne, px_cp_o, pm_k, pm_l]
        exact nx
      · rw [e] at nx ⊢
        refine px_go (fun p => p == 38) 400 ?_
        simp (disch := omega) only [px_lits, false_implies, true_implies, px_dec_ok, px_run_s, px_rules, px_rule_is, px_mats, px_calls, ↓reduceIte, eq_self, Bool.false_eq_true, px_flds, px_o_some, px_fvs, px_pfs, px_cts, px_cls, px_acs_, px_acn, true_and, and_true, true_or, or_true, false_or, or_false, and_self, not_true_eq_false, not_false_eq_true, Classical.not_not, Nat.reduceAdd, Nat.reduceSub, Nat.reduceBEq, Nat.reduceLT, Nat.reduceLeDiff, Nat.lt_add_one, px_tg, Int.cast_ofNat_Int, Int.reduceAdd, Int.reduceSub, Int.reduceMul, Int.reduceToNat, Int.reduceLE, Int.reduceLT, Int.reduceNeg, Int.reduceEq, Bool.or_false, Bool.false_or, Bool.or_true, Bool.true_or, List.length_cons, List.length_nil, List.nil_append, List.cons_append, Option.toList_some, Option.toList_none, reduceCtorEq, Option.some.injEq, Nat.zero_le, Nat.reduceMul, Nat.mul_zero, Nat.add_zero, Int.reduceDiv, Int.reduceMod, Int.toNat_natCast, Nat.lt_irrefl, Int.natCast_add, Int.cast_ofNat_Int, px_mds_RX11_0, px_mds_RX11_1, dec_X11_drift, px_eq_iff, px_lt_iff, px_le_iff, px_up_o, px_up_eq, px_up_ne, px_cp_o, pm_k, pm_l]
        exact nx
  have no : ¬ ((1 ≤ n ∧ n ≤ 20) ∧ (1 ≤ s ∧ s ≤ 999999)) → Q (some (.inl (-1000000002))) μ := fun v => hq.at (by unfold pa_drift; rw [if_pos v]) (fun _ _ => rfl) R
  refine px_enter RX11 (by decide +kernel) rfl (by simp) (by simp [px_c1]) ?_
  simp only [List.map_cons, List.map_nil, List.length_cons, List.length_nil, List.replicate, List.append_nil, Nat.reduceAdd, Nat.reduceSub, List.cons_append, List.nil_append]
  refine px_go (fun p => p == 38) 400 ?_
  simp (disch := omega) only [px_lits, false_implies, true_implies, px_dec_ok, px_run_s, px_rules, px_rule_is, px_mats, px_calls, ↓reduceIte, eq_self, Bool.false_eq_true, px_flds, px_o_some, px_fvs, px_pfs, px_cts, px_cls, px_acs_, px_acn, true_and, and_true, true_or, or_true, false_or, or_false, and_self, not_true_eq_false, not_false_eq_true, Classical.not_not, Nat.reduceAdd, Nat.reduceSub, Nat.reduceBEq, Nat.reduceLT, Nat.reduceLeDiff, Nat.lt_add_one, px_tg, Int.cast_ofNat_Int, Int.reduceAdd, Int.reduceSub, Int.reduceMul, Int.reduceToNat, Int.reduceLE, Int.reduceLT, Int.reduceNeg, Int.reduceEq, Bool.or_false, Bool.false_or, Bool.or_true, Bool.true_or, List.length_cons, List.length_nil, List.nil_append, List.cons_append, Option.toList_some, Option.toList_none, reduceCtorEq, Option.some.injEq, Nat.zero_le, Nat.reduceMul, Nat.mul_zero, Nat.add_zero, Int.reduceDiv, Int.reduceMod, Int.toNat_natCast, Nat.lt_irrefl, Int.natCast_add, Int.cast_ofNat_Int, px_mds_RX11_0, px_mds_RX11_1, dec_X11_drift, px_eq_iff, px_lt_iff, px_le_iff, px_up_o, px_up_eq, px_up_ne, px_cp_o, pm_k, pm_l]
  refine c_X11_in hn (by omega) (by omega) (fun a => ?_) (fun a => ?_)
  · refine px_go (fun p => p == 38) 400 ?_
    simp (disch := omega) only [px_lits, false_implies, true_implies, px_dec_ok, px_run_s, px_rules, px_rule_is, px_mats, px_calls, ↓reduceIte, eq_self, Bool.false_eq_true, px_flds, px_o_some, px_fvs, px_pfs, px_cts, px_cls, px_acs_, px_acn, true_and, and_true, true_or, or_true, false_or, or_false, and_self, not_true_eq_false, not_false_eq_true, Classical.not_not, Nat.reduceAdd, Nat.reduceSub, Nat.reduceBEq, Nat.reduceLT, Nat.reduceLeDiff, Nat.lt_add_one, px_tg, Int.cast_ofNat_Int, Int.reduceAdd, Int.reduceSub, Int.reduceMul, Int.reduceToNat, Int.reduceLE, Int.reduceLT, Int.reduceNeg, Int.reduceEq, Bool.or_false, Bool.false_or, Bool.or_true, Bool.true_or, List.length_cons, List.length_nil, List.nil_append, List.cons_append, Option.toList_some, Option.toList_none, reduceCtorEq, Option.some.injEq, Nat.zero_le, Nat.reduceMul, Nat.mul_zero, Nat.add_zero, Int.reduceDiv, Int.reduceMod, Int.toNat_natCast, Nat.lt_irrefl, Int.natCast_add, Int.cast_ofNat_Int, px_mds_RX11_0, px_mds_RX11_1, dec_X11_drift, px_eq_iff, px_lt_iff, px_le_iff, px_up_o, px_up_eq, px_up_ne, px_cp_o, pm_k, pm_l]
    refine c_X11_in hs (by omega) (by omega) (fun b => ?_) (fun b => ?_)
    · have st : pa_drift A n s = pa_lots n.toNat (pa_push A) s 0 := by unfold pa_drift; rw [if_neg (fun w => w ⟨a, b⟩)]
      rw [st] at hq
      refine px_go (fun p => p == 38) 400 ?_
      simp (disch := omega) only [px_lits, false_implies, true_implies, px_dec_ok, px_run_s, px_rules, px_rule_is, px_mats, px_calls, ↓reduceIte, eq_self, Bool.false_eq_true, px_flds, px_o_some, px_fvs, px_pfs, px_cts, px_cls, px_acs_, px_acn, true_and, and_true, true_or, or_true, false_or, or_false, and_self, not_true_eq_false, not_false_eq_true, Classical.not_not, Nat.reduceAdd, Nat.reduceSub, Nat.reduceBEq, Nat.reduceLT, Nat.reduceLeDiff, Nat.lt_add_one, px_tg, Int.cast_ofNat_Int, Int.reduceAdd, Int.reduceSub, Int.reduceMul, Int.reduceToNat, Int.reduceLE, Int.reduceLT, Int.reduceNeg, Int.reduceEq, Bool.or_false, Bool.false_or, Bool.or_true, Bool.true_or, List.length_cons, List.length_nil, List.nil_append, List.cons_append, Option.toList_some, Option.toList_none, reduceCtorEq, Option.some.injEq, Nat.zero_le, Nat.reduceMul, Nat.mul_zero, Nat.add_zero, Int.reduceDiv, Int.reduceMod, Int.toNat_natCast, Nat.lt_irrefl, Int.natCast_add, Int.cast_ofNat_Int, px_mds_RX11_0, px_mds_RX11_1, dec_X11_drift, px_eq_iff, px_lt_iff, px_le_iff, px_up_o, px_up_eq, px_up_ne, px_cp_o, pm_k, pm_l]
      refine c_X11_note R.p R.w (fun μ1 g1 g2 g3 => ?_)
      have R1 := R.push g1 g2 g3
      refine px_go (fun p => p == 38) 400 ?_
      simp (disch := omega) only [px_lits, false_implies, true_implies, px_dec_ok, px_run_s, px_rules, px_rule_is, px_mats, px_calls, ↓reduceIte, eq_self, Bool.false_eq_true, px_flds, px_o_some, px_fvs, px_pfs, px_cts, px_cls, px_acs_, px_acn, true_and, and_true, true_or, or_true, false_or, or_false, and_self, not_true_eq_false, not_false_eq_true, Classical.not_not, Nat.reduceAdd, Nat.reduceSub, Nat.reduceBEq, Nat.reduceLT, Nat.reduceLeDiff, Nat.lt_add_one, px_tg, Int.cast_ofNat_Int, Int.reduceAdd, Int.reduceSub, Int.reduceMul, Int.reduceToNat, Int.reduceLE, Int.reduceLT, Int.reduceNeg, Int.reduceEq, Bool.or_false, Bool.false_or, Bool.or_true, Bool.true_or, List.length_cons, List.length_nil, List.nil_append, List.cons_append, Option.toList_some, Option.toList_none, reduceCtorEq, Option.some.injEq, Nat.zero_le, Nat.reduceMul, Nat.mul_zero, Nat.add_zero, Int.reduceDiv, Int.reduceMod, Int.toNat_natCast, Nat.lt_irrefl, Int.natCast_add, Int.cast_ofNat_Int, px_mds_RX11_0, px_mds_RX11_1, dec_X11_drift, px_eq_iff, px_lt_iff, px_le_iff, px_up_o, px_up_eq, px_up_ne, px_cp_o, pm_k, pm_l]
      exact ⟨hs, loop n.toNat (pa_push A) s 0 0 _ a.2 (by omega) (by omega) (by omega) I.push (R1.same ⟨px_up_ne (by omega), px_up_ne (by omega), px_up_ne (by omega)⟩ (fun o _ _ => px_up_o (by omega))) (px_up_eq rfl) (by omega) (fun o ho => by rw [px_up_o (by omega), g1 o (by omega) (by omega)]) hq⟩
    · refine px_go (fun p => p == 38) 400 ?_
      simp (disch := omega) only [px_lits, false_implies, true_implies, px_dec_ok, px_run_s, px_rules, px_rule_is, px_mats, px_calls, ↓reduceIte, eq_self, Bool.false_eq_true, px_flds, px_o_some, px_fvs, px_pfs, px_cts, px_cls, px_acs_, px_acn, true_and, and_true, true_or, or_true, false_or, or_false, and_self, not_true_eq_false, not_false_eq_true, Classical.not_not, Nat.reduceAdd, Nat.reduceSub, Nat.reduceBEq, Nat.reduceLT, Nat.reduceLeDiff, Nat.lt_add_one, px_tg, Int.cast_ofNat_Int, Int.reduceAdd, Int.reduceSub, Int.reduceMul, Int.reduceToNat, Int.reduceLE, Int.reduceLT, Int.reduceNeg, Int.reduceEq, Bool.or_false, Bool.false_or, Bool.or_true, Bool.true_or, List.length_cons, List.length_nil, List.nil_append, List.cons_append, Option.toList_some, Option.toList_none, reduceCtorEq, Option.some.injEq, Nat.zero_le, Nat.reduceMul, Nat.mul_zero, Nat.add_zero, Int.reduceDiv, Int.reduceMod, Int.toNat_natCast, Nat.lt_irrefl, Int.natCast_add, Int.cast_ofNat_Int, px_mds_RX11_0, px_mds_RX11_1, dec_X11_drift, px_eq_iff, px_lt_iff, px_le_iff, px_up_o, px_up_eq, px_up_ne, px_cp_o, pm_k, pm_l]
      exact no (fun n => b n.2)
  · refine px_go (fun p => p == 38) 400 ?_
    simp (disch := omega) only [px_lits, false_implies, true_implies, px_dec_ok, px_run_s, px_rules, px_rule_is, px_mats, px_calls, ↓reduceIte, eq_self, Bool.false_eq_true, px_flds, px_o_some, px_fvs, px_pfs, px_cts, px_cls, px_acs_, px_acn, true_and, and_true, true_or, or_true, false_or, or_false, and_self, not_true_eq_false, not_false_eq_true, Classical.not_not, Nat.reduceAdd, Nat.reduceSub, Nat.reduceBEq, Nat.reduceLT, Nat.reduceLeDiff, Nat.lt_add_one, px_tg, Int.cast_ofNat_Int, Int.reduceAdd, Int.reduceSub, Int.reduceMul, Int.reduceToNat, Int.reduceLE, Int.reduceLT, Int.reduceNeg, Int.reduceEq, Bool.or_false, Bool.false_or, Bool.or_true, Bool.true_or, List.length_cons, List.length_nil, List.nil_append, List.cons_append, Option.toList_some, Option.toList_none, reduceCtorEq, Option.some.injEq, Nat.zero_le, Nat.reduceMul, Nat.mul_zero, Nat.add_zero, Int.reduceDiv, Int.reduceMod, Int.toNat_natCast, Nat.lt_irrefl, Int.natCast_add, Int.cast_ofNat_Int, px_mds_RX11_0, px_mds_RX11_1, dec_X11_drift, px_eq_iff, px_lt_iff, px_le_iff, px_up_o, px_up_eq, px_up_ne, px_cp_o, pm_k, pm_l]
    exact no (fun n => a n.1)
