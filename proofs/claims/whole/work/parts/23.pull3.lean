theorem pc_do_mem {T T1 : List Int} {c : pc_Ch} (h : pc_do T c = some T1) : ∀ x ∈ T1, x ∈ T ∨ x = c.2.2.2 := by
  unfold pc_do at h
  split at h
  · split at h
    · rename_i h1
      cases h
      intro x hx
      rw [List.mem_insertIdx (by omega)] at hx
      rcases hx with hx | hx
      · exact Or.inr hx
      · exact Or.inl hx
    · cases h
  · split at h
    · cases h
      intro x hx
      exact Or.inl (List.mem_of_mem_eraseIdx hx)
    · cases h
set_option maxHeartbeats 4000000 in
set_option maxRecDepth 100000 in
theorem c_X6_fits {G : px_G} {w f n : Nat} {μ : px_Mem} {Q : Option px_X → px_Mem → Prop} (hw : px_kd w = 8) (hw2 : w < 183) (hf : μ 188 3 = f) (hc : μ 188 4 = n) (hfn : f + n ≤ 16) (hn : 0 ≤ μ w 1 ∧ μ w 1 ≤ 28) (hT : ∀ x ∈ pc_tx μ w, 97 ≤ x ∧ x ≤ 122) (hB : pc_bd 60 (pc_sg μ 195 196 197 198 f n)) (hBl : ∀ c ∈ pc_sg μ 195 196 197 198 f n, 97 ≤ c.2.2.2 ∧ c.2.2.2 ≤ 122) (hr : pc_room (μ w 1) (pc_sg μ 195 196 197 198 f n))
    (h1 : ∀ (T1 : List Int) (μ1 : px_Mem), pc_dos (pc_tx μ w) (pc_sg μ 195 196 197 198 f n) = some T1 → (∀ o, o ≠ w → o ≠ w + 1 → μ1 o = μ o) → Q (some (.inl 1)) μ1) (h0 : ∀ μ1 : px_Mem, pc_dos (pc_tx μ w) (pc_sg μ 195 196 197 198 f n) = none → (∀ o, o ≠ w → o ≠ w + 1 → μ1 o = μ o) → Q (some (.inl 0)) μ1) : px_C G yX6_fits cX6_fits 3 (some .boolean) 2 [.inr (.inl (some 188)), .inr (.inl (some w))] μ Q := by
  obtain ⟨k188, k189, k194, k199⟩ := pc_kp
  obtain ⟨tk, tl⟩ := pc_hk k194
  have loop : ∀ (m : Nat) (c : Int) (μ1 : px_Mem), f ≤ c → c + m = f + n → (∀ o, o ≠ w → o ≠ w + 1 → μ1 o = μ o) → (0 ≤ μ1 w 1 ∧ μ1 w 1 ≤ 28) → (∀ x ∈ pc_tx μ1 w, 97 ≤ x ∧ x ≤ 122) → pc_bd 60 (pc_sg μ 195 196 197 198 c m) → (∀ e ∈ pc_sg μ 195 196 197 198 c m, 97 ≤ e.2.2.2 ∧ e.2.2.2 ≤ 122) → pc_room (μ1 w 1) (pc_sg μ 195 196 197 198 c m) → pc_dos (pc_tx μ w) (pc_sg μ 195 196 197 198 f n) = pc_dos (pc_tx μ1 w) (pc_sg μ 195 196 197 198 c m) →
      px_J G RX6 cX6_fits 3 (some .boolean) 2 5 [some (.inr (.inl (some 188))), some (.inr (.inl (some w))), some (.inl c)] [] μ1 Q := by
    intro m
    induction m with
    | zero =>
      intro c μ1 h2 h3 h4 h5 h6 h7 h8 h9 h10
      have g188 : μ1 188 = μ 188 := h4 _ (by omega) (by omega)
      refine px_go (fun p => p == 5) 400 ?_
      simp (disch := omega) only [px_lits, false_implies, true_implies, px_dec_ok, px_run_s, px_rules, px_rule_is, px_mats, px_calls, ↓reduceIte, eq_self, Bool.false_eq_true, px_flds, px_o_some, px_fvs, px_pfs, px_cts, px_cls, px_acs_, px_acn, true_and, and_true, true_or, or_true, false_or, or_false, and_self, not_true_eq_false, not_false_eq_true, Classical.not_not, Nat.reduceAdd, Nat.reduceSub, Nat.reduceBEq, Nat.reduceLT, Nat.reduceLeDiff, Nat.lt_add_one, px_tg, Int.cast_ofNat_Int, Int.reduceAdd, Int.reduceSub, Int.reduceMul, Int.reduceToNat, Int.reduceLE, Int.reduceLT, Int.reduceNeg, Int.reduceEq, Bool.or_false, Bool.false_or, Bool.or_true, Bool.true_or, List.length_cons, List.length_nil, List.nil_append, List.cons_append, Option.toList_some, Option.toList_none, reduceCtorEq, Option.some.injEq, Nat.zero_le, Nat.reduceMul, Nat.mul_zero, Nat.add_zero, Int.reduceDiv, Int.reduceMod, Int.toNat_natCast, Nat.lt_irrefl, Int.natCast_add, Int.cast_ofNat_Int, px_mds_RX6_0, dec_X6_fits, px_eq_iff, px_lt_iff, px_le_iff, px_up_o, px_up_eq, px_up_ne, px_cp_o, k188, k194, g188, hf, hc]
      exact ⟨fun _ => h1 _ μ1 h10 h4, fun q => absurd (by omega) q⟩
    | succ m ih =>
      intro c μ1 h2 h3 h4 h5 h6 h7 h8 h9 h10
      have g188 : μ1 188 = μ 188 := h4 _ (by omega) (by omega)
      have g196 : μ1 196 = μ 196 := h4 _ (by omega) (by omega)
      have g197 : μ1 197 = μ 197 := h4 _ (by omega) (by omega)
      have g198 : μ1 198 = μ 198 := h4 _ (by omega) (by omega)
      have b1 := h7 (μ 195 c, μ 196 c, μ 197 c, μ 198 c) List.mem_cons_self
      have b2 := h8 (μ 195 c, μ 196 c, μ 197 c, μ 198 c) List.mem_cons_self
      dsimp only at b1 b2
      have st : pc_dos (pc_tx μ1 w) (pc_sg μ 195 196 197 198 c (m + 1)) = (pc_do (pc_tx μ1 w) (μ 195 c, μ 196 c, μ 197 c, μ 198 c)).bind (fun T => pc_dos T (pc_sg μ 195 196 197 198 (c + 1) m)) := rfl
      rw [st] at h10
      have hrm : μ1 w 1 + (if μ 196 c = 0 then 1 else -1) ≤ 24 ∧ pc_room (μ1 w 1 + (if μ 196 c = 0 then 1 else -1)) (pc_sg μ 195 196 197 198 (c + 1) m) := h9
      refine px_go (fun p => p == 5) 400 ?_
      simp (disch := omega) only [px_lits, false_implies, true_implies, px_dec_ok, px_run_s, px_rules, px_rule_is, px_mats, px_calls, ↓reduceIte, eq_self, Bool.false_eq_true, px_flds, px_o_some, px_fvs, px_pfs, px_cts, px_cls, px_acs_, px_acn, true_and, and_true, true_or, or_true, false_or, or_false, and_self, not_true_eq_false, not_false_eq_true, Classical.not_not, Nat.reduceAdd, Nat.reduceSub, Nat.reduceBEq, Nat.reduceLT, Nat.reduceLeDiff, Nat.lt_add_one, px_tg, Int.cast_ofNat_Int, Int.reduceAdd, Int.reduceSub, Int.reduceMul, Int.reduceToNat, Int.reduceLE, Int.reduceLT, Int.reduceNeg, Int.reduceEq, Bool.or_false, Bool.false_or, Bool.or_true, Bool.true_or, List.length_cons, List.length_nil, List.nil_append, List.cons_append, Option.toList_some, Option.toList_none, reduceCtorEq, Option.some.injEq, Nat.zero_le, Nat.reduceMul, Nat.mul_zero, Nat.add_zero, Int.reduceDiv, Int.reduceMod, Int.toNat_natCast, Nat.lt_irrefl, Int.natCast_add, Int.cast_ofNat_Int, px_mds_RX6_0, dec_X6_fits, px_eq_iff, px_lt_iff, px_le_iff, px_up_o, px_up_eq, px_up_ne, px_cp_o, k188, k194, g188, g196, g197, g198, hf, hc, hw, tk, tl]
      refine ⟨fun q => by omega, fun _ => ?_⟩
      repeat refine ⟨by omega, ?_⟩
      refine c_X9_fits (n := μ 195 c) hw h5 b1.2.1 (by omega) (by omega) (fun i i0 i1 => h6 _ (List.mem_of_getElem? (pc_tx_at i0 i1))) (fun T2 e1 => ?_) (fun e1 => ?_)
      · have hTl : T2.length = (μ1 w 1 + (if μ 196 c = 0 then 1 else -1)).toNat := by
          have hl := pc_tx_len (μ := μ1) (w := w)
          rcases b1.2.1 with e | e
          · rw [e] at e1
            rw [pc_do_put] at e1
            split at e1
            · cases e1
              rw [List.length_insertIdx, if_pos (by omega), hl, e, if_pos rfl]
              omega
            · cases e1
          · rw [e] at e1
            rw [pc_do_out] at e1
            split at e1
            · rename_i q
              have := (List.getElem?_eq_some_iff.mp q.2).1
              cases e1
              rw [List.length_eraseIdx_of_lt this, hl, e, if_neg (by decide)]
              omega
            · cases e1
        refine px_go (fun p => p == 5) 400 ?_
        simp (disch := omega) only [px_lits, false_implies, true_implies, px_dec_ok, px_run_s, px_rules, px_rule_is, px_mats, px_calls, ↓reduceIte, eq_self, Bool.false_eq_true, px_flds, px_o_some, px_fvs, px_pfs, px_cts, px_cls, px_acs_, px_acn, true_and, and_true, true_or, or_true, false_or, or_false, and_self, not_true_eq_false, not_false_eq_true, Classical.not_not, Nat.reduceAdd, Nat.reduceSub, Nat.reduceBEq, Nat.reduceLT, Nat.reduceLeDiff, Nat.lt_add_one, px_tg, Int.cast_ofNat_Int, Int.reduceAdd, Int.reduceSub, Int.reduceMul, Int.reduceToNat, Int.reduceLE, Int.reduceLT, Int.reduceNeg, Int.reduceEq, Bool.or_false, Bool.false_or, Bool.or_true, Bool.true_or, List.length_cons, List.length_nil, List.nil_append, List.cons_append, Option.toList_some, Option.toList_none, reduceCtorEq, Option.some.injEq, Nat.zero_le, Nat.reduceMul, Nat.mul_zero, Nat.add_zero, Int.reduceDiv, Int.reduceMod, Int.toNat_natCast, Nat.lt_irrefl, Int.natCast_add, Int.cast_ofNat_Int, px_mds_RX6_0, dec_X6_fits, px_eq_iff, px_lt_iff, px_le_iff, px_up_o, px_up_eq, px_up_ne, px_cp_o, k188, k194, g188, g196, g197, g198, hf, hc, hw, tk, tl]
        repeat refine ⟨by omega, ?_⟩
        refine c_X9_apply (n := μ 195 c) hw h5 b1.2.1 e1 (by omega) (fun μ2 f1 f2 f3 => ?_)
        rw [e1, Option.bind_some] at h10
        have hge : 0 ≤ μ1 w 1 + (if μ 196 c = 0 then 1 else -1) := by
          rcases b1.2.1 with e | e
          · rw [e, if_pos rfl]; omega
          · rw [e, pc_do_out] at e1
            split at e1
            · rename_i q
              have := (List.getElem?_eq_some_iff.mp q.2).1
              rw [pc_tx_len] at this
              rw [e, if_neg (by decide)]
              omega
            · cases e1
        refine px_go (fun p => p == 5) 400 ?_
        simp (disch := omega) only [px_lits, false_implies, true_implies, px_dec_ok, px_run_s, px_rules, px_rule_is, px_mats, px_calls, ↓reduceIte, eq_self, Bool.false_eq_true, px_flds, px_o_some, px_fvs, px_pfs, px_cts, px_cls, px_acs_, px_acn, true_and, and_true, true_or, or_true, false_or, or_false, and_self, not_true_eq_false, not_false_eq_true, Classical.not_not, Nat.reduceAdd, Nat.reduceSub, Nat.reduceBEq, Nat.reduceLT, Nat.reduceLeDiff, Nat.lt_add_one, px_tg, Int.cast_ofNat_Int, Int.reduceAdd, Int.reduceSub, Int.reduceMul, Int.reduceToNat, Int.reduceLE, Int.reduceLT, Int.reduceNeg, Int.reduceEq, Bool.or_false, Bool.false_or, Bool.or_true, Bool.true_or, List.length_cons, List.length_nil, List.nil_append, List.cons_append, Option.toList_some, Option.toList_none, reduceCtorEq, Option.some.injEq, Nat.zero_le, Nat.reduceMul, Nat.mul_zero, Nat.add_zero, Int.reduceDiv, Int.reduceMod, Int.toNat_natCast, Nat.lt_irrefl, Int.natCast_add, Int.cast_ofNat_Int, px_mds_RX6_0, dec_X6_fits, px_eq_iff, px_lt_iff, px_le_iff, px_up_o, px_up_eq, px_up_ne, px_cp_o, k188, k194, hf, hc, hw]
        refine ih (c + 1) μ2 (by omega) (by omega) (fun o o1 o2 => by rw [f1 o o1 o2, h4 o o1 o2]) (by omega) (fun x hx => ?_) (fun x hx => h7 x (List.mem_cons_of_mem _ hx)) (fun x hx => h8 x (List.mem_cons_of_mem _ hx)) ?_ (by rw [f2]; exact h10)
        · rw [f2] at hx
          rcases pc_do_mem e1 x hx with q | q
          · exact h6 x q
          · rw [q]; exact b2
        · rw [f3, hTl, Int.toNat_of_nonneg hge]
          exact hrm.2
      · refine px_go (fun p => p == 5) 400 ?_
        simp (disch := omega) only [px_lits, false_implies, true_implies, px_dec_ok, px_run_s, px_rules, px_rule_is, px_mats, px_calls, ↓reduceIte, eq_self, Bool.false_eq_true, px_flds, px_o_some, px_fvs, px_pfs, px_cts, px_cls, px_acs_, px_acn, true_and, and_true, true_or, or_true, false_or, or_false, and_self, not_true_eq_false, not_false_eq_true, Classical.not_not, Nat.reduceAdd, Nat.reduceSub, Nat.reduceBEq, Nat.reduceLT, Nat.reduceLeDiff, Nat.lt_add_one, px_tg, Int.cast_ofNat_Int, Int.reduceAdd, Int.reduceSub, Int.reduceMul, Int.reduceToNat, Int.reduceLE, Int.reduceLT, Int.reduceNeg, Int.reduceEq, Bool.or_false, Bool.false_or, Bool.or_true, Bool.true_or, List.length_cons, List.length_nil, List.nil_append, List.cons_append, Option.toList_some, Option.toList_none, reduceCtorEq, Option.some.injEq, Nat.zero_le, Nat.reduceMul, Nat.mul_zero, Nat.add_zero, Int.reduceDiv, Int.reduceMod, Int.toNat_natCast, Nat.lt_irrefl, Int.natCast_add, Int.cast_ofNat_Int, px_mds_RX6_0, dec_X6_fits, px_eq_iff, px_lt_iff, px_le_iff, px_up_o, px_up_eq, px_up_ne, px_cp_o, k188, k194, hf, hc, hw]
        rw [e1] at h10
        exact h0 μ1 h10 h4
  refine px_enter RX6 (by decide +kernel) rfl (by simp) (by simp [px_c1]) ?_
  simp only [List.map_cons, List.map_nil, List.length_cons, List.length_nil, List.replicate, List.append_nil, Nat.reduceAdd, Nat.reduceSub, List.cons_append, List.nil_append]
  refine px_go (fun p => p == 5) 400 ?_
  simp (disch := omega) only [px_lits, false_implies, true_implies, px_dec_ok, px_run_s, px_rules, px_rule_is, px_mats, px_calls, ↓reduceIte, eq_self, Bool.false_eq_true, px_flds, px_o_some, px_fvs, px_pfs, px_cts, px_cls, px_acs_, px_acn, true_and, and_true, true_or, or_true, false_or, or_false, and_self, not_true_eq_false, not_false_eq_true, Classical.not_not, Nat.reduceAdd, Nat.reduceSub, Nat.reduceBEq, Nat.reduceLT, Nat.reduceLeDiff, Nat.lt_add_one, px_tg, Int.cast_ofNat_Int, Int.reduceAdd, Int.reduceSub, Int.reduceMul, Int.reduceToNat, Int.reduceLE, Int.reduceLT, Int.reduceNeg, Int.reduceEq, Bool.or_false, Bool.false_or, Bool.or_true, Bool.true_or, List.length_cons, List.length_nil, List.nil_append, List.cons_append, Option.toList_some, Option.toList_none, reduceCtorEq, Option.some.injEq, Nat.zero_le, Nat.reduceMul, Nat.mul_zero, Nat.add_zero, Int.reduceDiv, Int.reduceMod, Int.toNat_natCast, Nat.lt_irrefl, Int.natCast_add, Int.cast_ofNat_Int, px_mds_RX6_0, dec_X6_fits, px_eq_iff, px_lt_iff, px_le_iff, px_up_o, px_up_eq, px_up_ne, px_cp_o, k188, k194, hf, hc, hw]
  exact loop n f μ (by omega) (by omega) (fun _ _ _ => rfl) hn hT hB hBl hr rfl
set_option maxHeartbeats 4000000 in
set_option maxRecDepth 100000 in
theorem c_X6_giveTo {G : px_G} {h f n : Nat} {μ : px_Mem} {Q : Option px_X → px_Mem → Prop} (hh : px_kd h = 0) (h8 : h < 100) (hf : μ 188 3 = f) (hc : μ 188 4 = n) (hfn : f + n ≤ 16) (ho : 0 ≤ μ 189 4) (hon : μ 189 4 + n ≤ 16)
    (h1 : ∀ μ1 : px_Mem, (∀ o, (o < h ∨ h + 4 < o) → μ1 o = μ o) → μ1 h 4 = μ 189 4 + n → pc_hl μ1 h = pc_hl μ 189 ++ pc_sg μ 195 196 197 198 f n → Q none μ1) : px_C G yX6_giveTo cX6_giveTo 3 none 2 [.inr (.inl (some 188)), .inr (.inl (some h))] μ Q := by
  obtain ⟨k188, k189, k194, k199⟩ := pc_kp
  obtain ⟨tk, tl⟩ := pc_hk k194
  have loop : ∀ (m : Nat) (c : Int) (D : List pc_Ch) (μ1 : px_Mem), f ≤ c → c + m = f + n → (∀ o, (o < h ∨ h + 4 < o) → μ1 o = μ o) → μ1 h 4 = μ 189 4 + (c - f) → pc_hl μ1 h = pc_hl μ 189 ++ D → pc_sg μ 195 196 197 198 f n = D ++ pc_sg μ 195 196 197 198 c m →
      px_J G RX6 cX6_giveTo 3 none 2 13 [some (.inr (.inl (some 188))), some (.inr (.inl (some h))), some (.inl c)] [] μ1 Q := by
    intro m
    induction m with
    | zero =>
      intro c D μ1 h2 h3 h4 h5 h6 h7
      have g188 : μ1 188 = μ 188 := h4 _ (by omega)
      refine px_go (fun p => p == 13) 400 ?_
      simp (disch := omega) only [px_lits, false_implies, true_implies, px_dec_ok, px_run_s, px_rules, px_rule_is, px_mats, px_calls, ↓reduceIte, eq_self, Bool.false_eq_true, px_flds, px_o_some, px_fvs, px_pfs, px_cts, px_cls, px_acs_, px_acn, true_and, and_true, true_or, or_true, false_or, or_false, and_self, not_true_eq_false, not_false_eq_true, Classical.not_not, Nat.reduceAdd, Nat.reduceSub, Nat.reduceBEq, Nat.reduceLT, Nat.reduceLeDiff, Nat.lt_add_one, px_tg, Int.cast_ofNat_Int, Int.reduceAdd, Int.reduceSub, Int.reduceMul, Int.reduceToNat, Int.reduceLE, Int.reduceLT, Int.reduceNeg, Int.reduceEq, Bool.or_false, Bool.false_or, Bool.or_true, Bool.true_or, List.length_cons, List.length_nil, List.nil_append, List.cons_append, Option.toList_some, Option.toList_none, reduceCtorEq, Option.some.injEq, Nat.zero_le, Nat.reduceMul, Nat.mul_zero, Nat.add_zero, Int.reduceDiv, Int.reduceMod, Int.toNat_natCast, Nat.lt_irrefl, Int.natCast_add, Int.cast_ofNat_Int, px_mds_RX6_0, dec_X6_giveTo, px_eq_iff, px_lt_iff, px_le_iff, px_up_o, px_up_eq, px_up_ne, px_cp_o, k188, k194, g188, hf, hc]
      refine ⟨fun _ => h1 μ1 h4 (by omega) ?_, fun q => absurd (by omega) q⟩
      rw [h6, h7]
      simp [pc_sg]
    | succ m ih =>
      intro c D μ1 h2 h3 h4 h5 h6 h7
      have g188 : μ1 188 = μ 188 := h4 _ (by omega)
      have g195 : μ1 195 = μ 195 := h4 _ (by omega)
      have g196 : μ1 196 = μ 196 := h4 _ (by omega)
      have g197 : μ1 197 = μ 197 := h4 _ (by omega)
      have g198 : μ1 198 = μ 198 := h4 _ (by omega)
      refine px_go (fun p => p == 13) 400 ?_
      simp (disch := omega) only [px_lits, false_implies, true_implies, px_dec_ok, px_run_s, px_rules, px_rule_is, px_mats, px_calls, ↓reduceIte, eq_self, Bool.false_eq_true, px_flds, px_o_some, px_fvs, px_pfs, px_cts, px_cls, px_acs_, px_acn, true_and, and_true, true_or, or_true, false_or, or_false, and_self, not_true_eq_false, not_false_eq_true, Classical.not_not, Nat.reduceAdd, Nat.reduceSub, Nat.reduceBEq, Nat.reduceLT, Nat.reduceLeDiff, Nat.lt_add_one, px_tg, Int.cast_ofNat_Int, Int.reduceAdd, Int.reduceSub, Int.reduceMul, Int.reduceToNat, Int.reduceLE, Int.reduceLT, Int.reduceNeg, Int.reduceEq, Bool.or_false, Bool.false_or, Bool.or_true, Bool.true_or, List.length_cons, List.length_nil, List.nil_append, List.cons_append, Option.toList_some, Option.toList_none, reduceCtorEq, Option.some.injEq, Nat.zero_le, Nat.reduceMul, Nat.mul_zero, Nat.add_zero, Int.reduceDiv, Int.reduceMod, Int.toNat_natCast, Nat.lt_irrefl, Int.natCast_add, Int.cast_ofNat_Int, px_mds_RX6_0, dec_X6_giveTo, px_eq_iff, px_lt_iff, px_le_iff, px_up_o, px_up_eq, px_up_ne, px_cp_o, k188, k194, g188, g195, g196, g197, g198, hf, hc, hh, tk, tl]
      refine ⟨fun q => by omega, fun _ => ?_⟩
      repeat refine ⟨by omega, ?_⟩
      refine c_X0_add hh (by omega) (fun μ2 f1 f2 f3 => ?_)
      refine px_go (fun p => p == 13) 400 ?_
      simp (disch := omega) only [px_lits, false_implies, true_implies, px_dec_ok, px_run_s, px_rules, px_rule_is, px_mats, px_calls, ↓reduceIte, eq_self, Bool.false_eq_true, px_flds, px_o_some, px_fvs, px_pfs, px_cts, px_cls, px_acs_, px_acn, true_and, and_true, true_or, or_true, false_or, or_false, and_self, not_true_eq_false, not_false_eq_true, Classical.not_not, Nat.reduceAdd, Nat.reduceSub, Nat.reduceBEq, Nat.reduceLT, Nat.reduceLeDiff, Nat.lt_add_one, px_tg, Int.cast_ofNat_Int, Int.reduceAdd, Int.reduceSub, Int.reduceMul, Int.reduceToNat, Int.reduceLE, Int.reduceLT, Int.reduceNeg, Int.reduceEq, Bool.or_false, Bool.false_or, Bool.or_true, Bool.true_or, List.length_cons, List.length_nil, List.nil_append, List.cons_append, Option.toList_some, Option.toList_none, reduceCtorEq, Option.some.injEq, Nat.zero_le, Nat.reduceMul, Nat.mul_zero, Nat.add_zero, Int.reduceDiv, Int.reduceMod, Int.toNat_natCast, Nat.lt_irrefl, Int.natCast_add, Int.cast_ofNat_Int, px_mds_RX6_0, dec_X6_giveTo, px_eq_iff, px_lt_iff, px_le_iff, px_up_o, px_up_eq, px_up_ne, px_cp_o, k188, k194, hf, hc, hh]
      refine ih (c + 1) (D ++ [(μ 195 c, μ 196 c, μ 197 c, μ 198 c)]) μ2 (by omega) (by omega) (fun o o1 => by rw [f1 o o1, h4 o o1]) (by omega) ?_ ?_
      · rw [f3, h6, List.append_assoc]
      · rw [h7, List.append_assoc]
        rfl
  refine px_enter RX6 (by decide +kernel) rfl (by simp) (by simp [px_c1]) ?_
  simp only [List.map_cons, List.map_nil, List.length_cons, List.length_nil, List.replicate, List.append_nil, Nat.reduceAdd, Nat.reduceSub, List.cons_append, List.nil_append]
  refine px_go (fun p => p == 13) 400 ?_
  simp (disch := omega) only [px_lits, false_implies, true_implies, px_dec_ok, px_run_s, px_rules, px_rule_is, px_mats, px_calls, ↓reduceIte, eq_self, Bool.false_eq_true, px_flds, px_o_some, px_fvs, px_pfs, px_cts, px_cls, px_acs_, px_acn, true_and, and_true, true_or, or_true, false_or, or_false, and_self, not_true_eq_false, not_false_eq_true, Classical.not_not, Nat.reduceAdd, Nat.reduceSub, Nat.reduceBEq, Nat.reduceLT, Nat.reduceLeDiff, Nat.lt_add_one, px_tg, Int.cast_ofNat_Int, Int.reduceAdd, Int.reduceSub, Int.reduceMul, Int.reduceToNat, Int.reduceLE, Int.reduceLT, Int.reduceNeg, Int.reduceEq, Bool.or_false, Bool.false_or, Bool.or_true, Bool.true_or, List.length_cons, List.length_nil, List.nil_append, List.cons_append, Option.toList_some, Option.toList_none, reduceCtorEq, Option.some.injEq, Nat.zero_le, Nat.reduceMul, Nat.mul_zero, Nat.add_zero, Int.reduceDiv, Int.reduceMod, Int.toNat_natCast, Nat.lt_irrefl, Int.natCast_add, Int.cast_ofNat_Int, px_mds_RX6_0, dec_X6_giveTo, px_eq_iff, px_lt_iff, px_le_iff, px_up_o, px_up_eq, px_up_ne, px_cp_o, k188, k189, k194, hf, hc, hh]
  refine c_X0_copyFrom hh k189 (by omega) (by omega) (fun μ1 f1 f2 f3 => ?_)
  have g188 : μ1 188 = μ 188 := f1 _ (by omega)
  refine px_go (fun p => p == 13) 400 ?_
  simp (disch := omega) only [px_lits, false_implies, true_implies, px_dec_ok, px_run_s, px_rules, px_rule_is, px_mats, px_calls, ↓reduceIte, eq_self, Bool.false_eq_true, px_flds, px_o_some, px_fvs, px_pfs, px_cts, px_cls, px_acs_, px_acn, true_and, and_true, true_or, or_true, false_or, or_false, and_self, not_true_eq_false, not_false_eq_true, Classical.not_not, Nat.reduceAdd, Nat.reduceSub, Nat.reduceBEq, Nat.reduceLT, Nat.reduceLeDiff, Nat.lt_add_one, px_tg, Int.cast_ofNat_Int, Int.reduceAdd, Int.reduceSub, Int.reduceMul, Int.reduceToNat, Int.reduceLE, Int.reduceLT, Int.reduceNeg, Int.reduceEq, Bool.or_false, Bool.false_or, Bool.or_true, Bool.true_or, List.length_cons, List.length_nil, List.nil_append, List.cons_append, Option.toList_some, Option.toList_none, reduceCtorEq, Option.some.injEq, Nat.zero_le, Nat.reduceMul, Nat.mul_zero, Nat.add_zero, Int.reduceDiv, Int.reduceMod, Int.toNat_natCast, Nat.lt_irrefl, Int.natCast_add, Int.cast_ofNat_Int, px_mds_RX6_0, dec_X6_giveTo, px_eq_iff, px_lt_iff, px_le_iff, px_up_o, px_up_eq, px_up_ne, px_cp_o, k188, k189, k194, g188, hf, hc, hh]
  exact loop n f [] μ1 (by omega) (by omega) f1 (by omega) (by rw [f3]; simp) (by simp)
