/-! ===== a pull, on copies: what comes, past what ===== -/
theorem pc_kp : px_kd 188 = 6 ∧ px_kd 189 = 0 ∧ px_kd 194 = 0 ∧ px_kd 199 = 20 := by decide +kernel
theorem pc_lp : px_ln 199 = 16 := by decide +kernel
set_option maxHeartbeats 4000000 in
set_option maxRecDepth 100000 in
theorem c_X6_sortOut {G : px_G} {h g : Nat} {ch : Int} {μ : px_Mem} {Q : Option px_X → px_Mem → Prop} (hh : px_kd h = 0) (hg : px_kd g = 0) (h8 : h < 100) (g8 : g < 100) (hn : 0 ≤ μ h 4 ∧ μ h 4 ≤ 16) (gn : 0 ≤ μ g 4 ∧ μ g 4 ≤ 16) (hv : pc_V (pc_hl μ h)) (gv : pc_V (pc_hl μ g)) (hc : -2147483648 ≤ ch ∧ ch < 2147483648)
    (hch : ∀ (Lt : List pc_Ch) (ft : Nat), pc_fr (px_and (pc_set (pc_hl μ h)) (pc_set (pc_hl μ g))) (pc_hl μ g).length 0 (pc_hl μ g) 0 = some (Lt, ft) → ∃ a : Nat, ft ≤ a ∧ a < Lt.length ∧ pc_num Lt a = ch ∧ ∀ j : Nat, j < Lt.length → pc_num Lt j = ch → j = a)
    (h0 : ∀ μ1 : px_Mem, (pc_fr (px_and (pc_set (pc_hl μ h)) (pc_set (pc_hl μ g))) (pc_hl μ g).length 0 (pc_hl μ g) 0 = none ∨ pc_fr (px_and (pc_set (pc_hl μ h)) (pc_set (pc_hl μ g))) (pc_hl μ h).length 0 (pc_hl μ h) 0 = none) → (∀ o, (o < 188 ∨ 198 < o) → μ1 o = μ o) → Q (some (.inl 0)) μ1)
    (h1 : ∀ (Lt Lo B R : List pc_Ch) (ft fo a : Nat) (μ1 : px_Mem), pc_fr (px_and (pc_set (pc_hl μ h)) (pc_set (pc_hl μ g))) (pc_hl μ g).length 0 (pc_hl μ g) 0 = some (Lt, ft) → pc_fr (px_and (pc_set (pc_hl μ h)) (pc_set (pc_hl μ g))) (pc_hl μ h).length 0 (pc_hl μ h) 0 = some (Lo, fo) → ft ≤ a → a < Lt.length → pc_num Lt a = ch → B = pc_gb ((Lt.take (a + 1)).drop ft) →
      (∀ o, (o < 188 ∨ 198 < o) → μ1 o = μ o) → pc_hl μ1 189 = Lo → pc_hl μ1 194 = Lt.take ft ++ B ++ R → μ1 189 4 = μ h 4 → μ1 194 4 = μ g 4 → μ1 188 3 = ft → μ1 188 4 = B.length → pc_V Lo → pc_V (pc_hl μ1 194) → Q (some (.inl 1)) μ1) : px_C G yX6_sortOut cX6_sortOut 5 (some .boolean) 4 [.inr (.inl (some 188)), .inr (.inl (some h)), .inr (.inl (some g)), .inl ch] μ Q := by
  obtain ⟨k188, k189, k194, k199⟩ := pc_kp
  generalize hbt : px_and (pc_set (pc_hl μ h)) (pc_set (pc_hl μ g)) = bt at *
  refine px_enter RX6 (by decide +kernel) rfl (by simp) (by simp [px_c1]) ?_
  simp only [List.map_cons, List.map_nil, List.length_cons, List.length_nil, List.replicate, List.append_nil, Nat.reduceAdd, Nat.reduceSub, List.cons_append, List.nil_append]
  refine px_go (fun _ => false) 400 ?_
  simp (disch := omega) only [px_lits, false_implies, true_implies, px_dec_ok, px_run_s, px_rules, px_rule_is, px_mats, px_calls, ↓reduceIte, eq_self, Bool.false_eq_true, px_flds, px_o_some, px_fvs, px_pfs, px_cts, px_cls, px_acs_, px_acn, true_and, and_true, true_or, or_true, false_or, or_false, and_self, not_true_eq_false, not_false_eq_true, Classical.not_not, Nat.reduceAdd, Nat.reduceSub, Nat.reduceBEq, Nat.reduceLT, Nat.reduceLeDiff, Nat.lt_add_one, px_tg, Int.cast_ofNat_Int, Int.reduceAdd, Int.reduceSub, Int.reduceMul, Int.reduceToNat, Int.reduceLE, Int.reduceLT, Int.reduceNeg, Int.reduceEq, Bool.or_false, Bool.false_or, Bool.or_true, Bool.true_or, List.length_cons, List.length_nil, List.nil_append, List.cons_append, Option.toList_some, Option.toList_none, reduceCtorEq, Option.some.injEq, Nat.zero_le, Nat.reduceMul, Nat.mul_zero, Nat.add_zero, Int.reduceDiv, Int.reduceMod, Int.toNat_natCast, Nat.lt_irrefl, Int.natCast_add, Int.cast_ofNat_Int, px_mds_RX6_0, dec_X6_sortOut, px_eq_iff, px_lt_iff, px_le_iff, px_up_o, px_up_eq, px_up_ne, px_cp_o, k188, k189, k194, hh, hg]
  refine c_X0_asSet hh hn ?_
  refine px_go (fun _ => false) 400 ?_
  simp (disch := omega) only [px_lits, false_implies, true_implies, px_dec_ok, px_run_s, px_rules, px_rule_is, px_mats, px_calls, ↓reduceIte, eq_self, Bool.false_eq_true, px_flds, px_o_some, px_fvs, px_pfs, px_cts, px_cls, px_acs_, px_acn, true_and, and_true, true_or, or_true, false_or, or_false, and_self, not_true_eq_false, not_false_eq_true, Classical.not_not, Nat.reduceAdd, Nat.reduceSub, Nat.reduceBEq, Nat.reduceLT, Nat.reduceLeDiff, Nat.lt_add_one, px_tg, Int.cast_ofNat_Int, Int.reduceAdd, Int.reduceSub, Int.reduceMul, Int.reduceToNat, Int.reduceLE, Int.reduceLT, Int.reduceNeg, Int.reduceEq, Bool.or_false, Bool.false_or, Bool.or_true, Bool.true_or, List.length_cons, List.length_nil, List.nil_append, List.cons_append, Option.toList_some, Option.toList_none, reduceCtorEq, Option.some.injEq, Nat.zero_le, Nat.reduceMul, Nat.mul_zero, Nat.add_zero, Int.reduceDiv, Int.reduceMod, Int.toNat_natCast, Nat.lt_irrefl, Int.natCast_add, Int.cast_ofNat_Int, px_mds_RX6_0, dec_X6_sortOut, px_eq_iff, px_lt_iff, px_le_iff, px_up_o, px_up_eq, px_up_ne, px_cp_o, k188, k189, k194, hh, hg]
  refine c_X0_asSet hg gn ?_
  refine px_go (fun _ => false) 400 ?_
  simp (disch := omega) only [px_lits, false_implies, true_implies, px_dec_ok, px_run_s, px_rules, px_rule_is, px_mats, px_calls, ↓reduceIte, eq_self, Bool.false_eq_true, px_flds, px_o_some, px_fvs, px_pfs, px_cts, px_cls, px_acs_, px_acn, true_and, and_true, true_or, or_true, false_or, or_false, and_self, not_true_eq_false, not_false_eq_true, Classical.not_not, Nat.reduceAdd, Nat.reduceSub, Nat.reduceBEq, Nat.reduceLT, Nat.reduceLeDiff, Nat.lt_add_one, px_tg, Int.cast_ofNat_Int, Int.reduceAdd, Int.reduceSub, Int.reduceMul, Int.reduceToNat, Int.reduceLE, Int.reduceLT, Int.reduceNeg, Int.reduceEq, Bool.or_false, Bool.false_or, Bool.or_true, Bool.true_or, List.length_cons, List.length_nil, List.nil_append, List.cons_append, Option.toList_some, Option.toList_none, reduceCtorEq, Option.some.injEq, Nat.zero_le, Nat.reduceMul, Nat.mul_zero, Nat.add_zero, Int.reduceDiv, Int.reduceMod, Int.toNat_natCast, Nat.lt_irrefl, Int.natCast_add, Int.cast_ofNat_Int, px_mds_RX6_0, dec_X6_sortOut, px_eq_iff, px_lt_iff, px_le_iff, px_up_o, px_up_eq, px_up_ne, px_cp_o, k188, k189, k194, hh, hg, hbt]
  refine c_X0_copyFrom k189 hh (by omega) hn (fun μ1 a1 a2 a3 => ?_)
  have gg : pc_hl μ1 g = pc_hl μ g := pc_hl_same (a1 _ (by omega)) (a1 _ (by omega)) (a1 _ (by omega)) (a1 _ (by omega)) (a1 _ (by omega))
  have g4 : μ1 g 4 = μ g 4 := by rw [a1 g (by omega)]
  refine px_go (fun _ => false) 400 ?_
  simp (disch := omega) only [px_lits, false_implies, true_implies, px_dec_ok, px_run_s, px_rules, px_rule_is, px_mats, px_calls, ↓reduceIte, eq_self, Bool.false_eq_true, px_flds, px_o_some, px_fvs, px_pfs, px_cts, px_cls, px_acs_, px_acn, true_and, and_true, true_or, or_true, false_or, or_false, and_self, not_true_eq_false, not_false_eq_true, Classical.not_not, Nat.reduceAdd, Nat.reduceSub, Nat.reduceBEq, Nat.reduceLT, Nat.reduceLeDiff, Nat.lt_add_one, px_tg, Int.cast_ofNat_Int, Int.reduceAdd, Int.reduceSub, Int.reduceMul, Int.reduceToNat, Int.reduceLE, Int.reduceLT, Int.reduceNeg, Int.reduceEq, Bool.or_false, Bool.false_or, Bool.or_true, Bool.true_or, List.length_cons, List.length_nil, List.nil_append, List.cons_append, Option.toList_some, Option.toList_none, reduceCtorEq, Option.some.injEq, Nat.zero_le, Nat.reduceMul, Nat.mul_zero, Nat.add_zero, Int.reduceDiv, Int.reduceMod, Int.toNat_natCast, Nat.lt_irrefl, Int.natCast_add, Int.cast_ofNat_Int, px_mds_RX6_0, dec_X6_sortOut, px_eq_iff, px_lt_iff, px_le_iff, px_up_o, px_up_eq, px_up_ne, px_cp_o, k188, k189, k194, hh, hg]
  refine c_X0_copyFrom k194 hg (by omega) (by rw [g4]; exact gn) (fun μ2 b1 b2 b3 => ?_)
  rw [gg] at b3
  rw [g4] at b2
  have o2 : pc_hl μ2 189 = pc_hl μ h := by
    rw [← a3]
    exact pc_hl_same (b1 _ (by omega)) (b1 _ (by omega)) (b1 _ (by omega)) (b1 _ (by omega)) (b1 _ (by omega))
  have o24 : μ2 189 4 = μ h 4 := by rw [b1 189 (by omega), a2]
  refine px_go (fun _ => false) 400 ?_
  simp (disch := omega) only [px_lits, false_implies, true_implies, px_dec_ok, px_run_s, px_rules, px_rule_is, px_mats, px_calls, ↓reduceIte, eq_self, Bool.false_eq_true, px_flds, px_o_some, px_fvs, px_pfs, px_cts, px_cls, px_acs_, px_acn, true_and, and_true, true_or, or_true, false_or, or_false, and_self, not_true_eq_false, not_false_eq_true, Classical.not_not, Nat.reduceAdd, Nat.reduceSub, Nat.reduceBEq, Nat.reduceLT, Nat.reduceLeDiff, Nat.lt_add_one, px_tg, Int.cast_ofNat_Int, Int.reduceAdd, Int.reduceSub, Int.reduceMul, Int.reduceToNat, Int.reduceLE, Int.reduceLT, Int.reduceNeg, Int.reduceEq, Bool.or_false, Bool.false_or, Bool.or_true, Bool.true_or, List.length_cons, List.length_nil, List.nil_append, List.cons_append, Option.toList_some, Option.toList_none, reduceCtorEq, Option.some.injEq, Nat.zero_le, Nat.reduceMul, Nat.mul_zero, Nat.add_zero, Int.reduceDiv, Int.reduceMod, Int.toNat_natCast, Nat.lt_irrefl, Int.natCast_add, Int.cast_ofNat_Int, px_mds_RX6_0, dec_X6_sortOut, px_eq_iff, px_lt_iff, px_le_iff, px_up_o, px_up_eq, px_up_ne, px_cp_o, k188, k189, k194, hh, hg]
  refine c_X0_bringToFront k194 (by rw [b2]; exact gn) (by rw [b3]; exact gv) (fun Lt ft μ3 c1 c2 c3 c4 => ?_) (fun μ3 c1 c2 => ?_)
  · rw [b3] at c1
    have ftl : (ft : Int) ≤ 1000 ∧ Lt.length = (μ g 4).toNat := by
      obtain ⟨a, q1, q2, -⟩ := hch Lt ft c1
      have : Lt.length = (μ g 4).toNat := by rw [← c3, pc_hl_len, c2 194 (by omega), b2]
      omega
    have o3 : pc_hl μ3 189 = pc_hl μ h := by
      rw [← o2]
      exact pc_hl_same (c2 _ (by omega)) (c2 _ (by omega)) (c2 _ (by omega)) (c2 _ (by omega)) (c2 _ (by omega))
    have u3 : ∀ z : Int, pc_hl (px_up μ3 188 3 z) 189 = pc_hl μ h := fun z => by
      rw [← o3]
      refine pc_hl_same ?_ ?_ ?_ ?_ ?_ <;> simp (disch := omega) only [px_up_o]
    have u4 : ∀ z : Int, pc_hl (px_up μ3 188 3 z) 194 = Lt := fun z => by
      rw [← c3]
      refine pc_hl_same ?_ ?_ ?_ ?_ ?_ <;> simp (disch := omega) only [px_up_o]
    refine px_go (fun _ => false) 400 ?_
    simp (disch := omega) only [px_lits, false_implies, true_implies, px_dec_ok, px_run_s, px_rules, px_rule_is, px_mats, px_calls, ↓reduceIte, eq_self, Bool.false_eq_true, px_flds, px_o_some, px_fvs, px_pfs, px_cts, px_cls, px_acs_, px_acn, true_and, and_true, true_or, or_true, false_or, or_false, and_self, not_true_eq_false, not_false_eq_true, Classical.not_not, Nat.reduceAdd, Nat.reduceSub, Nat.reduceBEq, Nat.reduceLT, Nat.reduceLeDiff, Nat.lt_add_one, px_tg, Int.cast_ofNat_Int, Int.reduceAdd, Int.reduceSub, Int.reduceMul, Int.reduceToNat, Int.reduceLE, Int.reduceLT, Int.reduceNeg, Int.reduceEq, Bool.or_false, Bool.false_or, Bool.or_true, Bool.true_or, List.length_cons, List.length_nil, List.nil_append, List.cons_append, Option.toList_some, Option.toList_none, reduceCtorEq, Option.some.injEq, Nat.zero_le, Nat.reduceMul, Nat.mul_zero, Nat.add_zero, Int.reduceDiv, Int.reduceMod, Int.toNat_natCast, Nat.lt_irrefl, Int.natCast_add, Int.cast_ofNat_Int, px_mds_RX6_0, dec_X6_sortOut, px_eq_iff, px_lt_iff, px_le_iff, px_up_o, px_up_eq, px_up_ne, px_cp_o, k188, k189, k194, hh, hg]
    refine c_X0_bringToFront k189 (by simp (disch := omega) only [px_up_o]; rw [c2 189 (by omega), o24]; exact hn) (by rw [u3]; exact hv) (fun Lo fo μ4 d1 d2 d3 d4 => ?_) (fun μ4 d1 d2 => ?_)
    · rw [u3] at d1
      have t4 : pc_hl μ4 194 = Lt := by
        rw [← u4 ft]
        exact pc_hl_same (d2 _ (by omega)) (d2 _ (by omega)) (d2 _ (by omega)) (d2 _ (by omega)) (d2 _ (by omega))
      have t44 : μ4 194 4 = μ g 4 := by
        rw [d2 194 (by omega)]
        simp (disch := omega) only [px_up_o]
        rw [c2 194 (by omega), b2]
      have f4 : μ4 188 3 = ft := by
        rw [d2 188 (by omega)]
        simp (disch := omega) only [px_up_eq]
      have s4 : μ4 189 4 = μ h 4 := by
        rw [d2 189 (by omega)]
        simp (disch := omega) only [px_up_o]
        rw [c2 189 (by omega), o24]
      obtain ⟨a, q1, q2, q3, q4⟩ := hch Lt ft c1
      have fol : (fo : Int) ≤ 1000 := by
        have key : ∀ (n i f : Nat) (L L1 : List pc_Ch) (f1 : Nat), pc_fr bt n i L f = some (L1, f1) → f1 ≤ f + n := by
          intro n
          induction n with
          | zero => intro i f L L1 f1 e; cases e; omega
          | succ n ih =>
            intro i f L L1 f1 e
            cases hL : L[i]? with
            | none =>
              have : pc_fr bt (n + 1) i L f = none := by
                show (match L[i]? with
                  | none => none
                  | some c => if px_and (px_shr bt c.1) 1 = 1 then (pc_brB (i - f) L i).bind (fun L1 => pc_fr bt n (i + 1) L1 (f + 1)) else pc_fr bt n (i + 1) L f) = _
                rw [hL]
              rw [this] at e
              cases e
            | some c =>
              rw [pc_fr_step hL] at e
              split at e
              · cases hb : pc_brB (i - f) L i with
                | none => rw [hb] at e; cases e
                | some L2 =>
                  rw [hb] at e
                  have := ih _ _ _ _ _ e
                  omega
              · have := ih _ _ _ _ _ e
                omega
        have := key _ _ _ _ _ _ d1
        rw [pc_hl_len] at this
        omega
      refine px_go (fun _ => false) 400 ?_
      simp (disch := omega) only [px_lits, false_implies, true_implies, px_dec_ok, px_run_s, px_rules, px_rule_is, px_mats, px_calls, ↓reduceIte, eq_self, Bool.false_eq_true, px_flds, px_o_some, px_fvs, px_pfs, px_cts, px_cls, px_acs_, px_acn, true_and, and_true, true_or, or_true, false_or, or_false, and_self, not_true_eq_false, not_false_eq_true, Classical.not_not, Nat.reduceAdd, Nat.reduceSub, Nat.reduceBEq, Nat.reduceLT, Nat.reduceLeDiff, Nat.lt_add_one, px_tg, Int.cast_ofNat_Int, Int.reduceAdd, Int.reduceSub, Int.reduceMul, Int.reduceToNat, Int.reduceLE, Int.reduceLT, Int.reduceNeg, Int.reduceEq, Bool.or_false, Bool.false_or, Bool.or_true, Bool.true_or, List.length_cons, List.length_nil, List.nil_append, List.cons_append, Option.toList_some, Option.toList_none, reduceCtorEq, Option.some.injEq, Nat.zero_le, Nat.reduceMul, Nat.mul_zero, Nat.add_zero, Int.reduceDiv, Int.reduceMod, Int.toNat_natCast, Nat.lt_irrefl, Int.natCast_add, Int.cast_ofNat_Int, px_mds_RX6_0, dec_X6_sortOut, px_eq_iff, px_lt_iff, px_le_iff, px_up_o, px_up_eq, px_up_ne, px_cp_o, k188, k189, k194, hh, hg, f4]
      have hnum : ∀ i : Int, 0 ≤ i → i < μ4 194 4 → μ4 195 i = pc_num Lt i.toNat := by
        intro i i0 i1
        unfold pc_num
        rw [← t4, pc_hl_at i0 i1]
        rfl
      refine c_X0_find k194 (by rw [t44]; exact gn) hc (fun i i0 i1 => ?_) (fun z hz => ?_)
      · have := c4.el (by rw [← t4]; exact pc_hl_mem i0 i1)
        exact this.1
      · have hza : z = a := by
          rcases hz with ⟨z1, z2⟩ | ⟨z1, z2, z3, z4⟩
          · exfalso
            refine z2 a (by omega) (by omega) ?_
            rw [hnum a (by omega) (by omega), Int.toNat_natCast, q3]
          · have := q4 z.toNat (by omega) (by rw [← hnum z z1 z2]; exact z3)
            omega
        subst hza
        refine px_go (fun _ => false) 400 ?_
        simp (disch := omega) only [px_lits, false_implies, true_implies, px_dec_ok, px_run_s, px_rules, px_rule_is, px_mats, px_calls, ↓reduceIte, eq_self, Bool.false_eq_true, px_flds, px_o_some, px_fvs, px_pfs, px_cts, px_cls, px_acs_, px_acn, true_and, and_true, true_or, or_true, false_or, or_false, and_self, not_true_eq_false, not_false_eq_true, Classical.not_not, Nat.reduceAdd, Nat.reduceSub, Nat.reduceBEq, Nat.reduceLT, Nat.reduceLeDiff, Nat.lt_add_one, px_tg, Int.cast_ofNat_Int, Int.reduceAdd, Int.reduceSub, Int.reduceMul, Int.reduceToNat, Int.reduceLE, Int.reduceLT, Int.reduceNeg, Int.reduceEq, Bool.or_false, Bool.false_or, Bool.or_true, Bool.true_or, List.length_cons, List.length_nil, List.nil_append, List.cons_append, Option.toList_some, Option.toList_none, reduceCtorEq, Option.some.injEq, Nat.zero_le, Nat.reduceMul, Nat.mul_zero, Nat.add_zero, Int.reduceDiv, Int.reduceMod, Int.toNat_natCast, Nat.lt_irrefl, Int.natCast_add, Int.cast_ofNat_Int, px_mds_RX6_0, dec_X6_sortOut, px_eq_iff, px_lt_iff, px_le_iff, px_up_o, px_up_eq, px_up_ne, px_cp_o, k188, k189, k194, hh, hg, f4]
        refine c_X0_gather k194 (by rw [t44]; exact gn) (by omega) (by omega) (by rw [t4]; exact c4) (fun B R μ5 e1 e2 e3 e4 => ?_)
        rw [t4, Int.toNat_natCast, Int.toNat_natCast] at e1
        rw [t4, Int.toNat_natCast] at e3
        have g5 : μ5 188 = μ4 188 := e2 188 (by omega)
        refine px_go (fun _ => false) 400 ?_
        simp (disch := omega) only [px_lits, false_implies, true_implies, px_dec_ok, px_run_s, px_rules, px_rule_is, px_mats, px_calls, ↓reduceIte, eq_self, Bool.false_eq_true, px_flds, px_o_some, px_fvs, px_pfs, px_cts, px_cls, px_acs_, px_acn, true_and, and_true, true_or, or_true, false_or, or_false, and_self, not_true_eq_false, not_false_eq_true, Classical.not_not, Nat.reduceAdd, Nat.reduceSub, Nat.reduceBEq, Nat.reduceLT, Nat.reduceLeDiff, Nat.lt_add_one, px_tg, Int.cast_ofNat_Int, Int.reduceAdd, Int.reduceSub, Int.reduceMul, Int.reduceToNat, Int.reduceLE, Int.reduceLT, Int.reduceNeg, Int.reduceEq, Bool.or_false, Bool.false_or, Bool.or_true, Bool.true_or, List.length_cons, List.length_nil, List.nil_append, List.cons_append, Option.toList_some, Option.toList_none, reduceCtorEq, Option.some.injEq, Nat.zero_le, Nat.reduceMul, Nat.mul_zero, Nat.add_zero, Int.reduceDiv, Int.reduceMod, Int.toNat_natCast, Nat.lt_irrefl, Int.natCast_add, Int.cast_ofNat_Int, px_mds_RX6_0, dec_X6_sortOut, px_eq_iff, px_lt_iff, px_le_iff, px_up_o, px_up_eq, px_up_ne, px_cp_o, k188, k189, k194, hh, hg]
        have w4 : ∀ z : Int, pc_hl (px_up μ5 188 4 z) 194 = pc_hl μ5 194 := fun z => by
          refine pc_hl_same ?_ ?_ ?_ ?_ ?_ <;> simp (disch := omega) only [px_up_o]
        refine h1 Lt Lo B R ft fo a _ c1 d1 q1 q2 q3 e1 (fun o ho => ?_) ?_ ?_ ?_ ?_ ?_ ?_ d4 ?_
        · simp (disch := omega) only [px_up_o]
          rw [e2 o (by omega), d2 o (by omega)]
          simp (disch := omega) only [px_up_o]
          rw [c2 o (by omega), b1 o (by omega), a1 o (by omega)]
        · rw [← d3]
          refine pc_hl_same ?_ ?_ ?_ ?_ ?_
          all_goals
            simp (disch := omega) only [px_up_o]
            exact e2 _ (by omega)
        · rw [w4]
          exact e3
        · simp (disch := omega) only [px_up_o]
          rw [e2 189 (by omega), s4]
        · simp (disch := omega) only [px_up_o]
          rw [e2 194 (by omega), t44]
        · simp (disch := omega) only [px_up_ne]
          rw [g5, f4]
        · simp (disch := omega) only [px_up_eq]
          omega
        · rw [w4]
          exact e4
    · rw [u3] at d1
      refine px_go (fun _ => false) 400 ?_
      simp (disch := omega) only [px_lits, false_implies, true_implies, px_dec_ok, px_run_s, px_rules, px_rule_is, px_mats, px_calls, ↓reduceIte, eq_self, Bool.false_eq_true, px_flds, px_o_some, px_fvs, px_pfs, px_cts, px_cls, px_acs_, px_acn, true_and, and_true, true_or, or_true, false_or, or_false, and_self, not_true_eq_false, not_false_eq_true, Classical.not_not, Nat.reduceAdd, Nat.reduceSub, Nat.reduceBEq, Nat.reduceLT, Nat.reduceLeDiff, Nat.lt_add_one, px_tg, Int.cast_ofNat_Int, Int.reduceAdd, Int.reduceSub, Int.reduceMul, Int.reduceToNat, Int.reduceLE, Int.reduceLT, Int.reduceNeg, Int.reduceEq, Bool.or_false, Bool.false_or, Bool.or_true, Bool.true_or, List.length_cons, List.length_nil, List.nil_append, List.cons_append, Option.toList_some, Option.toList_none, reduceCtorEq, Option.some.injEq, Nat.zero_le, Nat.reduceMul, Nat.mul_zero, Nat.add_zero, Int.reduceDiv, Int.reduceMod, Int.toNat_natCast, Nat.lt_irrefl, Int.natCast_add, Int.cast_ofNat_Int, px_mds_RX6_0, dec_X6_sortOut, px_eq_iff, px_lt_iff, px_le_iff, px_up_o, px_up_eq, px_up_ne, px_cp_o, k188, k189, k194, hh, hg]
      refine h0 _ (Or.inr d1) (fun o ho => ?_)
      rw [d2 o (by omega)]
      simp (disch := omega) only [px_up_o]
      rw [c2 o (by omega), b1 o (by omega), a1 o (by omega)]
  · rw [b3] at c1
    refine px_go (fun _ => false) 400 ?_
    simp (disch := omega) only [px_lits, false_implies, true_implies, px_dec_ok, px_run_s, px_rules, px_rule_is, px_mats, px_calls, ↓reduceIte, eq_self, Bool.false_eq_true, px_flds, px_o_some, px_fvs, px_pfs, px_cts, px_cls, px_acs_, px_acn, true_and, and_true, true_or, or_true, false_or, or_false, and_self, not_true_eq_false, not_false_eq_true, Classical.not_not, Nat.reduceAdd, Nat.reduceSub, Nat.reduceBEq, Nat.reduceLT, Nat.reduceLeDiff, Nat.lt_add_one, px_tg, Int.cast_ofNat_Int, Int.reduceAdd, Int.reduceSub, Int.reduceMul, Int.reduceToNat, Int.reduceLE, Int.reduceLT, Int.reduceNeg, Int.reduceEq, Bool.or_false, Bool.false_or, Bool.or_true, Bool.true_or, List.length_cons, List.length_nil, List.nil_append, List.cons_append, Option.toList_some, Option.toList_none, reduceCtorEq, Option.some.injEq, Nat.zero_le, Nat.reduceMul, Nat.mul_zero, Nat.add_zero, Int.reduceDiv, Int.reduceMod, Int.toNat_natCast, Nat.lt_irrefl, Int.natCast_add, Int.cast_ofNat_Int, px_mds_RX6_0, dec_X6_sortOut, px_eq_iff, px_lt_iff, px_le_iff, px_up_o, px_up_eq, px_up_ne, px_cp_o, k188, k189, k194, hh, hg]
    refine h0 _ (Or.inl c1) (fun o ho => ?_)
    simp (disch := omega) only [px_up_o]
    rw [c2 o (by omega), b1 o (by omega), a1 o (by omega)]
/-- one that comes, past all that the house alone has: with which it clashes, or what comes of both -/
def pc_gp1 : pc_Ch → List pc_Ch → Int ⊕ (pc_Ch × List pc_Ch)
  | b, [] => .inr (b, [])
  | b, o :: O => match pc_tr (1 - o.2.1) o.2.2.1 b.2.1 b.2.2.1 with
    | none => .inl o.1
    | some q => match pc_gp1 (b.1, b.2.1, q.1, b.2.2.2) O with
      | .inl n => .inl n
      | .inr r => .inr (r.1, (o.1, o.2.1, q.2, o.2.2.2) :: r.2)
def pc_gp : List pc_Ch → List pc_Ch → Int ⊕ List pc_Ch
  | [], _ => .inr []
  | b :: B, O => match pc_gp1 b O with
    | .inl n => .inl n
    | .inr r => match pc_gp B r.2 with
      | .inl n => .inl n
      | .inr B1 => .inr (r.1 :: B1)
def pc_bd (K : Int) (L : List pc_Ch) : Prop := ∀ c ∈ L, (0 ≤ c.1 ∧ c.1 < 24) ∧ (c.2.1 = 0 ∨ c.2.1 = 1) ∧ (0 ≤ c.2.2.1 ∧ c.2.2.1 ≤ K)
theorem pc_gp1_bd {K : Int} : ∀ {O : List pc_Ch} {b b1 : pc_Ch} {O1 : List pc_Ch}, pc_bd K O → 0 ≤ b.2.2.1 → pc_gp1 b O = .inr (b1, O1) → pc_bd (K + 1) O1 ∧ b1.1 = b.1 ∧ b1.2.1 = b.2.1 ∧ b1.2.2.2 = b.2.2.2 ∧ 0 ≤ b1.2.2.1 ∧ b1.2.2.1 ≤ b.2.2.1 + O.length ∧ O1.length = O.length
  | [], b, b1, O1, hO, hb, h => by
    cases h
    exact ⟨fun c hc => absurd hc List.not_mem_nil, rfl, rfl, rfl, hb, (by simp), rfl⟩
  | o :: O, b, b1, O1, hO, hb, h => by
    have ho := hO o List.mem_cons_self
    unfold pc_gp1 at h
    cases ht : pc_tr (1 - o.2.1) o.2.2.1 b.2.1 b.2.2.1 with
    | none => rw [ht] at h; cases h
    | some q =>
      obtain ⟨k, m⟩ := q
      have hbd := pc_tr_bd ht ho.2.2.1 hb
      rw [ht] at h
      dsimp only at h
      cases hr : pc_gp1 (b.1, b.2.1, k, b.2.2.2) O with
      | inl n => rw [hr] at h; cases h
      | inr r =>
        obtain ⟨b2, O2⟩ := r
        rw [hr] at h
        cases h
        obtain ⟨r1, r2, r3, r4, r5, r6, r7⟩ := pc_gp1_bd (K := K) (fun c hc => hO c (List.mem_cons_of_mem _ hc)) hbd.1 hr
        dsimp only at r2 r3 r4 r6
        refine ⟨fun c hc => ?_, r2, r3, r4, r5, ?_, by simp [r7]⟩
        · rcases List.mem_cons.mp hc with rfl | hc
          · exact ⟨ho.1, ho.2.1, by dsimp only; omega⟩
          · exact r1 c hc
        · simp only [List.length_cons]
          omega
/-- a stretch of four rows, as a list -/
def pc_sg (μ : px_Mem) (a1 a2 a3 a4 : Nat) : Int → Nat → List pc_Ch
  | _, 0 => []
  | f, n + 1 => (μ a1 f, μ a2 f, μ a3 f, μ a4 f) :: pc_sg μ a1 a2 a3 a4 (f + 1) n
theorem pc_sg_len {μ : px_Mem} {a1 a2 a3 a4 : Nat} : ∀ {n : Nat} {f : Int}, (pc_sg μ a1 a2 a3 a4 f n).length = n
  | 0, f => rfl
  | n + 1, f => by simp only [pc_sg, List.length_cons, pc_sg_len]
theorem pc_sg_congr {μ μ1 : px_Mem} {a1 a2 a3 a4 b1 b2 b3 b4 : Nat} : ∀ {n : Nat} {f g : Int}, (∀ i : Int, 0 ≤ i → i < n → μ1 b1 (g + i) = μ a1 (f + i) ∧ μ1 b2 (g + i) = μ a2 (f + i) ∧ μ1 b3 (g + i) = μ a3 (f + i) ∧ μ1 b4 (g + i) = μ a4 (f + i)) → pc_sg μ1 b1 b2 b3 b4 g n = pc_sg μ a1 a2 a3 a4 f n
  | 0, f, g, _ => rfl
  | n + 1, f, g, h => by
    have h0 := h 0 (by omega) (by omega)
    rw [Int.add_zero, Int.add_zero] at h0
    obtain ⟨e1, e2, e3, e4⟩ := h0
    unfold pc_sg
    rw [e1, e2, e3, e4, pc_sg_congr (n := n) (f := f + 1) (g := g + 1) (fun i i0 i1 => by
      have := h (i + 1) (by omega) (by omega)
      rw [show g + 1 + i = g + (i + 1) by omega, show f + 1 + i = f + (i + 1) by omega]
      exact this)]
theorem pc_sg_get {μ : px_Mem} {a1 a2 a3 a4 : Nat} : ∀ {n : Nat} {f : Int} {k : Nat}, k < n → (pc_sg μ a1 a2 a3 a4 f n)[k]? = some (μ a1 (f + k), μ a2 (f + k), μ a3 (f + k), μ a4 (f + k))
  | n + 1, f, 0, h => by simp [pc_sg]
  | n + 1, f, k + 1, h => by
    unfold pc_sg
    rw [List.getElem?_cons_succ, pc_sg_get (n := n) (f := f + 1) (k := k) (by omega)]
    rw [show f + 1 + (k : Int) = f + ((k + 1 : Nat) : Int) by omega]
theorem pc_sg_hl {μ : px_Mem} {h : Nat} {f : Nat} {n : Nat} (hn : f + n ≤ (μ h 4).toNat) : ((pc_hl μ h).drop f).take n = pc_sg μ (h + 1) (h + 2) (h + 3) (h + 4) f n := by
  apply List.ext_getElem?
  intro k
  rw [List.getElem?_take, List.getElem?_drop]
  by_cases c : k < n
  · rw [if_pos c, pc_sg_get c, pc_hl_get, if_pos (by omega), Int.natCast_add]
  · rw [if_neg c, List.getElem?_eq_none (by rw [pc_sg_len]; omega)]
