/-! ===== the reference: needs; what its houses hold ===== -/
theorem pm_k : px_kd 205 = 10 ∧ px_kd 206 = 20 ∧ px_kd 207 = 20 ∧ px_kd 208 = 20 ∧ px_kd 209 = 20 ∧ px_kd 210 = 21 ∧ px_kd 211 = 20 ∧ px_kd 212 = 20 ∧ px_kd 213 = 20 ∧ px_kd 214 = 20 ∧ px_kd 215 = 20 ∧ px_kd 216 = 20 ∧ px_kd 217 = 20 ∧ px_kd 218 = 20 ∧ px_kd 219 = 20 ∧ px_kd 220 = 20 := by decide +kernel
theorem pm_l : px_ln 206 = 12 ∧ px_ln 207 = 38 ∧ px_ln 208 = 304 ∧ px_ln 209 = 76 ∧ px_ln 210 = 2 ∧ px_ln 211 = 4 ∧ px_ln 212 = 4 ∧ px_ln 213 = 128 ∧ px_ln 214 = 16 ∧ px_ln 215 = 16 ∧ px_ln 216 = 17 ∧ px_ln 217 = 17 ∧ px_ln 218 = 16 ∧ px_ln 219 = 64 ∧ px_ln 220 = 4320 := by decide +kernel
theorem pc_gb_ex : ∀ X : List pc_Ch, ∃ R : List pc_Ch, (pc_gb X).length + R.length = X.length ∧ ∀ T T1 : List Int, (∀ c ∈ X, pc_el c) → pc_dos T X = some T1 → pc_dos T (pc_gb X ++ R) = some T1 ∧ ∀ c ∈ pc_gb X ++ R, pc_el c
  | [] => ⟨[], rfl, fun T T1 a b => ⟨b, a⟩⟩
  | [c] => ⟨[], rfl, fun T T1 a b => ⟨b, a⟩⟩
  | c :: d :: X => by
    obtain ⟨R, h1, h2⟩ := pc_gb_ex (d :: X)
    have hst := pc_gb_step (c := c) (X := d :: X) (by simp)
    generalize hB : pc_gb (d :: X) = B at *
    have key : ∀ T T1 : List Int, (∀ e ∈ c :: d :: X, pc_el e) → pc_dos T (c :: d :: X) = some T1 → pc_dos T ((c :: B) ++ R) = some T1 ∧ ∀ e ∈ (c :: B) ++ R, pc_el e := by
      intro T T1 a b
      unfold pc_dos at b
      cases q : pc_do T c with
      | none => rw [q] at b; cases b
      | some T2 =>
        rw [q] at b
        obtain ⟨g1, g2⟩ := h2 T2 T1 (fun e he => a e (List.mem_cons_of_mem _ he)) b
        refine ⟨?_, fun e he => ?_⟩
        · show (pc_do T c).bind (fun T1 => pc_dos T1 (B ++ R)) = some T1
          rw [q]
          exact g1
        · rcases List.mem_cons.mp he with rfl | he
          · exact a _ List.mem_cons_self
          · exact g2 e he
    cases hT : pc_brF B.length (c :: B) 0 with
    | none =>
      rw [hT] at hst
      dsimp only at hst
      rw [hst]
      refine ⟨R, by simp only [List.length_cons] at h1 ⊢; omega, key⟩
    | some U =>
      rw [hT] at hst
      dsimp only at hst
      rw [hst]
      have hk := pc_brF_keep hT
      have hl := hk.1
      rw [List.length_cons] at hl
      refine ⟨U.drop B.length ++ R, ?_, fun T T1 a b => ?_⟩
      · simp only [List.length_append, List.length_drop, List.length_take, List.length_cons] at h1 ⊢
        omega
      · obtain ⟨g1, g2⟩ := key T T1 a b
        rw [← List.append_assoc, List.take_append_drop]
        rw [pc_dos_app] at g1 ⊢
        cases q : pc_dos T (c :: B) with
        | none => rw [q] at g1; cases g1
        | some T2 =>
          rw [q] at g1
          obtain ⟨k1, k2⟩ := hk.2.2 T T2 (fun e he => g2 e (List.mem_append_left _ he)) q
          rw [k1]
          refine ⟨g1, fun e he => ?_⟩
          rcases List.mem_append.mp he with he | he
          · exact k2 e he
          · exact g2 e (List.mem_append_right _ he)
theorem pc_gb_V {P X : List pc_Ch} (h : pc_V (P ++ X)) : pc_V (P ++ pc_gb X) := by
  obtain ⟨T, T1, h1, h2, h3⟩ := h
  obtain ⟨R, g1, g2⟩ := pc_gb_ex X
  rw [pc_dos_app] at h2
  cases q : pc_dos T P with
  | none => rw [q] at h2; cases h2
  | some T2 =>
    rw [q] at h2
    obtain ⟨k1, k2⟩ := g2 T2 T1 (fun c hc => h3 c (List.mem_append_right _ hc)) h2
    rw [pc_dos_app] at k1
    cases q2 : pc_dos T2 (pc_gb X) with
    | none => rw [q2] at k1; cases k1
    | some T3 =>
      refine ⟨T, T3, ?_, ?_, fun c hc => ?_⟩
      · simp only [List.length_append] at h1 ⊢
        omega
      · rw [pc_dos_app, q]
        exact q2
      · rcases List.mem_append.mp hc with hc | hc
        · exact h3 c (List.mem_append_left _ hc)
        · exact k2 c (List.mem_append_left _ hc)
/-- the set of what is needed, as the reference gathers it -/
def pm_ns : List pc_Ch → Int
  | [] => 0
  | [_] => 0
  | c :: d :: X => match pc_brF (pc_gb (d :: X)).length (c :: pc_gb (d :: X)) 0 with
    | some _ => pm_ns (d :: X)
    | none => px_or (pm_ns (d :: X)) (px_shl 1 c.1)
theorem pm_ns_step {c : pc_Ch} {X : List pc_Ch} (h : X ≠ []) : pm_ns (c :: X) = match pc_brF (pc_gb X).length (c :: pc_gb X) 0 with
    | some _ => pm_ns X
    | none => px_or (pm_ns X) (px_shl 1 c.1) := by
  cases X with
  | nil => exact absurd rfl h
  | cons d X => rfl
set_option maxHeartbeats 4000000 in
set_option maxRecDepth 100000 in
theorem c_X11_needed {G : px_G} {a : Nat} {x b : Nat} {L : List pc_Ch} {μ : px_Mem} {Q : Option px_X → px_Mem → Prop} (ha : a = 214 ∨ a = 215) (hl : L.length ≤ 16) (hx : x < L.length) (hb : b ≤ x) (hv : pc_V L) (hr : pm_at μ a 0 L)
    (h1 : ∀ (B : List pc_Ch) (μ1 : px_Mem), B = pc_gb ((L.take (x + 1)).drop b) → (∀ o, o ≠ 205 → o ≠ 216 → o ≠ 217 → μ1 o = μ o) → (∀ i, i ≠ 16 → μ1 205 i = μ 205 i) → μ1 205 16 = B.length → pm_at μ1 216 0 B → Q (some (.inl (pm_ns ((L.take (x + 1)).drop b)))) μ1) : px_C G yX11_needed cX11_needed 6 (some .int) 4 [.inr (.inl (some 205)), .inr (.inl (some a)), .inl x, .inl b] μ Q := by
  have ka : px_kd a = 20 := by rcases ha with rfl | rfl <;> decide +kernel
  have la : px_ln a = 16 := by rcases ha with rfl | rfl <;> decide +kernel
  have an : a ≠ 205 ∧ a ≠ 216 ∧ a ≠ 217 := by omega
  have loop : ∀ (n : Nat) (q : Int) (B : List pc_Ch) (μ1 : px_Mem), q + 1 = b + n → q < x → B = pc_gb ((L.take (x + 1)).drop (q + 1).toNat) → (∀ o, o ≠ 205 → o ≠ 216 → o ≠ 217 → μ1 o = μ o) → (∀ i, i ≠ 16 → μ1 205 i = μ 205 i) → μ1 205 16 = B.length → pm_at μ1 216 0 B →
      px_J G RX11 cX11_needed 6 (some .int) 4 22 [some (.inr (.inl (some 205))), some (.inr (.inl (some a))), some (.inl x), some (.inl b), some (.inl (pm_ns ((L.take (x + 1)).drop (q + 1).toNat))), some (.inl q)] [] μ1 Q := by
    intro n
    induction n with
    | zero =>
      intro q B μ1 h2 h3 h4 h5 h6 h7 h8
      refine px_go (fun p => p == 22) 400 ?_
      simp (disch := omega) only [px_lits, false_implies, true_implies, px_dec_ok, px_run_s, px_rules, px_rule_is, px_mats, px_calls, ↓reduceIte, eq_self, Bool.false_eq_true, px_flds, px_o_some, px_fvs, px_pfs, px_cts, px_cls, px_acs_, px_acn, true_and, and_true, true_or, or_true, false_or, or_false, and_self, not_true_eq_false, not_false_eq_true, Classical.not_not, Nat.reduceAdd, Nat.reduceSub, Nat.reduceBEq, Nat.reduceLT, Nat.reduceLeDiff, Nat.lt_add_one, px_tg, Int.cast_ofNat_Int, Int.reduceAdd, Int.reduceSub, Int.reduceMul, Int.reduceToNat, Int.reduceLE, Int.reduceLT, Int.reduceNeg, Int.reduceEq, Bool.or_false, Bool.false_or, Bool.or_true, Bool.true_or, List.length_cons, List.length_nil, List.nil_append, List.cons_append, Option.toList_some, Option.toList_none, reduceCtorEq, Option.some.injEq, Nat.zero_le, Nat.reduceMul, Nat.mul_zero, Nat.add_zero, Int.reduceDiv, Int.reduceMod, Int.toNat_natCast, Nat.lt_irrefl, Int.natCast_add, Int.cast_ofNat_Int, px_mds_RX11_0, px_mds_RX11_1, dec_X11_needed, px_eq_iff, px_lt_iff, px_le_iff, px_up_o, px_up_eq, px_up_ne, px_cp_o, ka, la, pm_k, pm_l]
      refine ⟨fun _ => ?_, fun q => absurd (by omega) q⟩
      rw [show (q + 1).toNat = b by omega] at h4 ⊢
      exact h1 B μ1 h4 h5 h6 h7 h8
    | succ n ih =>
      intro q B μ1 h2 h3 h4 h5 h6 h7 h8
      obtain ⟨k, rfl⟩ : ∃ k : Nat, q = k := ⟨q.toNat, by omega⟩
      rw [show ((k : Int) + 1).toNat = k + 1 by omega] at h4
      obtain ⟨c, hc⟩ : ∃ c, L[k]? = some c := ⟨_, List.getElem?_eq_getElem (by omega)⟩
      have oc := hv.ok (List.mem_of_getElem? hc)
      have ga : μ1 a = μ a := h5 a an.1 an.2.1 an.2.2
      have mc := hr k c hc
      rw [Int.zero_add, ← ga] at mc
      have hXn : (L.take (x + 1)).drop (k + 1) ≠ [] := by
        intro e
        have := congrArg List.length e
        simp only [List.length_drop, List.length_take, List.length_nil] at this
        omega
      have hX : (L.take (x + 1)).drop k = c :: (L.take (x + 1)).drop (k + 1) := by
        refine (List.drop_eq_getElem_cons (by rw [List.length_take]; omega)).trans ?_
        congr 1
        have := (List.getElem?_eq_some_iff.mp hc).2
        rw [List.getElem_take]
        exact this
      have hvX : pc_V ([c] ++ (L.take (x + 1)).drop (k + 1)) := by
        have e1 : L = L.take k ++ ((L.take (x + 1)).drop k) ++ L.drop (x + 1) := by
          have e2 := List.take_append_drop k (L.take (x + 1))
          have e3 := List.take_append_drop (x + 1) L
          rw [List.take_take, Nat.min_eq_left (by omega)] at e2
          rw [e2, e3]
        rw [e1] at hv
        have := hv.mid
        rw [hX] at this
        exact this
      have hvB := pc_gb_V hvX
      rw [← h4, List.singleton_append] at hvB
      have hBl : B.length ≤ 15 := by
        obtain ⟨R, g1, -⟩ := pc_gb_ex ((L.take (x + 1)).drop (k + 1))
        rw [← h4] at g1
        simp only [List.length_drop, List.length_take] at g1
        omega
      have hst := pc_gb_step (c := c) hXn
      have hns := pm_ns_step (c := c) hXn
      rw [← h4, ← hX] at hst hns
      refine px_go (fun p => p == 22) 400 ?_
      simp (disch := omega) only [px_lits, false_implies, true_implies, px_dec_ok, px_run_s, px_rules, px_rule_is, px_mats, px_calls, ↓reduceIte, eq_self, Bool.false_eq_true, px_flds, px_o_some, px_fvs, px_pfs, px_cts, px_cls, px_acs_, px_acn, true_and, and_true, true_or, or_true, false_or, or_false, and_self, not_true_eq_false, not_false_eq_true, Classical.not_not, Nat.reduceAdd, Nat.reduceSub, Nat.reduceBEq, Nat.reduceLT, Nat.reduceLeDiff, Nat.lt_add_one, px_tg, Int.cast_ofNat_Int, Int.reduceAdd, Int.reduceSub, Int.reduceMul, Int.reduceToNat, Int.reduceLE, Int.reduceLT, Int.reduceNeg, Int.reduceEq, Bool.or_false, Bool.false_or, Bool.or_true, Bool.true_or, List.length_cons, List.length_nil, List.nil_append, List.cons_append, Option.toList_some, Option.toList_none, reduceCtorEq, Option.some.injEq, Nat.zero_le, Nat.reduceMul, Nat.mul_zero, Nat.add_zero, Int.reduceDiv, Int.reduceMod, Int.toNat_natCast, Nat.lt_irrefl, Int.natCast_add, Int.cast_ofNat_Int, px_mds_RX11_0, px_mds_RX11_1, dec_X11_needed, px_eq_iff, px_lt_iff, px_le_iff, px_up_o, px_up_eq, px_up_ne, px_cp_o, ka, la, pm_k, pm_l, h7]
      refine ⟨fun q => by omega, fun _ => ?_⟩
      repeat refine ⟨by omega, ?_⟩
      refine c_X11_bring pm_k.2.2.2.2.2.2.2.2.2.2.2.1 pm_k.2.2.2.2.2.2.2.2.2.2.2.2.1 (by omega) (by rw [pm_l.2.2.2.2.2.2.2.2.2.2.1]; omega) (by rw [pm_l.2.2.2.2.2.2.2.2.2.2.2.1]; omega) ?_
      generalize hμ2 : px_cp (px_up μ1 217 0 (μ1 a k)) 216 0 217 1 B.length = μ2
      have r2 : pm_at μ2 217 0 (c :: B) := by
        rw [← hμ2]
        have e1 : pm_at (px_cp (px_up μ1 217 0 (μ1 a k)) 216 0 217 1 B.length) 217 1 B := pm_at.cp (h8.same (by simp (disch := omega) only [px_up_o])) (Nat.le_refl _)
        refine pm_at.app (L := [c]) (fun i e he => ?_) e1
        cases i with
        | zero =>
          cases he
          rw [px_cp_out (by omega), px_up_eq (by omega)]
          exact mc
        | succ i => cases he
      have f2 : ∀ o, o ≠ 217 → μ2 o = μ1 o := fun o ho => by
        rw [← hμ2]
        simp (disch := omega) only [px_cp_o, px_up_o]
      have g205 : μ2 205 16 = B.length := by rw [f2 205 (by omega), h7]
      refine px_go (fun p => p == 22) 400 ?_
      simp (disch := omega) only [px_lits, false_implies, true_implies, px_dec_ok, px_run_s, px_rules, px_rule_is, px_mats, px_calls, ↓reduceIte, eq_self, Bool.false_eq_true, px_flds, px_o_some, px_fvs, px_pfs, px_cts, px_cls, px_acs_, px_acn, true_and, and_true, true_or, or_true, false_or, or_false, and_self, not_true_eq_false, not_false_eq_true, Classical.not_not, Nat.reduceAdd, Nat.reduceSub, Nat.reduceBEq, Nat.reduceLT, Nat.reduceLeDiff, Nat.lt_add_one, px_tg, Int.cast_ofNat_Int, Int.reduceAdd, Int.reduceSub, Int.reduceMul, Int.reduceToNat, Int.reduceLE, Int.reduceLT, Int.reduceNeg, Int.reduceEq, Bool.or_false, Bool.false_or, Bool.or_true, Bool.true_or, List.length_cons, List.length_nil, List.nil_append, List.cons_append, Option.toList_some, Option.toList_none, reduceCtorEq, Option.some.injEq, Nat.zero_le, Nat.reduceMul, Nat.mul_zero, Nat.add_zero, Int.reduceDiv, Int.reduceMod, Int.toNat_natCast, Nat.lt_irrefl, Int.natCast_add, Int.cast_ofNat_Int, px_mds_RX11_0, px_mds_RX11_1, dec_X11_needed, px_eq_iff, px_lt_iff, px_le_iff, px_up_o, px_up_eq, px_up_ne, px_cp_o, ka, la, pm_k, pm_l, g205]
      refine c_X11_isBroughtF (f := 0) (t := B.length) (L := c :: B) pm_k.2.2.2.2.2.2.2.2.2.2.2.2.1 (by rw [pm_l.2.2.2.2.2.2.2.2.2.2.2.1, List.length_cons]; omega) (Nat.zero_le _) (by simp) hvB r2 (fun T μ3 e1 e2 e3 => ?_) (fun μ3 e1 e2 => ?_)
      · rw [Nat.sub_zero] at e1
        rw [e1] at hst hns
        dsimp only at hst hns
        have hTl := (pc_brF_keep e1).1
        rw [List.length_cons] at hTl
        have g205 : μ3 205 16 = B.length := by rw [e2 205 (by omega), g205]
        refine px_go (fun p => p == 22) 400 ?_
        simp (disch := omega) only [px_lits, false_implies, true_implies, px_dec_ok, px_run_s, px_rules, px_rule_is, px_mats, px_calls, ↓reduceIte, eq_self, Bool.false_eq_true, px_flds, px_o_some, px_fvs, px_pfs, px_cts, px_cls, px_acs_, px_acn, true_and, and_true, true_or, or_true, false_or, or_false, and_self, not_true_eq_false, not_false_eq_true, Classical.not_not, Nat.reduceAdd, Nat.reduceSub, Nat.reduceBEq, Nat.reduceLT, Nat.reduceLeDiff, Nat.lt_add_one, px_tg, Int.cast_ofNat_Int, Int.reduceAdd, Int.reduceSub, Int.reduceMul, Int.reduceToNat, Int.reduceLE, Int.reduceLT, Int.reduceNeg, Int.reduceEq, Bool.or_false, Bool.false_or, Bool.or_true, Bool.true_or, List.length_cons, List.length_nil, List.nil_append, List.cons_append, Option.toList_some, Option.toList_none, reduceCtorEq, Option.some.injEq, Nat.zero_le, Nat.reduceMul, Nat.mul_zero, Nat.add_zero, Int.reduceDiv, Int.reduceMod, Int.toNat_natCast, Nat.lt_irrefl, Int.natCast_add, Int.cast_ofNat_Int, px_mds_RX11_0, px_mds_RX11_1, dec_X11_needed, px_eq_iff, px_lt_iff, px_le_iff, px_up_o, px_up_eq, px_up_ne, px_cp_o, ka, la, pm_k, pm_l, g205]
        refine c_X11_bring pm_k.2.2.2.2.2.2.2.2.2.2.2.2.1 pm_k.2.2.2.2.2.2.2.2.2.2.2.1 (by omega) (by rw [pm_l.2.2.2.2.2.2.2.2.2.2.2.1]; omega) (by rw [pm_l.2.2.2.2.2.2.2.2.2.2.1]; omega) ?_
        refine px_go (fun p => p == 22) 400 ?_
        simp (disch := omega) only [px_lits, false_implies, true_implies, px_dec_ok, px_run_s, px_rules, px_rule_is, px_mats, px_calls, ↓reduceIte, eq_self, Bool.false_eq_true, px_flds, px_o_some, px_fvs, px_pfs, px_cts, px_cls, px_acs_, px_acn, true_and, and_true, true_or, or_true, false_or, or_false, and_self, not_true_eq_false, not_false_eq_true, Classical.not_not, Nat.reduceAdd, Nat.reduceSub, Nat.reduceBEq, Nat.reduceLT, Nat.reduceLeDiff, Nat.lt_add_one, px_tg, Int.cast_ofNat_Int, Int.reduceAdd, Int.reduceSub, Int.reduceMul, Int.reduceToNat, Int.reduceLE, Int.reduceLT, Int.reduceNeg, Int.reduceEq, Bool.or_false, Bool.false_or, Bool.or_true, Bool.true_or, List.length_cons, List.length_nil, List.nil_append, List.cons_append, Option.toList_some, Option.toList_none, reduceCtorEq, Option.some.injEq, Nat.zero_le, Nat.reduceMul, Nat.mul_zero, Nat.add_zero, Int.reduceDiv, Int.reduceMod, Int.toNat_natCast, Nat.lt_irrefl, Int.natCast_add, Int.cast_ofNat_Int, px_mds_RX11_0, px_mds_RX11_1, dec_X11_needed, px_eq_iff, px_lt_iff, px_le_iff, px_up_o, px_up_eq, px_up_ne, px_cp_o, ka, la, pm_k, pm_l]
        have := ih ((k : Int) + -1) (T.take B.length) (px_cp μ3 217 0 216 0 B.length) (by omega) (by omega) (by rw [show ((k : Int) + -1 + 1).toNat = k by omega]; exact hst.symm) (fun o o1 o2 o3 => by rw [px_cp_o o2, e2 o o3, f2 o o3, h5 o o1 o2 o3]) (fun i hi => by rw [px_cp_o (by omega), e2 205 (by omega), f2 205 (by omega), h6 i hi]) (by rw [px_cp_o (by omega), g205, List.length_take, hTl]; omega) (pm_at.cp (n := B.length) (e3.sub B.length).1 (by rw [List.length_take]; omega))
        rw [show ((k : Int) + -1 + 1).toNat = k by omega, hns] at this
        rw [show ((k : Int) + 1).toNat = k + 1 by omega]
        exact this
      · rw [Nat.sub_zero] at e1
        rw [e1] at hst hns
        dsimp only at hst hns
        have g205 : μ3 205 16 = B.length := by rw [e2 205 (by omega), g205]
        have ga3 : μ3 a k = pm_pk c := by rw [e2 a an.2.2, f2 a an.2.2, mc]
        refine px_go (fun p => p == 22) 400 ?_
        simp (disch := omega) only [px_lits, false_implies, true_implies, px_dec_ok, px_run_s, px_rules, px_rule_is, px_mats, px_calls, ↓reduceIte, eq_self, Bool.false_eq_true, px_flds, px_o_some, px_fvs, px_pfs, px_cts, px_cls, px_acs_, px_acn, true_and, and_true, true_or, or_true, false_or, or_false, and_self, not_true_eq_false, not_false_eq_true, Classical.not_not, Nat.reduceAdd, Nat.reduceSub, Nat.reduceBEq, Nat.reduceLT, Nat.reduceLeDiff, Nat.lt_add_one, px_tg, Int.cast_ofNat_Int, Int.reduceAdd, Int.reduceSub, Int.reduceMul, Int.reduceToNat, Int.reduceLE, Int.reduceLT, Int.reduceNeg, Int.reduceEq, Bool.or_false, Bool.false_or, Bool.or_true, Bool.true_or, List.length_cons, List.length_nil, List.nil_append, List.cons_append, Option.toList_some, Option.toList_none, reduceCtorEq, Option.some.injEq, Nat.zero_le, Nat.reduceMul, Nat.mul_zero, Nat.add_zero, Int.reduceDiv, Int.reduceMod, Int.toNat_natCast, Nat.lt_irrefl, Int.natCast_add, Int.cast_ofNat_Int, px_mds_RX11_0, px_mds_RX11_1, dec_X11_needed, px_eq_iff, px_lt_iff, px_le_iff, px_up_o, px_up_eq, px_up_ne, px_cp_o, ka, la, pm_k, pm_l, g205]
        refine ⟨by omega, ?_⟩
        rw [ga3]
        refine c_X11_number oc ?_
        refine px_go (fun p => p == 22) 400 ?_
        simp (disch := omega) only [px_lits, false_implies, true_implies, px_dec_ok, px_run_s, px_rules, px_rule_is, px_mats, px_calls, ↓reduceIte, eq_self, Bool.false_eq_true, px_flds, px_o_some, px_fvs, px_pfs, px_cts, px_cls, px_acs_, px_acn, true_and, and_true, true_or, or_true, false_or, or_false, and_self, not_true_eq_false, not_false_eq_true, Classical.not_not, Nat.reduceAdd, Nat.reduceSub, Nat.reduceBEq, Nat.reduceLT, Nat.reduceLeDiff, Nat.lt_add_one, px_tg, Int.cast_ofNat_Int, Int.reduceAdd, Int.reduceSub, Int.reduceMul, Int.reduceToNat, Int.reduceLE, Int.reduceLT, Int.reduceNeg, Int.reduceEq, Bool.or_false, Bool.false_or, Bool.or_true, Bool.true_or, List.length_cons, List.length_nil, List.nil_append, List.cons_append, Option.toList_some, Option.toList_none, reduceCtorEq, Option.some.injEq, Nat.zero_le, Nat.reduceMul, Nat.mul_zero, Nat.add_zero, Int.reduceDiv, Int.reduceMod, Int.toNat_natCast, Nat.lt_irrefl, Int.natCast_add, Int.cast_ofNat_Int, px_mds_RX11_0, px_mds_RX11_1, dec_X11_needed, px_eq_iff, px_lt_iff, px_le_iff, px_up_o, px_up_eq, px_up_ne, px_cp_o, ka, la, pm_k, pm_l, g205]
        refine c_X11_bring pm_k.2.2.2.2.2.2.2.2.2.2.2.1 pm_k.2.2.2.2.2.2.2.2.2.2.2.2.1 (by omega) (by rw [pm_l.2.2.2.2.2.2.2.2.2.2.1]; omega) (by rw [pm_l.2.2.2.2.2.2.2.2.2.2.2.1]; omega) ?_
        generalize hμ4 : px_cp μ3 216 0 217 1 B.length = μ4
        have f4 : ∀ o, o ≠ 217 → μ4 o = μ1 o := fun o ho => by
          rw [← hμ4, px_cp_o ho, e2 o ho, f2 o ho]
        have r4 : pm_at μ4 217 1 B := by
          rw [← hμ4]
          exact pm_at.cp (h8.same (by rw [e2 216 (by omega), f2 216 (by omega)])) (Nat.le_refl _)
        have g205 : μ4 205 16 = B.length := by rw [f4 205 (by omega), h7]
        have ga4 : μ4 a k = pm_pk c := by rw [f4 a an.2.2, mc]
        refine px_go (fun p => p == 22) 400 ?_
        simp (disch := omega) only [px_lits, false_implies, true_implies, px_dec_ok, px_run_s, px_rules, px_rule_is, px_mats, px_calls, ↓reduceIte, eq_self, Bool.false_eq_true, px_flds, px_o_some, px_fvs, px_pfs, px_cts, px_cls, px_acs_, px_acn, true_and, and_true, true_or, or_true, false_or, or_false, and_self, not_true_eq_false, not_false_eq_true, Classical.not_not, Nat.reduceAdd, Nat.reduceSub, Nat.reduceBEq, Nat.reduceLT, Nat.reduceLeDiff, Nat.lt_add_one, px_tg, Int.cast_ofNat_Int, Int.reduceAdd, Int.reduceSub, Int.reduceMul, Int.reduceToNat, Int.reduceLE, Int.reduceLT, Int.reduceNeg, Int.reduceEq, Bool.or_false, Bool.false_or, Bool.or_true, Bool.true_or, List.length_cons, List.length_nil, List.nil_append, List.cons_append, Option.toList_some, Option.toList_none, reduceCtorEq, Option.some.injEq, Nat.zero_le, Nat.reduceMul, Nat.mul_zero, Nat.add_zero, Int.reduceDiv, Int.reduceMod, Int.toNat_natCast, Nat.lt_irrefl, Int.natCast_add, Int.cast_ofNat_Int, px_mds_RX11_0, px_mds_RX11_1, dec_X11_needed, px_eq_iff, px_lt_iff, px_le_iff, px_up_o, px_up_eq, px_up_ne, px_cp_o, ka, la, pm_k, pm_l, g205, ga4]
        repeat refine ⟨by omega, ?_⟩
        rw [show ((B.length : Int) + 1) = ((B.length + 1 : Nat) : Int) by omega]
        refine c_X11_bring pm_k.2.2.2.2.2.2.2.2.2.2.2.2.1 pm_k.2.2.2.2.2.2.2.2.2.2.2.1 (by omega) (by rw [pm_l.2.2.2.2.2.2.2.2.2.2.2.1]; omega) (by rw [pm_l.2.2.2.2.2.2.2.2.2.2.1]; omega) ?_
        refine px_go (fun p => p == 22) 400 ?_
        simp (disch := omega) only [px_lits, false_implies, true_implies, px_dec_ok, px_run_s, px_rules, px_rule_is, px_mats, px_calls, ↓reduceIte, eq_self, Bool.false_eq_true, px_flds, px_o_some, px_fvs, px_pfs, px_cts, px_cls, px_acs_, px_acn, true_and, and_true, true_or, or_true, false_or, or_false, and_self, not_true_eq_false, not_false_eq_true, Classical.not_not, Nat.reduceAdd, Nat.reduceSub, Nat.reduceBEq, Nat.reduceLT, Nat.reduceLeDiff, Nat.lt_add_one, px_tg, Int.cast_ofNat_Int, Int.reduceAdd, Int.reduceSub, Int.reduceMul, Int.reduceToNat, Int.reduceLE, Int.reduceLT, Int.reduceNeg, Int.reduceEq, Bool.or_false, Bool.false_or, Bool.or_true, Bool.true_or, List.length_cons, List.length_nil, List.nil_append, List.cons_append, Option.toList_some, Option.toList_none, reduceCtorEq, Option.some.injEq, Nat.zero_le, Nat.reduceMul, Nat.mul_zero, Nat.add_zero, Int.reduceDiv, Int.reduceMod, Int.toNat_natCast, Nat.lt_irrefl, Int.natCast_add, Int.cast_ofNat_Int, px_mds_RX11_0, px_mds_RX11_1, dec_X11_needed, px_eq_iff, px_lt_iff, px_le_iff, px_up_o, px_up_eq, px_up_ne, px_cp_o, ka, la, pm_k, pm_l]
        have r5 : pm_at (px_up (px_up μ4 217 0 (pm_pk c)) 205 16 ((B.length + 1 : Nat) : Int)) 217 0 (c :: B) := by
          refine pm_at.app (L := [c]) (fun i e he => ?_) (fun i e he => ?_)
          · cases i with
            | zero =>
              cases he
              simp (disch := omega) only [px_up_o, px_up_eq]
            | succ i => cases he
          · simp (disch := omega) only [px_up_o]
            rw [px_up_ne (by simp only [List.length_cons, List.length_nil]; omega)]
            have := r4 i e he
            simpa using this
        have := ih ((k : Int) + -1) (c :: B) (px_cp (px_up (px_up μ4 217 0 (pm_pk c)) 205 16 ((B.length + 1 : Nat) : Int)) 217 0 216 0 ((B.length + 1 : Nat) : Int)) (by omega) (by omega) (by rw [show ((k : Int) + -1 + 1).toNat = k by omega]; exact hst.symm) (fun o o1 o2 o3 => by rw [px_cp_o o2, px_up_o o1, px_up_o o3, f4 o o3, h5 o o1 o2 o3]) (fun i hi => by rw [px_cp_o (by omega), px_up_ne hi, px_up_o (by omega), f4 205 (by omega), h6 i hi]) (by rw [px_cp_o (by omega), px_up_eq rfl, List.length_cons]) (pm_at.cp (n := B.length + 1) r5 (by simp))
        rw [show ((k : Int) + -1 + 1).toNat = k by omega, hns] at this
        rw [show ((k : Int) + 1).toNat = k + 1 by omega]
        exact this
  obtain ⟨c, hc⟩ : ∃ c, L[x]? = some c := ⟨_, List.getElem?_eq_getElem hx⟩
  have mc := hr x c hc
  rw [Int.zero_add] at mc
  have hX1 : (L.take (x + 1)).drop x = [c] := by
    rw [List.take_add_one, hc, List.drop_append_of_le_length (by rw [List.length_take]; omega), List.drop_eq_nil_of_le (by rw [List.length_take]; omega)]
    rfl
  refine px_enter RX11 (by decide +kernel) rfl (by simp) (by simp [px_c1]) ?_
  simp only [List.map_cons, List.map_nil, List.length_cons, List.length_nil, List.replicate, List.append_nil, Nat.reduceAdd, Nat.reduceSub, List.cons_append, List.nil_append]
  refine px_go (fun p => p == 22) 400 ?_
  simp (disch := omega) only [px_lits, false_implies, true_implies, px_dec_ok, px_run_s, px_rules, px_rule_is, px_mats, px_calls, ↓reduceIte, eq_self, Bool.false_eq_true, px_flds, px_o_some, px_fvs, px_pfs, px_cts, px_cls, px_acs_, px_acn, true_and, and_true, true_or, or_true, false_or, or_false, and_self, not_true_eq_false, not_false_eq_true, Classical.not_not, Nat.reduceAdd, Nat.reduceSub, Nat.reduceBEq, Nat.reduceLT, Nat.reduceLeDiff, Nat.lt_add_one, px_tg, Int.cast_ofNat_Int, Int.reduceAdd, Int.reduceSub, Int.reduceMul, Int.reduceToNat, Int.reduceLE, Int.reduceLT, Int.reduceNeg, Int.reduceEq, Bool.or_false, Bool.false_or, Bool.or_true, Bool.true_or, List.length_cons, List.length_nil, List.nil_append, List.cons_append, Option.toList_some, Option.toList_none, reduceCtorEq, Option.some.injEq, Nat.zero_le, Nat.reduceMul, Nat.mul_zero, Nat.add_zero, Int.reduceDiv, Int.reduceMod, Int.toNat_natCast, Nat.lt_irrefl, Int.natCast_add, Int.cast_ofNat_Int, px_mds_RX11_0, px_mds_RX11_1, dec_X11_needed, px_eq_iff, px_lt_iff, px_le_iff, px_up_o, px_up_eq, px_up_ne, px_cp_o, ka, la, pm_k, pm_l, mc]
  repeat refine ⟨by omega, ?_⟩
  have := loop (x - b) ((x : Int) - 1) [c] (px_up (px_up μ 216 0 (pm_pk c)) 205 16 1) (by omega) (by omega) (by rw [show ((x : Int) - 1 + 1).toNat = x by omega, hX1]; rfl) (fun o o1 o2 o3 => by rw [px_up_o o1, px_up_o o2]) (fun i hi => by rw [px_up_ne hi, px_up_o (by omega)]) (by rw [px_up_eq rfl]; rfl) (fun i e he => by
    cases i with
    | zero =>
      cases he
      simp (disch := omega) only [px_up_o, px_up_eq]
    | succ i => cases he)
  rw [show ((x : Int) - 1 + 1).toNat = x by omega, hX1] at this
  exact this
