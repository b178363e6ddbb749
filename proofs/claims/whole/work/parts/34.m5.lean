/-! ===== the reference: its state in rows ===== -/
def pm_h1 (μ : px_Mem) (a : Nat) (k : Int) (v : List pc_Ch × Int × Int) : Prop := μ a k = v.1.length ∧ μ a (k + 1) = v.2.1 ∧ μ a (k + 2) = v.2.2 ∧ pm_at μ a (k + 3) v.1 ∧ v.1.length ≤ 16
def pm_hs (μ : px_Mem) (a : Nat) (k : Int) (s : pc_HS) : Prop := pm_h1 μ a k s.1 ∧ pm_h1 μ a (k + 19) s.2
theorem pm_h1.move {μ μ1 : px_Mem} {a c : Nat} {k j : Int} {v : List pc_Ch × Int × Int} (h : pm_h1 μ a k v) (e : ∀ i : Int, 0 ≤ i → i < 19 → μ1 c (j + i) = μ a (k + i)) : pm_h1 μ1 c j v := by
  obtain ⟨h1, h2, h3, h4, h5⟩ := h
  have e0 := e 0 (by omega) (by omega)
  rw [Int.add_zero, Int.add_zero] at e0
  refine ⟨by rw [e0, h1], by rw [e 1 (by omega) (by omega), h2], by rw [e 2 (by omega) (by omega), h3], fun i x hx => ?_, h5⟩
  have := (List.getElem?_eq_some_iff.mp hx).1
  rw [Int.add_assoc, e (3 + i) (by omega) (by omega), ← Int.add_assoc]
  exact h4 i x hx
theorem pm_hs.move {μ μ1 : px_Mem} {a c : Nat} {k j : Int} {s : pc_HS} (h : pm_hs μ a k s) (e : ∀ i : Int, 0 ≤ i → i < 38 → μ1 c (j + i) = μ a (k + i)) : pm_hs μ1 c j s :=
  ⟨h.1.move (fun i i0 i1 => e i i0 (by omega)), h.2.move (fun i i0 i1 => by rw [Int.add_assoc, Int.add_assoc]; exact e (19 + i) (by omega) (by omega))⟩
theorem pm_hs.same {μ μ1 : px_Mem} {a : Nat} {k : Int} {s : pc_HS} (h : pm_hs μ a k s) (e : μ1 a = μ a) : pm_hs μ1 a k s := h.move (fun i _ _ => by rw [e])
def pc_g (s : pc_HS) (h : Nat) : List pc_Ch × Int × Int := if h = 0 then s.1 else s.2
def pc_p (s : pc_HS) (h : Nat) (v : List pc_Ch × Int × Int) : pc_HS := if h = 0 then (v, s.2) else (s.1, v)
theorem pm_hs.at {μ : px_Mem} {a : Nat} {k : Int} {s : pc_HS} (h : pm_hs μ a k s) {j : Nat} (hj : j < 2) : pm_h1 μ a (k + 19 * j) (pc_g s j) := by
  rcases (show j = 0 ∨ j = 1 by omega) with rfl | rfl
  · have := h.1
    simpa [pc_g] using this
  · have := h.2
    simpa [pc_g] using this
theorem pm_hs.put {μ μ1 : px_Mem} {a : Nat} {k : Int} {s : pc_HS} {v : List pc_Ch × Int × Int} {j : Nat} (hj : j < 2) (h : pm_hs μ a k s) (e : ∀ i : Int, (i < k + 19 * j ∨ k + 19 * j + 19 ≤ i) → μ1 a i = μ a i) (hv : pm_h1 μ1 a (k + 19 * j) v) : pm_hs μ1 a k (pc_p s j v) := by
  rcases (show j = 0 ∨ j = 1 by omega) with rfl | rfl
  · refine ⟨?_, ?_⟩
    · simpa [pc_p] using hv
    · have := h.2.move (μ1 := μ1) (c := a) (j := k + 19) (fun i i0 i1 => e _ (by omega))
      simpa [pc_p] using this
  · refine ⟨?_, ?_⟩
    · have := h.1.move (μ1 := μ1) (c := a) (j := k) (fun i i0 i1 => e _ (by omega))
      simpa [pc_p] using this
    · simpa [pc_p] using hv
def pm_past (μ : px_Mem) (P : List pc_HS) : Prop := μ 205 4 = P.length ∧ P.length ≤ 8 ∧ ∀ (i : Nat) (s : pc_HS), P[i]? = some s → pm_hs μ 208 (38 * ((P.length : Int) - 1 - i)) s
theorem pm_past.same {μ μ1 : px_Mem} {P : List pc_HS} (h : pm_past μ P) (e1 : μ1 205 4 = μ 205 4) (e2 : μ1 208 = μ 208) : pm_past μ1 P := ⟨by rw [e1]; exact h.1, h.2.1, fun i s hs => (h.2.2 i s hs).same e2⟩
set_option maxHeartbeats 4000000 in
set_option maxRecDepth 100000 in
theorem c_X11_note {G : px_G} {P : List pc_HS} {s : pc_HS} {μ : px_Mem} {Q : Option px_X → px_Mem → Prop} (hp : pm_past μ P) (hs : pm_hs μ 207 0 s)
    (h1 : ∀ μ1 : px_Mem, (∀ o, o ≠ 205 → o ≠ 208 → μ1 o = μ o) → (∀ i, i ≠ 4 → μ1 205 i = μ 205 i) → pm_past μ1 ((s :: P).take 8) → Q none μ1) : px_C G yX11_note cX11_note 1 none 1 [.inr (.inl (some 205))] μ Q := by
  obtain ⟨p1, p2, p3⟩ := hp
  have fin : ∀ (m : Nat) (μ1 : px_Mem) (P1 : List pc_HS), P1.length = m → m < 8 → μ1 205 4 = m → (∀ o, o ≠ 205 → o ≠ 208 → μ1 o = μ o) → (∀ i, i ≠ 4 → μ1 205 i = μ 205 i) → pm_past μ1 P1 → (s :: P).take 8 = s :: P1 → px_J G RX11 cX11_note 1 none 1 36 [some (.inr (.inl (some 205)))] [] μ1 Q := by
    intro m μ1 P1 g1 g2 g3 g4 g5 g6 g7
    refine px_go (fun _ => false) 400 ?_
    simp (disch := omega) only [px_lits, false_implies, true_implies, px_dec_ok, px_run_s, px_rules, px_rule_is, px_mats, px_calls, ↓reduceIte, eq_self, Bool.false_eq_true, px_flds, px_o_some, px_fvs, px_pfs, px_cts, px_cls, px_acs_, px_acn, true_and, and_true, true_or, or_true, false_or, or_false, and_self, not_true_eq_false, not_false_eq_true, Classical.not_not, Nat.reduceAdd, Nat.reduceSub, Nat.reduceBEq, Nat.reduceLT, Nat.reduceLeDiff, Nat.lt_add_one, px_tg, Int.cast_ofNat_Int, Int.reduceAdd, Int.reduceSub, Int.reduceMul, Int.reduceToNat, Int.reduceLE, Int.reduceLT, Int.reduceNeg, Int.reduceEq, Bool.or_false, Bool.false_or, Bool.or_true, Bool.true_or, List.length_cons, List.length_nil, List.nil_append, List.cons_append, Option.toList_some, Option.toList_none, reduceCtorEq, Option.some.injEq, Nat.zero_le, Nat.reduceMul, Nat.mul_zero, Nat.add_zero, Int.reduceDiv, Int.reduceMod, Int.toNat_natCast, Nat.lt_irrefl, Int.natCast_add, Int.cast_ofNat_Int, px_mds_RX11_0, px_mds_RX11_1, dec_X11_note, px_eq_iff, px_lt_iff, px_le_iff, px_up_o, px_up_eq, px_up_ne, px_cp_o, pm_k, pm_l, g3]
    refine c_X11_bring (n := 38) pm_k.2.2.1 pm_k.2.2.2.1 (by omega) (by rw [pm_l.2.1]; omega) (by rw [pm_l.2.2.1]; omega) ?_
    have g205 : px_cp μ1 207 0 208 (38 * (m : Int)) ((38 : Nat) : Int) 205 = μ1 205 := px_cp_o (by omega)
    refine px_go (fun _ => false) 400 ?_
    simp (disch := omega) only [px_lits, false_implies, true_implies, px_dec_ok, px_run_s, px_rules, px_rule_is, px_mats, px_calls, ↓reduceIte, eq_self, Bool.false_eq_true, px_flds, px_o_some, px_fvs, px_pfs, px_cts, px_cls, px_acs_, px_acn, true_and, and_true, true_or, or_true, false_or, or_false, and_self, not_true_eq_false, not_false_eq_true, Classical.not_not, Nat.reduceAdd, Nat.reduceSub, Nat.reduceBEq, Nat.reduceLT, Nat.reduceLeDiff, Nat.lt_add_one, px_tg, Int.cast_ofNat_Int, Int.reduceAdd, Int.reduceSub, Int.reduceMul, Int.reduceToNat, Int.reduceLE, Int.reduceLT, Int.reduceNeg, Int.reduceEq, Bool.or_false, Bool.false_or, Bool.or_true, Bool.true_or, List.length_cons, List.length_nil, List.nil_append, List.cons_append, Option.toList_some, Option.toList_none, reduceCtorEq, Option.some.injEq, Nat.zero_le, Nat.reduceMul, Nat.mul_zero, Nat.add_zero, Int.reduceDiv, Int.reduceMod, Int.toNat_natCast, Nat.lt_irrefl, Int.natCast_add, Int.cast_ofNat_Int, px_mds_RX11_0, px_mds_RX11_1, dec_X11_note, px_eq_iff, px_lt_iff, px_le_iff, px_up_o, px_up_eq, px_up_ne, px_cp_o, pm_k, pm_l, g205, g3]
    refine h1 _ (fun o o1 o2 => ?_) (fun i hi => ?_) ?_
    · rw [px_up_o o1, px_cp_o o2, g4 o o1 o2]
    · rw [px_up_ne hi, px_cp_o (by omega), g5 i hi]
    · rw [g7]
      refine ⟨?_, by simp only [List.length_cons]; omega, fun i x hx => ?_⟩
      · rw [px_up_eq rfl]
        simp only [List.length_cons]
        omega
      · have hil := (List.getElem?_eq_some_iff.mp hx).1
        rw [List.length_cons] at hil
        cases i with
        | zero =>
          cases hx
          have e1 : pm_hs μ1 207 0 s := hs.same (g4 207 (by omega) (by omega))
          refine e1.move (fun j j0 j1 => ?_)
          rw [px_up_o (by omega), px_cp_in (by simp only [List.length_cons]; omega)]
          congr 1
          simp only [List.length_cons]
          omega
        | succ i =>
          have e1 := g6.2.2 i x hx
          refine e1.move (fun j j0 j1 => ?_)
          rw [px_up_o (by omega), px_cp_out (by simp only [List.length_cons]; omega)]
          congr 1
          simp only [List.length_cons]
          omega
  refine px_enter RX11 (by decide +kernel) rfl (by simp) (by simp [px_c1]) ?_
  simp only [List.map_cons, List.map_nil, List.length_cons, List.length_nil, List.replicate, List.append_nil, Nat.reduceAdd, Nat.reduceSub, List.cons_append, List.nil_append]
  by_cases h8 : P.length = 8
  · have e4 : μ 205 4 = 8 := by omega
    refine px_go (fun p => p == 36) 400 ?_
    simp (disch := omega) only [px_lits, false_implies, true_implies, px_dec_ok, px_run_s, px_rules, px_rule_is, px_mats, px_calls, ↓reduceIte, eq_self, Bool.false_eq_true, px_flds, px_o_some, px_fvs, px_pfs, px_cts, px_cls, px_acs_, px_acn, true_and, and_true, true_or, or_true, false_or, or_false, and_self, not_true_eq_false, not_false_eq_true, Classical.not_not, Nat.reduceAdd, Nat.reduceSub, Nat.reduceBEq, Nat.reduceLT, Nat.reduceLeDiff, Nat.lt_add_one, px_tg, Int.cast_ofNat_Int, Int.reduceAdd, Int.reduceSub, Int.reduceMul, Int.reduceToNat, Int.reduceLE, Int.reduceLT, Int.reduceNeg, Int.reduceEq, Bool.or_false, Bool.false_or, Bool.or_true, Bool.true_or, List.length_cons, List.length_nil, List.nil_append, List.cons_append, Option.toList_some, Option.toList_none, reduceCtorEq, Option.some.injEq, Nat.zero_le, Nat.reduceMul, Nat.mul_zero, Nat.add_zero, Int.reduceDiv, Int.reduceMod, Int.toNat_natCast, Nat.lt_irrefl, Int.natCast_add, Int.cast_ofNat_Int, px_mds_RX11_0, px_mds_RX11_1, dec_X11_note, px_eq_iff, px_lt_iff, px_le_iff, px_up_o, px_up_eq, px_up_ne, px_cp_o, pm_k, pm_l, e4]
    refine c_X11_bring (n := 266) pm_k.2.2.2.1 pm_k.2.2.2.1 (by omega) (by rw [pm_l.2.2.1]; omega) (by rw [pm_l.2.2.1]; omega) ?_
    have g205 : px_cp μ 208 38 208 0 ((266 : Nat) : Int) 205 = μ 205 := px_cp_o (by omega)
    refine px_go (fun p => p == 36) 400 ?_
    simp (disch := omega) only [px_lits, false_implies, true_implies, px_dec_ok, px_run_s, px_rules, px_rule_is, px_mats, px_calls, ↓reduceIte, eq_self, Bool.false_eq_true, px_flds, px_o_some, px_fvs, px_pfs, px_cts, px_cls, px_acs_, px_acn, true_and, and_true, true_or, or_true, false_or, or_false, and_self, not_true_eq_false, not_false_eq_true, Classical.not_not, Nat.reduceAdd, Nat.reduceSub, Nat.reduceBEq, Nat.reduceLT, Nat.reduceLeDiff, Nat.lt_add_one, px_tg, Int.cast_ofNat_Int, Int.reduceAdd, Int.reduceSub, Int.reduceMul, Int.reduceToNat, Int.reduceLE, Int.reduceLT, Int.reduceNeg, Int.reduceEq, Bool.or_false, Bool.false_or, Bool.or_true, Bool.true_or, List.length_cons, List.length_nil, List.nil_append, List.cons_append, Option.toList_some, Option.toList_none, reduceCtorEq, Option.some.injEq, Nat.zero_le, Nat.reduceMul, Nat.mul_zero, Nat.add_zero, Int.reduceDiv, Int.reduceMod, Int.toNat_natCast, Nat.lt_irrefl, Int.natCast_add, Int.cast_ofNat_Int, px_mds_RX11_0, px_mds_RX11_1, dec_X11_note, px_eq_iff, px_lt_iff, px_le_iff, px_up_o, px_up_eq, px_up_ne, px_cp_o, pm_k, pm_l, g205, e4]
    refine fin 7 _ (P.take 7) (by rw [List.length_take]; omega) (by omega) (by rw [px_up_eq rfl]; rfl) (fun o o1 o2 => by rw [px_up_o o1, px_cp_o o2]) (fun i hi => by rw [px_up_ne hi, px_cp_o (by omega)]) ?_ (by rw [List.take_succ_cons])
    refine ⟨by rw [px_up_eq rfl, List.length_take]; omega, by rw [List.length_take]; omega, fun i x hx => ?_⟩
    rw [List.getElem?_take] at hx
    split at hx
    · refine (p3 i x hx).move (fun j j0 j1 => ?_)
      rw [px_up_o (by omega), px_cp_in (by rw [List.length_take]; omega)]
      congr 1
      rw [List.length_take]
      omega
    · cases hx
  · have e4 : μ 205 4 = P.length := p1
    refine px_go (fun p => p == 36) 400 ?_
    simp (disch := omega) only [px_lits, false_implies, true_implies, px_dec_ok, px_run_s, px_rules, px_rule_is, px_mats, px_calls, ↓reduceIte, eq_self, Bool.false_eq_true, px_flds, px_o_some, px_fvs, px_pfs, px_cts, px_cls, px_acs_, px_acn, true_and, and_true, true_or, or_true, false_or, or_false, and_self, not_true_eq_false, not_false_eq_true, Classical.not_not, Nat.reduceAdd, Nat.reduceSub, Nat.reduceBEq, Nat.reduceLT, Nat.reduceLeDiff, Nat.lt_add_one, px_tg, Int.cast_ofNat_Int, Int.reduceAdd, Int.reduceSub, Int.reduceMul, Int.reduceToNat, Int.reduceLE, Int.reduceLT, Int.reduceNeg, Int.reduceEq, Bool.or_false, Bool.false_or, Bool.or_true, Bool.true_or, List.length_cons, List.length_nil, List.nil_append, List.cons_append, Option.toList_some, Option.toList_none, reduceCtorEq, Option.some.injEq, Nat.zero_le, Nat.reduceMul, Nat.mul_zero, Nat.add_zero, Int.reduceDiv, Int.reduceMod, Int.toNat_natCast, Nat.lt_irrefl, Int.natCast_add, Int.cast_ofNat_Int, px_mds_RX11_0, px_mds_RX11_1, dec_X11_note, px_eq_iff, px_lt_iff, px_le_iff, px_up_o, px_up_eq, px_up_ne, px_cp_o, pm_k, pm_l, e4]
    refine ⟨fun _ => fin P.length μ P rfl (by omega) p1 (fun _ _ _ => rfl) (fun _ _ => rfl) ⟨p1, p2, p3⟩ (by rw [List.take_of_length_le (by simp only [List.length_cons]; omega)]), fun q => by omega⟩
set_option maxHeartbeats 4000000 in
set_option maxRecDepth 100000 in
theorem c_X11_clear {G : px_G} {μ : px_Mem} {Q : Option px_X → px_Mem → Prop} (h1 : ∀ μ1 : px_Mem, (∀ o, o ≠ 207 → μ1 o = μ o) → pm_hs μ1 207 0 (([], -1, -1), ([], -1, -1)) → Q none μ1) : px_C G yX11_clear cX11_clear 2 none 0 [.inr (.inl (some 205))] μ Q := by
  refine px_enter RX11 (by decide +kernel) rfl (by simp) (by simp [px_c1]) ?_
  simp only [List.map_cons, List.map_nil, List.length_cons, List.length_nil, List.replicate, List.append_nil, Nat.reduceAdd, Nat.reduceSub, List.cons_append, List.nil_append]
  refine px_go (fun p => p == 2) 400 ?_
  simp (disch := omega) only [px_lits, false_implies, true_implies, px_dec_ok, px_run_s, px_rules, px_rule_is, px_mats, px_calls, ↓reduceIte, eq_self, Bool.false_eq_true, px_flds, px_o_some, px_fvs, px_pfs, px_cts, px_cls, px_acs_, px_acn, true_and, and_true, true_or, or_true, false_or, or_false, and_self, not_true_eq_false, not_false_eq_true, Classical.not_not, Nat.reduceAdd, Nat.reduceSub, Nat.reduceBEq, Nat.reduceLT, Nat.reduceLeDiff, Nat.lt_add_one, px_tg, Int.cast_ofNat_Int, Int.reduceAdd, Int.reduceSub, Int.reduceMul, Int.reduceToNat, Int.reduceLE, Int.reduceLT, Int.reduceNeg, Int.reduceEq, Bool.or_false, Bool.false_or, Bool.or_true, Bool.true_or, List.length_cons, List.length_nil, List.nil_append, List.cons_append, Option.toList_some, Option.toList_none, reduceCtorEq, Option.some.injEq, Nat.zero_le, Nat.reduceMul, Nat.mul_zero, Nat.add_zero, Int.reduceDiv, Int.reduceMod, Int.toNat_natCast, Nat.lt_irrefl, Int.natCast_add, Int.cast_ofNat_Int, px_mds_RX11_0, px_mds_RX11_1, dec_X11_clear, px_eq_iff, px_lt_iff, px_le_iff, px_up_o, px_up_eq, px_up_ne, px_cp_o, pm_k, pm_l]
  refine px_go (fun p => p == 2) 400 ?_
  simp (disch := omega) only [px_lits, false_implies, true_implies, px_dec_ok, px_run_s, px_rules, px_rule_is, px_mats, px_calls, ↓reduceIte, eq_self, Bool.false_eq_true, px_flds, px_o_some, px_fvs, px_pfs, px_cts, px_cls, px_acs_, px_acn, true_and, and_true, true_or, or_true, false_or, or_false, and_self, not_true_eq_false, not_false_eq_true, Classical.not_not, Nat.reduceAdd, Nat.reduceSub, Nat.reduceBEq, Nat.reduceLT, Nat.reduceLeDiff, Nat.lt_add_one, px_tg, Int.cast_ofNat_Int, Int.reduceAdd, Int.reduceSub, Int.reduceMul, Int.reduceToNat, Int.reduceLE, Int.reduceLT, Int.reduceNeg, Int.reduceEq, Bool.or_false, Bool.false_or, Bool.or_true, Bool.true_or, List.length_cons, List.length_nil, List.nil_append, List.cons_append, Option.toList_some, Option.toList_none, reduceCtorEq, Option.some.injEq, Nat.zero_le, Nat.reduceMul, Nat.mul_zero, Nat.add_zero, Int.reduceDiv, Int.reduceMod, Int.toNat_natCast, Nat.lt_irrefl, Int.natCast_add, Int.cast_ofNat_Int, px_mds_RX11_0, px_mds_RX11_1, dec_X11_clear, px_eq_iff, px_lt_iff, px_le_iff, px_up_o, px_up_eq, px_up_ne, px_cp_o, pm_k, pm_l]
  refine px_go (fun p => p == 2) 400 ?_
  simp (disch := omega) only [px_lits, false_implies, true_implies, px_dec_ok, px_run_s, px_rules, px_rule_is, px_mats, px_calls, ↓reduceIte, eq_self, Bool.false_eq_true, px_flds, px_o_some, px_fvs, px_pfs, px_cts, px_cls, px_acs_, px_acn, true_and, and_true, true_or, or_true, false_or, or_false, and_self, not_true_eq_false, not_false_eq_true, Classical.not_not, Nat.reduceAdd, Nat.reduceSub, Nat.reduceBEq, Nat.reduceLT, Nat.reduceLeDiff, Nat.lt_add_one, px_tg, Int.cast_ofNat_Int, Int.reduceAdd, Int.reduceSub, Int.reduceMul, Int.reduceToNat, Int.reduceLE, Int.reduceLT, Int.reduceNeg, Int.reduceEq, Bool.or_false, Bool.false_or, Bool.or_true, Bool.true_or, List.length_cons, List.length_nil, List.nil_append, List.cons_append, Option.toList_some, Option.toList_none, reduceCtorEq, Option.some.injEq, Nat.zero_le, Nat.reduceMul, Nat.mul_zero, Nat.add_zero, Int.reduceDiv, Int.reduceMod, Int.toNat_natCast, Nat.lt_irrefl, Int.natCast_add, Int.cast_ofNat_Int, px_mds_RX11_0, px_mds_RX11_1, dec_X11_clear, px_eq_iff, px_lt_iff, px_le_iff, px_up_o, px_up_eq, px_up_ne, px_cp_o, pm_k, pm_l]
  refine px_go (fun p => p == 2) 400 ?_
  simp (disch := omega) only [px_lits, false_implies, true_implies, px_dec_ok, px_run_s, px_rules, px_rule_is, px_mats, px_calls, ↓reduceIte, eq_self, Bool.false_eq_true, px_flds, px_o_some, px_fvs, px_pfs, px_cts, px_cls, px_acs_, px_acn, true_and, and_true, true_or, or_true, false_or, or_false, and_self, not_true_eq_false, not_false_eq_true, Classical.not_not, Nat.reduceAdd, Nat.reduceSub, Nat.reduceBEq, Nat.reduceLT, Nat.reduceLeDiff, Nat.lt_add_one, px_tg, Int.cast_ofNat_Int, Int.reduceAdd, Int.reduceSub, Int.reduceMul, Int.reduceToNat, Int.reduceLE, Int.reduceLT, Int.reduceNeg, Int.reduceEq, Bool.or_false, Bool.false_or, Bool.or_true, Bool.true_or, List.length_cons, List.length_nil, List.nil_append, List.cons_append, Option.toList_some, Option.toList_none, reduceCtorEq, Option.some.injEq, Nat.zero_le, Nat.reduceMul, Nat.mul_zero, Nat.add_zero, Int.reduceDiv, Int.reduceMod, Int.toNat_natCast, Nat.lt_irrefl, Int.natCast_add, Int.cast_ofNat_Int, px_mds_RX11_0, px_mds_RX11_1, dec_X11_clear, px_eq_iff, px_lt_iff, px_le_iff, px_up_o, px_up_eq, px_up_ne, px_cp_o, pm_k, pm_l]
  refine h1 _ (fun o ho => ?_) ⟨⟨?_, ?_, ?_, fun i x hx => (by cases hx), by decide⟩, ⟨?_, ?_, ?_, fun i x hx => (by cases hx), by decide⟩⟩
  · simp (disch := omega) only [px_up_o]
  all_goals
    simp (disch := omega) only [px_up_ne, px_up_eq]
    try rfl
set_option maxHeartbeats 4000000 in
set_option maxRecDepth 100000 in
theorem c_X11_isFull {G : px_G} {h : Nat} {s l : Int} {μ : px_Mem} {Q : Option px_X → px_Mem → Prop} (hh : h < 2) (hs : s = 0 ∨ s = 1) (hl : 0 ≤ l ∧ l ≤ 100) (hn : 0 ≤ μ 207 (19 * h) ∧ μ 207 (19 * h) ≤ 16) (hm : 0 ≤ μ 205 2 ∧ μ 205 2 ≤ 24)
    (h0 : μ 205 2 < 24 ∧ μ 207 (19 * h) < 16 ∧ (s = 1 ∨ l < 24) → Q (some (.inl 0)) μ) (h1 : ¬ (μ 205 2 < 24 ∧ μ 207 (19 * h) < 16 ∧ (s = 1 ∨ l < 24)) → Q (some (.inl 1)) μ) : px_C G yX11_isFull cX11_isFull 4 (some .boolean) 1 [.inr (.inl (some 205)), .inl h, .inl s, .inl l] μ Q := by
  refine px_enter RX11 (by decide +kernel) rfl (by simp) (by simp [px_c1]) ?_
  simp only [List.map_cons, List.map_nil, List.length_cons, List.length_nil, List.replicate, List.append_nil, Nat.reduceAdd, Nat.reduceSub, List.cons_append, List.nil_append]
  refine px_go (fun _ => false) 400 ?_
  simp (disch := omega) only [px_lits, false_implies, true_implies, px_dec_ok, px_run_s, px_rules, px_rule_is, px_mats, px_calls, ↓reduceIte, eq_self, Bool.false_eq_true, px_flds, px_o_some, px_fvs, px_pfs, px_cts, px_cls, px_acs_, px_acn, true_and, and_true, true_or, or_true, false_or, or_false, and_self, not_true_eq_false, not_false_eq_true, Classical.not_not, Nat.reduceAdd, Nat.reduceSub, Nat.reduceBEq, Nat.reduceLT, Nat.reduceLeDiff, Nat.lt_add_one, px_tg, Int.cast_ofNat_Int, Int.reduceAdd, Int.reduceSub, Int.reduceMul, Int.reduceToNat, Int.reduceLE, Int.reduceLT, Int.reduceNeg, Int.reduceEq, Bool.or_false, Bool.false_or, Bool.or_true, Bool.true_or, List.length_cons, List.length_nil, List.nil_append, List.cons_append, Option.toList_some, Option.toList_none, reduceCtorEq, Option.some.injEq, Nat.zero_le, Nat.reduceMul, Nat.mul_zero, Nat.add_zero, Int.reduceDiv, Int.reduceMod, Int.toNat_natCast, Nat.lt_irrefl, Int.natCast_add, Int.cast_ofNat_Int, px_mds_RX11_0, px_mds_RX11_1, dec_X11_isFull, px_eq_iff, px_lt_iff, px_le_iff, px_up_o, px_up_eq, px_up_ne, px_cp_o, pm_k, pm_l]
  refine ⟨fun q => h1 (by omega), fun q => ?_⟩
  refine c_X11_many hh ?_
  refine px_go (fun _ => false) 400 ?_
  simp (disch := omega) only [px_lits, false_implies, true_implies, px_dec_ok, px_run_s, px_rules, px_rule_is, px_mats, px_calls, ↓reduceIte, eq_self, Bool.false_eq_true, px_flds, px_o_some, px_fvs, px_pfs, px_cts, px_cls, px_acs_, px_acn, true_and, and_true, true_or, or_true, false_or, or_false, and_self, not_true_eq_false, not_false_eq_true, Classical.not_not, Nat.reduceAdd, Nat.reduceSub, Nat.reduceBEq, Nat.reduceLT, Nat.reduceLeDiff, Nat.lt_add_one, px_tg, Int.cast_ofNat_Int, Int.reduceAdd, Int.reduceSub, Int.reduceMul, Int.reduceToNat, Int.reduceLE, Int.reduceLT, Int.reduceNeg, Int.reduceEq, Bool.or_false, Bool.false_or, Bool.or_true, Bool.true_or, List.length_cons, List.length_nil, List.nil_append, List.cons_append, Option.toList_some, Option.toList_none, reduceCtorEq, Option.some.injEq, Nat.zero_le, Nat.reduceMul, Nat.mul_zero, Nat.add_zero, Int.reduceDiv, Int.reduceMod, Int.toNat_natCast, Nat.lt_irrefl, Int.natCast_add, Int.cast_ofNat_Int, px_mds_RX11_0, px_mds_RX11_1, dec_X11_isFull, px_eq_iff, px_lt_iff, px_le_iff, px_up_o, px_up_eq, px_up_ne, px_cp_o, pm_k, pm_l]
  repeat' first | apply And.intro | intro _
  all_goals first | (exact h0 (by omega)) | (exact h1 (by omega))
set_option maxHeartbeats 4000000 in
set_option maxRecDepth 100000 in
theorem c_X11_recorded {G : px_G} {h : Nat} {s p l : Int} {v : pc_HS} {μ : px_Mem} {Q : Option px_X → px_Mem → Prop} (hh : h < 2) (hv : pm_hs μ 207 0 v) (hn : (pc_g v h).1.length < 16)
    (h1 : ∀ μ1 : px_Mem, (∀ o, o ≠ 205 → o ≠ 207 → μ1 o = μ o) → (∀ i, i ≠ 2 → μ1 205 i = μ 205 i) → μ1 205 2 = μ 205 2 + 1 → pm_hs μ1 207 0 (pc_p v h ((pc_g v h).1 ++ [(μ 205 2, s, p, l)], (pc_g v h).2)) → Q (some (.inl (μ 205 2))) μ1) : px_C G yX11_recorded cX11_recorded 5 (some .int) 1 [.inr (.inl (some 205)), .inl h, .inl s, .inl p, .inl l] μ Q := by
  obtain ⟨v1, v2, v3, v4, v5⟩ := hv.at hh
  rw [Int.zero_add] at v1 v2 v3 v4
  refine px_enter RX11 (by decide +kernel) rfl (by simp) (by simp [px_c1]) ?_
  simp only [List.map_cons, List.map_nil, List.length_cons, List.length_nil, List.replicate, List.append_nil, Nat.reduceAdd, Nat.reduceSub, List.cons_append, List.nil_append]
  refine px_go (fun _ => false) 400 ?_
  simp (disch := omega) only [px_lits, false_implies, true_implies, px_dec_ok, px_run_s, px_rules, px_rule_is, px_mats, px_calls, ↓reduceIte, eq_self, Bool.false_eq_true, px_flds, px_o_some, px_fvs, px_pfs, px_cts, px_cls, px_acs_, px_acn, true_and, and_true, true_or, or_true, false_or, or_false, and_self, not_true_eq_false, not_false_eq_true, Classical.not_not, Nat.reduceAdd, Nat.reduceSub, Nat.reduceBEq, Nat.reduceLT, Nat.reduceLeDiff, Nat.lt_add_one, px_tg, Int.cast_ofNat_Int, Int.reduceAdd, Int.reduceSub, Int.reduceMul, Int.reduceToNat, Int.reduceLE, Int.reduceLT, Int.reduceNeg, Int.reduceEq, Bool.or_false, Bool.false_or, Bool.or_true, Bool.true_or, List.length_cons, List.length_nil, List.nil_append, List.cons_append, Option.toList_some, Option.toList_none, reduceCtorEq, Option.some.injEq, Nat.zero_le, Nat.reduceMul, Nat.mul_zero, Nat.add_zero, Int.reduceDiv, Int.reduceMod, Int.toNat_natCast, Nat.lt_irrefl, Int.natCast_add, Int.cast_ofNat_Int, px_mds_RX11_0, px_mds_RX11_1, dec_X11_recorded, px_eq_iff, px_lt_iff, px_le_iff, px_up_o, px_up_eq, px_up_ne, px_cp_o, pm_k, pm_l]
  refine c_X11_many hh ?_
  refine px_go (fun _ => false) 400 ?_
  simp (disch := omega) only [px_lits, false_implies, true_implies, px_dec_ok, px_run_s, px_rules, px_rule_is, px_mats, px_calls, ↓reduceIte, eq_self, Bool.false_eq_true, px_flds, px_o_some, px_fvs, px_pfs, px_cts, px_cls, px_acs_, px_acn, true_and, and_true, true_or, or_true, false_or, or_false, and_self, not_true_eq_false, not_false_eq_true, Classical.not_not, Nat.reduceAdd, Nat.reduceSub, Nat.reduceBEq, Nat.reduceLT, Nat.reduceLeDiff, Nat.lt_add_one, px_tg, Int.cast_ofNat_Int, Int.reduceAdd, Int.reduceSub, Int.reduceMul, Int.reduceToNat, Int.reduceLE, Int.reduceLT, Int.reduceNeg, Int.reduceEq, Bool.or_false, Bool.false_or, Bool.or_true, Bool.true_or, List.length_cons, List.length_nil, List.nil_append, List.cons_append, Option.toList_some, Option.toList_none, reduceCtorEq, Option.some.injEq, Nat.zero_le, Nat.reduceMul, Nat.mul_zero, Nat.add_zero, Int.reduceDiv, Int.reduceMod, Int.toNat_natCast, Nat.lt_irrefl, Int.natCast_add, Int.cast_ofNat_Int, px_mds_RX11_0, px_mds_RX11_1, dec_X11_recorded, px_eq_iff, px_lt_iff, px_le_iff, px_up_o, px_up_eq, px_up_ne, px_cp_o, pm_k, pm_l, v1]
  refine c_X11_made ?_
  refine px_go (fun _ => false) 400 ?_
  simp (disch := omega) only [px_lits, false_implies, true_implies, px_dec_ok, px_run_s, px_rules, px_rule_is, px_mats, px_calls, ↓reduceIte, eq_self, Bool.false_eq_true, px_flds, px_o_some, px_fvs, px_pfs, px_cts, px_cls, px_acs_, px_acn, true_and, and_true, true_or, or_true, false_or, or_false, and_self, not_true_eq_false, not_false_eq_true, Classical.not_not, Nat.reduceAdd, Nat.reduceSub, Nat.reduceBEq, Nat.reduceLT, Nat.reduceLeDiff, Nat.lt_add_one, px_tg, Int.cast_ofNat_Int, Int.reduceAdd, Int.reduceSub, Int.reduceMul, Int.reduceToNat, Int.reduceLE, Int.reduceLT, Int.reduceNeg, Int.reduceEq, Bool.or_false, Bool.false_or, Bool.or_true, Bool.true_or, List.length_cons, List.length_nil, List.nil_append, List.cons_append, Option.toList_some, Option.toList_none, reduceCtorEq, Option.some.injEq, Nat.zero_le, Nat.reduceMul, Nat.mul_zero, Nat.add_zero, Int.reduceDiv, Int.reduceMod, Int.toNat_natCast, Nat.lt_irrefl, Int.natCast_add, Int.cast_ofNat_Int, px_mds_RX11_0, px_mds_RX11_1, dec_X11_recorded, px_eq_iff, px_lt_iff, px_le_iff, px_up_o, px_up_eq, px_up_ne, px_cp_o, pm_k, pm_l, v1]
  repeat refine ⟨by omega, ?_⟩
  rw [show μ 205 2 + 1 - 1 = μ 205 2 by omega]
  refine h1 _ (fun o o1 o2 => ?_) (fun i hi => ?_) ?_ ?_
  · simp (disch := omega) only [px_up_o]
  · rw [px_up_ne hi]
    simp (disch := omega) only [px_up_o]
  · simp (disch := omega) only [px_up_eq]
  · refine hv.put hh (fun i hi => ?_) ⟨?_, ?_, ?_, fun i x hx => ?_, ?_⟩
    · simp (disch := omega) only [px_up_o, px_up_ne]
    · rw [Int.zero_add]
      simp (disch := omega) only [px_up_o, px_up_eq]
      simp
    · rw [Int.zero_add]
      simp (disch := omega) only [px_up_o, px_up_ne]
      exact v2
    · rw [Int.zero_add]
      simp (disch := omega) only [px_up_o, px_up_ne]
      exact v3
    · rw [Int.zero_add]
      dsimp only at hx
      rw [List.getElem?_append] at hx
      split at hx
      · rename_i q
        simp (disch := omega) only [px_up_o, px_up_ne]
        exact v4 i x hx
      · rename_i q
        have hil := (List.getElem?_eq_some_iff.mp hx).1
        simp only [List.length_cons, List.length_nil] at hil
        rw [show i - (pc_g v h).1.length = 0 by omega] at hx
        cases hx
        simp (disch := omega) only [px_up_o, px_up_ne, px_up_eq]
    · simp
      omega
