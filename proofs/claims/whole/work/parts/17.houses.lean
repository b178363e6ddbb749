/-! ===== both houses: two histories, what is held, with which it clashes ===== -/
theorem pc_Hk {H : Nat} (hH : px_kd H = 1) : (px_kd (H + 1) = 22 ∧ px_kd (H + 2) = 20 ∧ px_kd (H + 3) = 20 ∧ px_kd (H + 4) = 0 ∧ px_kd (H + 9) = 0) ∧ (px_ln (H + 1) = 2 ∧ px_ln (H + 2) = 2 ∧ px_ln (H + 3) = 2) ∧ (px_el 22 (H + 1) 0 = H + 4 ∧ px_el 22 (H + 1) 1 = H + 9) := by
  have h1 : H < 221 := px_kd_lt (by omega)
  have key : ∀ k : Fin 221, px_kd k = 1 → (px_kd (k + 1) = 22 ∧ px_kd (k + 2) = 20 ∧ px_kd (k + 3) = 20 ∧ px_kd (k + 4) = 0 ∧ px_kd (k + 9) = 0) ∧ (px_ln (k + 1) = 2 ∧ px_ln (k + 2) = 2 ∧ px_ln (k + 3) = 2) := by decide +kernel
  obtain ⟨a, b⟩ := key ⟨H, h1⟩ hH
  exact ⟨a, b, rfl, rfl⟩
theorem pc_HH {H K : Nat} (hH : px_kd H = 1) (hK : px_kd K = 1) : H = K ∨ H + 14 ≤ K ∨ K + 14 ≤ H := by
  have key : ∀ k : Fin 221, px_kd k = 1 → (List.range 13).all (fun j => decide (px_kd (k + 1 + j) ≠ 1)) = true := by decide +kernel
  have far : ∀ A B : Nat, px_kd A = 1 → px_kd B = 1 → A < B → A + 14 ≤ B := by
    intro A B hA hB h
    have h1 : A < 221 := px_kd_lt (by omega)
    have h2 := key ⟨A, h1⟩ hA
    rcases Nat.lt_or_ge B (A + 14) with q | q
    · have := List.all_eq_true.mp h2 (B - A - 1) (List.mem_range.mpr (by omega))
      have e : A + 1 + (B - A - 1) = B := by omega
      simp only [decide_eq_true_eq, ne_eq] at this
      rw [e] at this
      exact absurd hB this
    · exact q
  rcases Nat.lt_trichotomy H K with h | h | h
  · exact Or.inr (Or.inl (far H K hH hK h))
  · exact Or.inl h
  · exact Or.inr (Or.inr (far K H hK hH h))
abbrev pc_HS : Type := (List pc_Ch × Int × Int) × (List pc_Ch × Int × Int)
def pc_hsv (μ : px_Mem) (H : Nat) : pc_HS := ((pc_hl μ (H + 4), μ (H + 2) 0, μ (H + 3) 0), (pc_hl μ (H + 9), μ (H + 2) 1, μ (H + 3) 1))
def pc_hsb (μ : px_Mem) (H : Nat) : Prop := (0 ≤ μ (H + 4) 4 ∧ μ (H + 4) 4 ≤ 16) ∧ (0 ≤ μ (H + 9) 4 ∧ μ (H + 9) 4 ≤ 16)
theorem pc_hsv_same {μ μ1 : px_Mem} {H : Nat} (h : ∀ o, H ≤ o → o ≤ H + 13 → μ1 o = μ o) : pc_hsv μ1 H = pc_hsv μ H ∧ (pc_hsb μ H → pc_hsb μ1 H) := by
  unfold pc_hsv pc_hsb pc_hl
  simp only [Nat.add_assoc, Nat.reduceAdd]
  rw [h (H + 2) (by omega) (by omega), h (H + 3) (by omega) (by omega), h (H + 4) (by omega) (by omega), h (H + 5) (by omega) (by omega), h (H + 6) (by omega) (by omega), h (H + 7) (by omega) (by omega), h (H + 8) (by omega) (by omega), h (H + 9) (by omega) (by omega), h (H + 10) (by omega) (by omega), h (H + 11) (by omega) (by omega), h (H + 12) (by omega) (by omega), h (H + 13) (by omega) (by omega)]
  exact ⟨rfl, id⟩
set_option maxHeartbeats 4000000 in
set_option maxRecDepth 100000 in
theorem c_X1_copyFrom {G : px_G} {H K : Nat} {μ : px_Mem} {Q : Option px_X → px_Mem → Prop} (hH : px_kd H = 1) (hK : px_kd K = 1) (hne : H ≠ K) (hb : pc_hsb μ K)
    (h1 : ∀ μ1 : px_Mem, (∀ o, (o < H ∨ H + 13 < o) → μ1 o = μ o) → pc_hsv μ1 H = pc_hsv μ K → pc_hsb μ1 H → Q none μ1) : px_C G yX1_copyFrom cX1_copyFrom 3 none 2 [.inr (.inl (some H)), .inr (.inl (some K))] μ Q := by
  obtain ⟨Hk, Hl, He⟩ := pc_Hk hH
  obtain ⟨Kk, Kl, Ke⟩ := pc_Hk hK
  have hd := pc_HH hH hK
  refine px_enter RX1 (by decide +kernel) rfl (by simp) (by simp [px_c1]) ?_
  simp only [List.map_cons, List.map_nil, List.length_cons, List.length_nil, List.replicate, List.append_nil, Nat.reduceAdd, Nat.reduceSub, List.cons_append, List.nil_append]
  refine px_go (fun _ => false) 400 ?_
  simp (disch := omega) only [px_lits, false_implies, true_implies, px_dec_ok, px_run_s, px_rules, px_rule_is, px_mats, px_calls, ↓reduceIte, eq_self, Bool.false_eq_true, px_flds, px_o_some, px_fvs, px_pfs, px_cts, px_cls, px_acs_, px_acn, true_and, and_true, true_or, or_true, false_or, or_false, and_self, not_true_eq_false, not_false_eq_true, Classical.not_not, Nat.reduceAdd, Nat.reduceSub, Nat.reduceBEq, Nat.reduceLT, Nat.reduceLeDiff, Nat.lt_add_one, px_tg, Int.cast_ofNat_Int, Int.reduceAdd, Int.reduceSub, Int.reduceMul, Int.reduceToNat, Int.reduceLE, Int.reduceLT, Int.reduceNeg, Int.reduceEq, Bool.or_false, Bool.false_or, Bool.or_true, Bool.true_or, List.length_cons, List.length_nil, List.nil_append, List.cons_append, Option.toList_some, Option.toList_none, reduceCtorEq, Option.some.injEq, Nat.zero_le, Nat.reduceMul, Nat.mul_zero, Nat.add_zero, Int.reduceDiv, Int.reduceMod, Int.toNat_natCast, Nat.lt_irrefl, Int.natCast_add, Int.cast_ofNat_Int, px_mds_RX1_0, dec_X1_copyFrom, px_eq_iff, px_lt_iff, px_le_iff, px_up_o, px_up_eq, px_up_ne, px_cp_o, hH, Hk, Hl, He, hK, Kk, Kl, Ke]
  refine c_X0_copyFrom Hk.2.2.2.1 Kk.2.2.2.1 (by omega) hb.1 (fun μ1 e1 e2 e3 => ?_)
  refine px_go (fun _ => false) 400 ?_
  simp (disch := omega) only [px_lits, false_implies, true_implies, px_dec_ok, px_run_s, px_rules, px_rule_is, px_mats, px_calls, ↓reduceIte, eq_self, Bool.false_eq_true, px_flds, px_o_some, px_fvs, px_pfs, px_cts, px_cls, px_acs_, px_acn, true_and, and_true, true_or, or_true, false_or, or_false, and_self, not_true_eq_false, not_false_eq_true, Classical.not_not, Nat.reduceAdd, Nat.reduceSub, Nat.reduceBEq, Nat.reduceLT, Nat.reduceLeDiff, Nat.lt_add_one, px_tg, Int.cast_ofNat_Int, Int.reduceAdd, Int.reduceSub, Int.reduceMul, Int.reduceToNat, Int.reduceLE, Int.reduceLT, Int.reduceNeg, Int.reduceEq, Bool.or_false, Bool.false_or, Bool.or_true, Bool.true_or, List.length_cons, List.length_nil, List.nil_append, List.cons_append, Option.toList_some, Option.toList_none, reduceCtorEq, Option.some.injEq, Nat.zero_le, Nat.reduceMul, Nat.mul_zero, Nat.add_zero, Int.reduceDiv, Int.reduceMod, Int.toNat_natCast, Nat.lt_irrefl, Int.natCast_add, Int.cast_ofNat_Int, px_mds_RX1_0, dec_X1_copyFrom, px_eq_iff, px_lt_iff, px_le_iff, px_up_o, px_up_eq, px_up_ne, px_cp_o, hH, Hk, Hl, He, hK, Kk, Kl, Ke]
  refine c_X0_copyFrom Hk.2.2.2.2 Kk.2.2.2.2 (by omega) (by simp (disch := omega) only [px_up_o]; rw [e1 (K + 9) (by omega)]; exact hb.2) (fun μ2 f1 f2 f3 => ?_)
  refine px_go (fun _ => false) 400 ?_
  simp (disch := omega) only [px_lits, false_implies, true_implies, px_dec_ok, px_run_s, px_rules, px_rule_is, px_mats, px_calls, ↓reduceIte, eq_self, Bool.false_eq_true, px_flds, px_o_some, px_fvs, px_pfs, px_cts, px_cls, px_acs_, px_acn, true_and, and_true, true_or, or_true, false_or, or_false, and_self, not_true_eq_false, not_false_eq_true, Classical.not_not, Nat.reduceAdd, Nat.reduceSub, Nat.reduceBEq, Nat.reduceLT, Nat.reduceLeDiff, Nat.lt_add_one, px_tg, Int.cast_ofNat_Int, Int.reduceAdd, Int.reduceSub, Int.reduceMul, Int.reduceToNat, Int.reduceLE, Int.reduceLT, Int.reduceNeg, Int.reduceEq, Bool.or_false, Bool.false_or, Bool.or_true, Bool.true_or, List.length_cons, List.length_nil, List.nil_append, List.cons_append, Option.toList_some, Option.toList_none, reduceCtorEq, Option.some.injEq, Nat.zero_le, Nat.reduceMul, Nat.mul_zero, Nat.add_zero, Int.reduceDiv, Int.reduceMod, Int.toNat_natCast, Nat.lt_irrefl, Int.natCast_add, Int.cast_ofNat_Int, px_mds_RX1_0, dec_X1_copyFrom, px_eq_iff, px_lt_iff, px_le_iff, px_up_o, px_up_eq, px_up_ne, px_cp_o, hH, Hk, Hl, He, hK, Kk, Kl, Ke]
  simp (disch := omega) only [px_up_o, px_up_eq, px_up_ne] at f2
  have fb : ∀ o, (o < H ∨ H + 13 < o) → μ2 o = μ o := fun o ho => by
    rw [f1 o (by omega)]
    simp (disch := omega) only [px_up_o]
    exact e1 o (by omega)
  have e8 : pc_hl (px_up (px_up μ1 (H + 2) 0 (μ1 (K + 2) 0)) (H + 3) 0 (μ1 (K + 3) 0)) (K + 9) = pc_hl μ (K + 9) := by
    refine pc_hl_same ?_ ?_ ?_ ?_ ?_
    all_goals
      simp (disch := omega) only [px_up_o]
      exact e1 _ (by omega)
  have e9 : pc_hl μ2 (H + 4) = pc_hl μ1 (H + 4) := by
    refine pc_hl_same ?_ ?_ ?_ ?_ ?_
    all_goals
      rw [f1 _ (by omega)]
      simp (disch := omega) only [px_up_o]
  refine h1 _ (fun o ho => ?_) ?_ ?_
  · simp (disch := omega) only [px_up_o]
    exact fb o ho
  · unfold pc_hsv
    have g1 : ∀ a b, pc_hl (px_up (px_up μ2 (H + 2) 1 a) (H + 3) 1 b) (H + 4) = pc_hl μ2 (H + 4) := fun a b => by
      refine pc_hl_same ?_ ?_ ?_ ?_ ?_ <;> simp (disch := omega) only [px_up_o]
    have g2 : ∀ a b, pc_hl (px_up (px_up μ2 (H + 2) 1 a) (H + 3) 1 b) (H + 9) = pc_hl μ2 (H + 9) := fun a b => by
      refine pc_hl_same ?_ ?_ ?_ ?_ ?_ <;> simp (disch := omega) only [px_up_o]
    rw [g1, g2, e9, f3, e8, e3]
    simp (disch := omega) only [px_up_o, px_up_eq, px_up_ne]
    rw [fb (K + 2) (by omega), fb (K + 3) (by omega), f1 (H + 2) (by omega), f1 (H + 3) (by omega)]
    simp (disch := omega) only [px_up_o, px_up_eq, px_up_ne]
    rw [e1 (K + 2) (by omega), e1 (K + 3) (by omega)]
  · unfold pc_hsb
    simp (disch := omega) only [px_up_o]
    rw [f2, f1 (H + 4) (by omega)]
    simp (disch := omega) only [px_up_o]
    rw [e2, e1 (K + 9) (by omega)]
    exact hb
set_option maxHeartbeats 4000000 in
set_option maxRecDepth 100000 in
theorem c_X1_clear {G : px_G} {H : Nat} {μ : px_Mem} {Q : Option px_X → px_Mem → Prop} (hH : px_kd H = 1)
    (h1 : ∀ μ1 : px_Mem, (∀ o, (o < H ∨ H + 13 < o) → μ1 o = μ o) → pc_hsv μ1 H = (([], -1, -1), ([], -1, -1)) → pc_hsb μ1 H → Q none μ1) : px_C G yX1_clear cX1_clear 2 none 0 [.inr (.inl (some H))] μ Q := by
  obtain ⟨Hk, Hl, He⟩ := pc_Hk hH
  refine px_enter RX1 (by decide +kernel) rfl (by simp) (by simp [px_c1]) ?_
  simp only [List.map_cons, List.map_nil, List.length_cons, List.length_nil, List.replicate, List.append_nil, Nat.reduceAdd, Nat.reduceSub, List.cons_append, List.nil_append]
  refine px_go (fun p => p == 2) 400 ?_
  simp (disch := omega) only [px_lits, false_implies, true_implies, px_dec_ok, px_run_s, px_rules, px_rule_is, px_mats, px_calls, ↓reduceIte, eq_self, Bool.false_eq_true, px_flds, px_o_some, px_fvs, px_pfs, px_cts, px_cls, px_acs_, px_acn, true_and, and_true, true_or, or_true, false_or, or_false, and_self, not_true_eq_false, not_false_eq_true, Classical.not_not, Nat.reduceAdd, Nat.reduceSub, Nat.reduceBEq, Nat.reduceLT, Nat.reduceLeDiff, Nat.lt_add_one, px_tg, Int.cast_ofNat_Int, Int.reduceAdd, Int.reduceSub, Int.reduceMul, Int.reduceToNat, Int.reduceLE, Int.reduceLT, Int.reduceNeg, Int.reduceEq, Bool.or_false, Bool.false_or, Bool.or_true, Bool.true_or, List.length_cons, List.length_nil, List.nil_append, List.cons_append, Option.toList_some, Option.toList_none, reduceCtorEq, Option.some.injEq, Nat.zero_le, Nat.reduceMul, Nat.mul_zero, Nat.add_zero, Int.reduceDiv, Int.reduceMod, Int.toNat_natCast, Nat.lt_irrefl, Int.natCast_add, Int.cast_ofNat_Int, px_mds_RX1_0, dec_X1_clear, px_eq_iff, px_lt_iff, px_le_iff, px_up_o, px_up_eq, px_up_ne, px_cp_o, hH, Hk, Hl, He]
  refine px_go (fun p => p == 2) 400 ?_
  simp (disch := omega) only [px_lits, false_implies, true_implies, px_dec_ok, px_run_s, px_rules, px_rule_is, px_mats, px_calls, ↓reduceIte, eq_self, Bool.false_eq_true, px_flds, px_o_some, px_fvs, px_pfs, px_cts, px_cls, px_acs_, px_acn, true_and, and_true, true_or, or_true, false_or, or_false, and_self, not_true_eq_false, not_false_eq_true, Classical.not_not, Nat.reduceAdd, Nat.reduceSub, Nat.reduceBEq, Nat.reduceLT, Nat.reduceLeDiff, Nat.lt_add_one, px_tg, Int.cast_ofNat_Int, Int.reduceAdd, Int.reduceSub, Int.reduceMul, Int.reduceToNat, Int.reduceLE, Int.reduceLT, Int.reduceNeg, Int.reduceEq, Bool.or_false, Bool.false_or, Bool.or_true, Bool.true_or, List.length_cons, List.length_nil, List.nil_append, List.cons_append, Option.toList_some, Option.toList_none, reduceCtorEq, Option.some.injEq, Nat.zero_le, Nat.reduceMul, Nat.mul_zero, Nat.add_zero, Int.reduceDiv, Int.reduceMod, Int.toNat_natCast, Nat.lt_irrefl, Int.natCast_add, Int.cast_ofNat_Int, px_mds_RX1_0, dec_X1_clear, px_eq_iff, px_lt_iff, px_le_iff, px_up_o, px_up_eq, px_up_ne, px_cp_o, hH, Hk, Hl, He]
  refine px_go (fun p => p == 2) 400 ?_
  simp (disch := omega) only [px_lits, false_implies, true_implies, px_dec_ok, px_run_s, px_rules, px_rule_is, px_mats, px_calls, ↓reduceIte, eq_self, Bool.false_eq_true, px_flds, px_o_some, px_fvs, px_pfs, px_cts, px_cls, px_acs_, px_acn, true_and, and_true, true_or, or_true, false_or, or_false, and_self, not_true_eq_false, not_false_eq_true, Classical.not_not, Nat.reduceAdd, Nat.reduceSub, Nat.reduceBEq, Nat.reduceLT, Nat.reduceLeDiff, Nat.lt_add_one, px_tg, Int.cast_ofNat_Int, Int.reduceAdd, Int.reduceSub, Int.reduceMul, Int.reduceToNat, Int.reduceLE, Int.reduceLT, Int.reduceNeg, Int.reduceEq, Bool.or_false, Bool.false_or, Bool.or_true, Bool.true_or, List.length_cons, List.length_nil, List.nil_append, List.cons_append, Option.toList_some, Option.toList_none, reduceCtorEq, Option.some.injEq, Nat.zero_le, Nat.reduceMul, Nat.mul_zero, Nat.add_zero, Int.reduceDiv, Int.reduceMod, Int.toNat_natCast, Nat.lt_irrefl, Int.natCast_add, Int.cast_ofNat_Int, px_mds_RX1_0, dec_X1_clear, px_eq_iff, px_lt_iff, px_le_iff, px_up_o, px_up_eq, px_up_ne, px_cp_o, hH, Hk, Hl, He]
  refine px_go (fun p => p == 2) 400 ?_
  simp (disch := omega) only [px_lits, false_implies, true_implies, px_dec_ok, px_run_s, px_rules, px_rule_is, px_mats, px_calls, ↓reduceIte, eq_self, Bool.false_eq_true, px_flds, px_o_some, px_fvs, px_pfs, px_cts, px_cls, px_acs_, px_acn, true_and, and_true, true_or, or_true, false_or, or_false, and_self, not_true_eq_false, not_false_eq_true, Classical.not_not, Nat.reduceAdd, Nat.reduceSub, Nat.reduceBEq, Nat.reduceLT, Nat.reduceLeDiff, Nat.lt_add_one, px_tg, Int.cast_ofNat_Int, Int.reduceAdd, Int.reduceSub, Int.reduceMul, Int.reduceToNat, Int.reduceLE, Int.reduceLT, Int.reduceNeg, Int.reduceEq, Bool.or_false, Bool.false_or, Bool.or_true, Bool.true_or, List.length_cons, List.length_nil, List.nil_append, List.cons_append, Option.toList_some, Option.toList_none, reduceCtorEq, Option.some.injEq, Nat.zero_le, Nat.reduceMul, Nat.mul_zero, Nat.add_zero, Int.reduceDiv, Int.reduceMod, Int.toNat_natCast, Nat.lt_irrefl, Int.natCast_add, Int.cast_ofNat_Int, px_mds_RX1_0, dec_X1_clear, px_eq_iff, px_lt_iff, px_le_iff, px_up_o, px_up_eq, px_up_ne, px_cp_o, hH, Hk, Hl, He]
  refine h1 _ (fun o ho => ?_) ?_ ?_
  · simp (disch := omega) only [px_up_o]
  · unfold pc_hsv
    have z : ∀ (m : px_Mem) (h : Nat), m h 4 = 0 → pc_hl m h = [] := fun m h e => by unfold pc_hl; rw [e]; rfl
    rw [z _ (H + 4) (by simp (disch := omega) only [px_up_o, px_up_eq]), z _ (H + 9) (by simp (disch := omega) only [px_up_o, px_up_eq])]
    simp (disch := omega) only [px_up_o, px_up_eq, px_up_ne]
  · unfold pc_hsb
    simp (disch := omega) only [px_up_o, px_up_eq]
    omega
/-! ===== what was done: a ring of eight ===== -/
theorem pc_row (j : Nat) (h : j < 8) : px_kd (19 + 14 * j) = 1 := by
  have key : ∀ k : Fin 8, px_kd (19 + 14 * k) = 1 := by decide +kernel
  exact key ⟨j, h⟩
theorem pc_past_k : px_kd 17 = 5 ∧ px_kd 18 = 23 ∧ px_ln 18 = 8 := by decide +kernel
def pc_ring (next k : Int) : Nat := 19 + 14 * ((next + 7 - k) % 8).toNat
def pc_past (μ : px_Mem) : List pc_HS := (List.range (μ 17 2).toNat).map (fun k : Nat => pc_hsv μ (pc_ring (μ 17 1) k))
def pc_pastb (μ : px_Mem) : Prop := (0 ≤ μ 17 1 ∧ μ 17 1 < 8) ∧ (0 ≤ μ 17 2 ∧ μ 17 2 ≤ 8) ∧ ∀ j : Nat, j < 8 → pc_hsb μ (19 + 14 * j)
set_option maxHeartbeats 4000000 in
set_option maxRecDepth 100000 in
theorem c_X5_push {G : px_G} {μ : px_Mem} {Q : Option px_X → px_Mem → Prop} (hp : pc_pastb μ) (hb : pc_hsb μ 3)
    (h1 : ∀ μ1 : px_Mem, (∀ o, (o < 17 ∨ 130 < o) → μ1 o = μ o) → pc_pastb μ1 → pc_past μ1 = (pc_hsv μ 3 :: pc_past μ).take 8 → Q none μ1) : px_C G yX5_push cX5_push 2 none 3 [.inr (.inl (some 17)), .inr (.inl (some 3))] μ Q := by
  obtain ⟨p1, p2, p3⟩ := pc_past_k
  have e0 : px_el 23 18 (μ 17 1).toNat = 19 + 14 * (μ 17 1).toNat := rfl
  have k0 := pc_row (μ 17 1).toNat (by have := hp.1; omega)
  have k3 : px_kd 3 = 1 := by decide +kernel
  have hp1 := hp.1
  have hp2 := hp.2.1
  refine px_enter RX5 (by decide +kernel) rfl (by simp) (by simp [px_c1]) ?_
  simp only [List.map_cons, List.map_nil, List.length_cons, List.length_nil, List.replicate, List.append_nil, Nat.reduceAdd, Nat.reduceSub, List.cons_append, List.nil_append]
  refine px_go (fun _ => false) 400 ?_
  simp (disch := omega) only [px_lits, false_implies, true_implies, px_dec_ok, px_run_s, px_rules, px_rule_is, px_mats, px_calls, ↓reduceIte, eq_self, Bool.false_eq_true, px_flds, px_o_some, px_fvs, px_pfs, px_cts, px_cls, px_acs_, px_acn, true_and, and_true, true_or, or_true, false_or, or_false, and_self, not_true_eq_false, not_false_eq_true, Classical.not_not, Nat.reduceAdd, Nat.reduceSub, Nat.reduceBEq, Nat.reduceLT, Nat.reduceLeDiff, Nat.lt_add_one, px_tg, Int.cast_ofNat_Int, Int.reduceAdd, Int.reduceSub, Int.reduceMul, Int.reduceToNat, Int.reduceLE, Int.reduceLT, Int.reduceNeg, Int.reduceEq, Bool.or_false, Bool.false_or, Bool.or_true, Bool.true_or, List.length_cons, List.length_nil, List.nil_append, List.cons_append, Option.toList_some, Option.toList_none, reduceCtorEq, Option.some.injEq, Nat.zero_le, Nat.reduceMul, Nat.mul_zero, Nat.add_zero, Int.reduceDiv, Int.reduceMod, Int.toNat_natCast, Nat.lt_irrefl, Int.natCast_add, Int.cast_ofNat_Int, px_mds_RX5_0, dec_X5_push, px_eq_iff, px_lt_iff, px_le_iff, px_up_o, px_up_eq, px_up_ne, px_cp_o, p1, p2, p3, e0, k0]
  refine ⟨hp1, ?_⟩
  refine c_X1_copyFrom k0 k3 (by omega) hb (fun μ1 f1 f2 f3 => ?_)
  have g17 : μ1 17 = μ 17 := f1 17 (by omega)
  have m1 : (μ 17 1 + 1) % 8 = (if μ 17 1 = 7 then 0 else μ 17 1 + 1) := by split <;> omega
  refine px_go (fun p => p == 35) 400 ?_
  simp (disch := omega) only [px_lits, false_implies, true_implies, px_dec_ok, px_run_s, px_rules, px_rule_is, px_mats, px_calls, ↓reduceIte, eq_self, Bool.false_eq_true, px_flds, px_o_some, px_fvs, px_pfs, px_cts, px_cls, px_acs_, px_acn, true_and, and_true, true_or, or_true, false_or, or_false, and_self, not_true_eq_false, not_false_eq_true, Classical.not_not, Nat.reduceAdd, Nat.reduceSub, Nat.reduceBEq, Nat.reduceLT, Nat.reduceLeDiff, Nat.lt_add_one, px_tg, Int.cast_ofNat_Int, Int.reduceAdd, Int.reduceSub, Int.reduceMul, Int.reduceToNat, Int.reduceLE, Int.reduceLT, Int.reduceNeg, Int.reduceEq, Bool.or_false, Bool.false_or, Bool.or_true, Bool.true_or, List.length_cons, List.length_nil, List.nil_append, List.cons_append, Option.toList_some, Option.toList_none, reduceCtorEq, Option.some.injEq, Nat.zero_le, Nat.reduceMul, Nat.mul_zero, Nat.add_zero, Int.reduceDiv, Int.reduceMod, Int.toNat_natCast, Nat.lt_irrefl, Int.natCast_add, Int.cast_ofNat_Int, px_mds_RX5_0, dec_X5_push, px_eq_iff, px_lt_iff, px_le_iff, px_up_o, px_up_eq, px_up_ne, px_cp_o, p1, p2, p3, e0, k0, g17]
  refine ⟨by omega, ?_⟩
  refine px_min rfl (by decide +kernel) (by decide) (by omega) (by simp) ?_
  refine px_go (fun _ => false) 400 ?_
  simp (disch := omega) only [px_lits, false_implies, true_implies, px_dec_ok, px_run_s, px_rules, px_rule_is, px_mats, px_calls, ↓reduceIte, eq_self, Bool.false_eq_true, px_flds, px_o_some, px_fvs, px_pfs, px_cts, px_cls, px_acs_, px_acn, true_and, and_true, true_or, or_true, false_or, or_false, and_self, not_true_eq_false, not_false_eq_true, Classical.not_not, Nat.reduceAdd, Nat.reduceSub, Nat.reduceBEq, Nat.reduceLT, Nat.reduceLeDiff, Nat.lt_add_one, px_tg, Int.cast_ofNat_Int, Int.reduceAdd, Int.reduceSub, Int.reduceMul, Int.reduceToNat, Int.reduceLE, Int.reduceLT, Int.reduceNeg, Int.reduceEq, Bool.or_false, Bool.false_or, Bool.or_true, Bool.true_or, List.length_cons, List.length_nil, List.nil_append, List.cons_append, Option.toList_some, Option.toList_none, reduceCtorEq, Option.some.injEq, Nat.zero_le, Nat.reduceMul, Nat.mul_zero, Nat.add_zero, Int.reduceDiv, Int.reduceMod, Int.toNat_natCast, Nat.lt_irrefl, Int.natCast_add, Int.cast_ofNat_Int, px_mds_RX5_0, dec_X5_push, px_eq_iff, px_lt_iff, px_le_iff, px_up_o, px_up_eq, px_up_ne, px_cp_o, p1, p2, p3, e0, k0, g17]
  have hc : (if (8 : Int) < μ 17 2 + 1 then 8 else μ 17 2 + 1) = if μ 17 2 = 8 then 8 else μ 17 2 + 1 := by split <;> split <;> omega
  rw [hc]
  have row : ∀ (a b c : Int) (j : Nat), j < 8 → j ≠ (μ 17 1).toNat → pc_hsv (px_up (px_up μ1 17 1 a) 17 2 b) (19 + 14 * j) = pc_hsv μ (19 + 14 * j) ∧ (pc_hsb μ (19 + 14 * j) → pc_hsb (px_up (px_up μ1 17 1 a) 17 2 b) (19 + 14 * j)) := by
    intro a b c j j1 j2
    refine pc_hsv_same (fun o o1 o2 => ?_)
    simp (disch := omega) only [px_up_o]
    exact f1 o (by omega)
  have rown : ∀ (a b : Int), pc_hsv (px_up (px_up μ1 17 1 a) 17 2 b) (19 + 14 * (μ 17 1).toNat) = pc_hsv μ1 (19 + 14 * (μ 17 1).toNat) ∧ (pc_hsb μ1 (19 + 14 * (μ 17 1).toNat) → pc_hsb (px_up (px_up μ1 17 1 a) 17 2 b) (19 + 14 * (μ 17 1).toNat)) := by
    intro a b
    refine pc_hsv_same (fun o o1 o2 => ?_)
    simp (disch := omega) only [px_up_o]
  refine h1 _ (fun o ho => ?_) ?_ ?_
  · simp (disch := omega) only [px_up_o]
    exact f1 o (by omega)
  · unfold pc_pastb
    simp (disch := omega) only [px_up_o, px_up_eq, px_up_ne]
    refine ⟨by omega, by split <;> omega, fun j hj => ?_⟩
    by_cases e : j = (μ 17 1).toNat
    · rw [e]
      exact (rown _ _).2 f3
    · exact (row _ _ 0 j hj e).2 (hp.2.2 j hj)
  · apply List.ext_getElem?
    intro k
    have hg : ∀ (m : px_Mem) (k : Nat), (pc_past m)[k]? = if k < (m 17 2).toNat then some (pc_hsv m (pc_ring (m 17 1) k)) else none := by
      intro m k
      unfold pc_past
      rw [List.getElem?_map]
      split
      · rename_i q
        rw [List.getElem?_range q]
        rfl
      · rename_i q
        rw [List.getElem?_eq_none (by rw [List.length_range]; omega)]
        rfl
    rw [hg, List.getElem?_take]
    simp (disch := omega) only [px_up_o, px_up_eq, px_up_ne]
    by_cases c1 : k < 8
    · rw [if_pos c1]
      cases k with
      | zero =>
        rw [if_pos (by split <;> omega), List.getElem?_cons_zero]
        have : pc_ring ((μ 17 1 + 1) % 8) ((0 : Nat) : Int) = 19 + 14 * (μ 17 1).toNat := by
          unfold pc_ring
          omega
        rw [this, (rown _ _).1, f2]
      | succ k =>
        rw [List.getElem?_cons_succ, hg]
        by_cases c2 : k < (μ 17 2).toNat
        · rw [if_pos (by split <;> omega), if_pos c2]
          have e5 : pc_ring ((μ 17 1 + 1) % 8) ((k + 1 : Nat) : Int) = pc_ring (μ 17 1) k := by
            unfold pc_ring
            omega
          rw [e5]
          unfold pc_ring
          rw [(row _ _ 0 _ (by omega) (by omega)).1]
        · rw [if_neg (by split <;> omega), if_neg c2]
    · rw [if_neg c1, if_neg (by split <;> omega)]
set_option maxHeartbeats 4000000 in
set_option maxRecDepth 100000 in
theorem c_X5_pop {G : px_G} {μ : px_Mem} {Q : Option px_X → px_Mem → Prop} (hp : pc_pastb μ) (h0 : 0 < μ 17 2)
    (h1 : ∀ μ1 : px_Mem, (∀ o, o ≠ 17 → (o < 3 ∨ 16 < o) → μ1 o = μ o) → pc_pastb μ1 → μ1 17 2 = μ 17 2 - 1 → pc_past μ = pc_hsv μ1 3 :: pc_past μ1 → pc_hsb μ1 3 → Q none μ1) : px_C G yX5_pop cX5_pop 2 none 3 [.inr (.inl (some 17)), .inr (.inl (some 3))] μ Q := by
  obtain ⟨p1, p2, p3⟩ := pc_past_k
  have hp1 := hp.1
  have hp2 := hp.2.1
  have k3 : px_kd 3 = 1 := by decide +kernel
  have k0 := pc_row ((μ 17 1 + 8 - 1) % 8).toNat (by omega)
  have e0 : px_el 23 18 ((μ 17 1 + 8 - 1) % 8).toNat = 19 + 14 * ((μ 17 1 + 8 - 1) % 8).toNat := rfl
  have rw7 : ∀ a : Int, ∀ j : Nat, pc_hsv (px_up μ 17 1 a) (19 + 14 * j) = pc_hsv μ (19 + 14 * j) ∧ (pc_hsb μ (19 + 14 * j) → pc_hsb (px_up μ 17 1 a) (19 + 14 * j)) := by
    intro a j
    refine pc_hsv_same (fun o o1 o2 => ?_)
    simp (disch := omega) only [px_up_o]
  refine px_enter RX5 (by decide +kernel) rfl (by simp) (by simp [px_c1]) ?_
  simp only [List.map_cons, List.map_nil, List.length_cons, List.length_nil, List.replicate, List.append_nil, Nat.reduceAdd, Nat.reduceSub, List.cons_append, List.nil_append]
  refine px_go (fun _ => false) 400 ?_
  simp (disch := omega) only [px_lits, false_implies, true_implies, px_dec_ok, px_run_s, px_rules, px_rule_is, px_mats, px_calls, ↓reduceIte, eq_self, Bool.false_eq_true, px_flds, px_o_some, px_fvs, px_pfs, px_cts, px_cls, px_acs_, px_acn, true_and, and_true, true_or, or_true, false_or, or_false, and_self, not_true_eq_false, not_false_eq_true, Classical.not_not, Nat.reduceAdd, Nat.reduceSub, Nat.reduceBEq, Nat.reduceLT, Nat.reduceLeDiff, Nat.lt_add_one, px_tg, Int.cast_ofNat_Int, Int.reduceAdd, Int.reduceSub, Int.reduceMul, Int.reduceToNat, Int.reduceLE, Int.reduceLT, Int.reduceNeg, Int.reduceEq, Bool.or_false, Bool.false_or, Bool.or_true, Bool.true_or, List.length_cons, List.length_nil, List.nil_append, List.cons_append, Option.toList_some, Option.toList_none, reduceCtorEq, Option.some.injEq, Nat.zero_le, Nat.reduceMul, Nat.mul_zero, Nat.add_zero, Int.reduceDiv, Int.reduceMod, Int.toNat_natCast, Nat.lt_irrefl, Int.natCast_add, Int.cast_ofNat_Int, px_mds_RX5_0, dec_X5_pop, px_eq_iff, px_lt_iff, px_le_iff, px_up_o, px_up_eq, px_up_ne, px_cp_o, p1, p2, p3, e0, k0]
  refine ⟨fun _ => ?_, fun q => by omega⟩
  repeat refine ⟨by omega, ?_⟩
  refine c_X1_copyFrom k3 k0 (by omega) ((rw7 _ _).2 (hp.2.2 _ (by omega))) (fun μ1 f1 f2 f3 => ?_)
  have g17 : μ1 17 = px_up μ 17 1 ((μ 17 1 + 8 - 1) % 8) 17 := f1 17 (by omega)
  have g1 : μ1 17 1 = (μ 17 1 + 8 - 1) % 8 := by rw [g17]; simp [px_up]
  have g2 : μ1 17 2 = μ 17 2 := by rw [g17]; simp [px_up]
  refine px_go (fun _ => false) 400 ?_
  simp (disch := omega) only [px_lits, false_implies, true_implies, px_dec_ok, px_run_s, px_rules, px_rule_is, px_mats, px_calls, ↓reduceIte, eq_self, Bool.false_eq_true, px_flds, px_o_some, px_fvs, px_pfs, px_cts, px_cls, px_acs_, px_acn, true_and, and_true, true_or, or_true, false_or, or_false, and_self, not_true_eq_false, not_false_eq_true, Classical.not_not, Nat.reduceAdd, Nat.reduceSub, Nat.reduceBEq, Nat.reduceLT, Nat.reduceLeDiff, Nat.lt_add_one, px_tg, Int.cast_ofNat_Int, Int.reduceAdd, Int.reduceSub, Int.reduceMul, Int.reduceToNat, Int.reduceLE, Int.reduceLT, Int.reduceNeg, Int.reduceEq, Bool.or_false, Bool.false_or, Bool.or_true, Bool.true_or, List.length_cons, List.length_nil, List.nil_append, List.cons_append, Option.toList_some, Option.toList_none, reduceCtorEq, Option.some.injEq, Nat.zero_le, Nat.reduceMul, Nat.mul_zero, Nat.add_zero, Int.reduceDiv, Int.reduceMod, Int.toNat_natCast, Nat.lt_irrefl, Int.natCast_add, Int.cast_ofNat_Int, px_mds_RX5_0, dec_X5_pop, px_eq_iff, px_lt_iff, px_le_iff, px_up_o, px_up_eq, px_up_ne, px_cp_o, p1, p2, p3, e0, k0, g2]
  have row : ∀ (b : Int) (j : Nat), pc_hsv (px_up μ1 17 2 b) (19 + 14 * j) = pc_hsv μ (19 + 14 * j) ∧ (pc_hsb μ (19 + 14 * j) → pc_hsb (px_up μ1 17 2 b) (19 + 14 * j)) := by
    intro b j
    refine pc_hsv_same (fun o o1 o2 => ?_)
    simp (disch := omega) only [px_up_o]
    rw [f1 o (by omega)]
    simp (disch := omega) only [px_up_o]
  have now : ∀ b : Int, pc_hsv (px_up μ1 17 2 b) 3 = pc_hsv μ1 3 ∧ (pc_hsb μ1 3 → pc_hsb (px_up μ1 17 2 b) 3) := by
    intro b
    refine pc_hsv_same (fun o o1 o2 => ?_)
    simp (disch := omega) only [px_up_o]
  refine h1 _ (fun o h2 h3 => ?_) ?_ ?_ ?_ ((now _).2 f3)
  · simp (disch := omega) only [px_up_o]
    rw [f1 o (by omega)]
    simp (disch := omega) only [px_up_o]
  · unfold pc_pastb
    simp (disch := omega) only [px_up_o, px_up_eq, px_up_ne]
    rw [g1]
    exact ⟨by omega, by omega, fun j hj => (row _ j).2 (hp.2.2 j hj)⟩
  · simp (disch := omega) only [px_up_o, px_up_eq, px_up_ne]
  · apply List.ext_getElem?
    intro k
    have hg : ∀ (m : px_Mem) (k : Nat), (pc_past m)[k]? = if k < (m 17 2).toNat then some (pc_hsv m (pc_ring (m 17 1) k)) else none := by
      intro m k
      unfold pc_past
      rw [List.getElem?_map]
      split
      · rename_i q
        rw [List.getElem?_range q]
        rfl
      · rename_i q
        rw [List.getElem?_eq_none (by rw [List.length_range]; omega)]
        rfl
    rw [hg]
    cases k with
    | zero =>
      rw [if_pos (by omega), List.getElem?_cons_zero, (now _).1, f2]
      have e5 : pc_ring (μ 17 1) ((0 : Nat) : Int) = 19 + 14 * ((μ 17 1 + 8 - 1) % 8).toNat := by
        unfold pc_ring
        omega
      rw [e5, (rw7 _ _).1]
    | succ k =>
      rw [List.getElem?_cons_succ, hg]
      simp (disch := omega) only [px_up_o, px_up_eq, px_up_ne]
      by_cases c2 : k + 1 < (μ 17 2).toNat
      · rw [if_pos c2, if_pos (by omega), g1]
        have e5 : pc_ring ((μ 17 1 + 8 - 1) % 8) (k : Int) = pc_ring (μ 17 1) ((k + 1 : Nat) : Int) := by
          unfold pc_ring
          omega
        rw [e5]
        unfold pc_ring
        rw [(row _ _).1]
      · rw [if_neg c2, if_neg (by omega)]
