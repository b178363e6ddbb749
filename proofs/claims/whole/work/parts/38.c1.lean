/-! ===== the class: its calls, one by one ===== -/
theorem pa_k : px_kd 0 = 9 ∧ px_kd 1 = 8 ∧ px_kd 3 = 1 ∧ px_kd 4 = 22 ∧ px_kd 17 = 5 ∧ px_kd 131 = 23 ∧ px_kd 160 = 21 ∧ px_kd 161 = 24 ∧ px_kd 178 = 25 ∧ px_kd 183 = 0 ∧ px_kd 188 = 6 ∧ px_kd 200 = 4 ∧ px_kd 204 = 2 := by decide +kernel
theorem pa_l : px_ln 4 = 2 ∧ px_ln 131 = 2 ∧ px_ln 160 = 2 ∧ px_ln 161 = 4 ∧ px_ln 178 = 2 := by decide +kernel
theorem pa_C.push {A : pa_A} {k : Int} {μ μ1 : px_Mem} (R : pa_C A k μ) (f : ∀ o, (o < 17 ∨ 130 < o) → μ1 o = μ o) (b : pc_pastb μ1) (e : pc_past μ1 = (pc_hsv μ 3 :: pc_past μ).take 8) : pa_C (pa_push A) k μ1 :=
  ⟨by rw [f 0 (by omega)]; exact R.n, R.b.same (fun o _ _ => f o (by omega)) rfl, R.w.same (fun o _ _ => f o (by omega)) rfl, ⟨by rw [e, R.w.1, R.p.1]; rfl, b⟩, R.i.same (fun o _ _ => f o (by omega)) rfl, R.s.same (fun o _ _ => f o (by omega)) rfl, R.o.same (fun o _ _ => f o (by omega)) (Int.le_refl _)⟩
theorem pa_C.putn {A : pa_A} {k n : Int} {μ μ1 : px_Mem} {h : Nat} {L : List pc_Ch} (R : pa_C A k μ) (hh : h < 2) (f : ∀ o, o ≠ 0 → (o < 7 + 5 * h ∨ 11 + 5 * h < o) → o < 205 → μ1 o = μ o) (hn : μ1 0 11 = n) (e : pc_hl μ1 (7 + 5 * h) = L) (b : 0 ≤ μ1 (7 + 5 * h) 4 ∧ μ1 (7 + 5 * h) 4 ≤ 16) : pa_C (pa_mk A.beg n (pc_p A.now h (L, (pc_g A.now h).2)) A.past A.im A.sh) k μ1 := by
  refine ⟨hn, R.b.same (fun o _ _ => f o (by omega) (by omega) (by omega)) rfl, ⟨?_, ?_⟩, R.p.same (fun o _ _ => f o (by omega) (by omega) (by omega)) rfl, R.i.same (fun o _ _ => f o (by omega) (by omega) (by omega)) rfl, R.s.same (fun o _ _ => f o (by omega) (by omega) (by omega)) rfl, R.o.same (fun o _ _ => f o (by omega) (by omega) (by omega)) (Int.le_refl _)⟩
  · show pc_hsv μ1 3 = pc_p A.now h (L, (pc_g A.now h).2)
    rw [← R.w.1, ← e]
    rcases (show h = 0 ∨ h = 1 by omega) with rfl | rfl
    · unfold pc_hsv pc_p pc_g
      rw [if_pos rfl, if_pos rfl, f 5 (by omega) (by omega) (by omega), f 6 (by omega) (by omega) (by omega), pc_hl_same (μ := μ) (μ1 := μ1) (h := 3 + 9) (f _ (by omega) (by omega) (by omega)) (f _ (by omega) (by omega) (by omega)) (f _ (by omega) (by omega) (by omega)) (f _ (by omega) (by omega) (by omega)) (f _ (by omega) (by omega) (by omega))]
    · unfold pc_hsv pc_p pc_g
      rw [if_neg (by omega), if_neg (by omega), f 5 (by omega) (by omega) (by omega), f 6 (by omega) (by omega) (by omega), pc_hl_same (μ := μ) (μ1 := μ1) (h := 3 + 4) (f _ (by omega) (by omega) (by omega)) (f _ (by omega) (by omega) (by omega)) (f _ (by omega) (by omega) (by omega)) (f _ (by omega) (by omega) (by omega)) (f _ (by omega) (by omega) (by omega))]
  · have h2 := R.w.2
    unfold pc_hsb at *
    rcases (show h = 0 ∨ h = 1 by omega) with rfl | rfl
    · rw [f (3 + 9) (by omega) (by omega) (by omega)]
      exact ⟨b, h2.2⟩
    · rw [f (3 + 4) (by omega) (by omega) (by omega)]
      exact ⟨h2.1, b⟩
theorem pa_C.num_at {A : pa_A} {k : Int} {μ : px_Mem} (R : pa_C A k μ) {h : Nat} (hh : h < 2) {j : Int} (h0 : 0 ≤ j) (h1 : j < (pa_L A h).length) : (pa_L A h)[j.toNat]? = some (μ (7 + 5 * h + 1) j, μ (7 + 5 * h + 2) j, μ (7 + 5 * h + 3) j, μ (7 + 5 * h + 4) j) := by
  obtain ⟨e1, e2, e3⟩ := R.hl hh
  rw [← e1]
  exact pc_hl_at h0 (by omega)
theorem pa_find_c {G : px_G} {A : pa_A} {k : Int} {h : Nat} {x : Int} {μ : px_Mem} {Q : Option px_X → px_Mem → Prop} (I : pa_I A) (R : pa_C A k μ) (hh : h < 2) (hx : -2147483648 ≤ x ∧ x < 2147483648) (h0 : pa_find (pa_L A h) x = none → Q (some (.inl (-1))) μ) (h1 : ∀ k : Nat, pa_find (pa_L A h) x = some k → k < (pa_L A h).length → Q (some (.inl k)) μ) : px_C G yX0_find cX0_find 3 (some .int) 0 [.inr (.inl (some (7 + 5 * h))), .inl x] μ Q := by
  obtain ⟨e1, e2, e3⟩ := R.hl hh
  refine c_X0_find (pc_kh hh).1 e2 hx (fun i i0 i1 => ?_) (fun z hz => ?_)
  · have := (I.el h _ (List.mem_of_getElem? (R.num_at hh i0 (by omega)))).1
    exact this
  · rcases hz with ⟨rfl, q⟩ | ⟨q1, q2, q3, -⟩
    · refine h0 (pa_find_none (fun j hj => ?_))
      have := R.num_at hh (j := j) (by omega) (by omega)
      rw [Int.toNat_natCast] at this
      unfold pc_num
      rw [this]
      exact q j (by omega) (by omega)
    · have := h1 z.toNat (pa_find_some (by omega) ?_ (I.L h).2.2.2) (by omega)
      · rwa [show ((z.toNat : Nat) : Int) = z by omega] at this
      · have := R.num_at hh (j := z) (by omega) (by omega)
        unfold pc_num
        rw [this]
        exact q3
theorem pa_text_c {G : px_G} {A : pa_A} {k : Int} {h : Nat} {μ : px_Mem} {Q : Option px_X → px_Mem → Prop} (I : pa_I A) (R : pa_C A k μ) (hh : h < 2)
    (h1 : ∀ μ1 : px_Mem, (∀ o, o ≠ 179 + 2 * h → o ≠ 180 + 2 * h → μ1 o = μ o) → pa_C A k μ1 → pc_tx μ1 (179 + 2 * h) = pa_T A h → μ1 (179 + 2 * h) 1 = (pa_T A h).length → Q (some (.inr (.inl (some (179 + 2 * h))))) μ1) : px_C G yX10_readText cX10_readText 5 (some (.object "PatchHouse$Writing")) 2 [.inr (.inl (some 0)), .inl h] μ Q := by
  obtain ⟨e1, e2, e3⟩ := R.hl hh
  obtain ⟨t1, t2, t3⟩ := R.ht I hh
  exact c_X10_readText hh e2 t2 t3 t1 (fun μ1 f1 f2 f3 f4 => h1 μ1 f1 (R.same (fun o ho => f1 o (by omega) (by omega))) f2 f3)
theorem pa_tx_r {μ : px_Mem} {w : Nat} {T : List Int} (e : pc_tx μ w = T) (n : μ w 1 = T.length) (hT : ∀ x ∈ T, 97 ≤ x ∧ x ≤ 122) : ∀ i, 0 ≤ i → i < μ w 1 → 97 ≤ μ (w + 1) i ∧ μ (w + 1) i ≤ 122 := by
  intro i h0 h1
  have := pc_tx_at h0 h1
  rw [e] at this
  exact hT _ (List.mem_of_getElem? this)
theorem pa_tx_at {μ : px_Mem} {w : Nat} {T : List Int} (e : pc_tx μ w = T) (n : μ w 1 = T.length) {i : Int} (h0 : 0 ≤ i) (h1 : i < T.length) : μ (w + 1) i = pa_at T i := by
  have := pc_tx_at (μ := μ) (w := w) h0 (by omega)
  rw [e] at this
  unfold pa_at
  rw [this]
  rfl
theorem pa_at_out {T : List Int} {i : Int} (h : ¬ (0 ≤ i ∧ i < T.length)) (h0 : 0 ≤ i) : pa_at T i = -1 := by
  unfold pa_at
  rw [List.getElem?_eq_none (by omega)]
  rfl
set_option maxHeartbeats 4000000 in
set_option maxRecDepth 100000 in
theorem c_X10_anew {G : px_G} {A : pa_A} {k : Int} {μ : px_Mem} {Q : Option px_X → px_Mem → Prop} (R : pa_C A k μ) (hq : pa_Qc μ (pa_anew A) k Q) : px_C G yX10_anew cX10_anew 3 (some .int) 1 [.inr (.inl (some 0))] μ Q := by
  refine px_enter RX10 (by decide +kernel) rfl (by simp) (by simp [px_c1]) ?_
  simp only [List.map_cons, List.map_nil, List.length_cons, List.length_nil, List.replicate, List.append_nil, Nat.reduceAdd, Nat.reduceSub, List.cons_append, List.nil_append]
  refine px_go (fun p => p == 30) 400 ?_
  simp (disch := omega) only [px_lits, false_implies, true_implies, px_dec_ok, px_run_s, px_rules, px_rule_is, px_mats, px_calls, ↓reduceIte, eq_self, Bool.false_eq_true, px_flds, px_o_some, px_fvs, px_pfs, px_cts, px_cls, px_acs_, px_acn, true_and, and_true, true_or, or_true, false_or, or_false, and_self, not_true_eq_false, not_false_eq_true, Classical.not_not, Nat.reduceAdd, Nat.reduceSub, Nat.reduceBEq, Nat.reduceLT, Nat.reduceLeDiff, Nat.lt_add_one, px_tg, Int.cast_ofNat_Int, Int.reduceAdd, Int.reduceSub, Int.reduceMul, Int.reduceToNat, Int.reduceLE, Int.reduceLT, Int.reduceNeg, Int.reduceEq, Bool.or_false, Bool.false_or, Bool.or_true, Bool.true_or, List.length_cons, List.length_nil, List.nil_append, List.cons_append, Option.toList_some, Option.toList_none, reduceCtorEq, Option.some.injEq, Nat.zero_le, Nat.reduceMul, Nat.mul_zero, Nat.add_zero, Int.reduceDiv, Int.reduceMod, Int.toNat_natCast, Nat.lt_irrefl, Int.natCast_add, Int.cast_ofNat_Int, px_mds_RX10_0, px_mds_RX10_1, dec_X10_anew, px_eq_iff, px_lt_iff, px_le_iff, px_up_o, px_up_eq, px_up_ne, px_cp_o, pa_k, pa_l]
  refine c_X1_clear (by decide +kernel) (fun μ1 f1 f2 f3 => ?_)
  have g0 : μ1 0 = μ 0 := by rw [f1 0 (by omega), px_up_o (by omega)]
  refine px_go (fun p => p == 30) 400 ?_
  simp (disch := omega) only [px_lits, false_implies, true_implies, px_dec_ok, px_run_s, px_rules, px_rule_is, px_mats, px_calls, ↓reduceIte, eq_self, Bool.false_eq_true, px_flds, px_o_some, px_fvs, px_pfs, px_cts, px_cls, px_acs_, px_acn, true_and, and_true, true_or, or_true, false_or, or_false, and_self, not_true_eq_false, not_false_eq_true, Classical.not_not, Nat.reduceAdd, Nat.reduceSub, Nat.reduceBEq, Nat.reduceLT, Nat.reduceLeDiff, Nat.lt_add_one, px_tg, Int.cast_ofNat_Int, Int.reduceAdd, Int.reduceSub, Int.reduceMul, Int.reduceToNat, Int.reduceLE, Int.reduceLT, Int.reduceNeg, Int.reduceEq, Bool.or_false, Bool.false_or, Bool.or_true, Bool.true_or, List.length_cons, List.length_nil, List.nil_append, List.cons_append, Option.toList_some, Option.toList_none, reduceCtorEq, Option.some.injEq, Nat.zero_le, Nat.reduceMul, Nat.mul_zero, Nat.add_zero, Int.reduceDiv, Int.reduceMod, Int.toNat_natCast, Nat.lt_irrefl, Int.natCast_add, Int.cast_ofNat_Int, px_mds_RX10_0, px_mds_RX10_1, dec_X10_anew, px_eq_iff, px_lt_iff, px_le_iff, px_up_o, px_up_eq, px_up_ne, px_cp_o, pa_k, pa_l, g0]
  refine px_go (fun p => p == 30) 400 ?_
  simp (disch := omega) only [px_lits, false_implies, true_implies, px_dec_ok, px_run_s, px_rules, px_rule_is, px_mats, px_calls, ↓reduceIte, eq_self, Bool.false_eq_true, px_flds, px_o_some, px_fvs, px_pfs, px_cts, px_cls, px_acs_, px_acn, true_and, and_true, true_or, or_true, false_or, or_false, and_self, not_true_eq_false, not_false_eq_true, Classical.not_not, Nat.reduceAdd, Nat.reduceSub, Nat.reduceBEq, Nat.reduceLT, Nat.reduceLeDiff, Nat.lt_add_one, px_tg, Int.cast_ofNat_Int, Int.reduceAdd, Int.reduceSub, Int.reduceMul, Int.reduceToNat, Int.reduceLE, Int.reduceLT, Int.reduceNeg, Int.reduceEq, Bool.or_false, Bool.false_or, Bool.or_true, Bool.true_or, List.length_cons, List.length_nil, List.nil_append, List.cons_append, Option.toList_some, Option.toList_none, reduceCtorEq, Option.some.injEq, Nat.zero_le, Nat.reduceMul, Nat.mul_zero, Nat.add_zero, Int.reduceDiv, Int.reduceMod, Int.toNat_natCast, Nat.lt_irrefl, Int.natCast_add, Int.cast_ofNat_Int, px_mds_RX10_0, px_mds_RX10_1, dec_X10_anew, px_eq_iff, px_lt_iff, px_le_iff, px_up_o, px_up_eq, px_up_ne, px_cp_o, pa_k, pa_l, g0]
  refine px_go (fun p => p == 30) 400 ?_
  simp (disch := omega) only [px_lits, false_implies, true_implies, px_dec_ok, px_run_s, px_rules, px_rule_is, px_mats, px_calls, ↓reduceIte, eq_self, Bool.false_eq_true, px_flds, px_o_some, px_fvs, px_pfs, px_cts, px_cls, px_acs_, px_acn, true_and, and_true, true_or, or_true, false_or, or_false, and_self, not_true_eq_false, not_false_eq_true, Classical.not_not, Nat.reduceAdd, Nat.reduceSub, Nat.reduceBEq, Nat.reduceLT, Nat.reduceLeDiff, Nat.lt_add_one, px_tg, Int.cast_ofNat_Int, Int.reduceAdd, Int.reduceSub, Int.reduceMul, Int.reduceToNat, Int.reduceLE, Int.reduceLT, Int.reduceNeg, Int.reduceEq, Bool.or_false, Bool.false_or, Bool.or_true, Bool.true_or, List.length_cons, List.length_nil, List.nil_append, List.cons_append, Option.toList_some, Option.toList_none, reduceCtorEq, Option.some.injEq, Nat.zero_le, Nat.reduceMul, Nat.mul_zero, Nat.add_zero, Int.reduceDiv, Int.reduceMod, Int.toNat_natCast, Nat.lt_irrefl, Int.natCast_add, Int.cast_ofNat_Int, px_mds_RX10_0, px_mds_RX10_1, dec_X10_anew, px_eq_iff, px_lt_iff, px_le_iff, px_up_o, px_up_eq, px_up_ne, px_cp_o, pa_k, pa_l, g0]
  refine px_go (fun p => p == 30) 400 ?_
  simp (disch := omega) only [px_lits, false_implies, true_implies, px_dec_ok, px_run_s, px_rules, px_rule_is, px_mats, px_calls, ↓reduceIte, eq_self, Bool.false_eq_true, px_flds, px_o_some, px_fvs, px_pfs, px_cts, px_cls, px_acs_, px_acn, true_and, and_true, true_or, or_true, false_or, or_false, and_self, not_true_eq_false, not_false_eq_true, Classical.not_not, Nat.reduceAdd, Nat.reduceSub, Nat.reduceBEq, Nat.reduceLT, Nat.reduceLeDiff, Nat.lt_add_one, px_tg, Int.cast_ofNat_Int, Int.reduceAdd, Int.reduceSub, Int.reduceMul, Int.reduceToNat, Int.reduceLE, Int.reduceLT, Int.reduceNeg, Int.reduceEq, Bool.or_false, Bool.false_or, Bool.or_true, Bool.true_or, List.length_cons, List.length_nil, List.nil_append, List.cons_append, Option.toList_some, Option.toList_none, reduceCtorEq, Option.some.injEq, Nat.zero_le, Nat.reduceMul, Nat.mul_zero, Nat.add_zero, Int.reduceDiv, Int.reduceMod, Int.toNat_natCast, Nat.lt_irrefl, Int.natCast_add, Int.cast_ofNat_Int, px_mds_RX10_0, px_mds_RX10_1, dec_X10_anew, px_eq_iff, px_lt_iff, px_le_iff, px_up_o, px_up_eq, px_up_ne, px_cp_o, pa_k, pa_l, g0]
  rw [R.n]
  refine hq.at (A1 := (pa_anew A).1) (z1 := A.num) rfl (fun o ho => ?_) ⟨?_, ?_, ?_, ?_, ?_, ?_, ?_⟩
  · simp (disch := omega) only [px_up_o]
    rw [f1 o (by omega), px_up_o (by omega)]
  · simp (disch := omega) only [px_up_eq]
    rfl
  · unfold pq_b pc_tx
    simp (disch := omega) only [px_up_o]
    rw [f1 1 (by omega), px_up_eq rfl]
    exact ⟨rfl, rfl⟩
  · have := pc_hsv_same (μ := μ1) (μ1 := px_up (px_up (px_up (px_up μ1 17 2 0) 160 0 0) 160 1 0) 0 11 0) (H := 3) (fun o _ _ => by simp (disch := omega) only [px_up_o])
    exact ⟨by rw [this.1, f2]; rfl, this.2 f3⟩
  · have pb := R.p.2
    constructor
    · unfold pc_past
      simp (disch := omega) only [px_up_o, px_up_eq]
      rfl
    · unfold pc_pastb at *
      have f17 : μ1 17 = μ 17 := by rw [f1 17 (by omega), px_up_o (by omega)]
      simp (disch := omega) only [px_up_o, px_up_eq, px_up_ne]
      rw [f17]
      refine ⟨pb.1, by omega, fun j hj => ?_⟩
      refine (pc_hsv_same (μ := μ) (fun o _ _ => ?_)).2 (pb.2.2 j hj)
      simp (disch := omega) only [px_up_o]
      rw [f1 o (by omega), px_up_o (by omega)]
  · intro i hi
    have := pc_hsv_same (μ := μ) (μ1 := px_up (px_up (px_up (px_up μ1 17 2 0) 160 0 0) 160 1 0) 0 11 0) (H := 132 + 14 * i) (fun o _ _ => by
      simp (disch := omega) only [px_up_o]
      rw [f1 o (by omega), px_up_o (by omega)])
    refine ⟨this.2 (R.i i hi).1, .inl ⟨?_, rfl⟩⟩
    rcases (show i = 0 ∨ i = 1 by omega) with rfl | rfl
    · rw [px_up_o (by omega), px_up_ne (by omega)]
      exact px_up_eq (by omega)
    · rw [px_up_o (by omega)]
      exact px_up_eq (by omega)
  · exact R.s.same (fun o _ _ => by
      simp (disch := omega) only [px_up_o]
      rw [f1 o (by omega), px_up_o (by omega)]) rfl
  · exact R.o.same (fun o _ _ => by
      simp (disch := omega) only [px_up_o]
      rw [f1 o (by omega), px_up_o (by omega)]) (Int.le_refl _)
set_option maxHeartbeats 4000000 in
set_option maxRecDepth 100000 in
theorem c_X10_begin {G : px_G} {A : pa_A} {k l : Int} {μ : px_Mem} {Q : Option px_X → px_Mem → Prop} (I : pa_I A) (R : pa_C A k μ) (hl : -2147483648 ≤ l ∧ l < 2147483648) (hq : pa_Qc μ (pa_begin A l) k Q) : px_C G yX10_begin cX10_begin 2 (some .int) 2 [.inr (.inl (some 0)), .inl l] μ Q := by
  have hn := I.n
  have hb := I.b1
  have rn := R.n
  have rb := R.b.2
  refine px_enter RX10 (by decide +kernel) rfl (by simp) (by simp [px_c1]) ?_
  simp only [List.map_cons, List.map_nil, List.length_cons, List.length_nil, List.replicate, List.append_nil, Nat.reduceAdd, Nat.reduceSub, List.cons_append, List.nil_append]
  refine px_go (fun _ => false) 400 ?_
  simp (disch := omega) only [px_lits, false_implies, true_implies, px_dec_ok, px_run_s, px_rules, px_rule_is, px_mats, px_calls, ↓reduceIte, eq_self, Bool.false_eq_true, px_flds, px_o_some, px_fvs, px_pfs, px_cts, px_cls, px_acs_, px_acn, true_and, and_true, true_or, or_true, false_or, or_false, and_self, not_true_eq_false, not_false_eq_true, Classical.not_not, Nat.reduceAdd, Nat.reduceSub, Nat.reduceBEq, Nat.reduceLT, Nat.reduceLeDiff, Nat.lt_add_one, px_tg, Int.cast_ofNat_Int, Int.reduceAdd, Int.reduceSub, Int.reduceMul, Int.reduceToNat, Int.reduceLE, Int.reduceLT, Int.reduceNeg, Int.reduceEq, Bool.or_false, Bool.false_or, Bool.or_true, Bool.true_or, List.length_cons, List.length_nil, List.nil_append, List.cons_append, Option.toList_some, Option.toList_none, reduceCtorEq, Option.some.injEq, Nat.zero_le, Nat.reduceMul, Nat.mul_zero, Nat.add_zero, Int.reduceDiv, Int.reduceMod, Int.toNat_natCast, Nat.lt_irrefl, Int.natCast_add, Int.cast_ofNat_Int, px_mds_RX10_0, px_mds_RX10_1, dec_X10_begin, px_eq_iff, px_lt_iff, px_le_iff, px_up_o, px_up_eq, px_up_ne, px_cp_o, pa_k, pa_l]
  refine c_X10_isLetter hl (fun q => ?_) (fun q => ?_)
  · refine px_go (fun _ => false) 400 ?_
    simp (disch := omega) only [px_lits, false_implies, true_implies, px_dec_ok, px_run_s, px_rules, px_rule_is, px_mats, px_calls, ↓reduceIte, eq_self, Bool.false_eq_true, px_flds, px_o_some, px_fvs, px_pfs, px_cts, px_cls, px_acs_, px_acn, true_and, and_true, true_or, or_true, false_or, or_false, and_self, not_true_eq_false, not_false_eq_true, Classical.not_not, Nat.reduceAdd, Nat.reduceSub, Nat.reduceBEq, Nat.reduceLT, Nat.reduceLeDiff, Nat.lt_add_one, px_tg, Int.cast_ofNat_Int, Int.reduceAdd, Int.reduceSub, Int.reduceMul, Int.reduceToNat, Int.reduceLE, Int.reduceLT, Int.reduceNeg, Int.reduceEq, Bool.or_false, Bool.false_or, Bool.or_true, Bool.true_or, List.length_cons, List.length_nil, List.nil_append, List.cons_append, Option.toList_some, Option.toList_none, reduceCtorEq, Option.some.injEq, Nat.zero_le, Nat.reduceMul, Nat.mul_zero, Nat.add_zero, Int.reduceDiv, Int.reduceMod, Int.toNat_natCast, Nat.lt_irrefl, Int.natCast_add, Int.cast_ofNat_Int, px_mds_RX10_0, px_mds_RX10_1, dec_X10_begin, px_eq_iff, px_lt_iff, px_le_iff, px_up_o, px_up_eq, px_up_ne, px_cp_o, pa_k, pa_l]
    refine ⟨fun w => ⟨fun v => ?_, fun v => ?_⟩, fun w => ?_⟩
    · refine c_X9_apply (n := 0) (T1 := A.beg ++ [l]) pa_k.2.1 (by omega) (.inl rfl) ?_ (by simp; omega) (fun μ1 f1 f2 f3 => ?_)
      · rw [pc_do_put, R.b.1, if_pos (by omega), rb, Int.toNat_natCast, List.insertIdx_length_self]
      · refine px_go (fun _ => false) 400 ?_
        simp (disch := omega) only [px_lits, false_implies, true_implies, px_dec_ok, px_run_s, px_rules, px_rule_is, px_mats, px_calls, ↓reduceIte, eq_self, Bool.false_eq_true, px_flds, px_o_some, px_fvs, px_pfs, px_cts, px_cls, px_acs_, px_acn, true_and, and_true, true_or, or_true, false_or, or_false, and_self, not_true_eq_false, not_false_eq_true, Classical.not_not, Nat.reduceAdd, Nat.reduceSub, Nat.reduceBEq, Nat.reduceLT, Nat.reduceLeDiff, Nat.lt_add_one, px_tg, Int.cast_ofNat_Int, Int.reduceAdd, Int.reduceSub, Int.reduceMul, Int.reduceToNat, Int.reduceLE, Int.reduceLT, Int.reduceNeg, Int.reduceEq, Bool.or_false, Bool.false_or, Bool.or_true, Bool.true_or, List.length_cons, List.length_nil, List.nil_append, List.cons_append, Option.toList_some, Option.toList_none, reduceCtorEq, Option.some.injEq, Nat.zero_le, Nat.reduceMul, Nat.mul_zero, Nat.add_zero, Int.reduceDiv, Int.reduceMod, Int.toNat_natCast, Nat.lt_irrefl, Int.natCast_add, Int.cast_ofNat_Int, px_mds_RX10_0, px_mds_RX10_1, dec_X10_begin, px_eq_iff, px_lt_iff, px_le_iff, px_up_o, px_up_eq, px_up_ne, px_cp_o, pa_k, pa_l, f3]
        refine hq.at (A1 := pa_mk (A.beg ++ [l]) A.num A.now A.past A.im A.sh) ?_ (fun o ho => f1 o (by omega) (by omega)) ⟨?_, ⟨f2, f3⟩, R.w.same (fun o _ _ => f1 o (by omega) (by omega)) rfl, R.p.same (fun o _ _ => f1 o (by omega) (by omega)) rfl, R.i.same (fun o _ _ => f1 o (by omega) (by omega)) rfl, R.s.same (fun o _ _ => f1 o (by omega) (by omega)) rfl, R.o.same (fun o _ _ => f1 o (by omega) (by omega)) (Int.le_refl _)⟩
        · unfold pa_begin
          rw [if_neg (fun n => n q), if_neg (by omega), if_neg (by omega), List.length_append]
          rfl
        · rw [f1 0 (by omega) (by omega)]
          exact rn
    · refine hq.at ?_ (fun _ _ => rfl) R
      unfold pa_begin
      rw [if_neg (fun n => n q), if_neg (by omega), if_pos (by omega)]
    · refine hq.at ?_ (fun _ _ => rfl) R
      unfold pa_begin
      rw [if_neg (fun n => n q), if_pos (by omega)]
  · refine px_go (fun _ => false) 400 ?_
    simp (disch := omega) only [px_lits, false_implies, true_implies, px_dec_ok, px_run_s, px_rules, px_rule_is, px_mats, px_calls, ↓reduceIte, eq_self, Bool.false_eq_true, px_flds, px_o_some, px_fvs, px_pfs, px_cts, px_cls, px_acs_, px_acn, true_and, and_true, true_or, or_true, false_or, or_false, and_self, not_true_eq_false, not_false_eq_true, Classical.not_not, Nat.reduceAdd, Nat.reduceSub, Nat.reduceBEq, Nat.reduceLT, Nat.reduceLeDiff, Nat.lt_add_one, px_tg, Int.cast_ofNat_Int, Int.reduceAdd, Int.reduceSub, Int.reduceMul, Int.reduceToNat, Int.reduceLE, Int.reduceLT, Int.reduceNeg, Int.reduceEq, Bool.or_false, Bool.false_or, Bool.or_true, Bool.true_or, List.length_cons, List.length_nil, List.nil_append, List.cons_append, Option.toList_some, Option.toList_none, reduceCtorEq, Option.some.injEq, Nat.zero_le, Nat.reduceMul, Nat.mul_zero, Nat.add_zero, Int.reduceDiv, Int.reduceMod, Int.toNat_natCast, Nat.lt_irrefl, Int.natCast_add, Int.cast_ofNat_Int, px_mds_RX10_0, px_mds_RX10_1, dec_X10_begin, px_eq_iff, px_lt_iff, px_le_iff, px_up_o, px_up_eq, px_up_ne, px_cp_o, pa_k, pa_l]
    refine hq.at ?_ (fun _ _ => rfl) R
    unfold pa_begin
    rw [if_pos q]
