/-! ===== the class: pull ===== -/
theorem pc_gp_bd : ∀ {B O B1 : List pc_Ch} {K : Int}, pc_bd K O → (∀ c ∈ B, pc_el c ∧ 0 ≤ c.2.2.1 ∧ c.2.2.1 ≤ 27) → pc_gp B O = .inr B1 → (∀ c ∈ B1, pc_el c ∧ 0 ≤ c.2.2.1 ∧ c.2.2.1 ≤ 27 + O.length) ∧ (∀ n, pc_room n B → pc_room n B1) ∧ B1.length = B.length
  | [], O, B1, K, hO, hB, h => by cases h; exact ⟨fun c hc => (by cases hc), fun n h => h, rfl⟩
  | b :: B, O, B1, K, hO, hB, h => by
    unfold pc_gp at h
    cases h1 : pc_gp1 b O with
    | inl n => rw [h1] at h; cases h
    | inr r =>
      obtain ⟨b1, O1⟩ := r
      rw [h1] at h
      dsimp only at h
      cases h2 : pc_gp B O1 with
      | inl n => rw [h2] at h; cases h
      | inr B2 =>
        rw [h2] at h
        cases h
        have hb := hB b List.mem_cons_self
        obtain ⟨r1, r2, r3, r4, r5, r6, r7⟩ := pc_gp1_bd hO hb.2.1 h1
        obtain ⟨i1, i2, i3⟩ := pc_gp_bd r1 (fun c hc => hB c (List.mem_cons_of_mem _ hc)) h2
        refine ⟨fun c hc => ?_, fun n hn => ?_, by rw [List.length_cons, List.length_cons, i3]⟩
        · rcases List.mem_cons.mp hc with rfl | hc
          · refine ⟨?_, r5, by omega⟩
            unfold pc_el at *
            rw [r2, r3, r4]
            exact hb.1
          · have := i1 c hc
            rw [r7] at this
            exact this
        · have hn' : n + (if b.2.1 = 0 then 1 else -1) ≤ 24 ∧ pc_room (n + (if b.2.1 = 0 then 1 else -1)) B := hn
          show n + (if b1.2.1 = 0 then 1 else -1) ≤ 24 ∧ pc_room (n + (if b1.2.1 = 0 then 1 else -1)) B2
          rw [r3]
          exact ⟨hn'.1, i2 _ hn'.2⟩
theorem pc_sg_mem {μ : px_Mem} {a1 a2 a3 a4 : Nat} {n : Nat} {f i : Int} (h0 : f ≤ i) (h1 : i < f + n) : (μ a1 i, μ a2 i, μ a3 i, μ a4 i) ∈ pc_sg μ a1 a2 a3 a4 f n := by
  have := pc_sg_get (μ := μ) (a1 := a1) (a2 := a2) (a3 := a3) (a4 := a4) (n := n) (f := f) (k := (i - f).toNat) (by omega)
  rw [show f + ((i - f).toNat : Int) = i by omega] at this
  exact List.mem_of_getElem? this
theorem pa_other {h : Nat} (hh : h < 2) : ((1 : Int) - (h : Int)).toNat = 1 - h ∧ 1 - h < 2 ∧ (1 : Int) - (h : Int) = ((1 - h : Nat) : Int) ∧ 1 - (1 - h) = h := by omega
set_option maxHeartbeats 4000000 in
set_option maxRecDepth 100000 in
theorem c_X10_pull {G : px_G} {A : pa_A} {k x c : Int} {μ : px_Mem} {Q : Option px_X → px_Mem → Prop} (I : pa_I A) (R : pa_C A k μ) (hx : -2147483648 ≤ x ∧ x < 2147483648) (hc : -2147483648 ≤ c ∧ c < 2147483648) (hq : pa_Qc μ (pa_pull A x c) k Q) : px_C G yX10_pull cX10_pull 6 (some .int) 5 [.inr (.inl (some 0)), .inl x, .inl c] μ Q := by
  refine px_enter RX10 (by decide +kernel) rfl (by simp) (by simp [px_c1]) ?_
  simp only [List.map_cons, List.map_nil, List.length_cons, List.length_nil, List.replicate, List.append_nil, Nat.reduceAdd, Nat.reduceSub, List.cons_append, List.nil_append]
  refine px_go (fun _ => false) 400 ?_
  simp (disch := omega) only [px_lits, false_implies, true_implies, px_dec_ok, px_run_s, px_rules, px_rule_is, px_mats, px_calls, ↓reduceIte, eq_self, Bool.false_eq_true, px_flds, px_o_some, px_fvs, px_pfs, px_cts, px_cls, px_acs_, px_acn, true_and, and_true, true_or, or_true, false_or, or_false, and_self, not_true_eq_false, not_false_eq_true, Classical.not_not, Nat.reduceAdd, Nat.reduceSub, Nat.reduceBEq, Nat.reduceLT, Nat.reduceLeDiff, Nat.lt_add_one, px_tg, Int.cast_ofNat_Int, Int.reduceAdd, Int.reduceSub, Int.reduceMul, Int.reduceToNat, Int.reduceLE, Int.reduceLT, Int.reduceNeg, Int.reduceEq, Bool.or_false, Bool.false_or, Bool.or_true, Bool.true_or, List.length_cons, List.length_nil, List.nil_append, List.cons_append, Option.toList_some, Option.toList_none, reduceCtorEq, Option.some.injEq, Nat.zero_le, Nat.reduceMul, Nat.mul_zero, Nat.add_zero, Int.reduceDiv, Int.reduceMod, Int.toNat_natCast, Nat.lt_irrefl, Int.natCast_add, Int.cast_ofNat_Int, px_mds_RX10_0, px_mds_RX10_1, dec_X10_pull, px_eq_iff, px_lt_iff, px_le_iff, px_up_o, px_up_eq, px_up_ne, px_cp_o, pa_k, pa_l]
  refine c_X10_isHouse hx (fun q => ?_) (fun q => ?_)
  · obtain ⟨h, hh, rfl⟩ := pa_nat q
    obtain ⟨o1, o2, o3, o4⟩ := pa_other hh
    obtain ⟨k1, k2⟩ := pc_kh hh
    obtain ⟨j1, j2⟩ := pc_kh o2
    obtain ⟨l1, l2, l3⟩ := R.hl hh
    obtain ⟨m1, m2, m3⟩ := R.hl o2
    obtain ⟨e1, e2⟩ := pc_eh h
    obtain ⟨g1, g2⟩ := pc_eh (1 - h)
    have V := I.V h
    have W := I.V (1 - h)
    have hT := I.Tl h
    have st : pa_pull A h c = if ¬ ((pa_find (pa_L A (1 - h)) c).isSome) then (A, -1000000001) else if (pa_find (pa_L A h) c).isSome then (A, -1000000003) else
        match pc_fr (pa_bothS A h) (pa_L A (1 - h)).length 0 (pa_L A (1 - h)) 0, pc_fr (pa_bothS A h) (pa_L A h).length 0 (pa_L A h) 0 with
        | some t, some o => pa_come A h c (pc_gb ((t.1.take ((pa_find t.1 c).getD 0 + 1)).drop t.2)) o.1 o.2
        | _, _ => (A, -1000000003) := by
      unfold pa_pull
      rw [Int.toNat_natCast]
      by_cases w : (pa_find (pa_L A (1 - h)) c).isSome
      · rw [if_neg (fun n => n ⟨q, w⟩), if_neg (show ¬ ¬ ((pa_find (pa_L A (1 - h)) c).isSome = true) from fun n => n w)]
        rfl
      · rw [if_pos (fun n => w n.2), if_pos w]
    rw [st] at hq
    refine px_go (fun _ => false) 400 ?_
    simp (disch := omega) only [px_lits, false_implies, true_implies, px_dec_ok, px_run_s, px_rules, px_rule_is, px_mats, px_calls, ↓reduceIte, eq_self, Bool.false_eq_true, px_flds, px_o_some, px_fvs, px_pfs, px_cts, px_cls, px_acs_, px_acn, true_and, and_true, true_or, or_true, false_or, or_false, and_self, not_true_eq_false, not_false_eq_true, Classical.not_not, Nat.reduceAdd, Nat.reduceSub, Nat.reduceBEq, Nat.reduceLT, Nat.reduceLeDiff, Nat.lt_add_one, px_tg, Int.cast_ofNat_Int, Int.reduceAdd, Int.reduceSub, Int.reduceMul, Int.reduceToNat, Int.reduceLE, Int.reduceLT, Int.reduceNeg, Int.reduceEq, Bool.or_false, Bool.false_or, Bool.or_true, Bool.true_or, List.length_cons, List.length_nil, List.nil_append, List.cons_append, Option.toList_some, Option.toList_none, reduceCtorEq, Option.some.injEq, Nat.zero_le, Nat.reduceMul, Nat.mul_zero, Nat.add_zero, Int.reduceDiv, Int.reduceMod, Int.toNat_natCast, Nat.lt_irrefl, Int.natCast_add, Int.cast_ofNat_Int, px_mds_RX10_0, px_mds_RX10_1, dec_X10_pull, px_eq_iff, px_lt_iff, px_le_iff, px_up_o, px_up_eq, px_up_ne, px_cp_o, pa_k, pa_l, o1, g1, j1]
    refine ⟨by omega, ?_⟩
    refine pa_find_c I R o2 hc (fun w => ?_) (fun a w w1 => ?_)
    · refine px_go (fun _ => false) 400 ?_
      simp (disch := omega) only [px_lits, false_implies, true_implies, px_dec_ok, px_run_s, px_rules, px_rule_is, px_mats, px_calls, ↓reduceIte, eq_self, Bool.false_eq_true, px_flds, px_o_some, px_fvs, px_pfs, px_cts, px_cls, px_acs_, px_acn, true_and, and_true, true_or, or_true, false_or, or_false, and_self, not_true_eq_false, not_false_eq_true, Classical.not_not, Nat.reduceAdd, Nat.reduceSub, Nat.reduceBEq, Nat.reduceLT, Nat.reduceLeDiff, Nat.lt_add_one, px_tg, Int.cast_ofNat_Int, Int.reduceAdd, Int.reduceSub, Int.reduceMul, Int.reduceToNat, Int.reduceLE, Int.reduceLT, Int.reduceNeg, Int.reduceEq, Bool.or_false, Bool.false_or, Bool.or_true, Bool.true_or, List.length_cons, List.length_nil, List.nil_append, List.cons_append, Option.toList_some, Option.toList_none, reduceCtorEq, Option.some.injEq, Nat.zero_le, Nat.reduceMul, Nat.mul_zero, Nat.add_zero, Int.reduceDiv, Int.reduceMod, Int.toNat_natCast, Nat.lt_irrefl, Int.natCast_add, Int.cast_ofNat_Int, px_mds_RX10_0, px_mds_RX10_1, dec_X10_pull, px_eq_iff, px_lt_iff, px_le_iff, px_up_o, px_up_eq, px_up_ne, px_cp_o, pa_k, pa_l, o1, g1, j1]
      exact hq.at (by rw [w]; rfl) (fun _ _ => rfl) R
    · have wn : c ∈ pn (pa_L A (1 - h)) := pa_find_pn (by rw [w]; rfl)
      rw [if_neg (by rw [w]; simp)] at hq
      refine px_go (fun _ => false) 400 ?_
      simp (disch := omega) only [px_lits, false_implies, true_implies, px_dec_ok, px_run_s, px_rules, px_rule_is, px_mats, px_calls, ↓reduceIte, eq_self, Bool.false_eq_true, px_flds, px_o_some, px_fvs, px_pfs, px_cts, px_cls, px_acs_, px_acn, true_and, and_true, true_or, or_true, false_or, or_false, and_self, not_true_eq_false, not_false_eq_true, Classical.not_not, Nat.reduceAdd, Nat.reduceSub, Nat.reduceBEq, Nat.reduceLT, Nat.reduceLeDiff, Nat.lt_add_one, px_tg, Int.cast_ofNat_Int, Int.reduceAdd, Int.reduceSub, Int.reduceMul, Int.reduceToNat, Int.reduceLE, Int.reduceLT, Int.reduceNeg, Int.reduceEq, Bool.or_false, Bool.false_or, Bool.or_true, Bool.true_or, List.length_cons, List.length_nil, List.nil_append, List.cons_append, Option.toList_some, Option.toList_none, reduceCtorEq, Option.some.injEq, Nat.zero_le, Nat.reduceMul, Nat.mul_zero, Nat.add_zero, Int.reduceDiv, Int.reduceMod, Int.toNat_natCast, Nat.lt_irrefl, Int.natCast_add, Int.cast_ofNat_Int, px_mds_RX10_0, px_mds_RX10_1, dec_X10_pull, px_eq_iff, px_lt_iff, px_le_iff, px_up_o, px_up_eq, px_up_ne, px_cp_o, pa_k, pa_l, o1, g1, j1, e1, k1]
      refine ⟨by omega, ?_⟩
      refine pa_find_c I R hh hc (fun v => ?_) (fun b v v1 => ?_)
      · have vn : c ∉ pn (pa_L A h) := pa_find_npn (by rw [v]; simp)
        rw [if_neg (by rw [v]; simp)] at hq
        refine px_go (fun _ => false) 400 ?_
        simp (disch := omega) only [px_lits, false_implies, true_implies, px_dec_ok, px_run_s, px_rules, px_rule_is, px_mats, px_calls, ↓reduceIte, eq_self, Bool.false_eq_true, px_flds, px_o_some, px_fvs, px_pfs, px_cts, px_cls, px_acs_, px_acn, true_and, and_true, true_or, or_true, false_or, or_false, and_self, not_true_eq_false, not_false_eq_true, Classical.not_not, Nat.reduceAdd, Nat.reduceSub, Nat.reduceBEq, Nat.reduceLT, Nat.reduceLeDiff, Nat.lt_add_one, px_tg, Int.cast_ofNat_Int, Int.reduceAdd, Int.reduceSub, Int.reduceMul, Int.reduceToNat, Int.reduceLE, Int.reduceLT, Int.reduceNeg, Int.reduceEq, Bool.or_false, Bool.false_or, Bool.or_true, Bool.true_or, List.length_cons, List.length_nil, List.nil_append, List.cons_append, Option.toList_some, Option.toList_none, reduceCtorEq, Option.some.injEq, Nat.zero_le, Nat.reduceMul, Nat.mul_zero, Nat.add_zero, Int.reduceDiv, Int.reduceMod, Int.toNat_natCast, Nat.lt_irrefl, Int.natCast_add, Int.cast_ofNat_Int, px_mds_RX10_0, px_mds_RX10_1, dec_X10_pull, px_eq_iff, px_lt_iff, px_le_iff, px_up_o, px_up_eq, px_up_ne, px_cp_o, pa_k, pa_l, o1, g1, j1, e1, k1]
        refine ⟨by omega, ?_⟩
        refine c_X6_sortOut k1 j1 (by omega) (by omega) l2 m2 (by rw [l1]; exact V) (by rw [m1]; exact W) hc (fun Lt ft hf => ?_) (fun μ1 hf fr => ?_) (fun Lt Lo B R' ft fo a' μ1 s1 s2 s3 s4 s5 s6 fr s7 s8 s9 s10 s11 s12 s13 s14 => ?_)
        · rw [l1, m1] at hf
          obtain ⟨a', a1, a2, a3, a4, -⟩ := pc_fr_find (I.num24 h) (I.num24 (1 - h)) (I.L (1 - h)).2.2.2 hf wn vn
          exact ⟨a', a1, a2, a3, a4⟩
        · rw [l1, m1] at hf
          refine px_go (fun _ => false) 400 ?_
          simp (disch := omega) only [px_lits, false_implies, true_implies, px_dec_ok, px_run_s, px_rules, px_rule_is, px_mats, px_calls, ↓reduceIte, eq_self, Bool.false_eq_true, px_flds, px_o_some, px_fvs, px_pfs, px_cts, px_cls, px_acs_, px_acn, true_and, and_true, true_or, or_true, false_or, or_false, and_self, not_true_eq_false, not_false_eq_true, Classical.not_not, Nat.reduceAdd, Nat.reduceSub, Nat.reduceBEq, Nat.reduceLT, Nat.reduceLeDiff, Nat.lt_add_one, px_tg, Int.cast_ofNat_Int, Int.reduceAdd, Int.reduceSub, Int.reduceMul, Int.reduceToNat, Int.reduceLE, Int.reduceLT, Int.reduceNeg, Int.reduceEq, Bool.or_false, Bool.false_or, Bool.or_true, Bool.true_or, List.length_cons, List.length_nil, List.nil_append, List.cons_append, Option.toList_some, Option.toList_none, reduceCtorEq, Option.some.injEq, Nat.zero_le, Nat.reduceMul, Nat.mul_zero, Nat.add_zero, Int.reduceDiv, Int.reduceMod, Int.toNat_natCast, Nat.lt_irrefl, Int.natCast_add, Int.cast_ofNat_Int, px_mds_RX10_0, px_mds_RX10_1, dec_X10_pull, px_eq_iff, px_lt_iff, px_le_iff, px_up_o, px_up_eq, px_up_ne, px_cp_o, pa_k, pa_l, o1, g1, j1, e1, k1]
          refine hq.at ?_ (fun o ho => fr o (by omega)) (R.same (fun o ho => fr o (by omega)))
          rcases hf with hf | hf
          · rw [show pc_fr (pa_bothS A h) (pa_L A (1 - h)).length 0 (pa_L A (1 - h)) 0 = none from hf]
          · rw [show pc_fr (pa_bothS A h) (pa_L A h).length 0 (pa_L A h) 0 = none from hf]
            cases pc_fr (pa_bothS A h) (pa_L A (1 - h)).length 0 (pa_L A (1 - h)) 0 <;> rfl
        · rw [l1, m1] at s1 s2
          have s1' : pc_fr (pa_bothS A h) (pa_L A (1 - h)).length 0 (pa_L A (1 - h)) 0 = some (Lt, ft) := s1
          have s2' : pc_fr (pa_bothS A h) (pa_L A h).length 0 (pa_L A h) 0 = some (Lo, fo) := s2
          obtain ⟨ef, ⟨a2, b1, b2, b3, b4, b5, b6⟩, t2, t3, t4, t5, t6, t7, t8⟩ := pa_sorted I wn vn s1' s2'
          have ea : a' = a2 := b5 a' s4 s5
          subst ea ef
          rw [s1', s2'] at hq
          dsimp only at hq
          rw [b1, Option.getD_some, ← s6] at hq
          have R1 : pa_C A k μ1 := R.same (fun o ho => fr o (by omega))
          have hl4 := pc_hl_len (μ := μ1) (h := 194)
          rw [s8, List.length_append, List.length_append, List.length_take, s10] at hl4
          have hft : ft ≤ Lt.length := by omega
          have sgB : pc_sg μ1 195 196 197 198 ft B.length = B := by
            have := pc_sg_hl (μ := μ1) (h := 194) (f := ft) (n := B.length) (by rw [s10]; omega)
            rw [← this, s8, List.append_assoc, List.drop_append_of_le_length (by rw [List.length_take]; omega), List.drop_eq_nil_of_le (by rw [List.length_take]; omega), List.nil_append, List.take_left' rfl]
          have sgO : pc_sg μ1 190 191 192 193 ft (Lo.length - ft) = Lo.drop ft := by
            have hfl : ft ≤ Lo.length := by
              obtain ⟨F, W', d1, d2, -⟩ := pc_fr_all s2'
              rw [← pn_len Lo, d1, List.length_append]
              omega
            have := pc_sg_hl (μ := μ1) (h := 189) (f := ft) (n := Lo.length - ft) (by rw [s9]; omega)
            rw [← this, s7, List.take_of_length_le (by rw [List.length_drop]; omega)]
          have hfl : ft ≤ Lo.length := by
            obtain ⟨F, W', d1, d2, -⟩ := pc_fr_all s2'
            rw [← pn_len Lo, d1, List.length_append]
            omega
          have VB : pc_V B := by rw [s8] at s14; exact pc_V.mid s14
          have BB : ∀ d ∈ B, pc_el d ∧ 0 ≤ d.2.2.1 ∧ d.2.2.1 ≤ 27 := fun d hd => ⟨VB.el hd, VB.place hd⟩
          have OB : pc_bd 27 (Lo.drop ft) := fun d hd => by
            have hm := List.mem_of_mem_drop hd
            have e9 := s13.el hm
            exact ⟨e9.1, e9.2.1, s13.place hm⟩
          refine px_go (fun _ => false) 400 ?_
          simp (disch := omega) only [px_lits, false_implies, true_implies, px_dec_ok, px_run_s, px_rules, px_rule_is, px_mats, px_calls, ↓reduceIte, eq_self, Bool.false_eq_true, px_flds, px_o_some, px_fvs, px_pfs, px_cts, px_cls, px_acs_, px_acn, true_and, and_true, true_or, or_true, false_or, or_false, and_self, not_true_eq_false, not_false_eq_true, Classical.not_not, Nat.reduceAdd, Nat.reduceSub, Nat.reduceBEq, Nat.reduceLT, Nat.reduceLeDiff, Nat.lt_add_one, px_tg, Int.cast_ofNat_Int, Int.reduceAdd, Int.reduceSub, Int.reduceMul, Int.reduceToNat, Int.reduceLE, Int.reduceLT, Int.reduceNeg, Int.reduceEq, Bool.or_false, Bool.false_or, Bool.or_true, Bool.true_or, List.length_cons, List.length_nil, List.nil_append, List.cons_append, Option.toList_some, Option.toList_none, reduceCtorEq, Option.some.injEq, Nat.zero_le, Nat.reduceMul, Nat.mul_zero, Nat.add_zero, Int.reduceDiv, Int.reduceMod, Int.toNat_natCast, Nat.lt_irrefl, Int.natCast_add, Int.cast_ofNat_Int, px_mds_RX10_0, px_mds_RX10_1, dec_X10_pull, px_eq_iff, px_lt_iff, px_le_iff, px_up_o, px_up_eq, px_up_ne, px_cp_o, pa_k, pa_l, o1, g1, j1, e1, k1]
          refine pa_text_c I R1 hh (fun μ2 f2 R2 x2 x3 => ?_)
          have p8 : ∀ o, 183 ≤ o → μ2 o = μ1 o := fun o ho => f2 o (by omega) (by omega)
          have sg2 : pc_sg μ2 195 196 197 198 ft B.length = B := by
            have : pc_sg μ2 195 196 197 198 ft B.length = pc_sg μ1 195 196 197 198 ft B.length := pc_sg_congr (fun i _ _ => by rw [p8 195 (by omega), p8 196 (by omega), p8 197 (by omega), p8 198 (by omega)]; exact ⟨rfl, rfl, rfl, rfl⟩)
            exact this.trans sgB
          have sgo2 : pc_sg μ2 190 191 192 193 ft (Lo.length - ft) = Lo.drop ft := by
            rw [← sgO]
            exact pc_sg_congr (fun i _ _ => by rw [p8 190 (by omega), p8 191 (by omega), p8 192 (by omega), p8 193 (by omega)]; exact ⟨rfl, rfl, rfl, rfl⟩)
          have c3 : μ2 188 3 = ft := by rw [p8 188 (by omega)]; exact s11
          have c4 : μ2 188 4 = B.length := by rw [p8 188 (by omega)]; exact s12
          have c9 : μ2 189 4 = Lo.length := by rw [p8 189 (by omega), s9, l3, t5]
          have ft16 : ft + B.length ≤ 16 := by omega
          refine px_go (fun _ => false) 400 ?_
          simp (disch := omega) only [px_lits, false_implies, true_implies, px_dec_ok, px_run_s, px_rules, px_rule_is, px_mats, px_calls, ↓reduceIte, eq_self, Bool.false_eq_true, px_flds, px_o_some, px_fvs, px_pfs, px_cts, px_cls, px_acs_, px_acn, true_and, and_true, true_or, or_true, false_or, or_false, and_self, not_true_eq_false, not_false_eq_true, Classical.not_not, Nat.reduceAdd, Nat.reduceSub, Nat.reduceBEq, Nat.reduceLT, Nat.reduceLeDiff, Nat.lt_add_one, px_tg, Int.cast_ofNat_Int, Int.reduceAdd, Int.reduceSub, Int.reduceMul, Int.reduceToNat, Int.reduceLE, Int.reduceLT, Int.reduceNeg, Int.reduceEq, Bool.or_false, Bool.false_or, Bool.or_true, Bool.true_or, List.length_cons, List.length_nil, List.nil_append, List.cons_append, Option.toList_some, Option.toList_none, reduceCtorEq, Option.some.injEq, Nat.zero_le, Nat.reduceMul, Nat.mul_zero, Nat.add_zero, Int.reduceDiv, Int.reduceMod, Int.toNat_natCast, Nat.lt_irrefl, Int.natCast_add, Int.cast_ofNat_Int, px_mds_RX10_0, px_mds_RX10_1, dec_X10_pull, px_eq_iff, px_lt_iff, px_le_iff, px_up_o, px_up_eq, px_up_ne, px_cp_o, pa_k, pa_l, o1, g1, j1, e1, k1, k2, x3]
          refine c_X6_hasRoom c3 c4 ft16 (by omega) (by omega) (fun i i0 i1 => ?_) (fun r1 r2 => ?_) (fun r => ?_)
          · have := pc_sg_mem (μ := μ2) (a1 := 195) (a2 := 196) (a3 := 197) (a4 := 198) i0 i1
            rw [sg2] at this
            exact (BB _ this).1.2.1
          · rw [sg2] at r2
            have rr : (pa_L A h).length + B.length ≤ 16 ∧ pc_room (pa_T A h).length B := ⟨by omega, r2⟩
            unfold pa_come at hq
            rw [if_pos rr] at hq
            refine px_go (fun _ => false) 400 ?_
            simp (disch := omega) only [px_lits, false_implies, true_implies, px_dec_ok, px_run_s, px_rules, px_rule_is, px_mats, px_calls, ↓reduceIte, eq_self, Bool.false_eq_true, px_flds, px_o_some, px_fvs, px_pfs, px_cts, px_cls, px_acs_, px_acn, true_and, and_true, true_or, or_true, false_or, or_false, and_self, not_true_eq_false, not_false_eq_true, Classical.not_not, Nat.reduceAdd, Nat.reduceSub, Nat.reduceBEq, Nat.reduceLT, Nat.reduceLeDiff, Nat.lt_add_one, px_tg, Int.cast_ofNat_Int, Int.reduceAdd, Int.reduceSub, Int.reduceMul, Int.reduceToNat, Int.reduceLE, Int.reduceLT, Int.reduceNeg, Int.reduceEq, Bool.or_false, Bool.false_or, Bool.or_true, Bool.true_or, List.length_cons, List.length_nil, List.nil_append, List.cons_append, Option.toList_some, Option.toList_none, reduceCtorEq, Option.some.injEq, Nat.zero_le, Nat.reduceMul, Nat.mul_zero, Nat.add_zero, Int.reduceDiv, Int.reduceMod, Int.toNat_natCast, Nat.lt_irrefl, Int.natCast_add, Int.cast_ofNat_Int, px_mds_RX10_0, px_mds_RX10_1, dec_X10_pull, px_eq_iff, px_lt_iff, px_le_iff, px_up_o, px_up_eq, px_up_ne, px_cp_o, pa_k, pa_l, o1, g1, j1, e1, k1, k2, x3]
            refine c_X6_goPast (no := Lo.length - ft) c3 c4 ft16 (by omega) (by omega) (by rw [sg2]; exact fun d hd => ⟨(BB d hd).1.1, (BB d hd).1.2.1, (BB d hd).2⟩) (by rw [sgo2]; exact OB) (fun z μ3 y1 y2 => ?_) (fun B1 μ3 y1 y2 y3 => ?_)
            · rw [sg2, sgo2] at y1
              rw [y1] at hq
              have R3 : pa_C A k μ3 := R2.same (fun o ho => y2 o (by omega) (by omega))
              have zr : 0 ≤ z ∧ z < 24 := by
                have key : ∀ {O : List pc_Ch} {b : pc_Ch}, (∀ d ∈ O, 0 ≤ d.1 ∧ d.1 < 24) → pc_gp1 b O = .inl z → 0 ≤ z ∧ z < 24 := by
                  intro O
                  induction O with
                  | nil => intro b _ e; cases e
                  | cons o O ih =>
                    intro b hO e
                    unfold pc_gp1 at e
                    split at e
                    · cases e; exact hO o List.mem_cons_self
                    · split at e
                      · rename_i e9
                        cases e
                        exact ih (fun d hd => hO d (List.mem_cons_of_mem _ hd)) e9
                      · cases e
                have key2 : ∀ {B O : List pc_Ch} {K : Int}, (∀ d ∈ B, 0 ≤ d.2.2.1) → pc_bd K O → pc_gp B O = .inl z → 0 ≤ z ∧ z < 24 := by
                  intro B
                  induction B with
                  | nil => intro O K _ _ e; cases e
                  | cons b B ih =>
                    intro O K hB hO e
                    unfold pc_gp at e
                    split at e
                    · rename_i n e9
                      cases e
                      exact key (fun d hd => (hO d hd).1) e9
                    · rename_i r e9
                      obtain ⟨b1, O1⟩ := r
                      dsimp only at e
                      split at e
                      · rename_i n e8
                        cases e
                        exact ih (fun d hd => hB d (List.mem_cons_of_mem _ hd)) (pc_gp1_bd hO (hB b List.mem_cons_self) e9).1 e8
                      · cases e
                exact key2 (fun d hd => (BB d hd).2.1) OB y1
              refine px_go (fun _ => false) 400 ?_
              simp (disch := omega) only [px_lits, false_implies, true_implies, px_dec_ok, px_run_s, px_rules, px_rule_is, px_mats, px_calls, ↓reduceIte, eq_self, Bool.false_eq_true, px_flds, px_o_some, px_fvs, px_pfs, px_cts, px_cls, px_acs_, px_acn, true_and, and_true, true_or, or_true, false_or, or_false, and_self, not_true_eq_false, not_false_eq_true, Classical.not_not, Nat.reduceAdd, Nat.reduceSub, Nat.reduceBEq, Nat.reduceLT, Nat.reduceLeDiff, Nat.lt_add_one, px_tg, Int.cast_ofNat_Int, Int.reduceAdd, Int.reduceSub, Int.reduceMul, Int.reduceToNat, Int.reduceLE, Int.reduceLT, Int.reduceNeg, Int.reduceEq, Bool.or_false, Bool.false_or, Bool.or_true, Bool.true_or, List.length_cons, List.length_nil, List.nil_append, List.cons_append, Option.toList_some, Option.toList_none, reduceCtorEq, Option.some.injEq, Nat.zero_le, Nat.reduceMul, Nat.mul_zero, Nat.add_zero, Int.reduceDiv, Int.reduceMod, Int.toNat_natCast, Nat.lt_irrefl, Int.natCast_add, Int.cast_ofNat_Int, px_mds_RX10_0, px_mds_RX10_1, dec_X10_pull, px_eq_iff, px_lt_iff, px_le_iff, px_up_o, px_up_eq, px_up_ne, px_cp_o, pa_k, pa_l, o1, g1, j1, e1, k1, k2, x3]
              refine ⟨fun n => by omega, fun _ => ?_⟩
              refine c_X5_push R3.p.2 R3.w.2 (fun μ4 z1 z2 z3 => ?_)
              have R4 := R3.push z1 z2 z3
              have hk : px_kd 5 = 20 ∧ px_kd 6 = 20 ∧ px_ln 5 = 2 ∧ px_ln 6 = 2 := by decide +kernel
              refine px_go (fun _ => false) 400 ?_
              simp (disch := omega) only [px_lits, false_implies, true_implies, px_dec_ok, px_run_s, px_rules, px_rule_is, px_mats, px_calls, ↓reduceIte, eq_self, Bool.false_eq_true, px_flds, px_o_some, px_fvs, px_pfs, px_cts, px_cls, px_acs_, px_acn, true_and, and_true, true_or, or_true, false_or, or_false, and_self, not_true_eq_false, not_false_eq_true, Classical.not_not, Nat.reduceAdd, Nat.reduceSub, Nat.reduceBEq, Nat.reduceLT, Nat.reduceLeDiff, Nat.lt_add_one, px_tg, Int.cast_ofNat_Int, Int.reduceAdd, Int.reduceSub, Int.reduceMul, Int.reduceToNat, Int.reduceLE, Int.reduceLT, Int.reduceNeg, Int.reduceEq, Bool.or_false, Bool.false_or, Bool.or_true, Bool.true_or, List.length_cons, List.length_nil, List.nil_append, List.cons_append, Option.toList_some, Option.toList_none, reduceCtorEq, Option.some.injEq, Nat.zero_le, Nat.reduceMul, Nat.mul_zero, Nat.add_zero, Int.reduceDiv, Int.reduceMod, Int.toNat_natCast, Nat.lt_irrefl, Int.natCast_add, Int.cast_ofNat_Int, px_mds_RX10_0, px_mds_RX10_1, dec_X10_pull, px_eq_iff, px_lt_iff, px_le_iff, px_up_o, px_up_eq, px_up_ne, px_cp_o, pa_k, pa_l, hk]
              refine ⟨by omega, by omega, ?_⟩
              have fr4 : ∀ o, o ≠ 5 → o ≠ 6 → px_up (px_up μ4 5 h c) 6 h z o = μ4 o := fun o q1 q2 => by rw [px_up_o q2, px_up_o q1]
              refine hq.at rfl (fun o ho => by rw [fr4 o (by omega) (by omega), z1 o (by omega), y2 o (by omega) (by omega), f2 o (by omega) (by omega), fr o (by omega)]) ⟨by rw [fr4 0 (by omega) (by omega)]; exact R4.n, R4.b.same (fun o _ _ => fr4 o (by omega) (by omega)) rfl, ⟨?_, ?_⟩, R4.p.same (fun o _ _ => fr4 o (by omega) (by omega)) rfl, R4.i.same (fun o _ _ => fr4 o (by omega) (by omega)) rfl, R4.s.same (fun o _ _ => fr4 o (by omega) (by omega)) rfl, R4.o.same (fun o _ _ => fr4 o (by omega) (by omega)) (Int.le_refl _)⟩
              · have w9 : pc_hsv μ4 3 = A.now := R4.w.1
                show pc_hsv _ 3 = pc_p A.now h ((pc_g A.now h).1, c, z)
                rw [← w9]
                have q7 : pc_hl (px_up (px_up μ4 5 h c) 6 h z) (3 + 4) = pc_hl μ4 (3 + 4) := pc_hl_same (fr4 _ (by omega) (by omega)) (fr4 _ (by omega) (by omega)) (fr4 _ (by omega) (by omega)) (fr4 _ (by omega) (by omega)) (fr4 _ (by omega) (by omega))
                have q8 : pc_hl (px_up (px_up μ4 5 h c) 6 h z) (3 + 9) = pc_hl μ4 (3 + 9) := pc_hl_same (fr4 _ (by omega) (by omega)) (fr4 _ (by omega) (by omega)) (fr4 _ (by omega) (by omega)) (fr4 _ (by omega) (by omega)) (fr4 _ (by omega) (by omega))
                unfold pc_hsv pc_p pc_g
                rw [q7, q8]
                rcases (show h = 0 ∨ h = 1 by omega) with rfl | rfl
                · rfl
                · rfl
              · have w9 : pc_hsb μ4 3 := R4.w.2
                unfold pc_hsb at *
                rw [fr4 (3 + 4) (by omega) (by omega), fr4 (3 + 9) (by omega) (by omega)]
                exact w9
            · rw [sg2, sgo2] at y1
              rw [y1] at hq
              dsimp only at hq
              obtain ⟨u1, u2, u3⟩ := pc_gp_bd OB BB y1
              have R3 : pa_C A k μ3 := R2.same (fun o ho => y2 o (by omega) (by omega))
              have x2' : pc_tx μ3 (179 + 2 * h) = pa_T A h := (pc_tx_same (y2 _ (by omega) (by omega)) (y2 _ (by omega) (by omega))).trans x2
              have x3' : μ3 (179 + 2 * h) 1 = (pa_T A h).length := by rw [y2 _ (by omega) (by omega)]; exact x3
              have d3 : μ3 188 3 = ft := by rw [y2 188 (by omega) (by omega)]; exact c3
              have d4 : μ3 188 4 = B.length := by rw [y2 188 (by omega) (by omega)]; exact c4
              have d9 : μ3 189 4 = Lo.length := by rw [y2 189 (by omega) (by omega)]; exact c9
              have hld : (Lo.drop ft).length ≤ 16 := by rw [List.length_drop]; omega
              refine px_go (fun _ => false) 400 ?_
              simp (disch := omega) only [px_lits, false_implies, true_implies, px_dec_ok, px_run_s, px_rules, px_rule_is, px_mats, px_calls, ↓reduceIte, eq_self, Bool.false_eq_true, px_flds, px_o_some, px_fvs, px_pfs, px_cts, px_cls, px_acs_, px_acn, true_and, and_true, true_or, or_true, false_or, or_false, and_self, not_true_eq_false, not_false_eq_true, Classical.not_not, Nat.reduceAdd, Nat.reduceSub, Nat.reduceBEq, Nat.reduceLT, Nat.reduceLeDiff, Nat.lt_add_one, px_tg, Int.cast_ofNat_Int, Int.reduceAdd, Int.reduceSub, Int.reduceMul, Int.reduceToNat, Int.reduceLE, Int.reduceLT, Int.reduceNeg, Int.reduceEq, Bool.or_false, Bool.false_or, Bool.or_true, Bool.true_or, List.length_cons, List.length_nil, List.nil_append, List.cons_append, Option.toList_some, Option.toList_none, reduceCtorEq, Option.some.injEq, Nat.zero_le, Nat.reduceMul, Nat.mul_zero, Nat.add_zero, Int.reduceDiv, Int.reduceMod, Int.toNat_natCast, Nat.lt_irrefl, Int.natCast_add, Int.cast_ofNat_Int, px_mds_RX10_0, px_mds_RX10_1, dec_X10_pull, px_eq_iff, px_lt_iff, px_le_iff, px_up_o, px_up_eq, px_up_ne, px_cp_o, pa_k, pa_l, o1, g1, j1, e1, k1, k2, x3]
              refine c_X6_fits k2 (by omega) d3 d4 ft16 (by omega) (by rw [x2']; exact hT.2) (by rw [y3]; exact fun d hd => ⟨(u1 d hd).1.1, (u1 d hd).1.2.1, by have := (u1 d hd).2; omega⟩) (by rw [y3]; exact fun d hd => (u1 d hd).1.2.2) (by rw [y3, x3']; exact u2 _ r2) (fun T1 μ4 w1 w2 => ?_) (fun μ4 w1 w2 => ?_)
              · rw [x2', y3] at w1
                rw [w1] at hq
                dsimp only at hq
                have R4 : pa_C A k μ4 := R3.same (fun o ho => w2 o (by omega) (by omega))
                refine px_go (fun _ => false) 400 ?_
                simp (disch := omega) only [px_lits, false_implies, true_implies, px_dec_ok, px_run_s, px_rules, px_rule_is, px_mats, px_calls, ↓reduceIte, eq_self, Bool.false_eq_true, px_flds, px_o_some, px_fvs, px_pfs, px_cts, px_cls, px_acs_, px_acn, true_and, and_true, true_or, or_true, false_or, or_false, and_self, not_true_eq_false, not_false_eq_true, Classical.not_not, Nat.reduceAdd, Nat.reduceSub, Nat.reduceBEq, Nat.reduceLT, Nat.reduceLeDiff, Nat.lt_add_one, px_tg, Int.cast_ofNat_Int, Int.reduceAdd, Int.reduceSub, Int.reduceMul, Int.reduceToNat, Int.reduceLE, Int.reduceLT, Int.reduceNeg, Int.reduceEq, Bool.or_false, Bool.false_or, Bool.or_true, Bool.true_or, List.length_cons, List.length_nil, List.nil_append, List.cons_append, Option.toList_some, Option.toList_none, reduceCtorEq, Option.some.injEq, Nat.zero_le, Nat.reduceMul, Nat.mul_zero, Nat.add_zero, Int.reduceDiv, Int.reduceMod, Int.toNat_natCast, Nat.lt_irrefl, Int.natCast_add, Int.cast_ofNat_Int, px_mds_RX10_0, px_mds_RX10_1, dec_X10_pull, px_eq_iff, px_lt_iff, px_le_iff, px_up_o, px_up_eq, px_up_ne, px_cp_o, pa_k, pa_l, o1, g1, j1, e1, k1, k2, x3]
                refine c_X5_push R4.p.2 R4.w.2 (fun μ5 z1 z2 z3 => ?_)
                have R5 := R4.push z1 z2 z3
                have p5 : ∀ o, 183 ≤ o → o ≤ 204 → μ5 o = μ3 o := fun o q1 q2 => by rw [z1 o (by omega), w2 o (by omega) (by omega)]
                have a3 : μ5 188 3 = ft := by rw [p5 188 (by omega) (by omega)]; exact d3
                have a4 : μ5 188 4 = B.length := by rw [p5 188 (by omega) (by omega)]; exact d4
                have a9 : μ5 189 4 = Lo.length := by rw [p5 189 (by omega) (by omega)]; exact d9
                refine px_go (fun _ => false) 400 ?_
                simp (disch := omega) only [px_lits, false_implies, true_implies, px_dec_ok, px_run_s, px_rules, px_rule_is, px_mats, px_calls, ↓reduceIte, eq_self, Bool.false_eq_true, px_flds, px_o_some, px_fvs, px_pfs, px_cts, px_cls, px_acs_, px_acn, true_and, and_true, true_or, or_true, false_or, or_false, and_self, not_true_eq_false, not_false_eq_true, Classical.not_not, Nat.reduceAdd, Nat.reduceSub, Nat.reduceBEq, Nat.reduceLT, Nat.reduceLeDiff, Nat.lt_add_one, px_tg, Int.cast_ofNat_Int, Int.reduceAdd, Int.reduceSub, Int.reduceMul, Int.reduceToNat, Int.reduceLE, Int.reduceLT, Int.reduceNeg, Int.reduceEq, Bool.or_false, Bool.false_or, Bool.or_true, Bool.true_or, List.length_cons, List.length_nil, List.nil_append, List.cons_append, Option.toList_some, Option.toList_none, reduceCtorEq, Option.some.injEq, Nat.zero_le, Nat.reduceMul, Nat.mul_zero, Nat.add_zero, Int.reduceDiv, Int.reduceMod, Int.toNat_natCast, Nat.lt_irrefl, Int.natCast_add, Int.cast_ofNat_Int, px_mds_RX10_0, px_mds_RX10_1, dec_X10_pull, px_eq_iff, px_lt_iff, px_le_iff, px_up_o, px_up_eq, px_up_ne, px_cp_o, pa_k, pa_l, o1, g1, j1, e1, k1, k2, x3]
                refine c_X6_giveTo k1 (by omega) a3 a4 ft16 (by omega) (by omega) (fun μ6 v1 v2 v3 => ?_)
                have a46 : μ6 188 4 = B.length := by rw [v1 188 (by omega)]; exact a4
                refine px_go (fun _ => false) 400 ?_
                simp (disch := omega) only [px_lits, false_implies, true_implies, px_dec_ok, px_run_s, px_rules, px_rule_is, px_mats, px_calls, ↓reduceIte, eq_self, Bool.false_eq_true, px_flds, px_o_some, px_fvs, px_pfs, px_cts, px_cls, px_acs_, px_acn, true_and, and_true, true_or, or_true, false_or, or_false, and_self, not_true_eq_false, not_false_eq_true, Classical.not_not, Nat.reduceAdd, Nat.reduceSub, Nat.reduceBEq, Nat.reduceLT, Nat.reduceLeDiff, Nat.lt_add_one, px_tg, Int.cast_ofNat_Int, Int.reduceAdd, Int.reduceSub, Int.reduceMul, Int.reduceToNat, Int.reduceLE, Int.reduceLT, Int.reduceNeg, Int.reduceEq, Bool.or_false, Bool.false_or, Bool.or_true, Bool.true_or, List.length_cons, List.length_nil, List.nil_append, List.cons_append, Option.toList_some, Option.toList_none, reduceCtorEq, Option.some.injEq, Nat.zero_le, Nat.reduceMul, Nat.mul_zero, Nat.add_zero, Int.reduceDiv, Int.reduceMod, Int.toNat_natCast, Nat.lt_irrefl, Int.natCast_add, Int.cast_ofNat_Int, px_mds_RX10_0, px_mds_RX10_1, dec_X10_pull, px_eq_iff, px_lt_iff, px_le_iff, px_up_o, px_up_eq, px_up_ne, px_cp_o, pa_k, pa_l, o1, g1, j1, e1, k1, k2, a46]
                refine hq.at rfl (fun o ho => by rw [v1 o (by omega), z1 o (by omega), w2 o (by omega) (by omega), y2 o (by omega) (by omega), f2 o (by omega) (by omega), fr o (by omega)]) ?_
                refine R5.putn hh (fun o q1 q2 _ => v1 o (by omega)) (by rw [v1 0 (by omega)]; exact R5.n) ?_ (by rw [v2]; omega)
                rw [v3]
                have q1 : pc_hl μ5 189 = Lo := by
                  rw [← s7]
                  refine pc_hl_same ?_ ?_ ?_ ?_ ?_ <;> (rw [p5 _ (by omega) (by omega), y2 _ (by omega) (by omega), p8 _ (by omega)])
                have q2 : pc_sg μ5 195 196 197 198 ft B.length = B1 := by
                  rw [← y3]
                  exact pc_sg_congr (fun i _ _ => by rw [p5 195 (by omega) (by omega), p5 196 (by omega) (by omega), p5 197 (by omega) (by omega), p5 198 (by omega) (by omega)]; exact ⟨rfl, rfl, rfl, rfl⟩)
                rw [q1, q2]
              · rw [x2', y3] at w1
                rw [w1] at hq
                refine px_go (fun _ => false) 400 ?_
                simp (disch := omega) only [px_lits, false_implies, true_implies, px_dec_ok, px_run_s, px_rules, px_rule_is, px_mats, px_calls, ↓reduceIte, eq_self, Bool.false_eq_true, px_flds, px_o_some, px_fvs, px_pfs, px_cts, px_cls, px_acs_, px_acn, true_and, and_true, true_or, or_true, false_or, or_false, and_self, not_true_eq_false, not_false_eq_true, Classical.not_not, Nat.reduceAdd, Nat.reduceSub, Nat.reduceBEq, Nat.reduceLT, Nat.reduceLeDiff, Nat.lt_add_one, px_tg, Int.cast_ofNat_Int, Int.reduceAdd, Int.reduceSub, Int.reduceMul, Int.reduceToNat, Int.reduceLE, Int.reduceLT, Int.reduceNeg, Int.reduceEq, Bool.or_false, Bool.false_or, Bool.or_true, Bool.true_or, List.length_cons, List.length_nil, List.nil_append, List.cons_append, Option.toList_some, Option.toList_none, reduceCtorEq, Option.some.injEq, Nat.zero_le, Nat.reduceMul, Nat.mul_zero, Nat.add_zero, Int.reduceDiv, Int.reduceMod, Int.toNat_natCast, Nat.lt_irrefl, Int.natCast_add, Int.cast_ofNat_Int, px_mds_RX10_0, px_mds_RX10_1, dec_X10_pull, px_eq_iff, px_lt_iff, px_le_iff, px_up_o, px_up_eq, px_up_ne, px_cp_o, pa_k, pa_l, o1, g1, j1, e1, k1, k2, x3]
                exact hq.at rfl (fun o ho => by rw [w2 o (by omega) (by omega), y2 o (by omega) (by omega), f2 o (by omega) (by omega), fr o (by omega)]) (R3.same (fun o ho => w2 o (by omega) (by omega)))
          · unfold pa_come at hq
            rw [if_neg] at hq
            · refine px_go (fun _ => false) 400 ?_
              simp (disch := omega) only [px_lits, false_implies, true_implies, px_dec_ok, px_run_s, px_rules, px_rule_is, px_mats, px_calls, ↓reduceIte, eq_self, Bool.false_eq_true, px_flds, px_o_some, px_fvs, px_pfs, px_cts, px_cls, px_acs_, px_acn, true_and, and_true, true_or, or_true, false_or, or_false, and_self, not_true_eq_false, not_false_eq_true, Classical.not_not, Nat.reduceAdd, Nat.reduceSub, Nat.reduceBEq, Nat.reduceLT, Nat.reduceLeDiff, Nat.lt_add_one, px_tg, Int.cast_ofNat_Int, Int.reduceAdd, Int.reduceSub, Int.reduceMul, Int.reduceToNat, Int.reduceLE, Int.reduceLT, Int.reduceNeg, Int.reduceEq, Bool.or_false, Bool.false_or, Bool.or_true, Bool.true_or, List.length_cons, List.length_nil, List.nil_append, List.cons_append, Option.toList_some, Option.toList_none, reduceCtorEq, Option.some.injEq, Nat.zero_le, Nat.reduceMul, Nat.mul_zero, Nat.add_zero, Int.reduceDiv, Int.reduceMod, Int.toNat_natCast, Nat.lt_irrefl, Int.natCast_add, Int.cast_ofNat_Int, px_mds_RX10_0, px_mds_RX10_1, dec_X10_pull, px_eq_iff, px_lt_iff, px_le_iff, px_up_o, px_up_eq, px_up_ne, px_cp_o, pa_k, pa_l, o1, g1, j1, e1, k1, k2, x3]
              exact hq.at rfl (fun o ho => by rw [f2 o (by omega) (by omega), fr o (by omega)]) R2
            · rw [sg2] at r
              intro n
              exact r ⟨by have := n.1; omega, n.2⟩
      · rw [if_pos (by rw [v]; rfl)] at hq
        refine px_go (fun _ => false) 400 ?_
        simp (disch := omega) only [px_lits, false_implies, true_implies, px_dec_ok, px_run_s, px_rules, px_rule_is, px_mats, px_calls, ↓reduceIte, eq_self, Bool.false_eq_true, px_flds, px_o_some, px_fvs, px_pfs, px_cts, px_cls, px_acs_, px_acn, true_and, and_true, true_or, or_true, false_or, or_false, and_self, not_true_eq_false, not_false_eq_true, Classical.not_not, Nat.reduceAdd, Nat.reduceSub, Nat.reduceBEq, Nat.reduceLT, Nat.reduceLeDiff, Nat.lt_add_one, px_tg, Int.cast_ofNat_Int, Int.reduceAdd, Int.reduceSub, Int.reduceMul, Int.reduceToNat, Int.reduceLE, Int.reduceLT, Int.reduceNeg, Int.reduceEq, Bool.or_false, Bool.false_or, Bool.or_true, Bool.true_or, List.length_cons, List.length_nil, List.nil_append, List.cons_append, Option.toList_some, Option.toList_none, reduceCtorEq, Option.some.injEq, Nat.zero_le, Nat.reduceMul, Nat.mul_zero, Nat.add_zero, Int.reduceDiv, Int.reduceMod, Int.toNat_natCast, Nat.lt_irrefl, Int.natCast_add, Int.cast_ofNat_Int, px_mds_RX10_0, px_mds_RX10_1, dec_X10_pull, px_eq_iff, px_lt_iff, px_le_iff, px_up_o, px_up_eq, px_up_ne, px_cp_o, pa_k, pa_l, o1, g1, j1, e1, k1]
        exact hq.at rfl (fun _ _ => rfl) R
  · refine px_go (fun _ => false) 400 ?_
    simp (disch := omega) only [px_lits, false_implies, true_implies, px_dec_ok, px_run_s, px_rules, px_rule_is, px_mats, px_calls, ↓reduceIte, eq_self, Bool.false_eq_true, px_flds, px_o_some, px_fvs, px_pfs, px_cts, px_cls, px_acs_, px_acn, true_and, and_true, true_or, or_true, false_or, or_false, and_self, not_true_eq_false, not_false_eq_true, Classical.not_not, Nat.reduceAdd, Nat.reduceSub, Nat.reduceBEq, Nat.reduceLT, Nat.reduceLeDiff, Nat.lt_add_one, px_tg, Int.cast_ofNat_Int, Int.reduceAdd, Int.reduceSub, Int.reduceMul, Int.reduceToNat, Int.reduceLE, Int.reduceLT, Int.reduceNeg, Int.reduceEq, Bool.or_false, Bool.false_or, Bool.or_true, Bool.true_or, List.length_cons, List.length_nil, List.nil_append, List.cons_append, Option.toList_some, Option.toList_none, reduceCtorEq, Option.some.injEq, Nat.zero_le, Nat.reduceMul, Nat.mul_zero, Nat.add_zero, Int.reduceDiv, Int.reduceMod, Int.toNat_natCast, Nat.lt_irrefl, Int.natCast_add, Int.cast_ofNat_Int, px_mds_RX10_0, px_mds_RX10_1, dec_X10_pull, px_eq_iff, px_lt_iff, px_le_iff, px_up_o, px_up_eq, px_up_ne, px_cp_o, pa_k, pa_l]
    refine hq.at ?_ (fun _ _ => rfl) R
    unfold pa_pull
    rw [if_pos (fun n => q n.1)]
