/-! ===== the class: note, lookRound, count, house ===== -/
theorem po_k : (px_kd 200 = 4 ∧ px_kd 201 = 20 ∧ px_kd 202 = 20 ∧ px_kd 203 = 20) ∧ (px_ln 201 = 720 ∧ px_ln 202 = 720 ∧ px_ln 203 = 720) := by decide +kernel
def po_st (μ : px_Mem) (K : List (List Nat × List Nat)) (cnt : Int) : Prop := μ 200 4 = K.length ∧ μ 200 3 = cnt ∧ (∀ (o : Nat) (q : List Nat × List Nat), K[o]? = some q → μ 201 o = (pp 3 q.1 : Nat) ∧ μ 202 o = (pp 5 q.2 : Nat)) ∧ (∀ r : Nat, r < 720 → (μ 203 r = cnt ↔ r ∈ K.map (fun q => rk q.1))) ∧ (∀ r : Int, 0 ≤ r → r < 720 → 0 ≤ μ 203 r ∧ μ 203 r ≤ cnt)
theorem po_st.same {μ μ1 : px_Mem} {K : List (List Nat × List Nat)} {cnt : Int} (h : po_st μ K cnt) (e : ∀ o, 200 ≤ o → o ≤ 203 → μ1 o = μ o) : po_st μ1 K cnt := by
  unfold po_st at *
  rw [e 200 (by omega) (by omega), e 201 (by omega) (by omega), e 202 (by omega) (by omega), e 203 (by omega) (by omega)]
  exact h
theorem po_lt8 {n : Nat} {π : List Nat} (h : π.Perm (List.range n)) (hn : n ≤ 6) : (∀ d ∈ π, d < 2 ^ 3) ∧ π.length = n ∧ ∀ d ∈ π, d < n := by
  have hm : ∀ d ∈ π, d < n := fun d hd => List.mem_range.mp (h.mem_iff.mp hd)
  exact ⟨fun d hd => by have := hm d hd; omega, by rw [h.length_eq, List.length_range], hm⟩
theorem po_lt32 {L : List pc_Ch} {π P : List Nat} (hl : π.length = P.length) (h : pc_V (po_mk L π P)) : ∀ d ∈ P, d < 2 ^ 5 := by
  intro d hd
  obtain ⟨i, hi, e⟩ := List.getElem_of_mem hd
  have h1 : π[i]? = some π[i] := List.getElem?_eq_getElem (by omega)
  have h2 : P[i]? = some d := by rw [List.getElem?_eq_getElem hi, e]
  have := (h.place (List.mem_of_getElem? (po_mk_get (L := L) h1 h2))).2
  have e9 : (po_e L π[i] d).2.2.1 = (d : Int) := rfl
  rw [e9] at this
  omega
def po_add (K : List (List Nat × List Nat)) (x : List Nat × List Nat) : List (List Nat × List Nat) := if x.1 ∈ K.map (fun q => q.1) then K else K ++ [x]
theorem po_rank_mem {L : List pc_Ch} {K : List (List Nat × List Nat)} (hK : po_ok L K) {x : List Nat} (hx : x.Perm (List.range L.length)) : rk x ∈ K.map (fun q => rk q.1) ↔ x ∈ K.map (fun q => q.1) := by
  constructor
  · intro h
    obtain ⟨q, hq, e⟩ := List.mem_map.mp h
    have pq := (hK.1 q hq).1
    have : q.1 = x := rk_inj (pq.trans hx.symm) (pq.nodup_iff.mpr List.nodup_range) e
    exact List.mem_map.mpr ⟨q, hq, this⟩
  · intro h
    obtain ⟨q, hq, e⟩ := List.mem_map.mp h
    exact List.mem_map.mpr ⟨q, hq, by rw [← e]⟩
theorem po_add_ok {L : List pc_Ch} {K : List (List Nat × List Nat)} {x : List Nat × List Nat} (hK : po_ok L K) (h1 : x.1.Perm (List.range L.length)) (h2 : x.2.length = L.length) (h3 : pc_V (po_mk L x.1 x.2)) (hn : x.1 ∉ K.map (fun q => q.1)) : po_ok L (K ++ [x]) := by
  refine ⟨fun y hy => ?_, ?_⟩
  · rcases List.mem_append.mp hy with w | w
    · exact hK.1 y w
    · rw [List.mem_singleton.mp w]
      exact ⟨h1, h2, h3⟩
  · rw [List.map_append, List.nodup_append]
    refine ⟨hK.2, by simp, fun a ha b hb => ?_⟩
    simp at hb
    subst hb
    exact fun e => hn (e ▸ ha)
set_option maxHeartbeats 4000000 in
set_option maxRecDepth 100000 in
theorem c_X4_note {G : px_G} {L : List pc_Ch} {K : List (List Nat × List Nat)} {x : List Nat × List Nat} {cnt : Int} {μ : px_Mem} {Q : Option px_X → px_Mem → Prop} (hL : L.length ≤ 6) (hK : po_ok L K) (S : po_st μ K cnt) (hc : 0 ≤ cnt ∧ cnt < 2147483647) (x1 : x.1.Perm (List.range L.length)) (x2 : x.2.length = L.length) (x3 : pc_V (po_mk L x.1 x.2))
    (h : ∀ μ1 : px_Mem, (∀ o, (o < 200 ∨ 203 < o) → μ1 o = μ o) → po_st μ1 (po_add K x) cnt → Q none μ1) : px_C G yX4_note cX4_note 5 none 2 [.inr (.inl (some 200)), .inl (pp 3 x.1 : Nat), .inl (pp 5 x.2 : Nat), .inl L.length] μ Q := by
  obtain ⟨s1, s2, s3, s4, s5⟩ := S
  obtain ⟨p1, p2, p3⟩ := po_lt8 x1 hL
  have kr := hK.ranks hL
  have r1 := rk_lt x.1
  have r2 := pf_720 x.1.length (by omega)
  have sr := s5 (rk x.1 : Nat) (by omega) (by omega)
  refine px_enter RX4 (by decide +kernel) rfl (by simp) (by simp [px_c1]) ?_
  simp only [List.map_cons, List.map_nil, List.length_cons, List.length_nil, List.replicate, List.append_nil, Nat.reduceAdd, Nat.reduceSub, List.cons_append, List.nil_append]
  refine px_go (fun _ => false) 400 ?_
  simp (disch := omega) only [px_lits, false_implies, true_implies, px_dec_ok, px_run_s, px_rules, px_rule_is, px_mats, px_calls, ↓reduceIte, eq_self, Bool.false_eq_true, px_flds, px_o_some, px_fvs, px_pfs, px_cts, px_cls, px_acs_, px_acn, true_and, and_true, true_or, or_true, false_or, or_false, and_self, not_true_eq_false, not_false_eq_true, Classical.not_not, Nat.reduceAdd, Nat.reduceSub, Nat.reduceBEq, Nat.reduceLT, Nat.reduceLeDiff, Nat.lt_add_one, px_tg, Int.cast_ofNat_Int, Int.reduceAdd, Int.reduceSub, Int.reduceMul, Int.reduceToNat, Int.reduceLE, Int.reduceLT, Int.reduceNeg, Int.reduceEq, Bool.or_false, Bool.false_or, Bool.or_true, Bool.true_or, List.length_cons, List.length_nil, List.nil_append, List.cons_append, Option.toList_some, Option.toList_none, reduceCtorEq, Option.some.injEq, Nat.zero_le, Nat.reduceMul, Nat.mul_zero, Nat.add_zero, Int.reduceDiv, Int.reduceMod, Int.toNat_natCast, Nat.lt_irrefl, Int.natCast_add, Int.cast_ofNat_Int, px_mds_RX4_0, dec_X4_note, px_eq_iff, px_lt_iff, px_le_iff, px_up_o, px_up_eq, px_up_ne, px_cp_o, po_k]
  rw [show ((L.length : Nat) : Int) = (x.1.length : Nat) by rw [p2]]
  refine c_X4_rankOf p1 (by omega) ?_
  have n1 : ¬ ((rk x.1 : Nat) : Int) < 0 := by omega
  have n2 : ¬ (720 : Int) ≤ ((rk x.1 : Nat) : Int) := by omega
  by_cases hm : x.1 ∈ K.map (fun q => q.1)
  · have ea : po_add K x = K := by unfold po_add; rw [if_pos hm]
    have er : μ 203 (rk x.1 : Nat) = cnt := (s4 (rk x.1) (by omega)).mpr ((po_rank_mem hK x1).mpr hm)
    have fin : Q none μ := h μ (fun _ _ => rfl) (by rw [ea]; exact ⟨s1, s2, s3, s4, s5⟩)
    have er2 : μ 203 (rk x.1 : Nat) = μ 200 3 := by rw [er, s2]
    refine px_go (fun _ => false) 400 ?_
    simp (disch := omega) only [px_lits, false_implies, true_implies, px_dec_ok, px_run_s, px_rules, px_rule_is, px_mats, px_calls, ↓reduceIte, eq_self, Bool.false_eq_true, px_flds, px_o_some, px_fvs, px_pfs, px_cts, px_cls, px_acs_, px_acn, true_and, and_true, true_or, or_true, false_or, or_false, and_self, not_true_eq_false, not_false_eq_true, Classical.not_not, Nat.reduceAdd, Nat.reduceSub, Nat.reduceBEq, Nat.reduceLT, Nat.reduceLeDiff, Nat.lt_add_one, px_tg, Int.cast_ofNat_Int, Int.reduceAdd, Int.reduceSub, Int.reduceMul, Int.reduceToNat, Int.reduceLE, Int.reduceLT, Int.reduceNeg, Int.reduceEq, Bool.or_false, Bool.false_or, Bool.or_true, Bool.true_or, List.length_cons, List.length_nil, List.nil_append, List.cons_append, Option.toList_some, Option.toList_none, reduceCtorEq, Option.some.injEq, Nat.zero_le, Nat.reduceMul, Nat.mul_zero, Nat.add_zero, Int.reduceDiv, Int.reduceMod, Int.toNat_natCast, Nat.lt_irrefl, Int.natCast_add, Int.cast_ofNat_Int, px_mds_RX4_0, dec_X4_note, px_eq_iff, px_lt_iff, px_le_iff, px_up_o, px_up_eq, px_up_ne, px_cp_o, po_k, n1, n2, er2]
    refine ⟨fun _ => fin, fun _ => ⟨by omega, fin⟩⟩
  · have ea : po_add K x = K ++ [x] := by unfold po_add; rw [if_neg hm]
    have kl := (po_add_ok hK x1 x2 x3 hm).ranks hL
    have kl3 := kl.2.2
    rw [List.length_append] at kl3
    have kl4 : K.length + 1 ≤ 720 := kl3
    have er : ¬ μ 203 (rk x.1 : Nat) = cnt := fun e => hm ((po_rank_mem hK x1).mp ((s4 (rk x.1) (by omega)).mp e))
    have er2 : ¬ μ 203 (rk x.1 : Nat) = μ 200 3 := by rw [s2]; exact er
    have n3 : ¬ (720 : Int) ≤ μ 200 4 := by omega
    refine px_go (fun _ => false) 400 ?_
    simp (disch := omega) only [px_lits, false_implies, true_implies, px_dec_ok, px_run_s, px_rules, px_rule_is, px_mats, px_calls, ↓reduceIte, eq_self, Bool.false_eq_true, px_flds, px_o_some, px_fvs, px_pfs, px_cts, px_cls, px_acs_, px_acn, true_and, and_true, true_or, or_true, false_or, or_false, and_self, not_true_eq_false, not_false_eq_true, Classical.not_not, Nat.reduceAdd, Nat.reduceSub, Nat.reduceBEq, Nat.reduceLT, Nat.reduceLeDiff, Nat.lt_add_one, px_tg, Int.cast_ofNat_Int, Int.reduceAdd, Int.reduceSub, Int.reduceMul, Int.reduceToNat, Int.reduceLE, Int.reduceLT, Int.reduceNeg, Int.reduceEq, Bool.or_false, Bool.false_or, Bool.or_true, Bool.true_or, List.length_cons, List.length_nil, List.nil_append, List.cons_append, Option.toList_some, Option.toList_none, reduceCtorEq, Option.some.injEq, Nat.zero_le, Nat.reduceMul, Nat.mul_zero, Nat.add_zero, Int.reduceDiv, Int.reduceMod, Int.toNat_natCast, Nat.lt_irrefl, Int.natCast_add, Int.cast_ofNat_Int, px_mds_RX4_0, dec_X4_note, px_eq_iff, px_lt_iff, px_le_iff, px_up_o, px_up_eq, px_up_ne, px_cp_o, po_k, n1, n2, n3, er2]
    refine ⟨by omega, by omega, by omega, by omega, ?_⟩
    have e0 : ∀ i, i ≠ 4 → px_up (px_up (px_up (px_up μ 203 (rk x.1 : Nat) (μ 200 3)) 201 (μ 200 4) (pp 3 x.1 : Nat)) 202 (μ 200 4) (pp 5 x.2 : Nat)) 200 4 (μ 200 4 + 1) 200 i = μ 200 i := fun i hi => by
      rw [px_up_ne hi, px_up_o (by omega), px_up_o (by omega), px_up_o (by omega)]
    refine h _ (fun o ho => by simp (disch := omega) only [px_up_o]) ?_
    rw [ea]
    refine ⟨?_, ?_, fun o q hq => ?_, fun r hr => ?_, fun r h0 h1 => ?_⟩
    · rw [px_up_eq rfl, s1, List.length_append]
      rfl
    · rw [e0 3 (by omega)]
      exact s2
    · rw [List.getElem?_append] at hq
      rw [px_up_o (by omega), px_up_o (by omega), px_up_o (o' := 202) (by omega)]
      by_cases ho : o < K.length
      · rw [if_pos ho] at hq
        rw [px_up_ne (by omega), px_up_o (by omega), px_up_ne (by omega), px_up_o (by omega), px_up_o (by omega)]
        exact s3 o q hq
      · rw [if_neg ho] at hq
        have hl := (List.getElem?_eq_some_iff.mp hq).1
        simp at hl
        have eo : o = K.length := by omega
        rw [show o - K.length = 0 by omega] at hq
        cases hq
        rw [s1, eo, px_up_eq rfl, px_up_eq rfl]
        exact ⟨rfl, rfl⟩
    · rw [px_up_o (by omega), px_up_o (by omega), px_up_o (by omega), List.map_append, List.mem_append]
      by_cases e : r = rk x.1
      · subst e
        rw [px_up_eq rfl, s2]
        exact ⟨fun _ => .inr (by simp), fun _ => rfl⟩
      · rw [px_up_ne (by omega), s4 r hr]
        constructor
        · exact .inl
        · rintro (q | q)
          · exact q
          · simp at q
            exact absurd q e
    · rw [px_up_o (by omega), px_up_o (by omega), px_up_o (by omega)]
      by_cases e : r = (rk x.1 : Nat)
      · subst e
        rw [px_up_eq rfl, s2]
        exact ⟨hc.1, Int.le_refl _⟩
      · rw [px_up_ne e]
        exact s5 r h0 h1
set_option maxHeartbeats 4000000 in
set_option maxRecDepth 100000 in
theorem c_X4_lookRound {G : px_G} {g o k : Nat} {L : List pc_Ch} {K : List (List Nat × List Nat)} {cnt : Int} {μ : px_Mem} {Q : Option px_X → px_Mem → Prop} (hg : px_kd g = 0) (hg2 : g < 100) (eL : pc_hl μ g = L) (hn : μ g 4 = L.length) (hL : L.length ≤ 6) (hK : po_ok L K) (S : po_st μ K cnt) (hc : 0 ≤ cnt ∧ cnt < 2147483647) (ho : o < K.length) (hk : k + 1 < L.length) (hV : pc_V L)
    (h : ∀ μ1 : px_Mem, (∀ o, (o < 200 ∨ 203 < o) → μ1 o = μ o) → po_st μ1 (po_look L K o k) cnt → Q none μ1) : px_C G yX4_lookRound cX4_lookRound 9 none 3 [.inr (.inl (some 200)), .inr (.inl (some g)), .inl o, .inl k] μ Q := by
  obtain ⟨hk1, hk2⟩ := pc_hk hg
  have hq : K[o]? = some K[o] := List.getElem?_eq_getElem ho
  generalize K[o] = q at hq
  obtain ⟨s3a, s3b⟩ := S.2.2.1 o q hq
  obtain ⟨q1, q2, q3⟩ := hK.1 q (List.mem_of_getElem? hq)
  obtain ⟨p1, p2, p3⟩ := po_lt8 q1 hL
  have p5 := po_lt32 (by omega) q3
  have k7 := (hK.ranks hL).2.2
  have a1 : q.1[k]? = some q.1[k] := List.getElem?_eq_getElem (by omega)
  have a2 : q.1[k + 1]? = some q.1[k + 1] := List.getElem?_eq_getElem (by omega)
  have a3 : q.2[k]? = some q.2[k] := List.getElem?_eq_getElem (by omega)
  have a4 : q.2[k + 1]? = some q.2[k + 1] := List.getElem?_eq_getElem (by omega)
  have b1 := p3 _ (List.mem_of_getElem? a1)
  have b2 := p3 _ (List.mem_of_getElem? a2)
  have b3 := p5 _ (List.mem_of_getElem? a3)
  have b4 := p5 _ (List.mem_of_getElem? a4)
  have hs : ∀ j : Nat, j < L.length → μ (g + 2) j = (pa_ch L j).2.1 ∧ (μ (g + 2) j = 0 ∨ μ (g + 2) j = 1) := fun j hj => by
    have hj2 := pc_hl_at (μ := μ) (h := g) (i := j) (by omega) (by omega)
    rw [Int.toNat_natCast, eL] at hj2
    have e : (pa_ch L j).2.1 = μ (g + 2) j := by unfold pa_ch; rw [hj2]; rfl
    exact ⟨e.symm, (hV.el (List.mem_of_getElem? hj2)).2.1⟩
  obtain ⟨c1, c1'⟩ := hs _ b1
  obtain ⟨c2, c2'⟩ := hs _ b2
  have st : po_look L K o k = match po_sw L q.1 q.2 k with
    | none => K
    | some x => po_add K x := by
    unfold po_look
    rw [hq]
    rfl
  rw [st] at h
  have sw := po_sw_at (L := L) a1 a2 a3 a4
  have hk6 : k + 1 < 6 := by omega
  refine px_enter RX4 (by decide +kernel) rfl (by simp) (by simp [px_c1]) ?_
  simp only [List.map_cons, List.map_nil, List.length_cons, List.length_nil, List.replicate, List.append_nil, Nat.reduceAdd, Nat.reduceSub, List.cons_append, List.nil_append]
  refine px_go (fun _ => false) 400 ?_
  simp (disch := omega) only [px_lits, false_implies, true_implies, px_dec_ok, px_run_s, px_rules, px_rule_is, px_mats, px_calls, ↓reduceIte, eq_self, Bool.false_eq_true, px_flds, px_o_some, px_fvs, px_pfs, px_cts, px_cls, px_acs_, px_acn, true_and, and_true, true_or, or_true, false_or, or_false, and_self, not_true_eq_false, not_false_eq_true, Classical.not_not, Nat.reduceAdd, Nat.reduceSub, Nat.reduceBEq, Nat.reduceLT, Nat.reduceLeDiff, Nat.lt_add_one, px_tg, Int.cast_ofNat_Int, Int.reduceAdd, Int.reduceSub, Int.reduceMul, Int.reduceToNat, Int.reduceLE, Int.reduceLT, Int.reduceNeg, Int.reduceEq, Bool.or_false, Bool.false_or, Bool.or_true, Bool.true_or, List.length_cons, List.length_nil, List.nil_append, List.cons_append, Option.toList_some, Option.toList_none, reduceCtorEq, Option.some.injEq, Nat.zero_le, Nat.reduceMul, Nat.mul_zero, Nat.add_zero, Int.reduceDiv, Int.reduceMod, Int.toNat_natCast, Nat.lt_irrefl, Int.natCast_add, Int.cast_ofNat_Int, px_mds_RX4_0, dec_X4_lookRound, px_eq_iff, px_lt_iff, px_le_iff, px_up_o, px_up_eq, px_up_ne, px_cp_o, po_k, hg, hk1, hk2, s3a, s3b]
  refine ⟨by omega, ?_⟩
  refine c_X4_part (b := 3) (.inl rfl) p1 (by omega) (by omega) ?_
  refine px_go (fun _ => false) 400 ?_
  simp (disch := omega) only [px_lits, false_implies, true_implies, px_dec_ok, px_run_s, px_rules, px_rule_is, px_mats, px_calls, ↓reduceIte, eq_self, Bool.false_eq_true, px_flds, px_o_some, px_fvs, px_pfs, px_cts, px_cls, px_acs_, px_acn, true_and, and_true, true_or, or_true, false_or, or_false, and_self, not_true_eq_false, not_false_eq_true, Classical.not_not, Nat.reduceAdd, Nat.reduceSub, Nat.reduceBEq, Nat.reduceLT, Nat.reduceLeDiff, Nat.lt_add_one, px_tg, Int.cast_ofNat_Int, Int.reduceAdd, Int.reduceSub, Int.reduceMul, Int.reduceToNat, Int.reduceLE, Int.reduceLT, Int.reduceNeg, Int.reduceEq, Bool.or_false, Bool.false_or, Bool.or_true, Bool.true_or, List.length_cons, List.length_nil, List.nil_append, List.cons_append, Option.toList_some, Option.toList_none, reduceCtorEq, Option.some.injEq, Nat.zero_le, Nat.reduceMul, Nat.mul_zero, Nat.add_zero, Int.reduceDiv, Int.reduceMod, Int.toNat_natCast, Nat.lt_irrefl, Int.natCast_add, Int.cast_ofNat_Int, px_mds_RX4_0, dec_X4_lookRound, px_eq_iff, px_lt_iff, px_le_iff, px_up_o, px_up_eq, px_up_ne, px_cp_o, po_k, hg, hk1, hk2, s3a, s3b]
  refine ⟨by omega, ?_⟩
  rw [show (k : Int) + 1 = ((k + 1 : Nat) : Int) by omega]
  refine c_X4_part (b := 3) (.inl rfl) p1 (by omega) (by omega) ?_
  refine px_go (fun _ => false) 400 ?_
  simp (disch := omega) only [px_lits, false_implies, true_implies, px_dec_ok, px_run_s, px_rules, px_rule_is, px_mats, px_calls, ↓reduceIte, eq_self, Bool.false_eq_true, px_flds, px_o_some, px_fvs, px_pfs, px_cts, px_cls, px_acs_, px_acn, true_and, and_true, true_or, or_true, false_or, or_false, and_self, not_true_eq_false, not_false_eq_true, Classical.not_not, Nat.reduceAdd, Nat.reduceSub, Nat.reduceBEq, Nat.reduceLT, Nat.reduceLeDiff, Nat.lt_add_one, px_tg, Int.cast_ofNat_Int, Int.reduceAdd, Int.reduceSub, Int.reduceMul, Int.reduceToNat, Int.reduceLE, Int.reduceLT, Int.reduceNeg, Int.reduceEq, Bool.or_false, Bool.false_or, Bool.or_true, Bool.true_or, List.length_cons, List.length_nil, List.nil_append, List.cons_append, Option.toList_some, Option.toList_none, reduceCtorEq, Option.some.injEq, Nat.zero_le, Nat.reduceMul, Nat.mul_zero, Nat.add_zero, Int.reduceDiv, Int.reduceMod, Int.toNat_natCast, Nat.lt_irrefl, Int.natCast_add, Int.cast_ofNat_Int, px_mds_RX4_0, dec_X4_lookRound, px_eq_iff, px_lt_iff, px_le_iff, px_up_o, px_up_eq, px_up_ne, px_cp_o, po_k, hg, hk1, hk2, s3a, s3b]
  refine ⟨by omega, by omega, ?_⟩
  refine c_X4_part (b := 5) (.inr rfl) p5 (by omega) (by omega) ?_
  refine px_go (fun _ => false) 400 ?_
  simp (disch := omega) only [px_lits, false_implies, true_implies, px_dec_ok, px_run_s, px_rules, px_rule_is, px_mats, px_calls, ↓reduceIte, eq_self, Bool.false_eq_true, px_flds, px_o_some, px_fvs, px_pfs, px_cts, px_cls, px_acs_, px_acn, true_and, and_true, true_or, or_true, false_or, or_false, and_self, not_true_eq_false, not_false_eq_true, Classical.not_not, Nat.reduceAdd, Nat.reduceSub, Nat.reduceBEq, Nat.reduceLT, Nat.reduceLeDiff, Nat.lt_add_one, px_tg, Int.cast_ofNat_Int, Int.reduceAdd, Int.reduceSub, Int.reduceMul, Int.reduceToNat, Int.reduceLE, Int.reduceLT, Int.reduceNeg, Int.reduceEq, Bool.or_false, Bool.false_or, Bool.or_true, Bool.true_or, List.length_cons, List.length_nil, List.nil_append, List.cons_append, Option.toList_some, Option.toList_none, reduceCtorEq, Option.some.injEq, Nat.zero_le, Nat.reduceMul, Nat.mul_zero, Nat.add_zero, Int.reduceDiv, Int.reduceMod, Int.toNat_natCast, Nat.lt_irrefl, Int.natCast_add, Int.cast_ofNat_Int, px_mds_RX4_0, dec_X4_lookRound, px_eq_iff, px_lt_iff, px_le_iff, px_up_o, px_up_eq, px_up_ne, px_cp_o, po_k, hg, hk1, hk2, s3a, s3b]
  refine ⟨by omega, by omega, ?_⟩
  rw [show (k : Int) + 1 = ((k + 1 : Nat) : Int) by omega]
  refine c_X4_part (b := 5) (.inr rfl) p5 (by omega) (by omega) ?_
  refine px_go (fun _ => false) 400 ?_
  simp (disch := omega) only [px_lits, false_implies, true_implies, px_dec_ok, px_run_s, px_rules, px_rule_is, px_mats, px_calls, ↓reduceIte, eq_self, Bool.false_eq_true, px_flds, px_o_some, px_fvs, px_pfs, px_cts, px_cls, px_acs_, px_acn, true_and, and_true, true_or, or_true, false_or, or_false, and_self, not_true_eq_false, not_false_eq_true, Classical.not_not, Nat.reduceAdd, Nat.reduceSub, Nat.reduceBEq, Nat.reduceLT, Nat.reduceLeDiff, Nat.lt_add_one, px_tg, Int.cast_ofNat_Int, Int.reduceAdd, Int.reduceSub, Int.reduceMul, Int.reduceToNat, Int.reduceLE, Int.reduceLT, Int.reduceNeg, Int.reduceEq, Bool.or_false, Bool.false_or, Bool.or_true, Bool.true_or, List.length_cons, List.length_nil, List.nil_append, List.cons_append, Option.toList_some, Option.toList_none, reduceCtorEq, Option.some.injEq, Nat.zero_le, Nat.reduceMul, Nat.mul_zero, Nat.add_zero, Int.reduceDiv, Int.reduceMod, Int.toNat_natCast, Nat.lt_irrefl, Int.natCast_add, Int.cast_ofNat_Int, px_mds_RX4_0, dec_X4_lookRound, px_eq_iff, px_lt_iff, px_le_iff, px_up_o, px_up_eq, px_up_ne, px_cp_o, po_k, hg, hk1, hk2, s3a, s3b]
  refine c_X10_turned c1' c2' (by omega) (by omega) ?_
  rw [c1, c2]
  cases ht : pc_tr (pa_ch L q.1[k]).2.1 (q.2[k] : Nat) (pa_ch L q.1[k + 1]).2.1 (q.2[k + 1] : Nat) with
  | none =>
    rw [ht] at sw
    rw [sw] at h
    rw [pc_trz_none ht]
    refine px_go (fun _ => false) 400 ?_
    simp (disch := omega) only [px_lits, false_implies, true_implies, px_dec_ok, px_run_s, px_rules, px_rule_is, px_mats, px_calls, ↓reduceIte, eq_self, Bool.false_eq_true, px_flds, px_o_some, px_fvs, px_pfs, px_cts, px_cls, px_acs_, px_acn, true_and, and_true, true_or, or_true, false_or, or_false, and_self, not_true_eq_false, not_false_eq_true, Classical.not_not, Nat.reduceAdd, Nat.reduceSub, Nat.reduceBEq, Nat.reduceLT, Nat.reduceLeDiff, Nat.lt_add_one, px_tg, Int.cast_ofNat_Int, Int.reduceAdd, Int.reduceSub, Int.reduceMul, Int.reduceToNat, Int.reduceLE, Int.reduceLT, Int.reduceNeg, Int.reduceEq, Bool.or_false, Bool.false_or, Bool.or_true, Bool.true_or, List.length_cons, List.length_nil, List.nil_append, List.cons_append, Option.toList_some, Option.toList_none, reduceCtorEq, Option.some.injEq, Nat.zero_le, Nat.reduceMul, Nat.mul_zero, Nat.add_zero, Int.reduceDiv, Int.reduceMod, Int.toNat_natCast, Nat.lt_irrefl, Int.natCast_add, Int.cast_ofNat_Int, px_mds_RX4_0, dec_X4_lookRound, px_eq_iff, px_lt_iff, px_le_iff, px_up_o, px_up_eq, px_up_ne, px_cp_o, po_k, hg, hk1, hk2, s3a, s3b]
    exact h μ (fun _ _ => rfl) S
  | some z =>
    obtain ⟨u, w⟩ := z
    rw [ht] at sw
    have bd := pc_tr_bd ht (by omega) (by omega)
    rw [pc_trz_some ht]
    have n1 : ¬ (100 * u + w = -1) := by omega
    have d1 : (100 * u + w) / 100 = u := by omega
    have d2 : (100 * u + w) % 100 = w := by omega
    rw [sw] at h
    dsimp only [Option.map_some] at h
    have xo := po_sw_ok q1 q2 q3 hk sw
    dsimp only at xo
    obtain ⟨x1, x2, x3⟩ := xo
    obtain ⟨y1, y2, y3⟩ := po_lt8 x1 hL
    have y5 := po_lt32 (by rw [x1.length_eq, List.length_range]; exact x2.symm) x3
    have pm1 : ∀ d ∈ q.1.set k q.1[k + 1], d < 2 ^ 3 := fun d hd => by
      rcases List.mem_or_eq_of_mem_set hd with e | e
      · exact p1 d e
      · rw [e]; exact p1 _ (List.mem_of_getElem? a2)
    have u5 : u.toNat < 2 ^ 5 := y5 _ (by
      refine List.mem_of_getElem? (i := k) ?_
      rw [List.getElem?_set_ne (by omega), List.getElem?_set_self (by omega)])
    have w5 : w.toNat < 2 ^ 5 := y5 _ (by
      refine List.mem_of_getElem? (i := k + 1) ?_
      rw [List.getElem?_set_self (by rw [List.length_set]; omega)])
    have pm2 : ∀ d ∈ q.2.set k u.toNat, d < 2 ^ 5 := fun d hd => by
      rcases List.mem_or_eq_of_mem_set hd with e | e
      · exact p5 d e
      · rw [e]; exact u5
    refine px_go (fun _ => false) 400 ?_
    simp (disch := omega) only [px_lits, false_implies, true_implies, px_dec_ok, px_run_s, px_rules, px_rule_is, px_mats, px_calls, ↓reduceIte, eq_self, Bool.false_eq_true, px_flds, px_o_some, px_fvs, px_pfs, px_cts, px_cls, px_acs_, px_acn, true_and, and_true, true_or, or_true, false_or, or_false, and_self, not_true_eq_false, not_false_eq_true, Classical.not_not, Nat.reduceAdd, Nat.reduceSub, Nat.reduceBEq, Nat.reduceLT, Nat.reduceLeDiff, Nat.lt_add_one, px_tg, Int.cast_ofNat_Int, Int.reduceAdd, Int.reduceSub, Int.reduceMul, Int.reduceToNat, Int.reduceLE, Int.reduceLT, Int.reduceNeg, Int.reduceEq, Bool.or_false, Bool.false_or, Bool.or_true, Bool.true_or, List.length_cons, List.length_nil, List.nil_append, List.cons_append, Option.toList_some, Option.toList_none, reduceCtorEq, Option.some.injEq, Nat.zero_le, Nat.reduceMul, Nat.mul_zero, Nat.add_zero, Int.reduceDiv, Int.reduceMod, Int.toNat_natCast, Nat.lt_irrefl, Int.natCast_add, Int.cast_ofNat_Int, px_mds_RX4_0, dec_X4_lookRound, px_eq_iff, px_lt_iff, px_le_iff, px_up_o, px_up_eq, px_up_ne, px_cp_o, po_k, hg, hk1, hk2, s3a, s3b, n1]
    refine ⟨by omega, ?_⟩
    refine c_X4_with (b := 3) (v := q.1[k + 1]) (.inl rfl) (by omega) (p1 _ (List.mem_of_getElem? a2)) (pp_31 (.inl rfl) pm1 (by rw [List.length_set]; omega)) (pv_set (.inl rfl) p1 (p1 _ (List.mem_of_getElem? a2)) (by omega)) ?_
    refine px_go (fun _ => false) 400 ?_
    simp (disch := omega) only [px_lits, false_implies, true_implies, px_dec_ok, px_run_s, px_rules, px_rule_is, px_mats, px_calls, ↓reduceIte, eq_self, Bool.false_eq_true, px_flds, px_o_some, px_fvs, px_pfs, px_cts, px_cls, px_acs_, px_acn, true_and, and_true, true_or, or_true, false_or, or_false, and_self, not_true_eq_false, not_false_eq_true, Classical.not_not, Nat.reduceAdd, Nat.reduceSub, Nat.reduceBEq, Nat.reduceLT, Nat.reduceLeDiff, Nat.lt_add_one, px_tg, Int.cast_ofNat_Int, Int.reduceAdd, Int.reduceSub, Int.reduceMul, Int.reduceToNat, Int.reduceLE, Int.reduceLT, Int.reduceNeg, Int.reduceEq, Bool.or_false, Bool.false_or, Bool.or_true, Bool.true_or, List.length_cons, List.length_nil, List.nil_append, List.cons_append, Option.toList_some, Option.toList_none, reduceCtorEq, Option.some.injEq, Nat.zero_le, Nat.reduceMul, Nat.mul_zero, Nat.add_zero, Int.reduceDiv, Int.reduceMod, Int.toNat_natCast, Nat.lt_irrefl, Int.natCast_add, Int.cast_ofNat_Int, px_mds_RX4_0, dec_X4_lookRound, px_eq_iff, px_lt_iff, px_le_iff, px_up_o, px_up_eq, px_up_ne, px_cp_o, po_k, hg, hk1, hk2, s3a, s3b, n1]
    rw [show (k : Int) + 1 = ((k + 1 : Nat) : Int) by omega]
    refine c_X4_with (b := 3) (v := q.1[k]) (.inl rfl) (by omega) (p1 _ (List.mem_of_getElem? a1)) (pp_31 (.inl rfl) y1 (by omega)) (pv_set (.inl rfl) pm1 (p1 _ (List.mem_of_getElem? a1)) (by rw [List.length_set]; omega)) ?_
    refine px_go (fun _ => false) 400 ?_
    simp (disch := omega) only [px_lits, false_implies, true_implies, px_dec_ok, px_run_s, px_rules, px_rule_is, px_mats, px_calls, ↓reduceIte, eq_self, Bool.false_eq_true, px_flds, px_o_some, px_fvs, px_pfs, px_cts, px_cls, px_acs_, px_acn, true_and, and_true, true_or, or_true, false_or, or_false, and_self, not_true_eq_false, not_false_eq_true, Classical.not_not, Nat.reduceAdd, Nat.reduceSub, Nat.reduceBEq, Nat.reduceLT, Nat.reduceLeDiff, Nat.lt_add_one, px_tg, Int.cast_ofNat_Int, Int.reduceAdd, Int.reduceSub, Int.reduceMul, Int.reduceToNat, Int.reduceLE, Int.reduceLT, Int.reduceNeg, Int.reduceEq, Bool.or_false, Bool.false_or, Bool.or_true, Bool.true_or, List.length_cons, List.length_nil, List.nil_append, List.cons_append, Option.toList_some, Option.toList_none, reduceCtorEq, Option.some.injEq, Nat.zero_le, Nat.reduceMul, Nat.mul_zero, Nat.add_zero, Int.reduceDiv, Int.reduceMod, Int.toNat_natCast, Nat.lt_irrefl, Int.natCast_add, Int.cast_ofNat_Int, px_mds_RX4_0, dec_X4_lookRound, px_eq_iff, px_lt_iff, px_le_iff, px_up_o, px_up_eq, px_up_ne, px_cp_o, po_k, hg, hk1, hk2, s3a, s3b, n1, d1, d2]
    refine ⟨by omega, by omega, ?_⟩
    rw [show (u : Int) = ((u.toNat : Nat) : Int) by omega]
    refine c_X4_with (b := 5) (v := u.toNat) (.inr rfl) (by omega) u5 (pp_31 (.inr rfl) pm2 (by rw [List.length_set]; omega)) (pv_set (.inr rfl) p5 u5 (by omega)) ?_
    have d2' : (100 * ((u.toNat : Nat) : Int) + w) % 100 = w := by omega
    refine px_go (fun _ => false) 400 ?_
    simp (disch := omega) only [px_lits, false_implies, true_implies, px_dec_ok, px_run_s, px_rules, px_rule_is, px_mats, px_calls, ↓reduceIte, eq_self, Bool.false_eq_true, px_flds, px_o_some, px_fvs, px_pfs, px_cts, px_cls, px_acs_, px_acn, true_and, and_true, true_or, or_true, false_or, or_false, and_self, not_true_eq_false, not_false_eq_true, Classical.not_not, Nat.reduceAdd, Nat.reduceSub, Nat.reduceBEq, Nat.reduceLT, Nat.reduceLeDiff, Nat.lt_add_one, px_tg, Int.cast_ofNat_Int, Int.reduceAdd, Int.reduceSub, Int.reduceMul, Int.reduceToNat, Int.reduceLE, Int.reduceLT, Int.reduceNeg, Int.reduceEq, Bool.or_false, Bool.false_or, Bool.or_true, Bool.true_or, List.length_cons, List.length_nil, List.nil_append, List.cons_append, Option.toList_some, Option.toList_none, reduceCtorEq, Option.some.injEq, Nat.zero_le, Nat.reduceMul, Nat.mul_zero, Nat.add_zero, Int.reduceDiv, Int.reduceMod, Int.toNat_natCast, Nat.lt_irrefl, Int.natCast_add, Int.cast_ofNat_Int, px_mds_RX4_0, dec_X4_lookRound, px_eq_iff, px_lt_iff, px_le_iff, px_up_o, px_up_eq, px_up_ne, px_cp_o, po_k, hg, hk1, hk2, s3a, s3b, n1, d1, d2']
    refine ⟨by omega, ?_⟩
    rw [show (k : Int) + 1 = ((k + 1 : Nat) : Int) by omega, show (w : Int) = ((w.toNat : Nat) : Int) by omega]
    refine c_X4_with (b := 5) (v := w.toNat) (.inr rfl) (by omega) w5 (pp_31 (.inr rfl) y5 (by omega)) (pv_set (.inr rfl) pm2 w5 (by rw [List.length_set]; omega)) ?_
    refine px_go (fun _ => false) 400 ?_
    simp (disch := omega) only [px_lits, false_implies, true_implies, px_dec_ok, px_run_s, px_rules, px_rule_is, px_mats, px_calls, ↓reduceIte, eq_self, Bool.false_eq_true, px_flds, px_o_some, px_fvs, px_pfs, px_cts, px_cls, px_acs_, px_acn, true_and, and_true, true_or, or_true, false_or, or_false, and_self, not_true_eq_false, not_false_eq_true, Classical.not_not, Nat.reduceAdd, Nat.reduceSub, Nat.reduceBEq, Nat.reduceLT, Nat.reduceLeDiff, Nat.lt_add_one, px_tg, Int.cast_ofNat_Int, Int.reduceAdd, Int.reduceSub, Int.reduceMul, Int.reduceToNat, Int.reduceLE, Int.reduceLT, Int.reduceNeg, Int.reduceEq, Bool.or_false, Bool.false_or, Bool.or_true, Bool.true_or, List.length_cons, List.length_nil, List.nil_append, List.cons_append, Option.toList_some, Option.toList_none, reduceCtorEq, Option.some.injEq, Nat.zero_le, Nat.reduceMul, Nat.mul_zero, Nat.add_zero, Int.reduceDiv, Int.reduceMod, Int.toNat_natCast, Nat.lt_irrefl, Int.natCast_add, Int.cast_ofNat_Int, px_mds_RX4_0, dec_X4_lookRound, px_eq_iff, px_lt_iff, px_le_iff, px_up_o, px_up_eq, px_up_ne, px_cp_o, po_k, hg, hk1, hk2, s3a, s3b, n1, d1, d2]
    rw [hn]
    refine c_X4_note (x := ((q.1.set k q.1[k + 1]).set (k + 1) q.1[k], (q.2.set k u.toNat).set (k + 1) w.toNat)) hL hK S hc x1 x2 x3 (fun μ1 f1 S1 => ?_)
    refine px_go (fun _ => false) 400 ?_
    simp (disch := omega) only [px_lits, false_implies, true_implies, px_dec_ok, px_run_s, px_rules, px_rule_is, px_mats, px_calls, ↓reduceIte, eq_self, Bool.false_eq_true, px_flds, px_o_some, px_fvs, px_pfs, px_cts, px_cls, px_acs_, px_acn, true_and, and_true, true_or, or_true, false_or, or_false, and_self, not_true_eq_false, not_false_eq_true, Classical.not_not, Nat.reduceAdd, Nat.reduceSub, Nat.reduceBEq, Nat.reduceLT, Nat.reduceLeDiff, Nat.lt_add_one, px_tg, Int.cast_ofNat_Int, Int.reduceAdd, Int.reduceSub, Int.reduceMul, Int.reduceToNat, Int.reduceLE, Int.reduceLT, Int.reduceNeg, Int.reduceEq, Bool.or_false, Bool.false_or, Bool.or_true, Bool.true_or, List.length_cons, List.length_nil, List.nil_append, List.cons_append, Option.toList_some, Option.toList_none, reduceCtorEq, Option.some.injEq, Nat.zero_le, Nat.reduceMul, Nat.mul_zero, Nat.add_zero, Int.reduceDiv, Int.reduceMod, Int.toNat_natCast, Nat.lt_irrefl, Int.natCast_add, Int.cast_ofNat_Int, px_mds_RX4_0, dec_X4_lookRound, px_eq_iff, px_lt_iff, px_le_iff, px_up_o, px_up_eq, px_up_ne, px_cp_o, po_k, hg, hk1, hk2, s3a, s3b, n1, d1, d2]
    exact h μ1 f1 S1
