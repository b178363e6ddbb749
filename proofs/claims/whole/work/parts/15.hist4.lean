/-! ===== what one needs; what is brought to the front; sets ===== -/
theorem pc_sw_loc {P X R : List pc_Ch} {i : Nat} (h : i + 1 < X.length) : pc_sw (P ++ X ++ R) (P.length + i) = (pc_sw X i).map (fun Y => P ++ Y ++ R) := by
  have ha : X[i]? = some X[i] := List.getElem?_eq_getElem (by omega)
  have hb : X[i + 1]? = some X[i + 1] := List.getElem?_eq_getElem h
  have ha1 : (P ++ X ++ R)[P.length + i]? = some X[i] := by
    rw [List.append_assoc, List.getElem?_append_right (by omega), show P.length + i - P.length = i by omega, List.getElem?_append_left (by omega), ha]
  have hb1 : (P ++ X ++ R)[P.length + i + 1]? = some X[i + 1] := by
    rw [List.append_assoc, List.getElem?_append_right (by omega), show P.length + i + 1 - P.length = i + 1 by omega, List.getElem?_append_left (by omega), hb]
  rw [pc_sw_at ha1 hb1, pc_sw_at ha hb]
  cases pc_sw2 X[i] X[i + 1] with
  | none => rfl
  | some q =>
    simp only [Option.map_some, Option.some.injEq]
    rw [List.append_assoc, List.set_append_right _ _ (by omega), List.set_append_right _ _ (by omega), show P.length + i - P.length = i by omega, show P.length + i + 1 - P.length = i + 1 by omega, List.set_append_left _ _ (by omega), List.set_append_left _ _ (by rw [List.length_set]; omega), List.append_assoc]
theorem pc_brF_loc {P R : List pc_Ch} : ∀ (n : Nat) (X : List pc_Ch) (i : Nat), i + n < X.length → pc_brF n (P ++ X ++ R) (P.length + i) = (pc_brF n X i).map (fun Y => P ++ Y ++ R)
  | 0, X, i, h => rfl
  | n + 1, X, i, h => by
    unfold pc_brF
    rw [pc_sw_loc (by omega)]
    cases h1 : pc_sw X i with
    | none => rfl
    | some Y =>
      simp only [Option.map_some, Option.bind_some]
      have := pc_brF_loc (P := P) (R := R) n Y (i + 1) (by rw [pc_sw_len h1]; omega)
      rw [show P.length + (i + 1) = P.length + i + 1 by omega] at this
      exact this
/-- what the last one of a row needs, and itself, in their order, with the places that they have side by side -/
def pc_gb : List pc_Ch → List pc_Ch
  | [] => []
  | [c] => [c]
  | c :: d :: X => match pc_brF (pc_gb (d :: X)).length (c :: pc_gb (d :: X)) 0 with
    | some T => T.take (pc_gb (d :: X)).length
    | none => c :: pc_gb (d :: X)
theorem pc_gb_ne {X : List pc_Ch} (h : X ≠ []) : 0 < (pc_gb X).length := by
  induction X with
  | nil => exact absurd rfl h
  | cons c X ih =>
    cases X with
    | nil => exact Nat.zero_lt_one
    | cons d X =>
      have := ih (by simp)
      unfold pc_gb
      split
      · rename_i T hT
        have h9 := (pc_brF_keep hT).1
        rw [List.length_take, h9, List.length_cons]
        omega
      · simp
theorem pc_gb_step {c : pc_Ch} {X : List pc_Ch} (h : X ≠ []) : pc_gb (c :: X) = match pc_brF (pc_gb X).length (c :: pc_gb X) 0 with
    | some T => T.take (pc_gb X).length
    | none => c :: pc_gb X := by
  cases X with
  | nil => exact absurd rfl h
  | cons d X => rfl
set_option maxHeartbeats 4000000 in
set_option maxRecDepth 100000 in
theorem c_X0_gather {G : px_G} {h : Nat} {a f : Int} {μ : px_Mem} {Q : Option px_X → px_Mem → Prop} (hh : px_kd h = 0) (hn : 0 ≤ μ h 4 ∧ μ h 4 ≤ 16) (hf : 0 ≤ f ∧ f ≤ a) (ha : a < μ h 4) (hv : pc_V (pc_hl μ h))
    (h1 : ∀ (B R : List pc_Ch) (μ1 : px_Mem), B = pc_gb (((pc_hl μ h).take (a.toNat + 1)).drop f.toNat) → (∀ o, (o < h + 1 ∨ h + 4 < o) → μ1 o = μ o) → pc_hl μ1 h = (pc_hl μ h).take f.toNat ++ B ++ R → pc_V (pc_hl μ1 h) → Q (some (.inl (B.length - 1))) μ1) : px_C G yX0_gather cX0_gather 5 (some .int) 3 [.inr (.inl (some h)), .inl a, .inl f] μ Q := by
  have hlen : (pc_hl μ h).length = (μ h 4).toNat := pc_hl_len
  have loop : ∀ (n : Nat) (i last : Int) (B R : List pc_Ch) (μ1 : px_Mem), f ≤ i + 1 → i < a → i + 1 = f + n → B = pc_gb (((pc_hl μ h).take (a.toNat + 1)).drop (i + 1).toNat) → last = i + B.length → (∀ o, (o < h + 1 ∨ h + 4 < o) → μ1 o = μ o) → pc_hl μ1 h = (pc_hl μ h).take (i + 1).toNat ++ B ++ R → pc_V (pc_hl μ1 h) →
      px_J G RX0 cX0_gather 5 (some .int) 3 7 [some (.inr (.inl (some h))), some (.inl a), some (.inl f), some (.inl last), some (.inl i)] [] μ1 Q := by
    intro n
    induction n with
    | zero =>
      intro i last B R μ1 h2 h3 h4 h5 h6 h7 h8 h9
      have hB : B.length ≤ 16 := by
        have e1 := congrArg List.length h8
        simp only [List.length_append, pc_hl_len] at e1
        rw [h7 h (by omega)] at e1
        omega
      refine px_go (fun p => p == 7) 400 ?_
      simp only [px_lits, false_implies, true_implies, px_dec_ok, px_run_s, px_rules, px_rule_is, px_mats, px_calls, ↓reduceIte, eq_self, Bool.false_eq_true, px_flds, px_o_some, px_fvs, px_pfs, px_cts, px_cls, px_acs_, px_acn, true_and, and_true, true_or, or_true, false_or, or_false, and_self, not_true_eq_false, not_false_eq_true, Classical.not_not, Nat.reduceAdd, Nat.reduceSub, Nat.reduceBEq, Nat.reduceLT, Nat.reduceLeDiff, Nat.lt_add_one, px_tg, Int.cast_ofNat_Int, Int.reduceAdd, Int.reduceSub, Int.reduceMul, Int.reduceToNat, Int.reduceLE, Int.reduceLT, Int.reduceNeg, Int.reduceEq, Bool.or_false, Bool.false_or, Bool.or_true, Bool.true_or, List.length_cons, List.length_nil, List.nil_append, List.cons_append, Option.toList_some, Option.toList_none, reduceCtorEq, Option.some.injEq, Nat.zero_le, Nat.reduceMul, Nat.mul_zero, Nat.add_zero, Int.reduceDiv, Int.reduceMod, Int.toNat_natCast, Nat.lt_irrefl, Int.natCast_add, Int.cast_ofNat_Int, px_mds_RX0_0, dec_X0_gather, hh]
      simp (disch := omega) only [px_lt_iff]
      refine ⟨fun _ => ?_, fun q => absurd (by omega) q⟩
      have e1 : i + 1 = f := by omega
      rw [e1] at h5 h8
      have := h1 B R μ1 h5 h7 h8 h9
      rw [show last - f = (B.length : Int) - 1 by omega]
      exact this
    | succ n ih =>
      intro i last B R μ1 h2 h3 h4 h5 h6 h7 h8 h9
      have hs4 : μ1 h 4 = μ h 4 := by rw [h7 h (by omega)]
      have e0 := congrArg List.length h8
      simp only [List.length_append, pc_hl_len, hs4, List.length_take] at e0
      have hXn : ((pc_hl μ h).take (a.toNat + 1)).drop (i + 1).toNat ≠ [] := by
        intro q
        have := congrArg List.length q
        simp only [List.length_drop, List.length_take, hlen, List.length_nil] at this
        omega
      have hBp : 0 < B.length := by rw [h5]; exact pc_gb_ne hXn
      -- the one at i
      obtain ⟨c, hc⟩ : ∃ c, (pc_hl μ h)[i.toNat]? = some c := ⟨_, List.getElem?_eq_getElem (by rw [hlen]; omega)⟩
      have hci := (List.getElem?_eq_some_iff.mp hc).1
      have ht : (pc_hl μ h).take (i + 1).toNat = (pc_hl μ h).take i.toNat ++ [c] := by
        rw [show (i + 1).toNat = i.toNat + 1 by omega, List.take_add_one, hc]
        rfl
      have hX : ((pc_hl μ h).take (a.toNat + 1)).drop i.toNat = c :: ((pc_hl μ h).take (a.toNat + 1)).drop (i + 1).toNat := by
        rw [show (i + 1).toNat = i.toNat + 1 by omega]
        refine (List.drop_eq_getElem_cons (by rw [List.length_take]; omega)).trans ?_
        congr 1
        have := (List.getElem?_eq_some_iff.mp hc).2
        rw [List.getElem_take]
        exact this
      have hPl : ((pc_hl μ h).take i.toNat).length = i.toNat := by rw [List.length_take]; omega
      have h8a : pc_hl μ1 h = (pc_hl μ h).take i.toNat ++ (c :: B) ++ R := by
        rw [h8, ht]
        simp
      have hloc := pc_brF_loc (P := (pc_hl μ h).take i.toNat) (R := R) B.length (c :: B) 0 (by simp)
      rw [hPl, Nat.add_zero, ← h8a] at hloc
      have hst := pc_gb_step (c := c) hXn
      rw [← h5, ← hX] at hst
      have hll : (last - i).toNat = B.length := by omega
      refine px_go (fun p => p == 7) 400 ?_
      simp only [px_lits, false_implies, true_implies, px_dec_ok, px_run_s, px_rules, px_rule_is, px_mats, px_calls, ↓reduceIte, eq_self, Bool.false_eq_true, px_flds, px_o_some, px_fvs, px_pfs, px_cts, px_cls, px_acs_, px_acn, true_and, and_true, true_or, or_true, false_or, or_false, and_self, not_true_eq_false, not_false_eq_true, Classical.not_not, Nat.reduceAdd, Nat.reduceSub, Nat.reduceBEq, Nat.reduceLT, Nat.reduceLeDiff, Nat.lt_add_one, px_tg, Int.cast_ofNat_Int, Int.reduceAdd, Int.reduceSub, Int.reduceMul, Int.reduceToNat, Int.reduceLE, Int.reduceLT, Int.reduceNeg, Int.reduceEq, Bool.or_false, Bool.false_or, Bool.or_true, Bool.true_or, List.length_cons, List.length_nil, List.nil_append, List.cons_append, Option.toList_some, Option.toList_none, reduceCtorEq, Option.some.injEq, Nat.zero_le, Nat.reduceMul, Nat.mul_zero, Nat.add_zero, Int.reduceDiv, Int.reduceMod, Int.toNat_natCast, Nat.lt_irrefl, Int.natCast_add, Int.cast_ofNat_Int, px_mds_RX0_0, dec_X0_gather, hh]
      simp (disch := omega) only [px_lt_iff]
      refine ⟨fun q => by omega, fun _ => ?_⟩
      refine c_X0_canGoBehind hh (by rw [hs4]; exact hn) (by omega) (by omega) h9 (fun L1 q => ?_) (fun q => ?_)
      · refine px_go (fun p => p == 7) 400 ?_
        simp only [px_lits, false_implies, true_implies, px_dec_ok, px_run_s, px_rules, px_rule_is, px_mats, px_calls, ↓reduceIte, eq_self, Bool.false_eq_true, px_flds, px_o_some, px_fvs, px_pfs, px_cts, px_cls, px_acs_, px_acn, true_and, and_true, true_or, or_true, false_or, or_false, and_self, not_true_eq_false, not_false_eq_true, Classical.not_not, Nat.reduceAdd, Nat.reduceSub, Nat.reduceBEq, Nat.reduceLT, Nat.reduceLeDiff, Nat.lt_add_one, px_tg, Int.cast_ofNat_Int, Int.reduceAdd, Int.reduceSub, Int.reduceMul, Int.reduceToNat, Int.reduceLE, Int.reduceLT, Int.reduceNeg, Int.reduceEq, Bool.or_false, Bool.false_or, Bool.or_true, Bool.true_or, List.length_cons, List.length_nil, List.nil_append, List.cons_append, Option.toList_some, Option.toList_none, reduceCtorEq, Option.some.injEq, Nat.zero_le, Nat.reduceMul, Nat.mul_zero, Nat.add_zero, Int.reduceDiv, Int.reduceMod, Int.toNat_natCast, Nat.lt_irrefl, Int.natCast_add, Int.cast_ofNat_Int, px_mds_RX0_0, dec_X0_gather, hh]
        refine c_X0_bringF hh (by rw [hs4]; exact hn) (by omega) (by omega) h9 (fun L2 μ2 q1 q2 q3 => ?_) (fun μ2 q1 => ?_)
        · refine px_go (fun p => p == 7) 400 ?_
          simp only [px_lits, false_implies, true_implies, px_dec_ok, px_run_s, px_rules, px_rule_is, px_mats, px_calls, ↓reduceIte, eq_self, Bool.false_eq_true, px_flds, px_o_some, px_fvs, px_pfs, px_cts, px_cls, px_acs_, px_acn, true_and, and_true, true_or, or_true, false_or, or_false, and_self, not_true_eq_false, not_false_eq_true, Classical.not_not, Nat.reduceAdd, Nat.reduceSub, Nat.reduceBEq, Nat.reduceLT, Nat.reduceLeDiff, Nat.lt_add_one, px_tg, Int.cast_ofNat_Int, Int.reduceAdd, Int.reduceSub, Int.reduceMul, Int.reduceToNat, Int.reduceLE, Int.reduceLT, Int.reduceNeg, Int.reduceEq, Bool.or_false, Bool.false_or, Bool.or_true, Bool.true_or, List.length_cons, List.length_nil, List.nil_append, List.cons_append, Option.toList_some, Option.toList_none, reduceCtorEq, Option.some.injEq, Nat.zero_le, Nat.reduceMul, Nat.mul_zero, Nat.add_zero, Int.reduceDiv, Int.reduceMod, Int.toNat_natCast, Nat.lt_irrefl, Int.natCast_add, Int.cast_ofNat_Int, px_mds_RX0_0, dec_X0_gather, hh]
          rw [hll, hloc] at q1
          cases hT : pc_brF B.length (c :: B) 0 with
          | none => rw [hT] at q1; cases q1
          | some T =>
            rw [hT] at q1 hst
            simp only [Option.map_some, Option.some.injEq] at q1
            dsimp only at hst
            have hTl := (pc_brF_keep hT).1
            rw [List.length_cons] at hTl
            refine ih (i + -1) (last + -1) (T.take B.length) (T.drop B.length ++ R) μ2 (by omega) (by omega) (by omega) (by rw [show (i + -1 + 1).toNat = i.toNat by omega]; exact hst.symm) (by rw [List.length_take, hTl]; omega) (fun o ho => by rw [q2 o ho, h7 o ho]) ?_ ?_
            · rw [q3, ← q1, show (i + -1 + 1).toNat = i.toNat by omega]
              simp only [List.append_assoc]
              rw [← List.append_assoc (List.take B.length T), List.take_append_drop]
            · rw [q3]
              have hb2 : pc_brF B.length (pc_hl μ1 h) i.toNat = some L2 := by rw [hloc, hT, ← q1]; rfl
              exact (pc_brF_keep hb2).2.1 h9
        · rw [q] at q1
          cases q1
      · refine px_go (fun p => p == 7) 400 ?_
        simp only [px_lits, false_implies, true_implies, px_dec_ok, px_run_s, px_rules, px_rule_is, px_mats, px_calls, ↓reduceIte, eq_self, Bool.false_eq_true, px_flds, px_o_some, px_fvs, px_pfs, px_cts, px_cls, px_acs_, px_acn, true_and, and_true, true_or, or_true, false_or, or_false, and_self, not_true_eq_false, not_false_eq_true, Classical.not_not, Nat.reduceAdd, Nat.reduceSub, Nat.reduceBEq, Nat.reduceLT, Nat.reduceLeDiff, Nat.lt_add_one, px_tg, Int.cast_ofNat_Int, Int.reduceAdd, Int.reduceSub, Int.reduceMul, Int.reduceToNat, Int.reduceLE, Int.reduceLT, Int.reduceNeg, Int.reduceEq, Bool.or_false, Bool.false_or, Bool.or_true, Bool.true_or, List.length_cons, List.length_nil, List.nil_append, List.cons_append, Option.toList_some, Option.toList_none, reduceCtorEq, Option.some.injEq, Nat.zero_le, Nat.reduceMul, Nat.mul_zero, Nat.add_zero, Int.reduceDiv, Int.reduceMod, Int.toNat_natCast, Nat.lt_irrefl, Int.natCast_add, Int.cast_ofNat_Int, px_mds_RX0_0, dec_X0_gather, hh]
        rw [hll, hloc] at q
        have hT : pc_brF B.length (c :: B) 0 = none := by
          cases hT : pc_brF B.length (c :: B) 0 with
          | none => rfl
          | some T => rw [hT] at q; cases q
        rw [hT] at hst
        dsimp only at hst
        refine ih (i + -1) last (c :: B) R μ1 (by omega) (by omega) (by omega) (by rw [show (i + -1 + 1).toNat = i.toNat by omega]; exact hst.symm) (by rw [List.length_cons]; omega) h7 ?_ h9
        rw [h8a, show (i + -1 + 1).toNat = i.toNat by omega]
  obtain ⟨c, hc⟩ : ∃ c, (pc_hl μ h)[a.toNat]? = some c := ⟨_, List.getElem?_eq_getElem (by rw [hlen]; omega)⟩
  have hci := (List.getElem?_eq_some_iff.mp hc).1
  refine px_enter RX0 (by decide +kernel) rfl (by simp) (by simp [px_c1]) ?_
  simp only [List.map_cons, List.map_nil, List.length_cons, List.length_nil, List.replicate, List.append_nil, Nat.reduceAdd, Nat.reduceSub, List.cons_append, List.nil_append]
  refine px_go (fun p => p == 7) 400 ?_
  simp only [px_lits, false_implies, true_implies, px_dec_ok, px_run_s, px_rules, px_rule_is, px_mats, px_calls, ↓reduceIte, eq_self, Bool.false_eq_true, px_flds, px_o_some, px_fvs, px_pfs, px_cts, px_cls, px_acs_, px_acn, true_and, and_true, true_or, or_true, false_or, or_false, and_self, not_true_eq_false, not_false_eq_true, Classical.not_not, Nat.reduceAdd, Nat.reduceSub, Nat.reduceBEq, Nat.reduceLT, Nat.reduceLeDiff, Nat.lt_add_one, px_tg, Int.cast_ofNat_Int, Int.reduceAdd, Int.reduceSub, Int.reduceMul, Int.reduceToNat, Int.reduceLE, Int.reduceLT, Int.reduceNeg, Int.reduceEq, Bool.or_false, Bool.false_or, Bool.or_true, Bool.true_or, List.length_cons, List.length_nil, List.nil_append, List.cons_append, Option.toList_some, Option.toList_none, reduceCtorEq, Option.some.injEq, Nat.zero_le, Nat.reduceMul, Nat.mul_zero, Nat.add_zero, Int.reduceDiv, Int.reduceMod, Int.toNat_natCast, Nat.lt_irrefl, Int.natCast_add, Int.cast_ofNat_Int, px_mds_RX0_0, dec_X0_gather, hh]
  refine loop (a - f).toNat (a - 1) a [c] ((pc_hl μ h).drop (a.toNat + 1)) μ (by omega) (by omega) (by omega) ?_ (by simp) (fun _ _ => rfl) ?_ hv
  · rw [show (a - 1 + 1).toNat = a.toNat by omega]
    have : ((pc_hl μ h).take (a.toNat + 1)).drop a.toNat = [c] := by
      rw [List.take_add_one, hc, List.drop_append_of_le_length (by rw [List.length_take]; omega), List.drop_eq_nil_of_le (by rw [List.length_take]; omega)]
      rfl
    rw [this]
    rfl
  · rw [show (a - 1 + 1).toNat = a.toNat by omega]
    have := List.take_append_drop (a.toNat + 1) (pc_hl μ h)
    rw [List.take_add_one, hc] at this
    exact this.symm
theorem px_and_r (x y : Int) : -2147483648 ≤ px_and x y ∧ px_and x y < 2147483648 := ⟨Int32.le_toInt _, Int32.toInt_lt _⟩
theorem px_or_r (x y : Int) : -2147483648 ≤ px_or x y ∧ px_or x y < 2147483648 := ⟨Int32.le_toInt _, Int32.toInt_lt _⟩
/-- those of a set are brought to the front, in their order -/
def pc_fr (set : Int) : Nat → Nat → List pc_Ch → Nat → Option (List pc_Ch × Nat)
  | 0, _, L, f => some (L, f)
  | n + 1, i, L, f => match L[i]? with
    | none => none
    | some c => if px_and (px_shr set c.1) 1 = 1 then (pc_brB (i - f) L i).bind (fun L1 => pc_fr set n (i + 1) L1 (f + 1)) else pc_fr set n (i + 1) L f
theorem pc_fr_step {set : Int} {n i : Nat} {L : List pc_Ch} {f : Nat} {c : pc_Ch} (h : L[i]? = some c) : pc_fr set (n + 1) i L f = if px_and (px_shr set c.1) 1 = 1 then (pc_brB (i - f) L i).bind (fun L1 => pc_fr set n (i + 1) L1 (f + 1)) else pc_fr set n (i + 1) L f := by
  show (match L[i]? with
    | none => none
    | some c => if px_and (px_shr set c.1) 1 = 1 then (pc_brB (i - f) L i).bind (fun L1 => pc_fr set n (i + 1) L1 (f + 1)) else pc_fr set n (i + 1) L f) = _
  rw [h]
set_option maxHeartbeats 4000000 in
set_option maxRecDepth 100000 in
theorem c_X0_bringToFront {G : px_G} {h : Nat} {set : Int} {μ : px_Mem} {Q : Option px_X → px_Mem → Prop} (hh : px_kd h = 0) (hn : 0 ≤ μ h 4 ∧ μ h 4 ≤ 16) (hv : pc_V (pc_hl μ h))
    (h1 : ∀ (L1 : List pc_Ch) (f : Nat) (μ1 : px_Mem), pc_fr set (pc_hl μ h).length 0 (pc_hl μ h) 0 = some (L1, f) → (∀ o, (o < h + 1 ∨ h + 4 < o) → μ1 o = μ o) → pc_hl μ1 h = L1 → pc_V L1 → Q (some (.inl f)) μ1)
    (h0 : ∀ μ1 : px_Mem, pc_fr set (pc_hl μ h).length 0 (pc_hl μ h) 0 = none → (∀ o, (o < h + 1 ∨ h + 4 < o) → μ1 o = μ o) → Q (some (.inl (-1))) μ1) : px_C G yX0_bringToFront cX0_bringToFront 4 (some .int) 3 [.inr (.inl (some h)), .inl set] μ Q := by
  obtain ⟨hk, hl⟩ := pc_hk hh
  have hlen : (pc_hl μ h).length = (μ h 4).toNat := pc_hl_len
  have loop : ∀ (n i f : Nat) (μ1 : px_Mem), i + n = (μ h 4).toNat → f ≤ i → (∀ o, (o < h + 1 ∨ h + 4 < o) → μ1 o = μ o) → pc_V (pc_hl μ1 h) → pc_fr set (pc_hl μ h).length 0 (pc_hl μ h) 0 = pc_fr set n i (pc_hl μ1 h) f →
      px_J G RX0 cX0_bringToFront 4 (some .int) 3 4 [some (.inr (.inl (some h))), some (.inl set), some (.inl f), some (.inl i)] [] μ1 Q := by
    intro n
    induction n with
    | zero =>
      intro i f μ1 h2 h3 h4 h5 h6
      have hs4 : μ1 h 4 = μ h 4 := by rw [h4 h (by omega)]
      refine px_go (fun p => p == 4) 400 ?_
      simp only [px_lits, false_implies, true_implies, px_dec_ok, px_run_s, px_rules, px_rule_is, px_mats, px_calls, ↓reduceIte, eq_self, Bool.false_eq_true, px_flds, px_o_some, px_fvs, px_pfs, px_cts, px_cls, px_acs_, px_acn, true_and, and_true, true_or, or_true, false_or, or_false, and_self, not_true_eq_false, not_false_eq_true, Classical.not_not, Nat.reduceAdd, Nat.reduceSub, Nat.reduceBEq, Nat.reduceLT, Nat.reduceLeDiff, Nat.lt_add_one, px_tg, Int.cast_ofNat_Int, Int.reduceAdd, Int.reduceSub, Int.reduceMul, Int.reduceToNat, Int.reduceLE, Int.reduceLT, Int.reduceNeg, Int.reduceEq, Bool.or_false, Bool.false_or, Bool.or_true, Bool.true_or, List.length_cons, List.length_nil, List.nil_append, List.cons_append, Option.toList_some, Option.toList_none, reduceCtorEq, Option.some.injEq, Nat.zero_le, Nat.reduceMul, Nat.mul_zero, Nat.add_zero, Int.reduceDiv, Int.reduceMod, Int.toNat_natCast, Nat.lt_irrefl, Int.natCast_add, Int.cast_ofNat_Int, px_mds_RX0_0, dec_X0_bringToFront, hh, hk, hl]
      rw [hs4]
      simp (disch := omega) only [px_le_iff]
      exact ⟨fun _ => h1 _ f μ1 h6 h4 rfl h5, fun q => absurd (by omega) q⟩
    | succ n ih =>
      intro i f μ1 h2 h3 h4 h5 h6
      have hs4 : μ1 h 4 = μ h 4 := by rw [h4 h (by omega)]
      have hg := pc_hl_at (μ := μ1) (h := h) (i := i) (by omega) (by omega)
      rw [Int.toNat_natCast] at hg
      have hgi := (List.getElem?_eq_some_iff.mp hg).1
      rw [pc_fr_step hg] at h6
      have hr := px_and_r (px_shr set (μ1 (h + 1) i)) 1
      refine px_go (fun p => p == 4) 400 ?_
      simp only [px_lits, false_implies, true_implies, px_dec_ok, px_run_s, px_rules, px_rule_is, px_mats, px_calls, ↓reduceIte, eq_self, Bool.false_eq_true, px_flds, px_o_some, px_fvs, px_pfs, px_cts, px_cls, px_acs_, px_acn, true_and, and_true, true_or, or_true, false_or, or_false, and_self, not_true_eq_false, not_false_eq_true, Classical.not_not, Nat.reduceAdd, Nat.reduceSub, Nat.reduceBEq, Nat.reduceLT, Nat.reduceLeDiff, Nat.lt_add_one, px_tg, Int.cast_ofNat_Int, Int.reduceAdd, Int.reduceSub, Int.reduceMul, Int.reduceToNat, Int.reduceLE, Int.reduceLT, Int.reduceNeg, Int.reduceEq, Bool.or_false, Bool.false_or, Bool.or_true, Bool.true_or, List.length_cons, List.length_nil, List.nil_append, List.cons_append, Option.toList_some, Option.toList_none, reduceCtorEq, Option.some.injEq, Nat.zero_le, Nat.reduceMul, Nat.mul_zero, Nat.add_zero, Int.reduceDiv, Int.reduceMod, Int.toNat_natCast, Nat.lt_irrefl, Int.natCast_add, Int.cast_ofNat_Int, px_mds_RX0_0, dec_X0_bringToFront, hh, hk, hl]
      rw [hs4]
      simp (disch := omega) only [px_le_iff, px_eq_iff]
      refine ⟨fun q => by omega, fun _ => ⟨by omega, fun q => ?_, fun q => ?_⟩⟩
      · rw [if_neg q] at h6
        have := ih (i + 1) f μ1 (by omega) (by omega) h4 h5 h6
        rwa [Int.natCast_add] at this
      · rw [if_pos q] at h6
        refine c_X0_bringB hh (by rw [hs4]; exact hn) (by omega) (by omega) h5 (fun L1 μ2 q1 q2 q3 => ?_) (fun μ2 q1 q2 => ?_)
        · refine px_go (fun p => p == 4) 400 ?_
          simp only [px_lits, false_implies, true_implies, px_dec_ok, px_run_s, px_rules, px_rule_is, px_mats, px_calls, ↓reduceIte, eq_self, Bool.false_eq_true, px_flds, px_o_some, px_fvs, px_pfs, px_cts, px_cls, px_acs_, px_acn, true_and, and_true, true_or, or_true, false_or, or_false, and_self, not_true_eq_false, not_false_eq_true, Classical.not_not, Nat.reduceAdd, Nat.reduceSub, Nat.reduceBEq, Nat.reduceLT, Nat.reduceLeDiff, Nat.lt_add_one, px_tg, Int.cast_ofNat_Int, Int.reduceAdd, Int.reduceSub, Int.reduceMul, Int.reduceToNat, Int.reduceLE, Int.reduceLT, Int.reduceNeg, Int.reduceEq, Bool.or_false, Bool.false_or, Bool.or_true, Bool.true_or, List.length_cons, List.length_nil, List.nil_append, List.cons_append, Option.toList_some, Option.toList_none, reduceCtorEq, Option.some.injEq, Nat.zero_le, Nat.reduceMul, Nat.mul_zero, Nat.add_zero, Int.reduceDiv, Int.reduceMod, Int.toNat_natCast, Nat.lt_irrefl, Int.natCast_add, Int.cast_ofNat_Int, px_mds_RX0_0, dec_X0_bringToFront, hh, hk, hl]
          rw [show ((i : Int) - f).toNat = i - f by omega, Int.toNat_natCast] at q1
          rw [q1, Option.bind_some] at h6
          have := ih (i + 1) (f + 1) μ2 (by omega) (by omega) (fun o ho => by rw [q2 o ho, h4 o ho]) (by rw [q3]; exact (pc_brB_keep q1).2.1 h5) (by rw [q3]; exact h6)
          rwa [Int.natCast_add, Int.natCast_add] at this
        · refine px_go (fun p => p == 4) 400 ?_
          simp only [px_lits, false_implies, true_implies, px_dec_ok, px_run_s, px_rules, px_rule_is, px_mats, px_calls, ↓reduceIte, eq_self, Bool.false_eq_true, px_flds, px_o_some, px_fvs, px_pfs, px_cts, px_cls, px_acs_, px_acn, true_and, and_true, true_or, or_true, false_or, or_false, and_self, not_true_eq_false, not_false_eq_true, Classical.not_not, Nat.reduceAdd, Nat.reduceSub, Nat.reduceBEq, Nat.reduceLT, Nat.reduceLeDiff, Nat.lt_add_one, px_tg, Int.cast_ofNat_Int, Int.reduceAdd, Int.reduceSub, Int.reduceMul, Int.reduceToNat, Int.reduceLE, Int.reduceLT, Int.reduceNeg, Int.reduceEq, Bool.or_false, Bool.false_or, Bool.or_true, Bool.true_or, List.length_cons, List.length_nil, List.nil_append, List.cons_append, Option.toList_some, Option.toList_none, reduceCtorEq, Option.some.injEq, Nat.zero_le, Nat.reduceMul, Nat.mul_zero, Nat.add_zero, Int.reduceDiv, Int.reduceMod, Int.toNat_natCast, Nat.lt_irrefl, Int.natCast_add, Int.cast_ofNat_Int, px_mds_RX0_0, dec_X0_bringToFront, hh, hk, hl]
          rw [show ((i : Int) - f).toNat = i - f by omega, Int.toNat_natCast] at q1
          rw [q1] at h6
          exact h0 μ2 h6 (fun o ho => by rw [q2 o ho, h4 o ho])
  refine px_enter RX0 (by decide +kernel) rfl (by simp) (by simp [px_c1]) ?_
  simp only [List.map_cons, List.map_nil, List.length_cons, List.length_nil, List.replicate, List.append_nil, Nat.reduceAdd, Nat.reduceSub, List.cons_append, List.nil_append]
  refine px_go (fun p => p == 4) 400 ?_
  simp only [px_lits, false_implies, true_implies, px_dec_ok, px_run_s, px_rules, px_rule_is, px_mats, px_calls, ↓reduceIte, eq_self, Bool.false_eq_true, px_flds, px_o_some, px_fvs, px_pfs, px_cts, px_cls, px_acs_, px_acn, true_and, and_true, true_or, or_true, false_or, or_false, and_self, not_true_eq_false, not_false_eq_true, Classical.not_not, Nat.reduceAdd, Nat.reduceSub, Nat.reduceBEq, Nat.reduceLT, Nat.reduceLeDiff, Nat.lt_add_one, px_tg, Int.cast_ofNat_Int, Int.reduceAdd, Int.reduceSub, Int.reduceMul, Int.reduceToNat, Int.reduceLE, Int.reduceLT, Int.reduceNeg, Int.reduceEq, Bool.or_false, Bool.false_or, Bool.or_true, Bool.true_or, List.length_cons, List.length_nil, List.nil_append, List.cons_append, Option.toList_some, Option.toList_none, reduceCtorEq, Option.some.injEq, Nat.zero_le, Nat.reduceMul, Nat.mul_zero, Nat.add_zero, Int.reduceDiv, Int.reduceMod, Int.toNat_natCast, Nat.lt_irrefl, Int.natCast_add, Int.cast_ofNat_Int, px_mds_RX0_0, dec_X0_bringToFront, hh, hk, hl]
  exact loop (μ h 4).toNat 0 0 μ (by omega) (by omega) (fun _ _ => rfl) hv (by rw [hlen])
def pc_set (L : List pc_Ch) : Int := L.foldl (fun s c => px_or s (px_shl 1 c.1)) 0
set_option maxHeartbeats 4000000 in
set_option maxRecDepth 100000 in
theorem c_X0_asSet {G : px_G} {h : Nat} {μ : px_Mem} {Q : Option px_X → px_Mem → Prop} (hh : px_kd h = 0) (hn : 0 ≤ μ h 4 ∧ μ h 4 ≤ 16) (h1 : Q (some (.inl (pc_set (pc_hl μ h)))) μ) : px_C G yX0_asSet cX0_asSet 3 (some .int) 0 [.inr (.inl (some h))] μ Q := by
  obtain ⟨hk, hl⟩ := pc_hk hh
  have hlen : (pc_hl μ h).length = (μ h 4).toNat := pc_hl_len
  have loop : ∀ (n i : Nat) (s : Int), i + n = (μ h 4).toNat → s = pc_set ((pc_hl μ h).take i) → px_J G RX0 cX0_asSet 3 (some .int) 0 4 [some (.inr (.inl (some h))), some (.inl s), some (.inl i)] [] μ Q := by
    intro n
    induction n with
    | zero =>
      intro i s h2 h3
      refine px_go (fun p => p == 4) 400 ?_
      simp only [px_lits, false_implies, true_implies, px_dec_ok, px_run_s, px_rules, px_rule_is, px_mats, px_calls, ↓reduceIte, eq_self, Bool.false_eq_true, px_flds, px_o_some, px_fvs, px_pfs, px_cts, px_cls, px_acs_, px_acn, true_and, and_true, true_or, or_true, false_or, or_false, and_self, not_true_eq_false, not_false_eq_true, Classical.not_not, Nat.reduceAdd, Nat.reduceSub, Nat.reduceBEq, Nat.reduceLT, Nat.reduceLeDiff, Nat.lt_add_one, px_tg, Int.cast_ofNat_Int, Int.reduceAdd, Int.reduceSub, Int.reduceMul, Int.reduceToNat, Int.reduceLE, Int.reduceLT, Int.reduceNeg, Int.reduceEq, Bool.or_false, Bool.false_or, Bool.or_true, Bool.true_or, List.length_cons, List.length_nil, List.nil_append, List.cons_append, Option.toList_some, Option.toList_none, reduceCtorEq, Option.some.injEq, Nat.zero_le, Nat.reduceMul, Nat.mul_zero, Nat.add_zero, Int.reduceDiv, Int.reduceMod, Int.toNat_natCast, Nat.lt_irrefl, Int.natCast_add, Int.cast_ofNat_Int, px_mds_RX0_0, dec_X0_asSet, hh, hk, hl]
      simp (disch := omega) only [px_le_iff]
      refine ⟨fun _ => ?_, fun q => absurd (by omega) q⟩
      rw [h3, List.take_of_length_le (by omega)]
      exact h1
    | succ n ih =>
      intro i s h2 h3
      have hg := pc_hl_at (μ := μ) (h := h) (i := i) (by omega) (by omega)
      rw [Int.toNat_natCast] at hg
      refine px_go (fun p => p == 4) 400 ?_
      simp only [px_lits, false_implies, true_implies, px_dec_ok, px_run_s, px_rules, px_rule_is, px_mats, px_calls, ↓reduceIte, eq_self, Bool.false_eq_true, px_flds, px_o_some, px_fvs, px_pfs, px_cts, px_cls, px_acs_, px_acn, true_and, and_true, true_or, or_true, false_or, or_false, and_self, not_true_eq_false, not_false_eq_true, Classical.not_not, Nat.reduceAdd, Nat.reduceSub, Nat.reduceBEq, Nat.reduceLT, Nat.reduceLeDiff, Nat.lt_add_one, px_tg, Int.cast_ofNat_Int, Int.reduceAdd, Int.reduceSub, Int.reduceMul, Int.reduceToNat, Int.reduceLE, Int.reduceLT, Int.reduceNeg, Int.reduceEq, Bool.or_false, Bool.false_or, Bool.or_true, Bool.true_or, List.length_cons, List.length_nil, List.nil_append, List.cons_append, Option.toList_some, Option.toList_none, reduceCtorEq, Option.some.injEq, Nat.zero_le, Nat.reduceMul, Nat.mul_zero, Nat.add_zero, Int.reduceDiv, Int.reduceMod, Int.toNat_natCast, Nat.lt_irrefl, Int.natCast_add, Int.cast_ofNat_Int, px_mds_RX0_0, dec_X0_asSet, hh, hk, hl]
      simp (disch := omega) only [px_le_iff]
      refine ⟨fun q => by omega, fun _ => ⟨by omega, ?_⟩⟩
      have := ih (i + 1) (px_or s (px_shl 1 (μ (h + 1) i))) (by omega) (by
        unfold pc_set
        rw [List.take_add_one, hg, List.foldl_append, h3]
        rfl)
      rwa [Int.natCast_add] at this
  refine px_enter RX0 (by decide +kernel) rfl (by simp) (by simp [px_c1]) ?_
  simp only [List.map_cons, List.map_nil, List.length_cons, List.length_nil, List.replicate, List.append_nil, Nat.reduceAdd, Nat.reduceSub, List.cons_append, List.nil_append]
  refine px_go (fun p => p == 4) 400 ?_
  simp only [px_lits, false_implies, true_implies, px_dec_ok, px_run_s, px_rules, px_rule_is, px_mats, px_calls, ↓reduceIte, eq_self, Bool.false_eq_true, px_flds, px_o_some, px_fvs, px_pfs, px_cts, px_cls, px_acs_, px_acn, true_and, and_true, true_or, or_true, false_or, or_false, and_self, not_true_eq_false, not_false_eq_true, Classical.not_not, Nat.reduceAdd, Nat.reduceSub, Nat.reduceBEq, Nat.reduceLT, Nat.reduceLeDiff, Nat.lt_add_one, px_tg, Int.cast_ofNat_Int, Int.reduceAdd, Int.reduceSub, Int.reduceMul, Int.reduceToNat, Int.reduceLE, Int.reduceLT, Int.reduceNeg, Int.reduceEq, Bool.or_false, Bool.false_or, Bool.or_true, Bool.true_or, List.length_cons, List.length_nil, List.nil_append, List.cons_append, Option.toList_some, Option.toList_none, reduceCtorEq, Option.some.injEq, Nat.zero_le, Nat.reduceMul, Nat.mul_zero, Nat.add_zero, Int.reduceDiv, Int.reduceMod, Int.toNat_natCast, Nat.lt_irrefl, Int.natCast_add, Int.cast_ofNat_Int, px_mds_RX0_0, dec_X0_asSet, hh, hk, hl]
  exact loop (μ h 4).toNat 0 0 (by omega) rfl
set_option maxHeartbeats 4000000 in
set_option maxRecDepth 100000 in
theorem c_X0_add {G : px_G} {h : Nat} {a b c d : Int} {μ : px_Mem} {Q : Option px_X → px_Mem → Prop} (hh : px_kd h = 0) (hn : 0 ≤ μ h 4 ∧ μ h 4 < 16)
    (h1 : ∀ μ1 : px_Mem, (∀ o, (o < h ∨ h + 4 < o) → μ1 o = μ o) → μ1 h 4 = μ h 4 + 1 → pc_hl μ1 h = pc_hl μ h ++ [(a, b, c, d)] → Q none μ1) : px_C G yX0_add cX0_add 5 none 0 [.inr (.inl (some h)), .inl a, .inl b, .inl c, .inl d] μ Q := by
  obtain ⟨hk, hl⟩ := pc_hk hh
  refine px_enter RX0 (by decide +kernel) rfl (by simp) (by simp [px_c1]) ?_
  simp only [List.map_cons, List.map_nil, List.length_cons, List.length_nil, List.replicate, List.append_nil, Nat.reduceAdd, Nat.reduceSub, List.cons_append, List.nil_append]
  refine px_go (fun _ => false) 400 ?_
  simp only [px_lits, false_implies, true_implies, px_dec_ok, px_run_s, px_rules, px_rule_is, px_mats, px_calls, ↓reduceIte, eq_self, Bool.false_eq_true, px_flds, px_o_some, px_fvs, px_pfs, px_cts, px_cls, px_acs_, px_acn, true_and, and_true, true_or, or_true, false_or, or_false, and_self, not_true_eq_false, not_false_eq_true, Classical.not_not, Nat.reduceAdd, Nat.reduceSub, Nat.reduceBEq, Nat.reduceLT, Nat.reduceLeDiff, Nat.lt_add_one, px_tg, Int.cast_ofNat_Int, Int.reduceAdd, Int.reduceSub, Int.reduceMul, Int.reduceToNat, Int.reduceLE, Int.reduceLT, Int.reduceNeg, Int.reduceEq, Bool.or_false, Bool.false_or, Bool.or_true, Bool.true_or, List.length_cons, List.length_nil, List.nil_append, List.cons_append, Option.toList_some, Option.toList_none, reduceCtorEq, Option.some.injEq, Nat.zero_le, Nat.reduceMul, Nat.mul_zero, Nat.add_zero, Int.reduceDiv, Int.reduceMod, Int.toNat_natCast, Nat.lt_irrefl, Int.natCast_add, Int.cast_ofNat_Int, px_mds_RX0_0, dec_X0_add, hh, hk, hl]
  simp (disch := omega) only [px_lt_iff, px_up_o]
  refine ⟨fun _ => ?_, fun q => absurd hn.2 q⟩
  repeat refine ⟨by omega, ?_⟩
  refine h1 _ (fun o ho => ?_) ?_ ?_
  · simp (disch := omega) only [px_up_o]
  · simp (disch := omega) only [px_up_o, px_up_eq]
  · apply List.ext_getElem?
    intro n
    rw [List.getElem?_append, pc_hl_get, pc_hl_get, pc_hl_len]
    simp (disch := omega) only [px_up_o, px_up_eq]
    by_cases c1 : n < (μ h 4).toNat
    · rw [if_pos (by omega), if_pos c1, if_pos c1]
      simp (disch := omega) only [px_up_o, px_up_eq, px_up_ne]
    · rw [if_neg c1]
      by_cases c2 : n = (μ h 4).toNat
      · rw [if_pos (by omega), c2, Nat.sub_self]
        simp (disch := omega) only [px_up_o, px_up_eq, px_up_ne]
        rfl
      · rw [if_neg (by omega), List.getElem?_eq_none (by simp; omega)]
theorem px_cp_in {μ : px_Mem} {a : Nat} {sp : Int} {c : Nat} {dp n i : Int} (h : dp ≤ i ∧ i < dp + n) : px_cp μ a sp c dp n c i = μ a (sp + (i - dp)) := by
  unfold px_cp
  rw [if_pos ⟨rfl, h⟩]
theorem px_cp_out {μ : px_Mem} {a : Nat} {sp : Int} {c : Nat} {dp n i : Int} (h : ¬ (dp ≤ i ∧ i < dp + n)) : px_cp μ a sp c dp n c i = μ c i := by
  unfold px_cp
  rw [if_neg (fun q => h q.2)]
theorem pc_hh {g h : Nat} (hg : px_kd g = 0) (hh : px_kd h = 0) : g = h ∨ g + 5 ≤ h ∨ h + 5 ≤ g := by
  obtain ⟨⟨a1, a2, a3, a4⟩, -⟩ := pc_hk hg
  obtain ⟨⟨b1, b2, b3, b4⟩, -⟩ := pc_hk hh
  by_cases e : g = h
  · exact Or.inl e
  · refine Or.inr ?_
    rcases Nat.lt_or_ge g h with q | q
    · refine Or.inl ?_
      rcases (show h = g + 1 ∨ h = g + 2 ∨ h = g + 3 ∨ h = g + 4 ∨ g + 5 ≤ h by omega) with rfl | rfl | rfl | rfl | q
      · omega
      · omega
      · omega
      · omega
      · exact q
    · refine Or.inr ?_
      rcases (show g = h + 1 ∨ g = h + 2 ∨ g = h + 3 ∨ g = h + 4 ∨ h + 5 ≤ g by omega) with rfl | rfl | rfl | rfl | q
      · omega
      · omega
      · omega
      · omega
      · exact q
set_option maxHeartbeats 4000000 in
set_option maxRecDepth 100000 in
theorem c_X0_copyFrom {G : px_G} {h g : Nat} {μ : px_Mem} {Q : Option px_X → px_Mem → Prop} (hh : px_kd h = 0) (hg : px_kd g = 0) (hne : g ≠ h) (hn : 0 ≤ μ g 4 ∧ μ g 4 ≤ 16)
    (h1 : ∀ μ1 : px_Mem, (∀ o, (o < h ∨ h + 4 < o) → μ1 o = μ o) → μ1 h 4 = μ g 4 → pc_hl μ1 h = pc_hl μ g → Q none μ1) : px_C G yX0_copyFrom cX0_copyFrom 2 none 1 [.inr (.inl (some h)), .inr (.inl (some g))] μ Q := by
  obtain ⟨hk, hl⟩ := pc_hk hh
  obtain ⟨gk, gl⟩ := pc_hk hg
  have hd := pc_hh hg hh
  refine px_enter RX0 (by decide +kernel) rfl (by simp) (by simp [px_c1]) ?_
  simp only [List.map_cons, List.map_nil, List.length_cons, List.length_nil, List.replicate, List.append_nil, Nat.reduceAdd, Nat.reduceSub, List.cons_append, List.nil_append]
  refine px_go (fun _ => false) 400 ?_
  simp only [px_lits, false_implies, true_implies, px_dec_ok, px_run_s, px_rules, px_rule_is, px_mats, px_calls, ↓reduceIte, eq_self, Bool.false_eq_true, px_flds, px_o_some, px_fvs, px_pfs, px_cts, px_cls, px_acs_, px_acn, true_and, and_true, true_or, or_true, false_or, or_false, and_self, not_true_eq_false, not_false_eq_true, Classical.not_not, Nat.reduceAdd, Nat.reduceSub, Nat.reduceBEq, Nat.reduceLT, Nat.reduceLeDiff, Nat.lt_add_one, px_tg, Int.cast_ofNat_Int, Int.reduceAdd, Int.reduceSub, Int.reduceMul, Int.reduceToNat, Int.reduceLE, Int.reduceLT, Int.reduceNeg, Int.reduceEq, Bool.or_false, Bool.false_or, Bool.or_true, Bool.true_or, List.length_cons, List.length_nil, List.nil_append, List.cons_append, Option.toList_some, Option.toList_none, reduceCtorEq, Option.some.injEq, Nat.zero_le, Nat.reduceMul, Nat.mul_zero, Nat.add_zero, Int.reduceDiv, Int.reduceMod, Int.toNat_natCast, Nat.lt_irrefl, Int.natCast_add, Int.cast_ofNat_Int, px_mds_RX0_0, dec_X0_copyFrom, hh, hk, hl, hg, gk, gl]
  simp (disch := omega) only [px_cp_o]
  repeat refine ⟨by omega, ?_⟩
  refine h1 _ (fun o ho => ?_) ?_ ?_
  · simp (disch := omega) only [px_up_o, px_cp_o]
  · simp (disch := omega) only [px_up_o, px_up_eq, px_cp_o]
  · refine pc_hl_congr ?_ (fun i i0 i1 => ?_)
    · simp (disch := omega) only [px_up_o, px_up_eq, px_cp_o]
    · simp (disch := omega) only [px_up_o, px_up_eq, px_cp_o, px_cp_in]
      rw [show (0 : Int) + (i - 0) = i by omega]
      exact ⟨rfl, rfl, rfl, rfl⟩
