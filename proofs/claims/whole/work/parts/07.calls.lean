/-! ===== calls ===== -/
theorem px_md_ok {own : String} {idx : Nat} {q : MethodName × ByteArray × Nat × Option FieldType × Nat × Nat × Bool × Nat} (h : px_md own idx = some q) :
    (Cond.methodLink own idx q.1 ∈ px_ws ∨ Cond.methodLinkNest own idx q.1 "PatchHouse" ∈ lw_tbl) ∧ Cond.code q.1 q.2.1 q.2.2.1 q.2.2.2.1 ∈ px_ws ∧ (if q.2.2.2.2.2.2.1 then Cond.static q.1 else Cond.instanceMethod q.1) ∈ px_ws ∧
    (q.2.2.2.2.2.2.1 = false → Cond.selects q.1.cls q.1 q.1 ∈ px_ws ∧ ∃ (T : u_T) (N : Nat), vwCl[q.2.2.2.2.2.2.2]? = some (q.1.cls, T, N)) ∧ Cond.initialized q.1.cls ∈ px_ws ∧ (parseMethodDescriptor q.1.desc).map (fun d => d.parameters.length) = some q.2.2.2.2.2.1 ∧
    q.1.cls ≠ "java/lang/invoke/MethodHandle" ∧ q.1.cls ≠ "java/lang/invoke/VarHandle" ∧ q.2.2.1 ≤ 18 := by
  obtain ⟨⟨⟨o, i⟩, q', b, ps⟩, h1, h2, h3⟩ := px_find h
  have h4 := List.all_eq_true.mp px_M_ok _ h1
  simp only [Bool.and_eq_true, beq_iff_eq] at h2
  obtain ⟨rfl, rfl⟩ := h2
  dsimp only at h3
  subst h3
  obtain ⟨y, cc, nL, ret, d, na, s, ci⟩ := q'
  simp only [px_Mok, Bool.and_eq_true, decide_eq_true_eq, Bool.or_eq_true] at h4
  obtain ⟨⟨⟨⟨⟨⟨⟨⟨⟨⟨h5, h6⟩, h7⟩, h8⟩, h9⟩, h10⟩, h11⟩, h12⟩, h13⟩, h14⟩, h15⟩ := h4
  refine ⟨?_, px_ws_at _ h6 h14, px_ws_at _ h7 (by cases s <;> rfl), fun hs => ?_, px_ws_at _ h9 rfl, h10, h11, h12, h13⟩
  · unfold px_Mw at h5
    cases b
    · exact Or.inl (px_ws_at _ h5 rfl)
    · exact Or.inr (List.mem_of_getElem? h5)
  · dsimp only at hs
    subst hs
    refine ⟨px_ws_at _ (h8.resolve_left (by decide)) rfl, ?_⟩
    have h16 := h15.resolve_left (by decide)
    cases hv : vwCl[ci]? with
    | none => rw [hv] at h16; cases h16
    | some r =>
      rw [hv] at h16
      obtain ⟨C, T, N⟩ := r
      simp only [Option.map_some, Option.some.injEq] at h16
      subst h16
      exact ⟨T, N, rfl⟩
theorem px_blind {G : px_G} {av : List px_X} {μ : px_Mem} : FrameBlind (px_Pc G av μ) := fun a U g mk h => ⟨h.1, h.2.1, px_K.same (s := U) (U := U.calling g mk a) rfl h.2.2.1, h.2.2.2⟩
theorem px_cats (b : Nat) (l : List px_X) : ((l.map (px_v b)).map fun v => v.category).sum ≤ 2 * l.length := by
  induction l with
  | nil => exact Nat.le_refl _
  | cons a r ih =>
    have := lv_cat (px_v b a)
    simp only [List.map_cons, List.sum_cons, List.length_cons]
    omega
section PXC
variable {G : px_G} {own : String} {cc : ByteArray} {nL d pc : Nat} {ret : Option FieldType} {lv : List (Option px_X)} {st : List px_X} {μ : px_Mem} {Q : Option px_X → px_Mem → Prop}
theorem px_cont {p : Program} {e : Env} {R : Room} {s : State} {m : MethodId} {args : Array Value} {below : List Frame} {meth : Method} {c : Code} {H : Heap} {locs : List Loc} {Qf : State → Prop} {ls : Array Slot} {st0 rest : List Value} {a : Array Value} {Q' : Option px_X → px_Mem → Prop}
    (hr : va_Run p G.1 e R s m args below meth c H locs 0 0 0 0 (F0 m pc ls st0) rest (px_Qc G Q' a) (fun q : Nat => G.2.2.2 ≤ q)) (hS : va_S (fun q : Nat => G.2.2.2 ≤ q) s.heap H locs)
    (kk : ∀ (r : Option px_X) (μ' : px_Mem) (H1 : Heap) (locs1 : List Loc), Q' r μ' → va_P G.2.1 vwCl (px_w G μ') H1 → va_S (fun q : Nat => G.2.2.2 ≤ q) s.heap H1 locs1 → W p G.1 e R s m args below meth c H1 locs1 0 0 Qf (F0 m (pc + 3) ls ((r.map (px_v G.2.2.2)).toList ++ rest))) : W p G.1 e R s m args below meth c H locs 0 0 Qf (F0 m pc ls st0) := by
  intro T hT X
  obtain ⟨v, st₀, t, T', L, h0, X', hL, e1, e2, ⟨⟨r, μ', hv, hq, hP⟩, hz, hk⟩, st⟩ := hr T hT X
  cases hv
  rw [h0] at hz hk
  obtain ⟨t2, a1, b1⟩ := kk r μ' T'.heap (locs ++ L) hq (by rw [e1]; exact hP)
    ⟨Nat.le_trans hS.1 (by rw [e1]; exact hz), fun q h1 h2 => by rw [e1, hk q (Nat.lt_of_lt_of_le h1 hS.1) h2]; exact hS.2.1 q h1 h2, fun q hq => by
      rcases List.mem_append.mp hq with h | h
      · exact hS.2.2 q h
      · exact hL q h⟩ T' rfl X'
  exact ⟨t2, st t2 a1, b1⟩
theorem px_callS {idx : Nat} {y : MethodName} {cc' : ByteArray} {nL' d' na ci : Nat} {ret' : Option FieldType} {as : List px_X} (hd : decode cc pc = .ok (.invokestatic idx, 3)) (hm : px_md own idx = some (y, cc', nL', ret', d', na, true, ci)) (hdd : d' < d) (hna : as.length = na) (hst : st.length ≤ 4)
    (k : px_C G y cc' nL' ret' d' as μ (fun r μ' => px_J G own cc nL ret d (pc + 3) lv (r.toList ++ st) μ' Q)) : px_J G own cc nL ret d pc lv (as.reverse ++ st) μ Q := by
  intro p e s m args below meth c C H locs hP hS ls hl
  obtain ⟨hlink, hcode, hstat, -, hini, hdesc, hn1, hn2, hL⟩ := px_md_ok hm
  dsimp only at hlink hcode hstat hini hdesc hn1 hn2 hL
  rw [if_pos rfl] at hstat
  have hts := C.2.2.2.2.2.2.1
  have hG : GoodIn px_ws (Cond.code y cc' nL' ret' :: px_ws) := fun w h => by
    rcases List.mem_cons.mp h with rfl | h
    · exact px_ws_good _ hcode
    · exact px_ws_good _ h
  have hpre : PreS s H (px_Pc G as μ) (as.map (px_v G.2.2.2)) := ⟨px_blind, fun U hU hW => ⟨rfl, by rw [hU]; exact hP, C.2.2.2.2.2.2.2.1.warm hW, by rw [hU]; exact Nat.le_trans C.2.2.2.2.2.2.2.2 hS.1⟩⟩
  have hcat := px_cats G.2.2.2 st
  have hst1 : (F0 m pc ls ((as.reverse ++ st).map (px_v G.2.2.2))).stack = (as.map (px_v G.2.2.2)).reverse ++ st.map (px_v G.2.2.2) := by
    show (as.reverse ++ st).map (px_v G.2.2.2) = _
    rw [List.map_append, List.map_reverse]
  have hfin : ∀ (r : Option px_X) (μ' : px_Mem) (H1 : Heap) (locs1 : List Loc), px_J G own cc nL ret d (pc + 3) lv (r.toList ++ st) μ' Q → va_P G.2.1 vwCl (px_w G μ') H1 → va_S (fun q : Nat => G.2.2.2 ≤ q) s.heap H1 locs1 → W p G.1 e (px_room d) s m args below meth c H1 locs1 0 0 (MQ below (px_Qc G Q) args s 0 0 (fun q : Nat => G.2.2.2 ≤ q)) (F0 m (pc + 3) ls ((r.map (px_v G.2.2.2)).toList ++ st.map (px_v G.2.2.2))) := by
    intro r μ' H1 locs1 h1 h2 h3
    have h4 := h1 p e s m args below meth c C H1 locs1 h2 h3 ls hl
    rw [List.map_append] at h4
    cases r with
    | none => exact h4
    | some v => exact h4
  have hroom : (px_room d').frames + 1 ≤ (px_room d).frames ∧ 8 + (nL' + 11) + (px_room d').locals ≤ (px_room d).locals := ⟨hdd, by show 8 + (nL' + 11) + 37 * d' ≤ 37 * d; omega⟩
  rcases hlink with hlink | hlink
  · refine px_cont (va_runS (nL := nL) ⟨C.1, C.2.1, C.2.2.1, C.2.2.2.2.2.1, hts⟩ k ⟨callB_of na hts hG rfl rfl rfl (hts _ hini) (hts _ hlink) ⟨hn1, hn2, hdesc⟩ hroom, hts _ hstat⟩ hpre rfl (by rw [List.length_map]; exact hna) hl.1.1 hst1 (lv_room (by omega)) hd ⟨Nat.le_refl _, Nat.le_refl _⟩) hS hfin
  · refine px_cont (va_runSN (nL := nL) ⟨C.1, C.2.1, C.2.2.1, C.2.2.2.2.2.1, hts⟩ k ⟨va_cnB na hts hG rfl rfl rfl (C.2.2.2.2.2.2.2.1.2.2 _ hlink rfl) (hts _ hini) ⟨hn1, hn2, hdesc⟩ hroom, hts _ hstat, trivial⟩ hpre rfl (by rw [List.length_map]; exact hna) hl.1.1 hst1 (lv_room (by omega)) hd ⟨Nat.le_refl _, Nat.le_refl _⟩) hS hfin
theorem px_callV {idx : Nat} {y : MethodName} {cc' : ByteArray} {nL' d' na ci o : Nat} {ret' : Option FieldType} {as : List px_X} (hd : decode cc pc = .ok (.invokevirtual idx, 3)) (hm : px_md own idx = some (y, cc', nL', ret', d', na, false, ci)) (hdd : d' < d) (hna : as.length = na) (ho : px_kd o = ci) (hst : st.length ≤ 4)
    (k : px_C G y cc' nL' ret' d' (.inr (.inl (some o)) :: as) μ (fun r μ' => px_J G own cc nL ret d (pc + 3) lv (r.toList ++ st) μ' Q)) : px_J G own cc nL ret d pc lv (as.reverse ++ .inr (.inl (some o)) :: st) μ Q := by
  intro p e s m args below meth c C H locs hP hS ls hl
  obtain ⟨hlink, hcode, hstat, hsel, hini, hdesc, hn1, hn2, hL⟩ := px_md_ok hm
  dsimp only at hlink hcode hstat hini hdesc hn1 hn2 hL hsel
  rw [if_neg (by decide)] at hstat
  obtain ⟨hsel, T, N, hcl⟩ := hsel rfl
  have hts := C.2.2.2.2.2.2.1
  have hG : GoodIn px_ws (Cond.code y cc' nL' ret' :: px_ws) := fun w h => by
    rcases List.mem_cons.mp h with rfl | h
    · exact px_ws_good _ hcode
    · exact px_ws_good _ h
  have hpre : PreV s H y.cls (G.2.2.2 + o) (px_Pc G (.inr (.inl (some o)) :: as) μ) (as.map (px_v G.2.2.2)) := ⟨px_blind, px_recv C.2.2.2.2.2.2.2.1 hP hcl ho, fun U hU hW => ⟨rfl, by rw [hU]; exact hP, C.2.2.2.2.2.2.2.1.warm hW, by rw [hU]; exact Nat.le_trans C.2.2.2.2.2.2.2.2 hS.1⟩⟩
  have hcat := px_cats G.2.2.2 st
  have hst1 : (F0 m pc ls ((as.reverse ++ .inr (.inl (some o)) :: st).map (px_v G.2.2.2))).stack = (as.map (px_v G.2.2.2)).reverse ++ .ref (G.2.2.2 + o) :: st.map (px_v G.2.2.2) := by
    show (as.reverse ++ .inr (.inl (some o)) :: st).map (px_v G.2.2.2) = _
    rw [List.map_append, List.map_reverse]
    rfl
  have hfin : ∀ (r : Option px_X) (μ' : px_Mem) (H1 : Heap) (locs1 : List Loc), px_J G own cc nL ret d (pc + 3) lv (r.toList ++ st) μ' Q → va_P G.2.1 vwCl (px_w G μ') H1 → va_S (fun q : Nat => G.2.2.2 ≤ q) s.heap H1 locs1 → W p G.1 e (px_room d) s m args below meth c H1 locs1 0 0 (MQ below (px_Qc G Q) args s 0 0 (fun q : Nat => G.2.2.2 ≤ q)) (F0 m (pc + 3) ls ((r.map (px_v G.2.2.2)).toList ++ st.map (px_v G.2.2.2))) := by
    intro r μ' H1 locs1 h1 h2 h3
    have h4 := h1 p e s m args below meth c C H1 locs1 h2 h3 ls hl
    rw [List.map_append] at h4
    cases r with
    | none => exact h4
    | some v => exact h4
  have hroom : (px_room d').frames + 1 ≤ (px_room d).frames ∧ 8 + (nL' + 11) + (px_room d').locals ≤ (px_room d).locals := ⟨hdd, by show 8 + (nL' + 11) + 37 * d' ≤ 37 * d; omega⟩
  rcases hlink with hlink | hlink
  · refine px_cont (va_runV (nL := nL) (C := y.cls) ⟨C.1, C.2.1, C.2.2.1, C.2.2.2.2.2.1, hts⟩ k ⟨callB_of na hts hG rfl rfl rfl (hts _ hini) (hts _ hlink) ⟨hn1, hn2, hdesc⟩ hroom, hts _ hstat, hts _ hsel⟩ hpre rfl (by rw [List.length_map]; exact hna) hl.1.1 hst1 (lv_room (by omega)) hd ⟨Nat.le_refl _, Nat.le_refl _⟩) hS hfin
  · refine px_cont (va_runVN (nL := nL) (C := y.cls) ⟨C.1, C.2.1, C.2.2.1, C.2.2.2.2.2.1, hts⟩ k ⟨va_cnB na hts hG rfl rfl rfl (C.2.2.2.2.2.2.2.1.2.2 _ hlink rfl) (hts _ hini) ⟨hn1, hn2, hdesc⟩ hroom, hts _ hstat, hts _ hsel⟩ hpre rfl (by rw [List.length_map]; exact hna) hl.1.1 hst1 (lv_room (by omega)) hd ⟨Nat.le_refl _, Nat.le_refl _⟩) hS hfin
theorem px_min {x y : Int} (hown : own = RX5) (hd : decode cc pc = .ok (.invokestatic 29, 3)) (hd1 : 1 ≤ d) (hr : -2147483648 ≤ x ∧ x < 2147483648 ∧ -2147483648 ≤ y ∧ y < 2147483648) (hst : st.length ≤ 4) (k : px_J G own cc nL ret d (pc + 3) lv (.inl (if y < x then y else x) :: st) μ Q) : px_J G own cc nL ret d pc lv (.inl y :: .inl x :: st) μ Q := by
  intro p e s m args below meth c C H locs hP hS ls hl
  subst hown
  have hk := k p e s m args below meth c C H locs hP hS ls hl
  have hcat := px_cats G.2.2.2 st
  have hts := C.2.2.2.2.2.2.1
  refine va_mmin C.1 C.2.1 (by rw [C.2.2.1, hl.1.1]) C.2.2.2.2.2.1 (hts _ (px_ws_at _ px_mi_words.1 rfl)) (hts _ (px_ws_at _ px_mi_words.2.1 rfl)) (hts _ (px_ws_at _ px_mi_words.2.2.1 rfl)) (hts _ (px_ws_at _ px_mi_words.2.2.2 (by decide +kernel))) hd1 (by show _ + 13 ≤ 37 * d; omega) (Nat.le_refl _) (Nat.le_refl _) hd ?_
  have e1 : (if Int32.ofInt y < Int32.ofInt x then Int32.ofInt y else Int32.ofInt x) = Int32.ofInt (if y < x then y else x) := by
    have := px_lt_iff (x := y) (y := x) ⟨hr.2.2.1, hr.2.2.2, hr.1, hr.2.1⟩
    unfold px_lt at this
    by_cases h : y < x
    · rw [if_pos h, if_pos (this.mpr h)]
    · rw [if_neg h, if_neg (fun q => h (this.mp q))]
  rw [e1]
  exact hk
/-- a switch: the cases one by one -/
def px_tsw (x : Int) (f : Int → Prop) (dflt : Int) : Int → List Int → Prop
  | _, [] => f dflt
  | v, o :: os => (px_eq x v → f o) ∧ (¬ px_eq x v → px_tsw x f dflt (v + 1) os)
theorem px_tsw_in {x : Int} {f : Int → Prop} {dflt : Int} : ∀ (os : List Int) (v : Int), px_tsw x f dflt v os → -2147483648 ≤ v → v + os.length ≤ 2147483648 → ∀ (j : Nat) (o : Int), os[j]? = some o → (Int32.ofInt x).toInt = v + j → f o
  | [], v, h, h1, h2, j, o, hj, hx => by cases hj
  | a :: os, v, h, h1, h2, j, o, hj, hx => by
    have hl : (((a :: os).length : Nat) : Int) = os.length + 1 := by simp
    cases j with
    | zero =>
      cases hj
      refine h.1 ?_
      unfold px_eq
      apply Int32.toInt_inj.mp
      rw [hx, px_toInt h1 (by omega)]
      simp
    | succ j =>
      have hne : ¬ px_eq x v := by
        intro e
        unfold px_eq at e
        rw [e, px_toInt h1 (by omega)] at hx
        omega
      have hj2 : os[j]? = some o := hj
      have hjl : j < os.length := (List.getElem?_eq_some_iff.mp hj2).1
      exact px_tsw_in os (v + 1) (h.2 hne) (by omega) (by omega) j o hj2 (by rw [hx]; omega)
theorem px_tsw_out {x : Int} {f : Int → Prop} {dflt : Int} : ∀ (os : List Int) (v : Int), px_tsw x f dflt v os → -2147483648 ≤ v → v + os.length ≤ 2147483648 → ((Int32.ofInt x).toInt < v ∨ v + os.length ≤ (Int32.ofInt x).toInt) → f dflt
  | [], v, h, h1, h2, hx => h
  | a :: os, v, h, h1, h2, hx => by
    have hl : (((a :: os).length : Nat) : Int) = os.length + 1 := by simp
    have hne : ¬ px_eq x v := by
      intro e
      unfold px_eq at e
      rw [e, px_toInt h1 (by omega)] at hx
      omega
    exact px_tsw_out os (v + 1) (h.2 hne) (by omega) (by omega) (by omega)
theorem px_switch {x dflt lo hi : Int} {offs : Array Int} {len : Nat} (hd : decode cc pc = .ok (.tableswitch dflt lo hi offs, len)) (h1 : -2147483648 ≤ lo ∧ hi + 1 ≤ 2147483648 ∧ lo + offs.toList.length = hi + 1) (k : px_tsw x (fun o => 0 ≤ (pc : Int) + o ∧ px_J G own cc nL ret d (px_tg pc o) lv st μ Q) dflt lo offs.toList) : px_J G own cc nL ret d pc lv (.inl x :: st) μ Q := by
  intro p e s m args below meth c C H locs hP hS ls hl
  by_cases hx : (Int32.ofInt x).toInt < lo ∨ hi < (Int32.ofInt x).toInt
  · obtain ⟨ht, hk⟩ := px_tsw_out _ _ k h1.1 (by omega) (by omega)
    exact lv_tableOut C.1 C.2.1 hd hx (Int.toNat_of_nonneg ht).symm (hk p e s m args below meth c C H locs hP hS ls hl)
  · have hj : ((Int32.ofInt x).toInt - lo).toNat < offs.toList.length := by omega
    obtain ⟨o, ho⟩ : ∃ o, offs.toList[((Int32.ofInt x).toInt - lo).toNat]? = some o := ⟨_, List.getElem?_eq_getElem hj⟩
    obtain ⟨ht, hk⟩ := px_tsw_in _ _ k h1.1 (by omega) _ o ho (by omega)
    exact lv_tableIn C.1 C.2.1 hd (fun h => hx (Or.inl h)) (fun h => hx (Or.inr h)) (by rw [← Array.getElem?_toList]; exact ho) (Int.toNat_of_nonneg ht).symm (hk p e s m args below meth c C H locs hP hS ls hl)
end PXC
