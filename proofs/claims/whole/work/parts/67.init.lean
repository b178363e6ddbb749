/-! ===== the state behind the two constructors ===== -/
def pa_A0 : pa_A := pa_mk [] 0 (([], -1, -1), ([], -1, -1)) [] (fun _ => none) (fun _ => none)
theorem pa_I0 : pa_I pa_A0 := by
  have h0 : pa_ok ([] : List Int) 0 ([] : List pc_Ch) := ⟨by simp, ⟨[], rfl⟩, fun c hc => (by cases hc), by simp⟩
  refine ⟨⟨by show ([] : List Int).length ≤ 12; simp, fun x hx => (by cases hx)⟩, ⟨Int.le_refl _, by show (0 : Int) ≤ 24; omega⟩, ⟨h0, h0⟩, ⟨fun s hs => (by cases hs), by show ([] : List pc_HS).length ≤ 8; simp⟩, fun i s h => (by cases h), fun i c h => (by cases h), fun i T h => (by cases h)⟩
theorem pn_hl0 {μ : px_Mem} {h : Nat} (e : μ h 4 = 0) : pc_hl μ h = [] := by
  unfold pc_hl
  rw [e]
  rfl
theorem pn_tx0 {μ : px_Mem} {w : Nat} (e : μ w 1 = 0) : pc_tx μ w = [] := by
  unfold pc_tx
  rw [e]
  rfl
theorem pn_hsb0 {μ : px_Mem} {H : Nat} (e1 : μ (H + 4) 4 = 0) (e2 : μ (H + 9) 4 = 0) : pc_hsb μ H := by
  unfold pc_hsb
  rw [e1, e2]
  omega
theorem pn_C0 {μ : px_Mem} (h : pn_ini μ = true) (h203 : ∀ r : Int, μ 203 r = 0) : pa_C pa_A0 0 μ := by
  unfold pn_ini at h
  simp only [Bool.and_eq_true, decide_eq_true_eq, List.all_eq_true, List.mem_range] at h
  obtain ⟨⟨⟨⟨⟨a1, a2, a3, a4, a5, a6, a7, a8, a9, a10, a11⟩, b⟩, c⟩, d⟩, e1, e2, e3⟩ := h
  refine ⟨a1, ⟨pn_tx0 a2, a2⟩, ⟨?_, pn_hsb0 a3 a4⟩, ⟨?_, ?_⟩, ?_, ?_, ?_⟩
  · show pc_hsv μ 3 = (([], -1, -1), ([], -1, -1))
    unfold pc_hsv
    rw [pn_hl0 a3, pn_hl0 a4, a5, a6, a7, a8]
  · show pc_past μ = []
    unfold pc_past
    rw [a10]
    rfl
  · unfold pc_pastb
    rw [a9, a10]
    refine ⟨by omega, by omega, fun j hj => pn_hsb0 ?_ ?_⟩
    · have := (b j hj).1
      rw [show 19 + 14 * j + 4 = 23 + 14 * j by omega]
      exact this
    · have := (b j hj).2
      rw [show 19 + 14 * j + 9 = 28 + 14 * j by omega]
      exact this
  · intro i hi
    obtain ⟨c1, c2, c3, c4⟩ := c i hi
    refine ⟨pn_hsb0 ?_ ?_, .inl ⟨c3, rfl⟩⟩
    · rw [show 132 + 14 * i + 4 = 136 + 14 * i by omega]
      exact c1
    · rw [show 132 + 14 * i + 9 = 141 + 14 * i by omega]
      exact c2
  · intro s hs
    obtain ⟨d1, d2, d3⟩ := d s hs
    constructor
    · unfold pc_shv
      rw [d1]
      rfl
    · unfold pc_shb
      rw [d1, show 162 + 4 * s + 2 = 164 + 4 * s by omega, d2]
      omega
  · unfold pq_o
    rw [a11]
    refine ⟨by omega, fun r _ _ => ?_⟩
    rw [h203]
    omega
theorem pn_M0 {μ μ1 : px_Mem} (h : pn_ini μ = true) (f : ∀ o, o ≠ 207 → μ1 o = μ o) (hs : pm_hs μ1 207 0 (([], -1, -1), ([], -1, -1))) : pa_M pa_A0 μ1 := by
  unfold pn_ini at h
  simp only [Bool.and_eq_true, decide_eq_true_eq, List.all_eq_true, List.mem_range] at h
  obtain ⟨⟨⟨⟨-, b⟩, c⟩, d⟩, e1, e2, e3⟩ := h
  refine ⟨?_, ⟨?_, ?_, ?_⟩, hs, ⟨?_, ?_, ?_⟩, ?_, ?_⟩
  · rw [f 205 (by omega)]; exact e2
  · rw [f 205 (by omega)]; exact e1
  · show ([] : List Int).length ≤ 12
    simp
  · intro i x hx
    cases hx
  · rw [f 205 (by omega)]; exact e3
  · show ([] : List pc_HS).length ≤ 8
    simp
  · intro i x hx
    cases hx
  · intro i hi
    rw [f 210 (by omega)]
    exact .inl ⟨(c i hi).2.2.2, rfl⟩
  · intro i hi
    rw [f 211 (by omega)]
    exact .inl ⟨(d i hi).2.2, rfl⟩
theorem pn_203_ok {w : List pn_E} (h : pn_203 w = true) : ∀ r : Int, pn_μ w 203 r = 0 := by
  intro r
  unfold pn_203 at h
  split at h
  · rename_i hw
    unfold pn_μ
    rw [hw]
    rfl
  · cases h
/-- what the first constructor leaves, what the second -/
theorem pn_runs : ∃ (w w1 : List pn_E) (lv : List (Option px_X)), pn_r0 = some (195, lv, [], w, 204, 4270) ∧ w.length = 205 ∧ pn_r1 w = some (124, [some (.inr (.inl (some 205)))], [], w1, 15, 5034) ∧ w1.length = 221 ∧ (List.range 221).all (pn_okc w1) = true ∧ pn_ini (pn_μ w1) = true ∧ pn_203 w1 = true := by
  have h := pn_t0_ok
  unfold pn_t0 at h
  split at h
  · rename_i pc lv st w k n h0
    simp only [Bool.and_eq_true, decide_eq_true_eq] at h
    obtain ⟨⟨rfl, rfl, rfl, rfl, hw⟩, h⟩ := h
    unfold pn_t1 at h
    split at h
    · rename_i pc1 lv1 st1 w1 k1 n1 h1
      simp only [Bool.and_eq_true, decide_eq_true_eq] at h
      obtain ⟨⟨⟨⟨rfl, rfl, rfl, rfl, hw1, rfl⟩, h2⟩, h3⟩, h4⟩ := h
      exact ⟨w, w1, lv, h0, hw, h1, hw1, h2, h3, h4⟩
    · cases h
  · cases h
/-- a call of a method of the flat memory, from a frame of any room -/
theorem pl_callV {G : px_G} {own : String} {cc cc' : ByteArray} {nL nL' d' na ci o idx pc k n : Nat} {y : MethodName} {ret' : Option FieldType} {p : Program} {e : Env} {R : Room} {s : State} {m : MethodId} {args : Array Value} {below : List Frame} {meth : Method} {c : Code} {Z : State → Prop} {H : Heap} {locs : List Loc} {ls : Array Slot} {as : List px_X} {st : List Value} {μ : px_Mem} {Q' : Option px_X → px_Mem → Prop}
    (hx : p.tables.exec = Jvm.exec) (hb : c.code = cc) (hml : c.maxLocals = nL) (hown : s.vm.findClass own = some m.cls) (hts : ∀ w ∈ px_ws, w.before args s = true) (hK : px_K G s) (hz : G.2.2.2 ≤ s.heap.size)
    (hlink : Cond.methodLink own idx y ∈ px_ws) (hcode : Cond.code y cc' nL' ret' ∈ px_ws) (hinst : Cond.instanceMethod y ∈ px_ws) (hsel : Cond.selects y.cls y y ∈ px_ws) (hini : Cond.initialized y.cls ∈ px_ws) (hdesc : (parseMethodDescriptor y.desc).map (fun d => d.parameters.length) = some na) (hn1 : y.cls ≠ "java/lang/invoke/MethodHandle") (hn2 : y.cls ≠ "java/lang/invoke/VarHandle") (hcl : ∃ (T : u_T) (N : Nat), vwCl[ci]? = some (y.cls, T, N))
    (hroom : d' + 1 ≤ R.frames ∧ 8 + (nL' + 11) + 37 * d' ≤ R.locals) (hcs : k ≤ R.cells ∧ n ≤ R.slots) (hna : as.length = na) (ho : px_kd o = ci) (hst : (st.map fun v => v.category).sum ≤ 8) (hls : ls.size = nL) (hd : decode cc pc = .ok (.invokevirtual idx, 3))
    (hP : va_P G.2.1 vwCl (px_w G μ) H) (hS : va_S (fun q : Nat => G.2.2.2 ≤ q) s.heap H locs) (hM : px_C G y cc' nL' ret' d' (.inr (.inl (some o)) :: as) μ Q')
    (kk : ∀ (r : Option px_X) (μ' : px_Mem) (H1 : Heap) (locs1 : List Loc), Q' r μ' → va_P G.2.1 vwCl (px_w G μ') H1 → va_S (fun q : Nat => G.2.2.2 ≤ q) s.heap H1 locs1 → W p G.1 e R s m args below meth c H1 locs1 k n Z (F0 m (pc + 3) ls ((r.map (px_v G.2.2.2)).toList ++ st))) :
    W p G.1 e R s m args below meth c H locs k n Z (F0 m pc ls ((as.map (px_v G.2.2.2)).reverse ++ .ref (G.2.2.2 + o) :: st)) := by
  have hG : GoodIn px_ws (Cond.code y cc' nL' ret' :: px_ws) := fun w h => by
    rcases List.mem_cons.mp h with rfl | h
    · exact px_ws_good _ hcode
    · exact px_ws_good _ h
  obtain ⟨T1, N1, hcl⟩ := hcl
  have hpre : PreV s H y.cls (G.2.2.2 + o) (px_Pc G (.inr (.inl (some o)) :: as) μ) (as.map (px_v G.2.2.2)) := ⟨px_blind, px_recv hK hP hcl ho, fun U hU hW => ⟨rfl, by rw [hU]; exact hP, hK.warm hW, by rw [hU]; exact Nat.le_trans hz hS.1⟩⟩
  have hr := va_runV (nL := nL) (C := y.cls) (As := as.map (px_v G.2.2.2)) (rest := st) (g := F0 m pc ls ((as.map (px_v G.2.2.2)).reverse ++ .ref (G.2.2.2 + o) :: st)) (e := e) (below := below) (meth := meth) (locs := locs) (cells := k) (slots := n) (n := na) (R := R) ⟨hx, hb, hml, hown, hts⟩ hM ⟨callB_of na hts hG rfl rfl rfl (hts _ hini) (hts _ hlink) ⟨hn1, hn2, hdesc⟩ hroom, hts _ hinst, hts _ hsel⟩ hpre rfl (by rw [List.length_map]; exact hna) hls rfl (lv_room hst) hd hcs
  intro T hT X
  obtain ⟨v, st₀, t, T', L, h0, X', hL, e1, e2, ⟨⟨r, μ', hv, hq, hP2⟩, hz2, hk⟩, sg⟩ := hr T hT X
  cases hv
  rw [h0] at hz2 hk
  obtain ⟨t2, a1, b1⟩ := kk r μ' T'.heap (locs ++ L) hq (by rw [e1]; exact hP2)
    ⟨Nat.le_trans hS.1 (by rw [e1]; exact hz2), fun q h1 h2 => by rw [e1, hk q (Nat.lt_of_lt_of_le h1 hS.1) h2]; exact hS.2.1 q h1 h2, fun q hq => by
      rcases List.mem_append.mp hq with h | h
      · exact hS.2.2 q h
      · exact hL q h⟩ T' rfl X'
  exact ⟨t2, sg t2 a1, b1⟩
theorem pn_cl_d : decode cX11_init 124 = .ok (.aload_n 0, 1) ∧ decode cX11_init 125 = .ok (.invokevirtual 56, 3) ∧ decode cX11_init 128 = .ok (.return_, 1) ∧ decode cX10_init 195 = .ok (.return_, 1) := ⟨by decide +kernel, by decide +kernel, by decide +kernel, by decide +kernel⟩
theorem pn_w10 {G : px_G} {w : List pn_E} {lv : List (Option px_X)} (h : pn_r0 = some (195, lv, [], w, 204, 4270)) : pn_C G yX10_init cX10_init 2 4 204 4270 0 [.inl (9, pn_fs 9)] (fun H => va_P G.2.1 vwCl (pn_w G w) H) := by
  refine pn_enter (by decide +kernel) rfl (by omega) (fun p e s m args below meth c C hr hlocks => ?_)
  exact (pn_run_ok _ _ _ _ _ _ _ _ _ _ h G 1 p e s m args below meth c _ C ⟨rfl, by show 0 < 1; omega⟩).2 (pn_ret C hr hlocks pn_cl_d.2.2.2 (fun H hP => hP))
theorem pn_clr : px_md RX11 56 = some (yX11_clear, cX11_clear, 2, none, 0, 0, false, 10) := rfl
theorem pn_w11 {G : px_G} {w w1 : List pn_E} (hw : w.length = 205) (h : pn_r1 w = some (124, [some (.inr (.inl (some 205)))], [], w1, 15, 5034)) (h1 : (List.range 221).all (pn_okc w1) = true) (h2 : pn_ini (pn_μ w1) = true) (h3 : pn_203 w1 = true) (hlink : Cond.methodLink RX11 56 yX11_clear ∈ px_ws) :
    pn_C G yX11_init cX11_init 1 1 15 5034 205 (w ++ [.inl (10, pn_fs 10)]) (fun H => ∃ μ : px_Mem, pa_C pa_A0 0 μ ∧ pa_M pa_A0 μ ∧ va_P G.2.1 vwCl (px_w G μ) H) := by
  refine pn_enter (by decide +kernel) rfl (by omega) (fun p e s m args below meth c C hr hlocks => ?_)
  refine (pn_run_ok _ _ _ _ _ _ _ _ _ _ h G _ p e s m args below meth c _ C ⟨rfl, by show 0 < (w ++ [_]).length; rw [List.length_append]; simp⟩).2 ?_
  intro H locs hP hS ls hl
  have hP := pn_topx h1 hP
  obtain ⟨-, hcode, hstat, hsel, hini, hdesc, hn1, hn2, hL⟩ := px_md_ok pn_clr
  dsimp only at hcode hstat hini hdesc hn1 hn2 hL hsel
  rw [if_neg (by decide)] at hstat
  obtain ⟨hsel, hcl⟩ := hsel rfl
  refine lv_aload_n C.1 C.2.1 pn_cl_d.1 rfl (hl.at (i := 0) rfl) ?_
  refine pl_callV (as := []) (st := []) (Q' := fun r μ1 => r = none ∧ (∀ o, o ≠ 207 → μ1 o = pn_μ w1 o) ∧ pm_hs μ1 207 0 (([], -1, -1), ([], -1, -1))) C.1 C.2.1 C.2.2.1 C.2.2.2.1 C.2.2.2.2.1 C.2.2.2.2.2.1.1 (by have := C.2.2.2.2.2.2.2; omega) hlink hcode hstat hsel hini hdesc hn1 hn2 hcl ⟨by show 0 + 1 ≤ 1; omega, by show 8 + (2 + 11) + 37 * 0 ≤ 37 * 1; omega⟩ ⟨Nat.le_refl 15, Nat.le_refl 5034⟩ rfl (by decide +kernel) (by show (0 : Nat) ≤ 8; omega) hl.1.1 pn_cl_d.2.1 hP hS (c_X11_clear (fun μ1 f1 f2 => ⟨rfl, f1, f2⟩)) ?_
  rintro r μ1 H1 locs1 ⟨rfl, f1, f2⟩ hP1 hS1
  refine W.vret C.1 C.2.1 hr (fun t ht hW => ⟨rfl, ?_, hS1.F ht⟩) hS1.2.2 pn_cl_d.2.2.1
  refine ⟨μ1, (pn_C0 h2 (pn_203_ok h3)).same (fun o ho => f1 o (by omega)), pn_M0 h2 f1 f2, ?_⟩
  rw [ht]
  exact hP1
