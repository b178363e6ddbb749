/-! ===== the law's own frame ===== -/
theorem pl_on {L : Nat} (h : L ≤ 2560) : Int32.ofNat L = Int32.ofInt (L : Int) := by
  apply Int32.toInt_inj.mp
  rw [px_toInt (by omega) (by omega)]
  first | exact Int32.toInt_ofNat_of_lt (by omega) | (simp; omega)
theorem pl_md_ok {idx : Nat} {q : MethodName × ByteArray × Nat × Option FieldType × Nat × Nat × Bool × Nat} (h : pl_md idx = some q) :
    Cond.methodLink RL idx q.1 ∈ px_ws ∧ Cond.code q.1 q.2.1 q.2.2.1 q.2.2.2.1 ∈ px_ws ∧ Cond.instanceMethod q.1 ∈ px_ws ∧ Cond.selects q.1.cls q.1 q.1 ∈ px_ws ∧ (∃ (T : u_T) (N : Nat), vwCl[q.2.2.2.2.2.2.2]? = some (q.1.cls, T, N)) ∧ Cond.initialized q.1.cls ∈ px_ws ∧ (parseMethodDescriptor q.1.desc).map (fun d => d.parameters.length) = some q.2.2.2.2.2.1 ∧
    q.1.cls ≠ "java/lang/invoke/MethodHandle" ∧ q.1.cls ≠ "java/lang/invoke/VarHandle" ∧ q.2.2.1 ≤ 18 := by
  obtain ⟨⟨⟨o, i⟩, q', b, ps⟩, h1, h2, h3⟩ := px_find h
  have h4 := List.all_eq_true.mp pl_M_ok _ h1
  simp only [beq_iff_eq] at h2
  subst h2
  dsimp only at h3
  subst h3
  obtain ⟨y, cc, nL, ret, d, na, s, ci⟩ := q'
  simp only [px_Mok, Bool.and_eq_true, decide_eq_true_eq, Bool.or_eq_true, Bool.not_eq_true'] at h4
  obtain ⟨⟨⟨⟨⟨⟨⟨⟨⟨⟨⟨⟨⟨h5, h6⟩, h7⟩, h8⟩, h9⟩, h10⟩, h11⟩, h12⟩, h13⟩, h14⟩, h15⟩, h16⟩, h17⟩, h18⟩ := h4
  subst h16 h17 h18
  refine ⟨px_ws_at _ h5 rfl, px_ws_at _ h6 h14, px_ws_at _ h7 rfl, px_ws_at _ (h8.resolve_left (by decide)) rfl, ?_, px_ws_at _ h9 rfl, h10, h11, h12, h13⟩
  have h19 := h15.resolve_left (by decide)
  cases hv : vwCl[ci]? with
  | none => rw [hv] at h19; cases h19
  | some r =>
    rw [hv] at h19
    obtain ⟨C, T, N⟩ := r
    simp only [Option.map_some, Option.some.injEq] at h19
    subst h19
    exact ⟨T, N, rfl⟩
def pl_ctx (G : px_G) (p : Program) (s : State) (m : MethodId) (meth : Method) (c : Code) (b L : Nat) (xs : Nat → Int32) : Prop :=
  p.tables.exec = Jvm.exec ∧ c.code = code ∧ meth.sig.returnType = ret ∧ c.maxLocals = 4 ∧ s.vm.findClass RL = some m.cls ∧ (∀ w ∈ px_ws, w.before #[Value.ref b] s = true) ∧ va_X b L xs s s.heap ∧ b < s.heap.size ∧ meth.locks = false ∧ px_K G s ∧ G.2.2.2 = s.heap.size
def pl_J (G : px_G) (p : Program) (e : Env) (s : State) (m : MethodId) (below : List Frame) (meth : Method) (c : Code) (b : Nat) (pc : Nat) (st : List Value) (μ : px_Mem) (i : Nat) : Prop :=
  ∀ (H : Heap) (locs : List Loc), va_P G.2.1 vwCl (px_w G μ) H → va_S (fun q : Nat => G.2.2.2 ≤ q) s.heap H locs → ∀ ls : Array Slot, lv_has ls 4 [(3, .int (Int32.ofInt (i : Int))), (2, .ref (G.2.2.2 + 205)), (1, .ref (G.2.2.2 + 0)), (0, .ref b)] →
  W p G.1 e room_1 s m #[Value.ref b] below meth c H locs 221 9338 (lw_Z below #[Value.ref b] s) (F0 m pc ls st)
def pl_x (xs : Nat → Int32) (i j : Nat) : Int := (xs (i + 1 + j)).toInt
theorem pl_r (xs : Nat → Int32) (i j : Nat) : -2147483648 ≤ pl_x xs i j ∧ pl_x xs i j < 2147483648 := ⟨Int32.le_toInt _, Int32.toInt_lt _⟩
def pl_av (xs : Nat → Int32) (i n : Nat) : List px_X := (List.range n).map (fun j => .inl (pl_x xs i j))
section PL
variable {G : px_G} {p : Program} {e : Env} {s : State} {m : MethodId} {below : List Frame} {meth : Method} {c : Code} {b L : Nat} {xs : Nat → Int32}
theorem pl_bA (C : pl_ctx G p s m meth c b L xs) : ¬ (fun q : Nat => G.2.2.2 ≤ q) b := by
  have h1 := C.2.2.2.2.2.2.2.1
  have h2 := C.2.2.2.2.2.2.2.2.2.2
  show ¬ G.2.2.2 ≤ b
  omega
theorem pl_arg_ok {pc j i : Nat} {st : List Value} {μ : px_Mem} (C : pl_ctx G p s m meth c b L xs) (hL : L ≤ 2560) (h : pl_argb pc ((j : Int) + 1) = true) (hi : i + 1 + j < L) (kk : pl_J G p e s m below meth c b (pc + 5) (px_v G.2.2.2 (.inl (pl_x xs i j)) :: st) μ i) : pl_J G p e s m below meth c b pc st μ i := by
  unfold pl_argb at h
  simp only [Bool.and_eq_true, decide_eq_true_eq] at h
  obtain ⟨⟨⟨⟨d0, d1⟩, d2⟩, d3⟩, d4⟩ := h
  intro H locs hP hS ls hl
  refine lv_aload_n C.1 C.2.1 d0 rfl (lv_at hl 3 rfl) ?_
  refine lv_iload_n C.1 C.2.1 d1 rfl (lv_at hl 0 rfl) ?_
  refine lv_iconst C.1 C.2.1 d2 rfl ?_
  refine lv_iadd C.1 C.2.1 d3 ?_
  have e1 : Int32.ofInt (i : Int) + Int32.ofInt ((j : Int) + 1) = Int32.ofInt ((i + 1 + j : Nat) : Int) := by
    have e0 : ((i + 1 + j : Nat) : Int) = (i : Int) + ((j : Int) + 1) := by omega
    rw [e0]
    exact (Int32.ofInt_add _ _).symm
  rw [e1]
  obtain ⟨h1, h2⟩ := px_ix_in (i := ((i + 1 + j : Nat) : Int)) (n := L) (by omega) (by omega) (by omega)
  refine va_sld C.1 C.2.1 C.2.2.2.2.2.2.1 C.2.2.2.2.2.2.2.1 (pl_bA C) hS h1 d4 ?_
  rw [h2, Int.toNat_natCast]
  have hk := kk H locs hP hS ls hl
  have e5 : px_v G.2.2.2 (.inl (pl_x xs i j)) = .int (xs (i + 1 + j)) := by
    show Value.int (Int32.ofInt (xs (i + 1 + j)).toInt) = _
    rw [Int32.ofInt_toInt]
  rw [e5] at hk
  exact hk
theorem pl_args_ok {i : Nat} {μ : px_Mem} (C : pl_ctx G p s m meth c b L xs) (hL : L ≤ 2560) : ∀ (n pc : Nat) (st : List Value), (List.range n).all (fun j => pl_argb (pc + 5 * j) (j + 1)) = true → i + n < L →
    pl_J G p e s m below meth c b (pc + 5 * n) (((pl_av xs i n).map (px_v G.2.2.2)).reverse ++ st) μ i → pl_J G p e s m below meth c b pc st μ i
  | 0, pc, st, _, _, k => k
  | n + 1, pc, st, h, hi, k => by
    rw [List.range_succ, List.all_append, Bool.and_eq_true] at h
    refine pl_args_ok C hL n pc st h.1 (by omega) ?_
    have h2 := h.2
    simp only [List.all_cons, List.all_nil, Bool.and_true] at h2
    refine pl_arg_ok C hL h2 (by omega) ?_
    have e1 : ((pl_av xs i (n + 1)).map (px_v G.2.2.2)).reverse ++ st = px_v G.2.2.2 (.inl (pl_x xs i n)) :: (((pl_av xs i n).map (px_v G.2.2.2)).reverse ++ st) := by
      unfold pl_av
      rw [List.range_succ, List.map_append, List.map_append, List.reverse_append]
      rfl
    rw [e1] at k
    exact k
theorem pl_av_len (xs : Nat → Int32) (i n : Nat) : (pl_av xs i n).length = n := by
  unfold pl_av
  rw [List.length_map, List.length_range]
theorem pl_case_ok {pc n i1 i2 i : Nat} {off k : Int} {A : pa_A} {f : pa_R} {μ : px_Mem} {y1 y2 : MethodName} {c1 c2 : ByteArray} {l1 l2 d1 d2 : Nat} {av : List px_X} (C : pl_ctx G p s m meth c b L xs) (hL : L ≤ 2560) (hi : i + n < L) (hc : pl_caseb pc n i1 i2 off = true)
    (m1 : pl_md i1 = some (y1, c1, l1, some .int, d1, n, false, 9)) (m2 : pl_md i2 = some (y2, c2, l2, some .int, d2, n, false, 10)) (hd : d1 ≤ 7 ∧ d2 ≤ 7) (hav : pl_av xs i n = av) (RM : pa_M A μ)
    (h1 : ∀ Q : Option px_X → px_Mem → Prop, pa_Qc μ f (k + 1) Q → px_C G y1 c1 l1 (some .int) d1 (.inr (.inl (some 0)) :: av) μ Q)
    (h2 : ∀ (μ1 : px_Mem) (Q : Option px_X → px_Mem → Prop), pa_M A μ1 → pa_Qm μ1 f Q → px_C G y2 c2 l2 (some .int) d2 (.inr (.inl (some 205)) :: av) μ1 Q)
    (kk : ∀ μ2 : px_Mem, pa_C f.1 (k + 1) μ2 → pa_M f.1 μ2 → pl_J G p e s m below meth c b 879 [] μ2 i) : pl_J G p e s m below meth c b pc [] μ i := by
  subst hav
  unfold pl_caseb at hc
  simp only [Bool.and_eq_true, decide_eq_true_eq] at hc
  obtain ⟨⟨⟨⟨⟨⟨⟨g0, g1⟩, g2⟩, g3⟩, g4⟩, g5⟩, g6⟩, g7⟩ := hc
  obtain ⟨a1, a2, a3, a4, a5, a6, a7, a8, a9, a10⟩ := pl_md_ok m1
  obtain ⟨b1, b2, b3, b4, b5, b6, b7, b8, b9, b10⟩ := pl_md_ok m2
  dsimp only at a1 a2 a3 a4 a5 a6 a7 a8 a9 a10 b1 b2 b3 b4 b5 b6 b7 b8 b9 b10
  have hz : G.2.2.2 ≤ s.heap.size := by have := C.2.2.2.2.2.2.2.2.2.2; omega
  have hcs : 221 ≤ room_1.cells ∧ 9338 ≤ room_1.slots := ⟨Nat.le_of_ble_eq_true rfl, Nat.le_of_ble_eq_true rfl⟩
  intro H locs hP hS ls hl
  refine lv_aload_n C.1 C.2.1 g0 rfl (lv_at hl 2 rfl) ?_
  refine pl_args_ok C hL n (pc + 1) [.ref (G.2.2.2 + 0)] g1 hi ?_ H locs hP hS ls hl
  clear hP hS hl
  intro H locs hP hS ls hl
  refine pl_callV (as := pl_av xs i n) (st := []) (o := 0) (Q' := fun r μ1 => r = some (.inl f.2) ∧ (∀ o, 205 ≤ o → μ1 o = μ o) ∧ pa_C f.1 (k + 1) μ1) C.1 C.2.1 C.2.2.2.1 C.2.2.2.2.1 C.2.2.2.2.2.1 C.2.2.2.2.2.2.2.2.2.1 hz a1 a2 a3 a4 a6 a7 a8 a9 a5 ⟨by show d1 + 1 ≤ 9; omega, by show 8 + (l1 + 11) + 37 * d1 ≤ 340; omega⟩ hcs (pl_av_len xs i n) (by decide +kernel) (by show (0 : Nat) ≤ 8; omega) hl.1 g2 hP hS (h1 _ (fun μ1 q1 q2 => ⟨rfl, q1, q2⟩)) ?_
  rintro r μ1 H1 locs1 ⟨rfl, f1, hC1⟩ hP1 hS1
  have e1 : pc + 1 + 5 * n + 3 = pc + 4 + 5 * n := by omega
  rw [e1]
  refine lv_aload_n C.1 C.2.1 g3 rfl (lv_at hl 1 rfl) ?_
  have e2 : pc + 4 + 5 * n + 1 = pc + 5 + 5 * n := by omega
  rw [e2]
  refine pl_args_ok C hL n (pc + 5 + 5 * n) [.ref (G.2.2.2 + 205), px_v G.2.2.2 (.inl f.2)] g4 hi ?_ H1 locs1 hP1 hS1 ls hl
  clear hP1 hS1 hP hS hl
  intro H locs hP hS ls hl
  have e3 : pc + 5 + 5 * n + 5 * n = pc + 5 + 10 * n := by omega
  rw [e3]
  have hM1 : pa_M A μ1 := RM.same ⟨by rw [f1 205 (by omega)], by rw [f1 205 (by omega)], by rw [f1 205 (by omega)]⟩ (fun o h _ => f1 o (by omega))
  refine pl_callV (as := pl_av xs i n) (st := [px_v G.2.2.2 (.inl f.2)]) (o := 205) (Q' := fun r μ2 => r = some (.inl f.2) ∧ (∀ o, o < 205 → μ2 o = μ1 o) ∧ pa_M f.1 μ2) C.1 C.2.1 C.2.2.2.1 C.2.2.2.2.1 C.2.2.2.2.2.1 C.2.2.2.2.2.2.2.2.2.1 hz b1 b2 b3 b4 b6 b7 b8 b9 b5 ⟨by show d2 + 1 ≤ 9; omega, by show 8 + (l2 + 11) + 37 * d2 ≤ 340; omega⟩ hcs (pl_av_len xs i n) (by decide +kernel) (by show (1 : Nat) ≤ 8; omega) hl.1 g5 hP hS (h2 μ1 _ hM1 (fun μ2 q1 q2 => ⟨rfl, q1, q2⟩)) ?_
  rintro r μ2 H2 locs2 ⟨rfl, f2, hM2⟩ hP2 hS2
  have e4 : pc + 5 + 10 * n + 3 = pc + 8 + 10 * n := by omega
  rw [e4]
  refine lv_icmp_eq (tgt := 879) C.1 C.2.1 g6 g7 (fun _ => ?_) (fun q => absurd rfl q)
  exact kk μ2 (hC1.same (fun o ho => f2 o (by omega))) hM2 H2 locs2 hP2 hS2 ls hl
end PL
