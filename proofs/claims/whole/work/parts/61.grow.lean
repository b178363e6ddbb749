/-! ===== a world that grows: cells at consecutive addresses, each as it stands ===== -/
abbrev pn_E : Type := (Nat × List px_X) ⊕ ((Nat × Nat × List (Int × Int)) ⊕ (Nat × Nat × List (Int × Nat)))
abbrev pn_S : Type := Nat × List (Option px_X) × List px_X × List pn_E × Nat × Nat
def pn_c (G : px_G) : pn_E → va_E
  | .inl (ci, fs) => .inr (ci, fs.map (px_v G.2.2.2))
  | .inr (.inl (k, n, ov)) => .inl (G.2.2.1 k, n, .inl (fun j => Int32.ofInt ((ov.lookup (j : Int)).getD 0)))
  | .inr (.inr (k, n, ov)) => .inl (G.2.2.1 k, n, .inr (.inr (.inr (.inr (fun j => (ov.lookup (j : Int)).map (fun o => G.2.2.2 + o))))))
def pn_w (G : px_G) (w : List pn_E) : va_W := w.zipIdx.map (fun q => (G.2.2.2 + q.2, pn_c G q.1))
theorem pn_w_len {G : px_G} {w : List pn_E} : (pn_w G w).length = w.length := by unfold pn_w; rw [List.length_map, List.length_zipIdx]
theorem pn_w_get {G : px_G} {w : List pn_E} {o : Nat} : (pn_w G w)[o]? = (w[o]?).map (fun e => (G.2.2.2 + o, pn_c G e)) := by
  unfold pn_w
  rw [List.getElem?_map, List.getElem?_zipIdx]
  cases w[o]? with
  | none => rfl
  | some e => simp
theorem pn_w_at {G : px_G} {w : List pn_E} {o : Nat} {e : pn_E} (h : w[o]? = some e) : (pn_w G w)[o]? = some (G.2.2.2 + o, pn_c G e) := by
  rw [pn_w_get, h]
  rfl
theorem pn_w_of {G : px_G} {w : List pn_E} {k : Nat} {q : Nat × va_E} (h : (pn_w G w)[k]? = some q) : ∃ e, w[k]? = some e ∧ q = (G.2.2.2 + k, pn_c G e) := by
  rw [pn_w_get] at h
  cases h1 : w[k]? with
  | none => rw [h1] at h; cases h
  | some e => rw [h1] at h; exact ⟨e, rfl, (Option.some.inj h).symm⟩
theorem pn_w_D {G : px_G} {w : List pn_E} : va_D (fun q : Nat => G.2.2.2 ≤ q) (pn_w G w) := by
  refine ⟨fun i j p q hi hj e => ?_, fun k q hk => ?_⟩
  · obtain ⟨_, -, rfl⟩ := pn_w_of hi
    obtain ⟨_, -, rfl⟩ := pn_w_of hj
    exact Nat.add_left_cancel e
  · obtain ⟨_, -, rfl⟩ := pn_w_of hk
    exact Nat.le_add_right _ _
theorem pn_w_set {G : px_G} {w : List pn_E} {o : Nat} {c : va_E} {e : pn_E} (h : c = pn_c G e) : (pn_w G w).set o (G.2.2.2 + o, c) = pn_w G (w.set o e) := by
  subst h
  apply List.ext_getElem?
  intro j
  rw [pn_w_get, List.getElem?_set, List.getElem?_set, pn_w_len]
  by_cases hj : o = j
  · subst hj
    rw [if_pos rfl, if_pos rfl]
    split
    · rfl
    · rfl
  · rw [if_neg hj, if_neg hj, pn_w_get]
theorem pn_w_app {G : px_G} {w : List pn_E} {e : pn_E} : pn_w G w ++ [(G.2.2.2 + w.length, pn_c G e)] = pn_w G (w ++ [e]) := by
  apply List.ext_getElem?
  intro j
  rw [pn_w_get]
  by_cases hj : j < w.length
  · rw [List.getElem?_append_left (by rw [pn_w_len]; exact hj), List.getElem?_append_left hj, pn_w_get]
  · rw [List.getElem?_append_right (by rw [pn_w_len]; omega), List.getElem?_append_right (by omega), pn_w_len]
    by_cases h2 : j = w.length
    · subst h2
      simp
    · rw [List.getElem?_eq_none (by simp; omega), List.getElem?_eq_none (by simp; omega)]
      rfl
/-! ===== what the tables say ===== -/
def pn_isr (t : FieldType) : Bool := match t with
  | .object _ => true
  | .array _ => true
  | _ => false
theorem pn_isr_ok {t : FieldType} (h : pn_isr t = true) : defaultValue t = .null ∧ ∀ a : Nat, narrow t (.ref a) = .ref a ∧ fits t (.ref a) = true := by
  cases t <;> first | (cases h; done) | exact ⟨rfl, fun a => ⟨rfl, rfl⟩⟩
def pn_dv (t : Nat) : px_X := match t with
  | 0 => .inl 0
  | 1 => .inr (.inr 0)
  | _ => .inr (.inl none)
def pn_fs (ci : Nat) : List px_X := (List.range (px_nf ci)).map (fun k => pn_dv (px_pf ci k))
theorem pn_class {ci : Nat} {C : String} {T : u_T} {N : Nat} (h : vwCl[ci]? = some (C, T, N)) : ∃ ty : Nat → FieldType, (∀ k, k < N → parseFieldDescriptor (T k).2.2.1 = some (ty k)) ∧ (∀ a, a < N → ∀ b, b < N → a ≠ b → (T a).2.1 ≠ (T b).2.1) ∧ (∀ w ∈ u_ws C T N, w ∈ px_ws) ∧ N = px_nf ci ∧
    ∀ k, k < N → (px_pf ci k = 0 → ty k = .int ∧ (T k).2.2.2 = false) ∧ (px_pf ci k = 1 → ty k = .long ∧ (T k).2.2.2 = false) ∧ (px_pf ci k ≠ 0 → px_pf ci k ≠ 1 → pn_isr (ty k) = true) := by
  match ci, h with
  | 0, h => cases h; exact ⟨tyX0, tyX0_ok, nmX0, px_in0, rfl, by decide +kernel⟩
  | 1, h => cases h; exact ⟨tyX1, tyX1_ok, nmX1, px_in1, rfl, by decide +kernel⟩
  | 2, h => cases h; exact ⟨tyX2, tyX2_ok, nmX2, px_in2, rfl, by decide +kernel⟩
  | 3, h => cases h; exact ⟨tyX3, tyX3_ok, nmX3, px_in3, rfl, by decide +kernel⟩
  | 4, h => cases h; exact ⟨tyX4, tyX4_ok, nmX4, px_in4, rfl, by decide +kernel⟩
  | 5, h => cases h; exact ⟨tyX5, tyX5_ok, nmX5, px_in5, rfl, by decide +kernel⟩
  | 6, h => cases h; exact ⟨tyX6, tyX6_ok, nmX6, px_in6, rfl, by decide +kernel⟩
  | 7, h => cases h; exact ⟨tyX7, tyX7_ok, nmX7, px_in7, rfl, by decide +kernel⟩
  | 8, h => cases h; exact ⟨tyX9, tyX9_ok, nmX9, px_in8, rfl, by decide +kernel⟩
  | 9, h => cases h; exact ⟨tyX10, tyX10_ok, nmX10, px_in9, rfl, by decide +kernel⟩
  | 10, h => cases h; exact ⟨tyX11, tyX11_ok, nmX11, px_in10, rfl, by decide +kernel⟩
  | n + 11, h => simp [vwCl] at h
theorem pn_fd_ok {own : String} {idx ci k : Nat} (h : pn_fd own idx = some (ci, k)) : ∃ (C : String) (T : u_T) (N : Nat), vwCl[ci]? = some (C, T, N) ∧ k < N ∧ (T k).1 = C ∧ Cond.fieldLink own idx C (T k).2.1 (T k).2.2.1 ∈ px_ws := by
  obtain ⟨⟨o, i, cj, kj, b, p⟩, h1, h2, h3⟩ := px_find h
  have h4 := List.all_eq_true.mp px_F_ok _ h1
  simp only [Bool.and_eq_true, beq_iff_eq, Bool.not_eq_true'] at h2
  obtain ⟨⟨rfl, rfl⟩, h2⟩ := h2
  subst h2
  simp only [Prod.mk.injEq] at h3
  obtain ⟨rfl, rfl⟩ := h3
  unfold px_Fok at h4
  dsimp only at h4
  split at h4
  · rename_i C T N hv
    simp only [Bool.and_eq_true, decide_eq_true_eq] at h4
    exact ⟨C, T, N, hv, h4.1.1, h4.2, px_ws_at _ h4.1.2 rfl⟩
  · cases h4
theorem pn_nw_ok {own : String} {idx ci : Nat} (h : pn_nw own idx = some ci) : ∃ (C : String) (T : u_T) (N : Nat), vwCl[ci]? = some (C, T, N) ∧ Cond.classLink own idx C ∈ px_ws ∧ Cond.instantiable C N ∈ px_ws ∧ Cond.initialized C ∈ px_ws := by
  obtain ⟨⟨⟨o, i⟩, cj, ps⟩, h1, h2, h3⟩ := px_find h
  have h4 := List.all_eq_true.mp pn_NW_ok _ h1
  simp only [Bool.and_eq_true, beq_iff_eq] at h2
  obtain ⟨rfl, rfl⟩ := h2
  dsimp only at h3
  subst h3
  unfold pn_NWok at h4
  dsimp only at h4
  split at h4
  · rename_i C T N hv
    simp only [Bool.and_eq_true, decide_eq_true_eq] at h4
    exact ⟨C, T, N, hv, px_ws_at _ h4.1.1 rfl, px_ws_at _ h4.1.2 rfl, px_ws_at _ h4.2 rfl⟩
  · cases h4
theorem pn_an_ok {own : String} {idx kd : Nat} (h : pn_an own idx = some kd) : Cond.classLink own idx (pn_rk kd) ∈ px_ws ∧ 22 ≤ kd ∧ kd ≤ 25 := by
  obtain ⟨⟨⟨o, i⟩, cj, ps⟩, h1, h2, h3⟩ := px_find h
  have h4 := List.all_eq_true.mp pn_AN_ok _ h1
  simp only [Bool.and_eq_true, beq_iff_eq] at h2
  obtain ⟨rfl, rfl⟩ := h2
  dsimp only at h3 h4
  subst h3
  simp only [Bool.and_eq_true, decide_eq_true_eq] at h4
  exact ⟨px_ws_at _ h4.1.1 rfl, h4.1.2, h4.2⟩
theorem pn_oi_ok {own : String} {idx : Nat} (h : pn_oi own idx = true) : Cond.methodLink own idx objectInit ∈ px_ws := by
  obtain ⟨e1, g1, g2⟩ := List.any_eq_true.mp h
  have g3 := List.all_eq_true.mp pn_OI_ok _ g1
  simp only [Bool.and_eq_true, beq_iff_eq, decide_eq_true_eq] at g2 g3
  obtain ⟨rfl, rfl⟩ := g2
  exact px_ws_at _ g3 rfl
theorem pn_md_ok {own : String} {idx : Nat} {q : pn_ME} (h : pn_md own idx = some q) : Cond.methodLinkNest own idx q.1 "PatchHouse" ∈ lw_tbl ∧ Cond.code q.1 q.2.1 q.2.2.1 none ∈ px_ws ∧ Cond.instanceMethod q.1 ∈ px_ws ∧ Cond.initialized q.1.cls ∈ px_ws ∧
    (parseMethodDescriptor q.1.desc).map (fun d => d.parameters.length) = some 0 ∧ q.1.cls ≠ "java/lang/invoke/MethodHandle" ∧ q.1.cls ≠ "java/lang/invoke/VarHandle" ∧ 1 ≤ q.2.2.1 ∧ q.2.2.1 ≤ 18 ∧ q.1.name = "<init>" ∧ plainName q.1.cls = true ∧ decode q.2.1 q.2.2.2.2.1 = .ok (.return_, 1) := by
  obtain ⟨⟨⟨o, i⟩, q', ps⟩, h1, h2, h3⟩ := px_find h
  have h4 := List.all_eq_true.mp pn_MI_ok _ h1
  simp only [Bool.and_eq_true, beq_iff_eq] at h2
  obtain ⟨rfl, rfl⟩ := h2
  dsimp only at h3
  subst h3
  simp only [pn_MIok, Bool.and_eq_true, decide_eq_true_eq] at h4
  obtain ⟨⟨⟨⟨⟨⟨⟨⟨⟨⟨⟨⟨a1, a2⟩, a3⟩, a4⟩, a5⟩, a6⟩, a7⟩, a8⟩, a9⟩, a10⟩, a11⟩, a12⟩, a13⟩ := h4
  exact ⟨List.mem_of_getElem? a1, px_ws_at _ a2 a12, px_ws_at _ a3 rfl, px_ws_at _ a4 rfl, a5, a6, a7, a8, a9, a10, a11, a13⟩
def pn_K (G : px_G) (s : State) : Prop := px_K G s ∧ (va_AO RX0 s ∧ va_AO RX1 s ∧ va_AO RX7 s ∧ va_AO RX9 s)
theorem pn_K.warm {G : px_G} {s U : State} (hW : s.WarmedH U.vm) (h : pn_K G s) : pn_K G U := ⟨h.1.warm hW, h.2.1.moved hW.alike, h.2.2.1.moved hW.alike, h.2.2.2.1.moved hW.alike, h.2.2.2.2.moved hW.alike⟩
theorem pn_K.same {G : px_G} {s U : State} (e : s.vm = U.vm) (h : pn_K G s) : pn_K G U := by
  have hA : s.vm.Alike U.vm := e ▸ Vm.Alike.refl s.vm
  exact ⟨h.1.same e, h.2.1.moved hA, h.2.2.1.moved hA, h.2.2.2.1.moved hA, h.2.2.2.2.moved hA⟩
theorem pn_K.ao {G : px_G} {s : State} (h : pn_K G s) {kd : Nat} : va_AO (pn_rk kd) s := by
  unfold pn_rk
  split
  · exact h.2.1
  · split
    · exact h.2.2.1
    · split
      · exact h.2.2.2.1
      · exact h.2.2.2.2
theorem pn_tys {G : px_G} {kd : Nat} (h1 : 22 ≤ kd) (h2 : kd ≤ 25) : ∃ t0 : Nat, (px_tys G)[t0]? = some (G.2.2.1 kd, FieldType.object (pn_rk kd)) := by
  rcases (show kd = 22 ∨ kd = 23 ∨ kd = 24 ∨ kd = 25 by omega) with rfl | rfl | rfl | rfl
  · exact ⟨2, rfl⟩
  · exact ⟨3, rfl⟩
  · exact ⟨4, rfl⟩
  · exact ⟨5, rfl⟩
theorem pn_ek_ok {kd : Nat} (h1 : 22 ≤ kd) (h2 : kd ≤ 25) : ∃ (T : u_T) (N : Nat), vwCl[pn_ek kd]? = some (pn_rk kd, T, N) := by
  rcases (show kd = 22 ∨ kd = 23 ∨ kd = 24 ∨ kd = 25 by omega) with rfl | rfl | rfl | rfl
  · exact ⟨TX0, 5, rfl⟩
  · exact ⟨TX1, 3, rfl⟩
  · exact ⟨TX7, 3, rfl⟩
  · exact ⟨TX9, 2, rfl⟩
theorem pn_size {p : Program} {l : Launch} {e : Env} {R : Room} {s : State} {m : MethodId} {args : Array Value} {below : List Frame} {meth : Method} {c : Code} {H : Heap} {locs : List Loc} {cells slots : Nat} {Q : State → Prop} {g : JFrame}
    (k : H.size ≤ s.heap.size + cells → W p l e R s m args below meth c H locs cells slots Q g) : W p l e R s m args below meth c H locs cells slots Q g := by
  intro T hT X
  refine k ?_ T hT X
  have h : T.heap.size ≤ s.heap.size + cells := X.same.2.2.1
  rw [hT] at h
  exact h
theorem pn_low {G : px_G} {w : List pn_E} {H : Heap} (hP : va_P G.2.1 vwCl (pn_w G w) H) (h0 : 0 < w.length) : G.2.2.2 + w.length ≤ H.size := by
  have h1 : w[w.length - 1]? = some w[w.length - 1] := List.getElem?_eq_getElem (by omega)
  have h2 := (hP _ _ (pn_w_at h1)).lt
  dsimp only at h2
  omega
