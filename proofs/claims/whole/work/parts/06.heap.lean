/-! ===== the heap's rows, calls, answers ===== -/
theorem px_fv_congr {ci k o : Nat} {f g : Int → Int} (h : f k = g k) : px_fv ci k o f = px_fv ci k o g := by
  unfold px_fv
  rw [h]
theorem px_class {ci : Nat} {C : String} {T : u_T} {N : Nat} (h : vwCl[ci]? = some (C, T, N)) : ∃ ty : Nat → FieldType, (∀ k, k < N → parseFieldDescriptor (T k).2.2.1 = some (ty k)) ∧ (∀ a, a < N → ∀ b, b < N → a ≠ b → (T a).2.1 ≠ (T b).2.1) ∧ (∀ w ∈ u_ws C T N, w ∈ px_ws) ∧ N = px_nf ci ∧ ci < 20 ∧
    ∀ k, k < N → (px_pf ci k = 0 → ty k = .int ∧ (T k).2.2.2 = false) ∧ (px_pf ci k = 1 → ty k = .long ∧ (T k).2.2.2 = false) ∧ (px_pf ci k = 3 → ty k = .object "PatchHouse$Shelvable" ∧ (T k).2.2.2 = false) := by
  match ci, h with
  | 0, h => cases h; exact ⟨tyX0, tyX0_ok, nmX0, px_in0, rfl, by decide, by decide +kernel⟩
  | 1, h => cases h; exact ⟨tyX1, tyX1_ok, nmX1, px_in1, rfl, by decide, by decide +kernel⟩
  | 2, h => cases h; exact ⟨tyX2, tyX2_ok, nmX2, px_in2, rfl, by decide, by decide +kernel⟩
  | 3, h => cases h; exact ⟨tyX3, tyX3_ok, nmX3, px_in3, rfl, by decide, by decide +kernel⟩
  | 4, h => cases h; exact ⟨tyX4, tyX4_ok, nmX4, px_in4, rfl, by decide, by decide +kernel⟩
  | 5, h => cases h; exact ⟨tyX5, tyX5_ok, nmX5, px_in5, rfl, by decide, by decide +kernel⟩
  | 6, h => cases h; exact ⟨tyX6, tyX6_ok, nmX6, px_in6, rfl, by decide, by decide +kernel⟩
  | 7, h => cases h; exact ⟨tyX7, tyX7_ok, nmX7, px_in7, rfl, by decide, by decide +kernel⟩
  | 8, h => cases h; exact ⟨tyX9, tyX9_ok, nmX9, px_in8, rfl, by decide, by decide +kernel⟩
  | 9, h => cases h; exact ⟨tyX10, tyX10_ok, nmX10, px_in9, rfl, by decide, by decide +kernel⟩
  | 10, h => cases h; exact ⟨tyX11, tyX11_ok, nmX11, px_in10, rfl, by decide, by decide +kernel⟩
  | n + 11, h => simp [vwCl] at h
theorem px_fd_ok {own : String} {idx ci k : Nat} (h : px_fd own idx = some (ci, k)) : ∃ (C : String) (T : u_T) (N : Nat), vwCl[ci]? = some (C, T, N) ∧ k < N ∧ (T k).1 = C ∧
    (Cond.fieldLink own idx C (T k).2.1 (T k).2.2.1 ∈ px_ws ∨ Cond.fieldLinkNest own idx C (T k).2.1 (T k).2.2.1 "PatchHouse" ∈ lw_tbl) := by
  obtain ⟨⟨o, i, cj, kj, b, p⟩, h1, h2, h3⟩ := px_find h
  have h4 := List.all_eq_true.mp px_F_ok _ h1
  simp only [Bool.and_eq_true, beq_iff_eq] at h2
  obtain ⟨rfl, rfl⟩ := h2
  simp only [Prod.mk.injEq] at h3
  obtain ⟨rfl, rfl⟩ := h3
  unfold px_Fok at h4
  dsimp only at h4
  split at h4
  · rename_i C T N hv
    simp only [Bool.and_eq_true, decide_eq_true_eq] at h4
    refine ⟨C, T, N, hv, h4.1.1, h4.2, ?_⟩
    have h5 := h4.1.2
    unfold px_Fw at h5
    dsimp only at h5
    cases b
    · exact Or.inl (px_ws_at _ h5 rfl)
    · exact Or.inr (List.mem_of_getElem? h5)
  · cases h4
section PXH
variable {G : px_G} {own : String} {cc : ByteArray} {nL d pc : Nat} {ret : Option FieldType} {lv : List (Option px_X)} {st : List px_X} {μ : px_Mem} {Q : Option px_X → px_Mem → Prop}
theorem px_getf {idx ci k o : Nat} (hd : decode cc pc = .ok (.getfield idx, 3)) (hf : px_fd own idx = some (ci, k)) (ho : px_kd o = ci) (kk : px_J G own cc nL ret d (pc + 3) lv (px_fv ci k o (μ o) :: st) μ Q) : px_J G own cc nL ret d pc lv (.inr (.inl (some o)) :: st) μ Q := by
  intro p e s m args below meth c C H locs hP hS ls hl
  obtain ⟨C1, T, N, hc, hk, hC, hw⟩ := px_fd_ok hf
  obtain ⟨ty, hty, hnm, hin, hN, hci, -⟩ := px_class hc
  have he : (px_w G μ)[o]? = some (G.2.2.2 + o, .inr (ci, (List.range (px_nf ci)).map (fun k => px_v G.2.2.2 (px_fv ci k o (μ o))))) := by
    rw [px_w_at (px_kd_lt (by omega)), px_cell_obj ho hci]
  have hv : ((List.range (px_nf ci)).map (fun k => px_v G.2.2.2 (px_fv ci k o (μ o))))[k]? = some (px_v G.2.2.2 (px_fv ci k o (μ o))) := by
    rw [List.getElem?_map, List.getElem?_range (by omega)]
    rfl
  have hsame : ∀ x, s.fieldFound? (T k).1 (T k).2.1 (T k).2.2.1 = some x → s.fieldFound? C1 (T k).2.1 (T k).2.2.1 = some x := by
    rw [hC]
    exact fun _ h => h
  have hk2 := kk p e s m args below meth c C H locs hP hS ls hl
  rcases hw with hw | hw
  · exact va_get C.1 C.2.1 C.2.2.2.2.2.2.1 hin C.2.2.2.2.2.1 C.2.2.2.2.2.2.2.1.1 hP o he hc k hk (C.2.2.2.2.2.2.1 _ hw) hsame hv hd hk2
  · exact va_getN C.1 C.2.1 C.2.2.2.2.2.2.1 hin C.2.2.2.2.2.1 C.2.2.2.2.2.2.2.1.1 hP o he hc k hk (va_Nw.use rfl (C.2.2.2.2.2.2.2.1.2.2 _ hw rfl)) hsame hv hd hk2
def px_put (t : Nat) (v : px_X) (o : Nat) (f : Int → Prop) : Prop := match t, v with
  | 0, .inl z => f z
  | 1, .inr (.inr z) => f z
  | 3, .inr (.inl none) => f 0
  | 3, .inr (.inl (some a)) => o < a ∧ f ((a : Int) - o)
  | _, _ => False
theorem px_put_inv {t : Nat} {v : px_X} {o : Nat} {f : Int → Prop} (h : px_put t v o f) : ∃ z, f z ∧ ((t = 0 ∧ v = .inl z) ∨ (t = 1 ∧ v = .inr (.inr z)) ∨ (t = 3 ∧ v = .inr (.inl (px_hd o z)))) := by
  unfold px_put at h
  split at h
  · exact ⟨_, h, Or.inl ⟨rfl, rfl⟩⟩
  · exact ⟨_, h, Or.inr (Or.inl ⟨rfl, rfl⟩)⟩
  · exact ⟨0, h, Or.inr (Or.inr ⟨rfl, rfl⟩)⟩
  · rename_i a
    refine ⟨_, h.2, Or.inr (Or.inr ⟨rfl, ?_⟩)⟩
    unfold px_hd
    rw [if_neg (by omega)]
    congr 3
    omega
  · exact h.elim
theorem px_putf {idx ci k o : Nat} {v : px_X} (hd : decode cc pc = .ok (.putfield idx, 3)) (hf : px_fd own idx = some (ci, k)) (ho : px_kd o = ci) (kk : px_put (px_pf ci k) v o (fun z => px_J G own cc nL ret d (pc + 3) lv st (px_up μ o k z) Q)) : px_J G own cc nL ret d pc lv (v :: .inr (.inl (some o)) :: st) μ Q := by
  intro p e s m args below meth c C H locs hP hS ls hl
  obtain ⟨z, kk, hz⟩ := px_put_inv kk
  obtain ⟨C1, T, N, hc, hk, hC, hw⟩ := px_fd_ok hf
  obtain ⟨ty, hty, hnm, hin, hN, hci, hft⟩ := px_class hc
  have hol : o < 221 := px_kd_lt (by omega)
  have he : (px_w G μ)[o]? = some (G.2.2.2 + o, .inr (ci, (List.range (px_nf ci)).map (fun k => px_v G.2.2.2 (px_fv ci k o (μ o))))) := by
    rw [px_w_at hol, px_cell_obj ho hci]
  have hsame : ∀ x, s.fieldFound? (T k).1 (T k).2.1 (T k).2.2.1 = some x → s.fieldFound? C1 (T k).2.1 (T k).2.2.1 = some x := by
    rw [hC]
    exact fun _ h => h
  have hval : px_fv ci k o (px_up μ o k z o) = v ∧ (T k).2.2.2 = false ∧ narrow (ty k) (px_v G.2.2.2 v) = px_v G.2.2.2 v ∧ fits (ty k) (px_v G.2.2.2 v) = true := by
    have e1 : px_up μ o k z o k = z := by simp [px_up]
    rcases hz with ⟨h1, rfl⟩ | ⟨h1, rfl⟩ | ⟨h1, rfl⟩
    · obtain ⟨h2, h3⟩ := (hft k hk).1 h1
      rw [h2]
      exact ⟨by simp only [px_fv, h1, e1], h3, rfl, rfl⟩
    · obtain ⟨h2, h3⟩ := (hft k hk).2.1 h1
      rw [h2]
      exact ⟨by simp only [px_fv, h1, e1], h3, rfl, rfl⟩
    · obtain ⟨h2, h3⟩ := (hft k hk).2.2 h1
      rw [h2]
      refine ⟨by simp only [px_fv, h1, e1], h3, ?_, ?_⟩
      · cases px_hd o z <;> rfl
      · cases px_hd o z <;> rfl
  obtain ⟨hv1, hfin, hnar, hfit⟩ := hval
  have hset : (px_w G μ).set o (G.2.2.2 + o, .inr (ci, ((List.range (px_nf ci)).map (fun k => px_v G.2.2.2 (px_fv ci k o (μ o)))).set k (px_v G.2.2.2 v))) = px_w G (px_up μ o k z) := by
    refine px_w_set hol (fun o' h => px_up_o h) ?_
    rw [px_cell_obj ho hci]
    congr 2
    apply List.ext_getElem?
    intro j
    rw [List.getElem?_set]
    by_cases hj : k = j
    · subst hj
      rw [if_pos rfl, if_pos (by rw [List.length_map, List.length_range]; omega), List.getElem?_map, List.getElem?_range (by omega)]
      simp only [Option.map_some, hv1]
    · rw [if_neg hj, List.getElem?_map, List.getElem?_map]
      by_cases hl : j < px_nf ci
      · rw [List.getElem?_range hl]
        simp only [Option.map_some]
        rw [px_fv_congr (f := μ o) (g := px_up μ o k z o)]
        have : ¬ ((j : Int) = (k : Int)) := by omega
        simp [px_up, this]
      · rw [List.getElem?_eq_none (by rw [List.length_range]; omega)]
        rfl
  have hk2 : ∀ (H1 : Heap) (locs1 : List Loc), va_P G.2.1 vwCl ((px_w G μ).set o (G.2.2.2 + o, .inr (ci, ((List.range (px_nf ci)).map (fun k => px_v G.2.2.2 (px_fv ci k o (μ o)))).set k (px_v G.2.2.2 v)))) H1 → va_D (fun q : Nat => G.2.2.2 ≤ q) ((px_w G μ).set o (G.2.2.2 + o, .inr (ci, ((List.range (px_nf ci)).map (fun k => px_v G.2.2.2 (px_fv ci k o (μ o)))).set k (px_v G.2.2.2 v)))) → va_S (fun q : Nat => G.2.2.2 ≤ q) s.heap H1 locs1 → W p G.1 e (px_room d) s m args below meth c H1 locs1 0 0 (MQ below (px_Qc G Q) args s 0 0 (fun q : Nat => G.2.2.2 ≤ q)) (F0 m (pc + 3) ls (st.map (px_v G.2.2.2))) := by
    intro H1 locs1 h1 h2 h3
    rw [hset] at h1
    exact kk p e s m args below meth c C H1 locs1 h1 h3 ls hl
  rcases hw with hw | hw
  · exact va_put C.1 C.2.1 C.2.2.2.2.2.2.1 hin ty hty hnm C.2.2.2.2.2.1 C.2.2.2.2.2.2.2.1.1 hP px_w_D hS o he hc k hk (C.2.2.2.2.2.2.1 _ hw) hsame hfin (hty k hk) hnar hfit (by rw [List.length_map, List.length_range]; omega) hd hk2
  · exact va_putN C.1 C.2.1 C.2.2.2.2.2.2.1 hin ty hty hnm C.2.2.2.2.2.1 C.2.2.2.2.2.2.2.1.1 hP px_w_D hS o he hc k hk (va_Nw.use rfl (C.2.2.2.2.2.2.2.1.2.2 _ hw rfl)) hsame hfin (hty k hk) hnar hfit (by rw [List.length_map, List.length_range]; omega) hd hk2
theorem px_iald {i : Int} {a : Nat} (hd : decode cc pc = .ok (.iaload, 1)) (h : px_kd a = 20 ∧ 0 ≤ i ∧ i < px_ln a) (k : px_J G own cc nL ret d (pc + 1) lv (.inl (μ a i) :: st) μ Q) : px_J G own cc nL ret d pc lv (.inl i :: .inr (.inl (some a)) :: st) μ Q := by
  intro p e s m args below meth c C H locs hP hS ls hl
  obtain ⟨h1, h2⟩ := px_ix_in h.2.1 h.2.2 (px_ln_le a)
  have hk := k p e s m args below meth c C H locs hP hS ls hl
  refine va_iald C.1 C.2.1 C.2.2.2.2.2.2.2.1.1 hP a 0 (by rw [px_w_at (px_kd_lt (by omega)), px_cell_int h.1 (by decide) (by decide)]) rfl h1 hd ?_
  rw [h2, Int.toNat_of_nonneg h.2.1]
  exact hk
theorem px_bald {i : Int} {a : Nat} (hd : decode cc pc = .ok (.baload, 1)) (h : px_kd a = 21 ∧ 0 ≤ i ∧ i < px_ln a) (k : px_J G own cc nL ret d (pc + 1) lv (.inl (μ a i) :: st) μ Q) : px_J G own cc nL ret d pc lv (.inl i :: .inr (.inl (some a)) :: st) μ Q := by
  intro p e s m args below meth c C H locs hP hS ls hl
  obtain ⟨h1, h2⟩ := px_ix_in h.2.1 h.2.2 (px_ln_le a)
  have hk := k p e s m args below meth c C H locs hP hS ls hl
  refine va_zald C.1 C.2.1 C.2.2.2.2.2.2.2.1.1 hP a 1 (by rw [px_w_at (px_kd_lt (by omega)), px_cell_int h.1 (by decide) (by decide)]) rfl h1 hd ?_
  rw [h2, Int.toNat_of_nonneg h.2.1]
  exact hk
theorem px_aald {i : Int} {a : Nat} (hd : decode cc pc = .ok (.aaload, 1)) (h : (22 ≤ px_kd a ∧ px_kd a ≤ 25) ∧ 0 ≤ i ∧ i < px_ln a) (k : px_J G own cc nL ret d (pc + 1) lv (.inr (.inl (some (px_el (px_kd a) a i.toNat))) :: st) μ Q) : px_J G own cc nL ret d pc lv (.inl i :: .inr (.inl (some a)) :: st) μ Q := by
  intro p e s m args below meth c C H locs hP hS ls hl
  obtain ⟨h1, h2⟩ := px_ix_in h.2.1 h.2.2 (px_ln_le a)
  have hk := k p e s m args below meth c C H locs hP hS ls hl
  have hcell : (px_w G μ)[a]? = some (G.2.2.2 + a, .inl (G.2.2.1 (px_kd a), px_ln a, .inr (.inr (.inr (.inr (fun j => some (G.2.2.2 + px_el (px_kd a) a j))))))) := by
    rw [px_w_at (px_kd_lt (by omega)), px_cell_ref rfl h.1.1]
  have ht : ∃ (t0 : Nat) (E : String), (px_tys G)[t0]? = some (G.2.2.1 (px_kd a), .object E) := by
    have h9 : px_kd a = 22 ∨ px_kd a = 23 ∨ px_kd a = 24 ∨ px_kd a = 25 := by omega
    rcases h9 with h9 | h9 | h9 | h9 <;> rw [h9]
    · exact ⟨2, RX0, rfl⟩
    · exact ⟨3, RX1, rfl⟩
    · exact ⟨4, RX7, rfl⟩
    · exact ⟨5, RX9, rfl⟩
  obtain ⟨t0, E, ht⟩ := ht
  refine va_aldq C.1 C.2.1 C.2.2.2.2.2.2.2.1.1 hP a t0 hcell ht h1 hd ?_
  rw [h2]
  exact hk
theorem px_arr_set {a : Nat} {i x : Int} {c : Nat} (h : px_kd a = c) (h1 : 20 ≤ c) (h2 : c < 22) (h0 : 0 ≤ i) : (px_w G μ).set a (G.2.2.2 + a, .inl (G.2.2.1 c, px_ln a, .inl (upd (fun j : Nat => Int32.ofInt (μ a j)) i.toNat (Int32.ofInt x)))) = px_w G (px_up μ a i x) := by
  refine px_w_set (px_kd_lt (by omega)) (fun o' h => px_up_o h) ?_
  rw [px_cell_int h h1 h2]
  congr 4
  funext j
  by_cases hj : j = i.toNat
  · have : (j : Int) = i := by omega
    unfold upd px_up
    rw [if_pos hj, if_pos ⟨rfl, this⟩]
  · have : ¬ (j : Int) = i := by omega
    unfold upd px_up
    rw [if_neg hj, if_neg (fun q => this q.2)]
theorem px_iast {i x : Int} {a : Nat} (hd : decode cc pc = .ok (.iastore, 1)) (h : px_kd a = 20 ∧ 0 ≤ i ∧ i < px_ln a) (k : px_J G own cc nL ret d (pc + 1) lv st (px_up μ a i x) Q) : px_J G own cc nL ret d pc lv (.inl x :: .inl i :: .inr (.inl (some a)) :: st) μ Q := by
  intro p e s m args below meth c C H locs hP hS ls hl
  obtain ⟨h1, h2⟩ := px_ix_in h.2.1 h.2.2 (px_ln_le a)
  refine va_iast C.1 C.2.1 C.2.2.2.2.2.2.2.1.1 hP px_w_D hS a 0 (by rw [px_w_at (px_kd_lt (by omega)), px_cell_int h.1 (by decide) (by decide)]) rfl h1 hd (fun H1 locs1 g1 g2 g3 => ?_)
  rw [h2, px_arr_set h.1 (by decide) (by decide) h.2.1] at g1
  exact k p e s m args below meth c C H1 locs1 g1 g3 ls hl
theorem px_bast {i x : Int} {a : Nat} (hd : decode cc pc = .ok (.bastore, 1)) (h : px_kd a = 21 ∧ 0 ≤ i ∧ i < px_ln a) (hx : x = 0 ∨ x = 1) (k : px_J G own cc nL ret d (pc + 1) lv st (px_up μ a i x) Q) : px_J G own cc nL ret d pc lv (.inl x :: .inl i :: .inr (.inl (some a)) :: st) μ Q := by
  intro p e s m args below meth c C H locs hP hS ls hl
  obtain ⟨h1, h2⟩ := px_ix_in h.2.1 h.2.2 (px_ln_le a)
  have hn : vp_nar .boolean (Int32.ofInt x) = Int32.ofInt x := by rcases hx with rfl | rfl <;> decide
  refine va_zast C.1 C.2.1 C.2.2.2.2.2.2.2.1.1 hP px_w_D hS a 1 (by rw [px_w_at (px_kd_lt (by omega)), px_cell_int h.1 (by decide) (by decide)]) rfl h1 hd (fun H1 locs1 g1 g2 g3 => ?_)
  rw [h2, hn, px_arr_set h.1 (by decide) (by decide) h.2.1] at g1
  exact k p e s m args below meth c C H1 locs1 g1 g3 ls hl
theorem px_acopy {idx a a0 : Nat} {sp dp n : Int} (hd : decode cc pc = .ok (.invokestatic idx, 3)) (hac : px_ac own idx = true) (hd1 : 1 ≤ d) (h0 : px_kd a0 = 20 ∧ px_kd a = 20) (h1 : 0 ≤ sp ∧ 0 ≤ dp ∧ 0 ≤ n ∧ sp + n ≤ px_ln a0 ∧ dp + n ≤ px_ln a) (hst : st.length ≤ 4)
    (k : px_J G own cc nL ret d (pc + 3) lv st (px_cp μ a0 sp a dp n) Q) : px_J G own cc nL ret d pc lv (.inl n :: .inl dp :: .inr (.inl (some a)) :: .inl sp :: .inr (.inl (some a0)) :: st) μ Q := by
  intro p e s m args below meth c C H locs hP hS ls hl
  have l0 := px_ln_le a0
  have l1 := px_ln_le a
  have ok : ∀ z : Int, 0 ≤ z → z ≤ 4320 → ¬ Int32.ofInt z < 0 ∧ (Int32.ofInt z).toNatClampNeg = z.toNat := by
    intro z z1 z2
    refine ⟨fun h => ?_, Int32.toNatClampNeg_ofInt_of_le (by omega) (by omega)⟩
    have := Int32.lt_iff_toInt_lt.mp h
    rw [px_toInt (by omega) (by omega)] at this
    have h9 : (0 : Int32).toInt = 0 := rfl
    omega
  obtain ⟨s1, s2⟩ := ok sp h1.1 (by omega)
  obtain ⟨d1, d2⟩ := ok dp h1.2.1 (by omega)
  obtain ⟨n1, n2⟩ := ok n h1.2.2.1 (by omega)
  have hlink : Cond.methodLink own idx arraycopyName ∈ px_ws := by
    obtain ⟨e1, g1, g2⟩ := List.any_eq_true.mp hac
    have g3 := List.all_eq_true.mp px_AC_ok _ g1
    simp only [Bool.and_eq_true, beq_iff_eq, decide_eq_true_eq] at g2 g3
    obtain ⟨rfl, rfl⟩ := g2
    exact px_ws_at _ g3 rfl
  have hcat : ((st.map (px_v G.2.2.2)).map fun v => v.category).sum ≤ 8 := by
    have : ∀ l : List px_X, ((l.map (px_v G.2.2.2)).map fun v => v.category).sum ≤ 2 * l.length := by
      intro l
      induction l with
      | nil => exact Nat.le_refl _
      | cons a r ih =>
        have := lv_cat (px_v G.2.2.2 a)
        simp only [List.map_cons, List.sum_cons, List.length_cons]
        omega
    have := this st
    omega
  refine va_copyi (q0 := a0) (q1 := a) (t0 := 0) (t1 := 0) (f := fun j : Nat => Int32.ofInt (μ a0 j)) (g := fun j : Nat => Int32.ofInt (μ a j)) (ty := .int) C.1 C.2.1 (by rw [C.2.2.1, hl.1.1]) C.2.2.2.2.2.1 (C.2.2.2.2.2.2.1 _ hlink) (C.2.2.2.2.2.2.1 _ (px_ws_at _ px_ac_words.1 rfl)) (C.2.2.2.2.2.2.1 _ (px_ws_at _ px_ac_words.2.1 rfl)) (C.2.2.2.2.2.2.1 _ (px_ws_at _ px_ac_words.2.2 rfl)) C.2.2.2.2.2.2.2.1.1 hP px_w_D hS
    (by rw [px_w_at (px_kd_lt (by omega)), px_cell_int h0.1 (by decide) (by decide)]) (by rw [px_w_at (px_kd_lt (by omega)), px_cell_int h0.2 (by decide) (by decide)]) rfl rfl rfl s1 d1 n1 (by rw [s2, n2]; omega) (by rw [d2, n2]; omega) (fun i hi => rfl) hd1 (by show _ + 18 ≤ 37 * d; omega) hd (fun H1 locs1 g1 g2 g3 => ?_)
  have hset : (px_w G μ).set a (G.2.2.2 + a, .inl (G.2.2.1 20, px_ln a, .inl (va_cpy (fun j : Nat => Int32.ofInt (μ a0 j)) (fun j : Nat => Int32.ofInt (μ a j)) sp.toNat dp.toNat n.toNat))) = px_w G (px_cp μ a0 sp a dp n) := by
    refine px_w_set (px_kd_lt (by omega)) (fun o' h => px_cp_o h) ?_
    rw [px_cell_int h0.2 (by decide) (by decide)]
    congr 4
    funext j
    unfold va_cpy px_cp
    by_cases hj : dp.toNat ≤ j ∧ j < dp.toNat + n.toNat
    · rw [if_pos hj, if_pos ⟨rfl, by omega, by omega⟩]
      have h9 : ((sp.toNat + (j - dp.toNat) : Nat) : Int) = sp + ((j : Int) - dp) := by omega
      show Int32.ofInt (μ a0 ((sp.toNat + (j - dp.toNat) : Nat) : Int)) = _
      rw [h9]
    · rw [if_neg hj, if_neg (fun h => hj ⟨by omega, by omega⟩)]
  rw [s2, d2, n2, hset] at g1
  exact k p e s m args below meth c C H1 locs1 g1 g3 ls hl
theorem px_cl_ok {idx ci : Nat} (h : px_cl own idx = some ci) : ∃ (C : String) (T : u_T) (N : Nat), vwCl[ci]? = some (C, T, N) ∧ Cond.classLink own idx C ∈ px_ws := by
  obtain ⟨⟨o, i, cj, p⟩, h1, h2, h3⟩ := px_find h
  have h4 := List.all_eq_true.mp px_CL_ok _ h1
  simp only [Bool.and_eq_true, beq_iff_eq] at h2
  obtain ⟨rfl, rfl⟩ := h2
  cases h3
  unfold px_CLok at h4
  dsimp only at h4
  split at h4
  · rename_i C T hv
    exact ⟨C, T.1, T.2, hv, px_ws_at _ (of_decide_eq_true h4) rfl⟩
  · cases h4
theorem px_recv {s : State} {H : Heap} (hK : px_K G s) (hP : va_P G.2.1 vwCl (px_w G μ) H) {o ci : Nat} {C : String} {T : u_T} {N : Nat} (hc : vwCl[ci]? = some (C, T, N)) (ho : px_kd o = ci) : ∃ cell : Cell, H[G.2.2.2 + o]? = some cell ∧ cell.vm.isStatics = false ∧ s.vm.findClass C = some cell.cls := by
  obtain ⟨-, -, -, -, -, hci, -⟩ := px_class hc
  exact va_recv hK.1 hP hc (q0 := o) (by rw [px_w_at (px_kd_lt (by omega)), px_cell_obj ho hci])
theorem px_cast {idx ci o : Nat} (hd : decode cc pc = .ok (.checkcast idx, 3)) (hf : px_cl own idx = some ci) (ho : px_kd o = ci) (k : px_J G own cc nL ret d (pc + 3) lv (.inr (.inl (some o)) :: st) μ Q) : px_J G own cc nL ret d pc lv (.inr (.inl (some o)) :: st) μ Q := by
  intro p e s m args below meth c C H locs hP hS ls hl
  obtain ⟨C1, T, N, hc, hw⟩ := px_cl_ok hf
  exact va_castS C.1 C.2.1 C.2.2.2.2.2.1 (C.2.2.2.2.2.2.1 _ hw) (C.2.2.2.2.2.2.2.1.1.1 ci _ hc).2 (px_recv C.2.2.2.2.2.2.2.1 hP hc ho) hd (k p e s m args below meth c C H locs hP hS ls hl)
theorem px_inst {idx ci : Nat} {r : Option Nat} (hd : decode cc pc = .ok (.instanceof idx, 3)) (hf : px_cl own idx = some ci) (hci : ci = 3 ∨ ci = 8) (ho : ∀ o, r = some o → px_kd o = 3 ∨ px_kd o = 8) (k : px_J G own cc nL ret d (pc + 3) lv (.inl (match r with | none => 0 | some o => if px_kd o = ci then 1 else 0) :: st) μ Q) : px_J G own cc nL ret d pc lv (.inr (.inl r) :: st) μ Q := by
  intro p e s m args below meth c C H locs hP hS ls hl
  obtain ⟨C1, T, N, hc, hw⟩ := px_cl_ok hf
  have hk := k p e s m args below meth c C H locs hP hS ls hl
  cases r with
  | none => exact lv_instN C.1 C.2.1 hd hk
  | some o =>
    by_cases h1 : px_kd o = ci
    · dsimp only at hk
      rw [if_pos h1] at hk
      exact va_instS C.1 C.2.1 C.2.2.2.2.2.1 (C.2.2.2.2.2.2.1 _ hw) (C.2.2.2.2.2.2.2.1.1.1 ci _ hc).2 (px_recv C.2.2.2.2.2.2.2.1 hP hc h1) hd hk
    · dsimp only at hk
      rw [if_neg h1] at hk
      rcases ho o rfl with h2 | h2
      · have h3 : ci = 8 := by omega
        subst h3
        cases hc
        exact va_instNo (C := RX3) C.1 C.2.1 C.2.2.2.2.2.1 (C.2.2.2.2.2.2.1 _ hw) C.2.2.2.2.2.2.2.1.2.1.2 (px_recv (ci := 3) C.2.2.2.2.2.2.2.1 hP rfl h2) hd hk
      · have h3 : ci = 3 := by omega
        subst h3
        cases hc
        exact va_instNo (C := RX9) C.1 C.2.1 C.2.2.2.2.2.1 (C.2.2.2.2.2.2.1 _ hw) C.2.2.2.2.2.2.2.1.2.1.1 (px_recv (ci := 8) C.2.2.2.2.2.2.2.1 hP rfl h2) hd hk
theorem px_iret {x : Int} (hd : decode cc pc = .ok (.ireturn, 1)) (hr : ret = some .int ∨ (ret = some .boolean ∧ (x = 0 ∨ x = 1))) (k : Q (some (.inl x)) μ) : px_J G own cc nL ret d pc lv [.inl x] μ Q := by
  intro p e s m args below meth c C H locs hP hS ls hl
  have hlocks := C.2.2.2.2.1
  have hq : ∀ t : State, t.heap = H → s.WarmedH t.vm → px_Qc G Q args s (.returned (some (.int (Int32.ofInt x)))) t := fun t ht hW => ⟨⟨some (.inl x), μ, rfl, k, by rw [ht]; exact hP⟩, hS.F ht⟩
  rcases hr with hr | ⟨hr, hx⟩
  · exact W.iret C.1 C.2.1 (by rw [C.2.2.2.1, hr]) hq hS.2.2 hd
  · exact W.zret C.1 C.2.1 (by rw [C.2.2.2.1, hr]) (by rcases hx with rfl | rfl <;> rfl) hq hS.2.2 hd
theorem px_vret (hd : decode cc pc = .ok (.return_, 1)) (hr : ret = none) (k : Q none μ) : px_J G own cc nL ret d pc lv [] μ Q := by
  intro p e s m args below meth c C H locs hP hS ls hl
  have hlocks := C.2.2.2.2.1
  exact W.vret C.1 C.2.1 (by rw [C.2.2.2.1, hr]) (fun t ht hW => ⟨⟨none, μ, rfl, k, by rw [ht]; exact hP⟩, hS.F ht⟩) hS.2.2 hd
theorem px_aret {o : Nat} {E : String} (hd : decode cc pc = .ok (.areturn, 1)) (hr : ret = some (.object E)) (k : Q (some (.inr (.inl (some o)))) μ) : px_J G own cc nL ret d pc lv [.inr (.inl (some o))] μ Q := by
  intro p e s m args below meth c C H locs hP hS ls hl
  have hlocks := C.2.2.2.2.1
  exact W.aret C.1 C.2.1 (by rw [C.2.2.2.1, hr]) (Or.inl ⟨_, rfl⟩) (Or.inr ⟨_, rfl⟩) (fun t ht hW => ⟨⟨some (.inr (.inl (some o))), μ, rfl, k, by rw [ht]; exact hP⟩, hS.F ht⟩) hS.2.2 hd
end PXH
