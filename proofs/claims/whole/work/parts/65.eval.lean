/-! ===== what the two constructors leave ===== -/
def pn_z (v : px_X) : Int := match v with
  | .inl z => z
  | .inr (.inr z) => z
  | .inr (.inl _) => 0
def pn_μ (w : List pn_E) : px_Mem := fun o i => match w[o]? with
  | some (.inl (_, fs)) => pn_z ((fs[i.toNat]?).getD (.inl 0))
  | some (.inr (.inl (_, _, ov))) => (ov.lookup i).getD 0
  | _ => 0
def pn_okc (w : List pn_E) (o : Nat) : Bool := match w[o]? with
  | some (.inl (ci, fs)) => decide (px_kd o = ci ∧ ci < 20) && decide (fs = (List.range (px_nf ci)).map (fun k => px_fv ci k o (pn_μ w o)))
  | some (.inr (.inl (kd, n, _))) => decide (px_kd o = kd ∧ 20 ≤ kd ∧ kd < 22 ∧ px_ln o = n)
  | some (.inr (.inr (kd, n, ov))) => decide (px_kd o = kd ∧ 22 ≤ kd ∧ px_ln o = n) && (List.range n).all (fun j => decide (ov.lookup (j : Int) = some (px_el kd o j)))
  | none => false
theorem pn_okc_at {G : px_G} {w : List pn_E} {o : Nat} {H : Heap} (h : pn_okc w o = true) (hP : va_P G.2.1 vwCl (pn_w G w) H) : va_at G.2.1 vwCl (G.2.2.2 + o, px_cell G o (pn_μ w o)) H := by
  unfold pn_okc at h
  split at h
  · rename_i ci fs hw
    simp only [Bool.and_eq_true, decide_eq_true_eq] at h
    obtain ⟨⟨h1, h2⟩, h3⟩ := h
    have h4 := hP o _ (pn_w_at hw)
    rw [px_cell_obj h1 h2]
    have h5 : fs.map (px_v G.2.2.2) = (List.range (px_nf ci)).map (fun k => px_v G.2.2.2 (px_fv ci k o (pn_μ w o))) := by
      rw [h3, List.map_map]
      rfl
    rw [← h5]
    exact h4
  · rename_i kd n ov hw
    simp only [decide_eq_true_eq] at h
    obtain ⟨h1, h2, h3, h4⟩ := h
    have h5 := hP o _ (pn_w_at hw)
    rw [px_cell_int h1 h2 h3, h4]
    have h6 : (fun j : Nat => Int32.ofInt (pn_μ w o j)) = (fun j : Nat => Int32.ofInt ((ov.lookup (j : Int)).getD 0)) := by
      funext j
      unfold pn_μ
      rw [hw]
    rw [h6]
    exact h5
  · rename_i kd n ov hw
    simp only [Bool.and_eq_true, decide_eq_true_eq] at h
    obtain ⟨⟨h1, h2, h3⟩, h4⟩ := h
    have h5 : H[G.2.2.2 + o]? = some (vp_cell (G.2.2.1 kd) (n, .inr (.inr (.inr (.inr (fun j => (ov.lookup (j : Int)).map (fun o => G.2.2.2 + o))))))) := hP o _ (pn_w_at hw)
    rw [px_cell_ref h1 h2, h3]
    show H[G.2.2.2 + o]? = some (vp_cell (G.2.2.1 kd) (n, .inr (.inr (.inr (.inr (fun j => some (G.2.2.2 + px_el kd o j)))))))
    rw [h5, vp_cell_q, vp_cell_q]
    have h6 : (fun j : Fin n => va_rf ((ov.lookup ((j : Nat) : Int)).map (fun o => G.2.2.2 + o))) = (fun j : Fin n => va_rf (some (G.2.2.2 + px_el kd o (j : Nat)))) := by
      funext j
      have h7 := List.all_eq_true.mp h4 (j : Nat) (List.mem_range.mpr j.2)
      simp only [decide_eq_true_eq] at h7
      rw [h7]
      rfl
    unfold arrV
    rw [h6]
  · cases h
theorem pn_topx {G : px_G} {w : List pn_E} {H : Heap} (h : (List.range 221).all (pn_okc w) = true) (hP : va_P G.2.1 vwCl (pn_w G w) H) : va_P G.2.1 vwCl (px_w G (pn_μ w)) H := by
  intro k q hk
  obtain ⟨h1, rfl⟩ := px_w_of hk
  exact pn_okc_at (List.all_eq_true.mp h k (List.mem_range.mpr h1)) hP
def pn_ini (μ : px_Mem) : Bool := decide (μ 0 11 = 0 ∧ μ 1 1 = 0 ∧ μ 7 4 = 0 ∧ μ 12 4 = 0 ∧ μ 5 0 = -1 ∧ μ 5 1 = -1 ∧ μ 6 0 = -1 ∧ μ 6 1 = -1 ∧ μ 17 1 = 0 ∧ μ 17 2 = 0 ∧ μ 200 3 = 0) && (List.range 8).all (fun j => decide (μ (23 + 14 * j) 4 = 0 ∧ μ (28 + 14 * j) 4 = 0)) &&
  (List.range 2).all (fun i => decide (μ (136 + 14 * i) 4 = 0 ∧ μ (141 + 14 * i) 4 = 0 ∧ μ 160 i = 0 ∧ μ 210 i = 0)) && (List.range 4).all (fun s => decide (μ (162 + 4 * s) 2 = 0 ∧ μ (164 + 4 * s) 1 = 0 ∧ μ 211 s = 0)) && decide (μ 205 0 = 0 ∧ μ 205 2 = 0 ∧ μ 205 4 = 0)
def pn_203 (w : List pn_E) : Bool := match w[(203 : Nat)]? with
  | some (.inr (.inl (_, _, []))) => true
  | _ => false
def pn_r0 : Option pn_S := pn_run 400 RX10 cX10_init 2 4 204 4270 195 (pn_0 0 2 [.inl (9, pn_fs 9)])
def pn_r1 (w : List pn_E) : Option pn_S := pn_run 400 RX11 cX11_init 1 1 15 5034 124 (pn_0 205 1 (w ++ [.inl (10, pn_fs 10)]))
def pn_t1 (w : List pn_E) : Bool := match pn_r1 w with
  | some (pc, lv, st, w1, k, n) => decide (pc = 124 ∧ st = [] ∧ k = 15 ∧ n = 5034 ∧ w1.length = 221 ∧ lv = [some (.inr (.inl (some 205)))]) && (List.range 221).all (pn_okc w1) && pn_ini (pn_μ w1) && pn_203 w1
  | none => false
def pn_t0 : Bool := match pn_r0 with
  | some (pc, _, st, w, k, n) => decide (pc = 195 ∧ st = [] ∧ k = 204 ∧ n = 4270 ∧ w.length = 205) && pn_t1 w
  | none => false
set_option maxRecDepth 1000000 in
theorem pn_t0_ok : pn_t0 = true := by decide +kernel
