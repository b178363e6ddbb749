/-- the cells by their offsets: (a class of vwCl, 0), or (20 ints, 21 booleans, 22 History[], 23 Houses[], 24 Shelf[], 25 Writing[]; how many) -/
def px_lay : List (Nat × Nat) := [(9, 0), (8, 0), (20, 28), (1, 0), (22, 2), (20, 2), (20, 2), (0, 0), (20, 16), (20, 16), (20, 16), (20, 16), (0, 0), (20, 16), (20, 16), (20, 16), (20, 16), (5, 0), (23, 8), (1, 0), (22, 2), (20, 2), (20, 2), (0, 0), (20, 16), (20, 16), (20, 16), (20, 16), (0, 0), (20, 16), (20, 16), (20, 16), (20, 16), (1, 0), (22, 2), (20, 2), (20, 2), (0, 0), (20, 16), (20, 16), (20, 16), (20, 16), (0, 0), (20, 16), (20, 16), (20, 16), (20, 16), (1, 0), (22, 2), (20, 2), (20, 2), (0, 0), (20, 16), (20, 16), (20, 16), (20, 16), (0, 0), (20, 16), (20, 16), (20, 16), (20, 16), (1, 0), (22, 2), (20, 2), (20, 2), (0, 0), (20, 16), (20, 16), (20, 16), (20, 16), (0, 0), (20, 16), (20, 16), (20, 16), (20, 16), (1, 0), (22, 2), (20, 2), (20, 2), (0, 0), (20, 16), (20, 16), (20, 16), (20, 16), (0, 0), (20, 16), (20, 16), (20, 16), (20, 16), (1, 0), (22, 2), (20, 2), (20, 2), (0, 0), (20, 16), (20, 16), (20, 16), (20, 16), (0, 0), (20, 16), (20, 16), (20, 16), (20, 16), (1, 0), (22, 2), (20, 2), (20, 2), (0, 0), (20, 16), (20, 16), (20, 16), (20, 16), (0, 0), (20, 16), (20, 16), (20, 16), (20, 16), (1, 0), (22, 2), (20, 2), (20, 2), (0, 0), (20, 16), (20, 16), (20, 16), (20, 16), (0, 0), (20, 16), (20, 16), (20, 16), (20, 16), (23, 2), (1, 0), (22, 2), (20, 2), (20, 2), (0, 0), (20, 16), (20, 16), (20, 16), (20, 16), (0, 0), (20, 16), (20, 16), (20, 16), (20, 16), (1, 0), (22, 2), (20, 2), (20, 2), (0, 0), (20, 16), (20, 16), (20, 16), (20, 16), (0, 0), (20, 16), (20, 16), (20, 16), (20, 16), (21, 2), (24, 4), (7, 0), (3, 0), (8, 0), (20, 28), (7, 0), (3, 0), (8, 0), (20, 28), (7, 0), (3, 0), (8, 0), (20, 28), (7, 0), (3, 0), (8, 0), (20, 28), (25, 2), (8, 0), (20, 28), (8, 0), (20, 28), (0, 0), (20, 16), (20, 16), (20, 16), (20, 16), (6, 0), (0, 0), (20, 16), (20, 16), (20, 16), (20, 16), (0, 0), (20, 16), (20, 16), (20, 16), (20, 16), (20, 16), (4, 0), (20, 720), (20, 720), (20, 720), (2, 0), (10, 0), (20, 12), (20, 38), (20, 304), (20, 76), (21, 2), (20, 4), (20, 4), (20, 128), (20, 16), (20, 16), (20, 17), (20, 17), (20, 16), (20, 64), (20, 4320)]
/-- a field: 0 an int, 1 a long, 2 a cell at so many behind, 3 what a shelf holds -/
def px_FK : List (List (Nat × Nat)) := [[(2, 1), (2, 2), (2, 3), (2, 4), (0, 0)], [(2, 1), (2, 2), (2, 3)], [(1, 0)], [(0, 0), (0, 0), (0, 0), (0, 0)], [(2, 1), (2, 2), (2, 3), (0, 0), (0, 0)], [(2, 1), (0, 0), (0, 0)], [(2, 1), (2, 6), (2, 11), (0, 0), (0, 0)], [(2, 1), (2, 2), (3, 0)], [(2, 1), (0, 0)], [(2, 1), (2, 3), (2, 17), (2, 131), (2, 160), (2, 161), (2, 178), (2, 183), (2, 188), (2, 200), (2, 204), (0, 0)], [(0, 0), (2, 1), (0, 0), (2, 2), (0, 0), (2, 3), (2, 4), (2, 5), (2, 6), (2, 7), (2, 8), (2, 9), (0, 0), (2, 10), (0, 0), (2, 11), (0, 0), (2, 12), (2, 13), (2, 14), (2, 15), (1, 0)]]
/-! ===== the flat memory: ints as whole numbers, cells by their offsets from the first ===== -/
abbrev px_X : Type := Int ⊕ (Option Nat ⊕ Int)
abbrev px_Mem : Type := Nat → Int → Int
abbrev px_G : Type := Launch × va_G × (Nat → ClassId) × Nat
def px_v (b : Nat) : px_X → Value
  | .inl z => .int (Int32.ofInt z)
  | .inr (.inl none) => .null
  | .inr (.inl (some o)) => .ref (b + o)
  | .inr (.inr z) => .long (Int64.ofInt z)
def px_hd (o : Nat) (z : Int) : Option Nat := if z = 0 then none else some (o + z.toNat)
def px_pf (ci k : Nat) : Nat := (((px_FK[ci]?).getD [])[k]?.getD (0, 0)).1
def px_pd (ci k : Nat) : Nat := (((px_FK[ci]?).getD [])[k]?.getD (0, 0)).2
def px_fv (ci k o : Nat) (f : Int → Int) : px_X := match px_pf ci k with
  | 0 => .inl (f k)
  | 1 => .inr (.inr (f k))
  | 2 => .inr (.inl (some (o + px_pd ci k)))
  | _ => .inr (.inl (px_hd o (f k)))
def px_nf (ci : Nat) : Nat := ((px_FK[ci]?).getD []).length
def px_kd (o : Nat) : Nat := ((px_lay[o]?).getD (99, 0)).1
def px_ln (o : Nat) : Nat := ((px_lay[o]?).getD (99, 0)).2
def px_el (c o j : Nat) : Nat := if c = 22 then o + 3 + 5 * j else if c = 23 then o + 1 + 14 * j else if c = 24 then o + 1 + 4 * j else o + 1 + 2 * j
def px_cell (G : px_G) (o : Nat) (f : Int → Int) : va_E :=
  if px_kd o < 20 then .inr (px_kd o, (List.range (px_nf (px_kd o))).map (fun k => px_v G.2.2.2 (px_fv (px_kd o) k o f)))
  else if px_kd o < 22 then .inl (G.2.2.1 (px_kd o), px_ln o, .inl (fun j => Int32.ofInt (f j)))
  else .inl (G.2.2.1 (px_kd o), px_ln o, .inr (.inr (.inr (.inr (fun j => some (G.2.2.2 + px_el (px_kd o) o j))))))
theorem px_cell_obj {G : px_G} {o c : Nat} {f : Int → Int} (h : px_kd o = c) (hc : c < 20) : px_cell G o f = .inr (c, (List.range (px_nf c)).map (fun k => px_v G.2.2.2 (px_fv c k o f))) := by
  unfold px_cell
  rw [if_pos (by omega), h]
theorem px_cell_int {G : px_G} {o c : Nat} {f : Int → Int} (h : px_kd o = c) (h1 : 20 ≤ c) (h2 : c < 22) : px_cell G o f = .inl (G.2.2.1 c, px_ln o, .inl (fun j => Int32.ofInt (f j))) := by
  unfold px_cell
  rw [if_neg (by omega), if_pos (by omega), h]
theorem px_cell_ref {G : px_G} {o c : Nat} {f : Int → Int} (h : px_kd o = c) (h1 : 22 ≤ c) : px_cell G o f = .inl (G.2.2.1 c, px_ln o, .inr (.inr (.inr (.inr (fun j => some (G.2.2.2 + px_el c o j)))))) := by
  unfold px_cell
  rw [if_neg (by omega), if_neg (by omega), h]
theorem px_lay_len : px_lay.length = 221 := by decide +kernel
theorem px_kd_lt {o : Nat} (h : px_kd o < 99) : o < 221 := by
  rcases Nat.lt_or_ge o 221 with h1 | h1
  · exact h1
  · unfold px_kd at h
    rw [List.getElem?_eq_none (by rw [px_lay_len]; exact h1)] at h
    exact absurd h (by decide)
theorem px_ln_le (o : Nat) : px_ln o ≤ 4320 := by
  unfold px_ln
  cases h : px_lay[o]? with
  | none => simp
  | some q =>
    have h1 : px_lay.all (fun q => decide (q.2 ≤ 4320)) = true := by decide +kernel
    have h2 := List.all_eq_true.mp h1 q (List.mem_of_getElem? h)
    simpa using h2
def px_w (G : px_G) (μ : px_Mem) : va_W := (List.range 221).map (fun o => (G.2.2.2 + o, px_cell G o (μ o)))
theorem px_w_len {G : px_G} {μ : px_Mem} : (px_w G μ).length = 221 := by unfold px_w; rw [List.length_map, List.length_range]
theorem px_w_at {G : px_G} {μ : px_Mem} {o : Nat} (h : o < 221) : (px_w G μ)[o]? = some (G.2.2.2 + o, px_cell G o (μ o)) := by
  unfold px_w
  rw [List.getElem?_map, List.getElem?_range h]
  rfl
theorem px_w_of {G : px_G} {μ : px_Mem} {k : Nat} {q : Nat × va_E} (h : (px_w G μ)[k]? = some q) : k < 221 ∧ q = (G.2.2.2 + k, px_cell G k (μ k)) := by
  have hl : k < (px_w G μ).length := (List.getElem?_eq_some_iff.mp h).1
  rw [px_w_len] at hl
  rw [px_w_at hl] at h
  exact ⟨hl, (Option.some.inj h).symm⟩
theorem px_w_D {G : px_G} {μ : px_Mem} : va_D (fun q : Nat => G.2.2.2 ≤ q) (px_w G μ) := by
  refine ⟨fun i j p q hi hj e => ?_, fun k q hk => ?_⟩
  · obtain ⟨-, rfl⟩ := px_w_of hi
    obtain ⟨-, rfl⟩ := px_w_of hj
    exact Nat.add_left_cancel e
  · obtain ⟨-, rfl⟩ := px_w_of hk
    exact Nat.le_add_right _ _
theorem px_w_set {G : px_G} {μ μ' : px_Mem} {o : Nat} (ho : o < 221) {c : va_E} (h : ∀ o', o' ≠ o → μ' o' = μ o') (e : c = px_cell G o (μ' o)) : (px_w G μ).set o (G.2.2.2 + o, c) = px_w G μ' := by
  apply List.ext_getElem?
  intro j
  by_cases hj : j = o
  · subst hj
    rw [List.getElem?_set_self (by rw [px_w_len]; exact ho), px_w_at ho, e]
  · rw [List.getElem?_set_ne (Ne.symm hj)]
    by_cases hk : j < 221
    · rw [px_w_at hk, px_w_at hk, h j hj]
    · rw [List.getElem?_eq_none (by rw [px_w_len]; omega), List.getElem?_eq_none (by rw [px_w_len]; omega)]
def px_up (μ : px_Mem) (o : Nat) (i z : Int) : px_Mem := fun o' i' => if o' = o ∧ i' = i then z else μ o' i'
theorem px_up_o {μ : px_Mem} {o : Nat} {i z : Int} {o' : Nat} (h : o' ≠ o) : px_up μ o i z o' = μ o' := by
  funext i'
  simp [px_up, h]
def px_cp (μ : px_Mem) (a : Nat) (sp : Int) (c : Nat) (dp n : Int) : px_Mem := fun o i => if o = c ∧ dp ≤ i ∧ i < dp + n then μ a (sp + (i - dp)) else μ o i
theorem px_cp_o {μ : px_Mem} {a : Nat} {sp : Int} {c : Nat} {dp n : Int} {o' : Nat} (h : o' ≠ c) : px_cp μ a sp c dp n o' = μ o' := by
  funext i'
  simp [px_cp, h]
/-! ===== numbers ===== -/
theorem px_toInt {z : Int} (h1 : -2147483648 ≤ z) (h2 : z < 2147483648) : (Int32.ofInt z).toInt = z := Int32.toInt_ofInt_of_le (by omega) (by omega)
theorem px_ix_in {i : Int} {n : Nat} (h0 : 0 ≤ i) (h1 : i < n) (hn : n ≤ 4320) : vp_in (Int32.ofInt i) n ∧ (Int32.ofInt i).toNatClampNeg = i.toNat := by
  have e : (Int32.ofInt i).toNatClampNeg = i.toNat := Int32.toNatClampNeg_ofInt_of_le (by omega) (by omega)
  refine ⟨?_, e⟩
  rintro (h | h)
  · have := Int32.lt_iff_toInt_lt.mp h
    rw [px_toInt (by omega) (by omega)] at this
    have h9 : (0 : Int32).toInt = 0 := rfl
    omega
  · rw [e] at h
    omega
def px_eq (x y : Int) : Prop := Int32.ofInt x = Int32.ofInt y
def px_lt (x y : Int) : Prop := Int32.ofInt x < Int32.ofInt y
def px_le (x y : Int) : Prop := Int32.ofInt x ≤ Int32.ofInt y
theorem px_eq_iff {x y : Int} (h : -2147483648 ≤ x ∧ x < 2147483648 ∧ -2147483648 ≤ y ∧ y < 2147483648) : px_eq x y ↔ x = y := by
  unfold px_eq
  constructor
  · intro e
    have := congrArg Int32.toInt e
    rwa [px_toInt h.1 h.2.1, px_toInt h.2.2.1 h.2.2.2] at this
  · intro e
    rw [e]
theorem px_lt_iff {x y : Int} (h : -2147483648 ≤ x ∧ x < 2147483648 ∧ -2147483648 ≤ y ∧ y < 2147483648) : px_lt x y ↔ x < y := by
  unfold px_lt
  rw [Int32.lt_iff_toInt_lt, px_toInt h.1 h.2.1, px_toInt h.2.2.1 h.2.2.2]
theorem px_le_iff {x y : Int} (h : -2147483648 ≤ x ∧ x < 2147483648 ∧ -2147483648 ≤ y ∧ y < 2147483648) : px_le x y ↔ x ≤ y := by
  unfold px_le
  rw [Int32.le_iff_toInt_le, px_toInt h.1 h.2.1, px_toInt h.2.2.1 h.2.2.2]
def px_and (x y : Int) : Int := (Int32.ofInt x &&& Int32.ofInt y).toInt
def px_or (x y : Int) : Int := (Int32.ofInt x ||| Int32.ofInt y).toInt
def px_xor (x y : Int) : Int := (Int32.ofInt x ^^^ Int32.ofInt y).toInt
def px_shl (x y : Int) : Int := (Int32.ofInt x <<< (Int32.ofInt y &&& 31)).toInt
def px_shr (x y : Int) : Int := (Int32.ofInt x >>> (Int32.ofInt y &&& 31)).toInt
theorem px_div {x y : Int} (h : 0 ≤ x ∧ x < 2147483648 ∧ 0 < y ∧ y < 2147483648) : Int32.ofInt x / Int32.ofInt y = Int32.ofInt (x / y) := by
  have := Int32.ofInt_tdiv (a := x) (b := y) (by simp [Int32.toInt_minValue]; omega) (by simp [Int32.toInt_maxValue]; omega) (by simp [Int32.toInt_minValue]; omega) (by simp [Int32.toInt_maxValue]; omega)
  rw [← this, Int.tdiv_eq_ediv_of_nonneg h.1]
theorem px_mod {x y : Int} (h : 0 ≤ x ∧ x < 2147483648 ∧ 0 < y ∧ y < 2147483648) : Int32.ofInt x % Int32.ofInt y = Int32.ofInt (x % y) := by
  have := Int32.ofInt_tmod (a := x) (b := y) (by simp [Int32.toInt_minValue]; omega) (by simp [Int32.toInt_maxValue]; omega) (by simp [Int32.toInt_minValue]; omega) (by simp [Int32.toInt_maxValue]; omega)
  rw [← this, Int.tmod_eq_emod_of_nonneg h.1]
theorem px_ne0 {y : Int} (h : 0 < y ∧ y < 2147483648) : ¬ Int32.ofInt y = 0 := by
  intro e
  have := congrArg Int32.toInt e
  rw [px_toInt (by omega) (by omega)] at this
  have h9 : (0 : Int32).toInt = 0 := rfl
  omega
theorem px_mod64 {x y : Int} (h : 0 ≤ x ∧ x < 4611686018427387904 ∧ 0 < y ∧ y < 4611686018427387904) : Int64.ofInt x % Int64.ofInt y = Int64.ofInt (x % y) := by
  have := Int64.ofInt_tmod (a := x) (b := y) (by simp [Int64.toInt_minValue]; omega) (by simp [Int64.toInt_maxValue]; omega) (by simp [Int64.toInt_minValue]; omega) (by simp [Int64.toInt_maxValue]; omega)
  rw [← this, Int.tmod_eq_emod_of_nonneg h.1]
theorem px_ne064 {y : Int} (h : 0 < y ∧ y < 4611686018427387904) : ¬ Int64.ofInt y = 0 := by
  intro e
  have := congrArg Int64.toInt e
  rw [Int64.toInt_ofInt_of_le (by omega) (by omega)] at this
  have h9 : (0 : Int64).toInt = 0 := rfl
  omega
theorem px_i2l {x : Int} (h : -2147483648 ≤ x ∧ x < 2147483648) : (Int32.ofInt x).toInt64 = Int64.ofInt x := Int32.toInt64_ofInt (by simp [Int32.toInt_minValue]; omega) (by simp [Int32.toInt_maxValue]; omega)
theorem px_fvs : (∀ (o : Nat) (f : Int → Int), px_fv 0 0 o f = .inr (.inl (some (o + 1)))) ∧ (∀ (o : Nat) (f : Int → Int), px_fv 0 1 o f = .inr (.inl (some (o + 2)))) ∧ (∀ (o : Nat) (f : Int → Int), px_fv 0 2 o f = .inr (.inl (some (o + 3)))) ∧ (∀ (o : Nat) (f : Int → Int), px_fv 0 3 o f = .inr (.inl (some (o + 4)))) ∧ (∀ (o : Nat) (f : Int → Int), px_fv 0 4 o f = .inl (f 4)) ∧ (∀ (o : Nat) (f : Int → Int), px_fv 1 0 o f = .inr (.inl (some (o + 1)))) ∧ (∀ (o : Nat) (f : Int → Int), px_fv 1 1 o f = .inr (.inl (some (o + 2)))) ∧ (∀ (o : Nat) (f : Int → Int), px_fv 1 2 o f = .inr (.inl (some (o + 3)))) ∧ (∀ (o : Nat) (f : Int → Int), px_fv 2 0 o f = .inr (.inr (f 0))) ∧ (∀ (o : Nat) (f : Int → Int), px_fv 3 0 o f = .inl (f 0)) ∧ (∀ (o : Nat) (f : Int → Int), px_fv 3 1 o f = .inl (f 1)) ∧ (∀ (o : Nat) (f : Int → Int), px_fv 3 2 o f = .inl (f 2)) ∧ (∀ (o : Nat) (f : Int → Int), px_fv 3 3 o f = .inl (f 3)) ∧ (∀ (o : Nat) (f : Int → Int), px_fv 4 0 o f = .inr (.inl (some (o + 1)))) ∧ (∀ (o : Nat) (f : Int → Int), px_fv 4 1 o f = .inr (.inl (some (o + 2)))) ∧ (∀ (o : Nat) (f : Int → Int), px_fv 4 2 o f = .inr (.inl (some (o + 3)))) ∧ (∀ (o : Nat) (f : Int → Int), px_fv 4 3 o f = .inl (f 3)) ∧ (∀ (o : Nat) (f : Int → Int), px_fv 4 4 o f = .inl (f 4)) ∧ (∀ (o : Nat) (f : Int → Int), px_fv 5 0 o f = .inr (.inl (some (o + 1)))) ∧ (∀ (o : Nat) (f : Int → Int), px_fv 5 1 o f = .inl (f 1)) ∧ (∀ (o : Nat) (f : Int → Int), px_fv 5 2 o f = .inl (f 2)) ∧ (∀ (o : Nat) (f : Int → Int), px_fv 6 0 o f = .inr (.inl (some (o + 1)))) ∧ (∀ (o : Nat) (f : Int → Int), px_fv 6 1 o f = .inr (.inl (some (o + 6)))) ∧ (∀ (o : Nat) (f : Int → Int), px_fv 6 2 o f = .inr (.inl (some (o + 11)))) ∧ (∀ (o : Nat) (f : Int → Int), px_fv 6 3 o f = .inl (f 3)) ∧ (∀ (o : Nat) (f : Int → Int), px_fv 6 4 o f = .inl (f 4)) ∧ (∀ (o : Nat) (f : Int → Int), px_fv 7 0 o f = .inr (.inl (some (o + 1)))) ∧ (∀ (o : Nat) (f : Int → Int), px_fv 7 1 o f = .inr (.inl (some (o + 2)))) ∧ (∀ (o : Nat) (f : Int → Int), px_fv 7 2 o f = .inr (.inl (px_hd o (f 2)))) ∧ (∀ (o : Nat) (f : Int → Int), px_fv 8 0 o f = .inr (.inl (some (o + 1)))) ∧ (∀ (o : Nat) (f : Int → Int), px_fv 8 1 o f = .inl (f 1)) ∧ (∀ (o : Nat) (f : Int → Int), px_fv 9 0 o f = .inr (.inl (some (o + 1)))) ∧ (∀ (o : Nat) (f : Int → Int), px_fv 9 1 o f = .inr (.inl (some (o + 3)))) ∧ (∀ (o : Nat) (f : Int → Int), px_fv 9 2 o f = .inr (.inl (some (o + 17)))) ∧ (∀ (o : Nat) (f : Int → Int), px_fv 9 3 o f = .inr (.inl (some (o + 131)))) ∧ (∀ (o : Nat) (f : Int → Int), px_fv 9 4 o f = .inr (.inl (some (o + 160)))) ∧ (∀ (o : Nat) (f : Int → Int), px_fv 9 5 o f = .inr (.inl (some (o + 161)))) ∧ (∀ (o : Nat) (f : Int → Int), px_fv 9 6 o f = .inr (.inl (some (o + 178)))) ∧ (∀ (o : Nat) (f : Int → Int), px_fv 9 7 o f = .inr (.inl (some (o + 183)))) ∧ (∀ (o : Nat) (f : Int → Int), px_fv 9 8 o f = .inr (.inl (some (o + 188)))) ∧ (∀ (o : Nat) (f : Int → Int), px_fv 9 9 o f = .inr (.inl (some (o + 200)))) ∧ (∀ (o : Nat) (f : Int → Int), px_fv 9 10 o f = .inr (.inl (some (o + 204)))) ∧ (∀ (o : Nat) (f : Int → Int), px_fv 9 11 o f = .inl (f 11)) ∧ (∀ (o : Nat) (f : Int → Int), px_fv 10 0 o f = .inl (f 0)) ∧ (∀ (o : Nat) (f : Int → Int), px_fv 10 1 o f = .inr (.inl (some (o + 1)))) ∧ (∀ (o : Nat) (f : Int → Int), px_fv 10 2 o f = .inl (f 2)) ∧ (∀ (o : Nat) (f : Int → Int), px_fv 10 3 o f = .inr (.inl (some (o + 2)))) ∧ (∀ (o : Nat) (f : Int → Int), px_fv 10 4 o f = .inl (f 4)) ∧ (∀ (o : Nat) (f : Int → Int), px_fv 10 5 o f = .inr (.inl (some (o + 3)))) ∧ (∀ (o : Nat) (f : Int → Int), px_fv 10 6 o f = .inr (.inl (some (o + 4)))) ∧ (∀ (o : Nat) (f : Int → Int), px_fv 10 7 o f = .inr (.inl (some (o + 5)))) ∧ (∀ (o : Nat) (f : Int → Int), px_fv 10 8 o f = .inr (.inl (some (o + 6)))) ∧ (∀ (o : Nat) (f : Int → Int), px_fv 10 9 o f = .inr (.inl (some (o + 7)))) ∧ (∀ (o : Nat) (f : Int → Int), px_fv 10 10 o f = .inr (.inl (some (o + 8)))) ∧ (∀ (o : Nat) (f : Int → Int), px_fv 10 11 o f = .inr (.inl (some (o + 9)))) ∧ (∀ (o : Nat) (f : Int → Int), px_fv 10 12 o f = .inl (f 12)) ∧ (∀ (o : Nat) (f : Int → Int), px_fv 10 13 o f = .inr (.inl (some (o + 10)))) ∧ (∀ (o : Nat) (f : Int → Int), px_fv 10 14 o f = .inl (f 14)) ∧ (∀ (o : Nat) (f : Int → Int), px_fv 10 15 o f = .inr (.inl (some (o + 11)))) ∧ (∀ (o : Nat) (f : Int → Int), px_fv 10 16 o f = .inl (f 16)) ∧ (∀ (o : Nat) (f : Int → Int), px_fv 10 17 o f = .inr (.inl (some (o + 12)))) ∧ (∀ (o : Nat) (f : Int → Int), px_fv 10 18 o f = .inr (.inl (some (o + 13)))) ∧ (∀ (o : Nat) (f : Int → Int), px_fv 10 19 o f = .inr (.inl (some (o + 14)))) ∧ (∀ (o : Nat) (f : Int → Int), px_fv 10 20 o f = .inr (.inl (some (o + 15)))) ∧ (∀ (o : Nat) (f : Int → Int), px_fv 10 21 o f = .inr (.inr (f 21))) := ⟨fun _ _ => rfl, fun _ _ => rfl, fun _ _ => rfl, fun _ _ => rfl, fun _ _ => rfl, fun _ _ => rfl, fun _ _ => rfl, fun _ _ => rfl, fun _ _ => rfl, fun _ _ => rfl, fun _ _ => rfl, fun _ _ => rfl, fun _ _ => rfl, fun _ _ => rfl, fun _ _ => rfl, fun _ _ => rfl, fun _ _ => rfl, fun _ _ => rfl, fun _ _ => rfl, fun _ _ => rfl, fun _ _ => rfl, fun _ _ => rfl, fun _ _ => rfl, fun _ _ => rfl, fun _ _ => rfl, fun _ _ => rfl, fun _ _ => rfl, fun _ _ => rfl, fun _ _ => rfl, fun _ _ => rfl, fun _ _ => rfl, fun _ _ => rfl, fun _ _ => rfl, fun _ _ => rfl, fun _ _ => rfl, fun _ _ => rfl, fun _ _ => rfl, fun _ _ => rfl, fun _ _ => rfl, fun _ _ => rfl, fun _ _ => rfl, fun _ _ => rfl, fun _ _ => rfl, fun _ _ => rfl, fun _ _ => rfl, fun _ _ => rfl, fun _ _ => rfl, fun _ _ => rfl, fun _ _ => rfl, fun _ _ => rfl, fun _ _ => rfl, fun _ _ => rfl, fun _ _ => rfl, fun _ _ => rfl, fun _ _ => rfl, fun _ _ => rfl, fun _ _ => rfl, fun _ _ => rfl, fun _ _ => rfl, fun _ _ => rfl, fun _ _ => rfl, fun _ _ => rfl, fun _ _ => rfl, fun _ _ => rfl, fun _ _ => rfl⟩
theorem px_pfs : px_pf 0 0 = 2 ∧ px_pf 0 1 = 2 ∧ px_pf 0 2 = 2 ∧ px_pf 0 3 = 2 ∧ px_pf 0 4 = 0 ∧ px_pf 1 0 = 2 ∧ px_pf 1 1 = 2 ∧ px_pf 1 2 = 2 ∧ px_pf 2 0 = 1 ∧ px_pf 3 0 = 0 ∧ px_pf 3 1 = 0 ∧ px_pf 3 2 = 0 ∧ px_pf 3 3 = 0 ∧ px_pf 4 0 = 2 ∧ px_pf 4 1 = 2 ∧ px_pf 4 2 = 2 ∧ px_pf 4 3 = 0 ∧ px_pf 4 4 = 0 ∧ px_pf 5 0 = 2 ∧ px_pf 5 1 = 0 ∧ px_pf 5 2 = 0 ∧ px_pf 6 0 = 2 ∧ px_pf 6 1 = 2 ∧ px_pf 6 2 = 2 ∧ px_pf 6 3 = 0 ∧ px_pf 6 4 = 0 ∧ px_pf 7 0 = 2 ∧ px_pf 7 1 = 2 ∧ px_pf 7 2 = 3 ∧ px_pf 8 0 = 2 ∧ px_pf 8 1 = 0 ∧ px_pf 9 0 = 2 ∧ px_pf 9 1 = 2 ∧ px_pf 9 2 = 2 ∧ px_pf 9 3 = 2 ∧ px_pf 9 4 = 2 ∧ px_pf 9 5 = 2 ∧ px_pf 9 6 = 2 ∧ px_pf 9 7 = 2 ∧ px_pf 9 8 = 2 ∧ px_pf 9 9 = 2 ∧ px_pf 9 10 = 2 ∧ px_pf 9 11 = 0 ∧ px_pf 10 0 = 0 ∧ px_pf 10 1 = 2 ∧ px_pf 10 2 = 0 ∧ px_pf 10 3 = 2 ∧ px_pf 10 4 = 0 ∧ px_pf 10 5 = 2 ∧ px_pf 10 6 = 2 ∧ px_pf 10 7 = 2 ∧ px_pf 10 8 = 2 ∧ px_pf 10 9 = 2 ∧ px_pf 10 10 = 2 ∧ px_pf 10 11 = 2 ∧ px_pf 10 12 = 0 ∧ px_pf 10 13 = 2 ∧ px_pf 10 14 = 0 ∧ px_pf 10 15 = 2 ∧ px_pf 10 16 = 0 ∧ px_pf 10 17 = 2 ∧ px_pf 10 18 = 2 ∧ px_pf 10 19 = 2 ∧ px_pf 10 20 = 2 ∧ px_pf 10 21 = 1 := ⟨rfl, rfl, rfl, rfl, rfl, rfl, rfl, rfl, rfl, rfl, rfl, rfl, rfl, rfl, rfl, rfl, rfl, rfl, rfl, rfl, rfl, rfl, rfl, rfl, rfl, rfl, rfl, rfl, rfl, rfl, rfl, rfl, rfl, rfl, rfl, rfl, rfl, rfl, rfl, rfl, rfl, rfl, rfl, rfl, rfl, rfl, rfl, rfl, rfl, rfl, rfl, rfl, rfl, rfl, rfl, rfl, rfl, rfl, rfl, rfl, rfl, rfl, rfl, rfl, rfl⟩
/-! ===== what a method's body is walked in ===== -/
def px_tys (G : px_G) : List (ClassId × FieldType) := [(G.2.2.1 20, .int), (G.2.2.1 21, .boolean), (G.2.2.1 22, .object RX0), (G.2.2.1 23, .object RX1), (G.2.2.1 24, .object RX7), (G.2.2.1 25, .object RX9)]
def px_isNest : Cond → Bool
  | .fieldLinkNest .. => true
  | .methodLinkNest .. => true
  | _ => false
/-- what the tables say beside the words: the classes' numbers and slots, who isn't who, the links between nest mates -/
def px_K (G : px_G) (s : State) : Prop := va_K G.2.1 vwCl (px_tys G) s ∧ (va_Nc RX9 RX3 s ∧ va_Nc RX3 RX9 s) ∧ ∀ w ∈ lw_tbl, px_isNest w = true → va_Nw w s
theorem px_K.warm {G : px_G} {s U : State} (hW : s.WarmedH U.vm) (h : px_K G s) : px_K G U := by
  refine ⟨va_K.moved hW.alike h.1, ⟨h.2.1.1.moved hW.alike, h.2.1.2.moved hW.alike⟩, fun w hw hn => ?_⟩
  have h1 := h.2.2 w hw hn
  cases w <;> first | (cases hn; done) | exact va_Nw.warmF hW h1 | exact va_Nw.warmM hW h1
theorem px_K.same {G : px_G} {s U : State} (e : s.vm = U.vm) (h : px_K G s) : px_K G U := by
  have hA : s.vm.Alike U.vm := e ▸ Vm.Alike.refl s.vm
  refine ⟨va_K.moved hA h.1, ⟨h.2.1.1.moved hA, h.2.1.2.moved hA⟩, fun w hw hn => ?_⟩
  have h1 := h.2.2 w hw hn
  cases w <;> first | (cases hn; done) | exact va_Nw.same rfl e h1
def px_room (d : Nat) : Room := { frames := d, cells := 0, slots := 0, locals := 37 * d }
def px_Qc (G : px_G) (Q : Option px_X → px_Mem → Prop) : Array Value → State → Outcome → State → Prop := fun _ st oc t =>
  (∃ (r : Option px_X) (μ : px_Mem), oc = .returned (r.map (px_v G.2.2.2)) ∧ Q r μ ∧ va_P G.2.1 vwCl (px_w G μ) t.heap) ∧ va_F (fun q : Nat => G.2.2.2 ≤ q) st t
def px_Pc (G : px_G) (av : List px_X) (μ : px_Mem) : Array Value → State → Prop := va_Pc (av.map (px_v G.2.2.2)) (fun U => va_P G.2.1 vwCl (px_w G μ) U.heap ∧ px_K G U ∧ G.2.2.2 ≤ U.heap.size)
/-- a call of y: it returns, its answer and the memory behind it are as Q says -/
def px_C (G : px_G) (y : MethodName) (cc : ByteArray) (nL : Nat) (ret : Option FieldType) (d : Nat) (av : List px_X) (μ : px_Mem) (Q : Option px_X → px_Mem → Prop) : Prop :=
  Met G.1 y (.code y cc nL ret :: px_ws) (px_room d) (px_Pc G av μ) (px_Qc G Q) 0 0 (fun q : Nat => G.2.2.2 ≤ q)
def px_ll (b : Nat) (lv : List (Option px_X)) : List (Nat × Value) := lv.zipIdx.filterMap (fun q => q.1.map (fun v => (q.2, px_v b v)))
theorem px_ll_mem {b : Nat} {lv : List (Option px_X)} {q : Nat × Value} : q ∈ px_ll b lv ↔ ∃ v, lv[q.1]? = some (some v) ∧ q.2 = px_v b v := by
  unfold px_ll
  rw [List.mem_filterMap]
  constructor
  · rintro ⟨⟨o, j⟩, h1, h2⟩
    have h3 := List.mem_zipIdx_iff_getElem?.mp h1
    cases o with
    | none => cases h2
    | some v =>
      simp only [Option.map_some, Option.some.injEq] at h2
      subst h2
      exact ⟨v, h3, rfl⟩
  · rintro ⟨v, h1, h2⟩
    refine ⟨(some v, q.1), List.mem_zipIdx_iff_getElem?.mpr h1, ?_⟩
    simp only [Option.map_some, ← h2]
def px_c1 (v : px_X) : Prop := match v with
  | .inr (.inr _) => False
  | _ => True
theorem px_c1_cat {b : Nat} {v : px_X} (h : px_c1 v) : (px_v b v).category = 1 := by
  match v, h with
  | .inl z, _ => rfl
  | .inr (.inl none), _ => rfl
  | .inr (.inl (some o)), _ => rfl
def px_lv (b : Nat) (ls : Array Slot) (nL : Nat) (lv : List (Option px_X)) : Prop := lv_has ls nL (px_ll b lv) ∧ ∀ (i : Nat) (v : px_X), lv[i]? = some (some v) → px_c1 v
theorem px_lv.at {b : Nat} {ls : Array Slot} {nL : Nat} {lv : List (Option px_X)} (h : px_lv b ls nL lv) {i : Nat} {v : px_X} (hv : lv[i]? = some (some v)) : ls[i]? = some (.val (px_v b v)) := h.1.2.2 (i, px_v b v) (px_ll_mem.mpr ⟨v, hv, rfl⟩)
theorem px_lv.set {b : Nat} {ls ls' : Array Slot} {nL : Nat} {lv : List (Option px_X)} (h : px_lv b ls nL lv) {i : Nat} {v : px_X} (hc : px_c1 v)
    (h' : lv_has ls' nL ((i, px_v b v) :: (px_ll b lv).filter (fun q => !(q.1 == i) && !(q.1 + 1 == i && q.2.category == 2)))) : px_lv b ls' nL (lv.set i (some v)) := by
  refine ⟨⟨h'.1, h'.2.1, fun q hq => h'.2.2 q ?_⟩, fun j w hw => ?_⟩
  · obtain ⟨w, h1, h2⟩ := px_ll_mem.mp hq
    rw [List.getElem?_set] at h1
    by_cases hi : i = q.1
    · rw [if_pos hi] at h1
      split at h1
      · cases h1
        obtain ⟨q1, q2⟩ := q
        cases hi
        cases h2
        exact List.mem_cons_self
      · cases h1
    · rw [if_neg hi] at h1
      refine List.mem_cons_of_mem _ (List.mem_filter.mpr ⟨px_ll_mem.mpr ⟨w, h1, h2⟩, ?_⟩)
      have h3 := px_c1_cat (b := b) (h.2 _ _ h1)
      rw [h2, h3]
      simp only [Bool.and_eq_true, Bool.not_eq_true', beq_eq_false_iff_ne, ne_eq]
      exact ⟨fun e => hi e.symm, by simp⟩
  · rw [List.getElem?_set] at hw
    split at hw
    · split at hw
      · cases hw
        exact hc
      · cases hw
    · exact h.2 j w hw
def px_ctx (G : px_G) (own : String) (cc : ByteArray) (nL : Nat) (ret : Option FieldType) (p : Program) (s : State) (m : MethodId) (args : Array Value) (meth : Method) (c : Code) : Prop :=
  p.tables.exec = Jvm.exec ∧ c.code = cc ∧ c.maxLocals = nL ∧ meth.sig.returnType = ret ∧ meth.locks = false ∧ s.vm.findClass own = some m.cls ∧ (∀ w ∈ px_ws, w.before args s = true) ∧ px_K G s ∧ G.2.2.2 ≤ s.heap.size
/-- at pc, with these locals, this stack, this memory: it comes to its end, and there Q holds -/
def px_J (G : px_G) (own : String) (cc : ByteArray) (nL : Nat) (ret : Option FieldType) (d pc : Nat) (lv : List (Option px_X)) (st : List px_X) (μ : px_Mem) (Q : Option px_X → px_Mem → Prop) : Prop :=
  ∀ (p : Program) (e : Env) (s : State) (m : MethodId) (args : Array Value) (below : List Frame) (meth : Method) (c : Code), px_ctx G own cc nL ret p s m args meth c →
  ∀ (H : Heap) (locs : List Loc), va_P G.2.1 vwCl (px_w G μ) H → va_S (fun q : Nat => G.2.2.2 ≤ q) s.heap H locs → ∀ ls : Array Slot, px_lv G.2.2.2 ls nL lv →
  W p G.1 e (px_room d) s m args below meth c H locs 0 0 (MQ below (px_Qc G Q) args s 0 0 (fun q : Nat => G.2.2.2 ≤ q)) (F0 m pc ls (st.map (px_v G.2.2.2)))
theorem px_lv.entry (b m : Nat) (av : List px_X) (nL : Nat) (hn : av.length ≤ nL) (hc : ∀ v ∈ av, px_c1 v) : ∃ ls : Array Slot, px_lv b ls nL (av.map some ++ List.replicate (nL - av.length) none) ∧ ∀ mm : MethodId, entryFrame mm (av.map (px_v b)).toArray nL = F0 mm 0 ls [] := by
  have hsl : ∀ (l : List px_X), (∀ v ∈ l, px_c1 v) → (lg_sl (l.map (px_v b))) = l.map (fun v => Slot.val (px_v b v)) := by
    intro l
    induction l with
    | nil => intro _; rfl
    | cons a r ih =>
      intro h
      have h1 := px_c1_cat (b := b) (h a List.mem_cons_self)
      have h2 := ih (fun v hv => h v (List.mem_cons_of_mem _ hv))
      unfold lg_sl at h2 ⊢
      rw [List.map_cons, List.flatMap_cons, h2, if_neg (by rw [h1]; decide)]
      rfl
  have hlen : (lg_sl (av.map (px_v b))).length = av.length := by rw [hsl av hc, List.length_map]
  have hl := lv_entry (av.map (px_v b)) (n := nL) (by rw [hlen]; exact hn)
  have hargs : ∀ (l : List px_X) (k : Nat), (∀ v ∈ l, px_c1 v) → ∀ (i : Nat) (v : px_X), l[i]? = some v → (k + i, px_v b v) ∈ lv_args k (l.map (px_v b)) := by
    intro l
    induction l with
    | nil => intro k _ i v h; cases h
    | cons a r ih =>
      intro k h i v hv
      have h1 := px_c1_cat (b := b) (h a List.mem_cons_self)
      rw [List.map_cons, lv_args, if_neg (by rw [h1]; decide)]
      cases i with
      | zero =>
        cases hv
        exact List.mem_cons_self
      | succ i =>
        have := ih (k + 1) (fun v hv => h v (List.mem_cons_of_mem _ hv)) i v hv
        rw [show k + (i + 1) = k + 1 + i by omega]
        exact List.mem_cons_of_mem _ this
  have key : ∀ (i : Nat) (v : px_X), (av.map some ++ List.replicate (nL - av.length) none)[i]? = some (some v) → av[i]? = some v := by
    intro i v h
    by_cases hi : i < av.length
    · rw [List.getElem?_append_left (by rw [List.length_map]; exact hi), List.getElem?_map] at h
      cases h2 : av[i]? with
      | none => rw [h2] at h; cases h
      | some w => rw [h2] at h; simp at h; rw [h]
    · rw [List.getElem?_append_right (by rw [List.length_map]; omega)] at h
      have := List.mem_of_getElem? h
      have := List.eq_of_mem_replicate this
      cases this
  refine ⟨_, ⟨⟨hl.1, hl.2.1, fun q hq => hl.2.2 q ?_⟩, fun i v h => hc v (List.mem_of_getElem? (key i v h))⟩, fun mm => lg_entry_eq mm _ _⟩
  obtain ⟨v, h1, h2⟩ := px_ll_mem.mp hq
  have h3 := hargs av 0 hc q.1 v (key _ _ h1)
  rw [Nat.zero_add, ← h2] at h3
  exact h3
/-- a method's contract out of its body -/
theorem px_enter {G : px_G} {y : MethodName} {cc : ByteArray} {nL d : Nat} {ret : Option FieldType} {av : List px_X} {μ : px_Mem} {Q : Option px_X → px_Mem → Prop} (own : String) (hy : plainName y.cls = true) (ho : y.cls = own) (hn : av.length ≤ nL) (hc : ∀ v ∈ av, px_c1 v)
    (k : px_J G own cc nL ret d 0 (av.map some ++ List.replicate (nL - av.length) none) [] μ Q) : px_C G y cc nL ret d av μ Q := by
  subst ho
  refine Met.ofW (cc := cc) (maxL := nL) (ret := ret) hy rfl ?_
  intro p e s m args below meth c s₁ B hml hv
  obtain ⟨rfl, hP, hK, hsz⟩ := hv
  obtain ⟨ls, hl, he⟩ := px_lv.entry G.2.2.2 0 av nL hn hc
  rw [he m]
  have hts := atoms_spec (ws := .code y cc nL ret :: px_ws) B.pre
  exact k p e s m _ below meth c ⟨B.exec, B.bytes, hml, B.returns, B.notSynchronized, findClass_of_methodNamed B.named, fun w hw => hts w (List.mem_cons_of_mem _ hw), hK, hsz⟩ s.heap [] hP va_S.rf ls hl
theorem px_J.cut {G : px_G} {own : String} {cc : ByteArray} {nL d pc : Nat} {ret : Option FieldType} {lv lv' : List (Option px_X)} {st : List px_X} {μ : px_Mem} {Q : Option px_X → px_Mem → Prop} (h : px_J G own cc nL ret d pc lv' st μ Q)
    (hl : ∀ (i : Nat) (v : px_X), lv'[i]? = some (some v) → lv[i]? = some (some v)) : px_J G own cc nL ret d pc lv st μ Q := by
  intro p e s m args below meth c C H locs hP hS ls hls
  refine h p e s m args below meth c C H locs hP hS ls ⟨⟨hls.1.1, hls.1.2.1, fun q hq => ?_⟩, fun i v hv => hls.2 i v (hl i v hv)⟩
  obtain ⟨v, h1, h2⟩ := px_ll_mem.mp hq
  exact hls.1.2.2 q (px_ll_mem.mpr ⟨v, hl _ _ h1, h2⟩)
theorem px_C.mono {G : px_G} {y : MethodName} {cc : ByteArray} {nL d : Nat} {ret : Option FieldType} {av : List px_X} {μ : px_Mem} {Q Q' : Option px_X → px_Mem → Prop} (h : px_C G y cc nL ret d av μ Q) (hq : ∀ r μ', Q r μ' → Q' r μ') : px_C G y cc nL ret d av μ Q' := by
  intro p e ha hc hk s m args below hf hpre hP hx
  obtain ⟨t, o, h1, h2, h3, ⟨⟨⟨r, μ', e1, e2, e3⟩, hF⟩, h4⟩⟩ := h p e ha hc hk s m args below hf hpre hP hx
  exact ⟨t, o, h1, h2, h3, ⟨⟨⟨r, μ', e1, hq r μ' e2, e3⟩, hF⟩, h4⟩⟩
