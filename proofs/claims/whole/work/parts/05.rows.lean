/-! ===== a row an instruction ===== -/
theorem px_mod1 {x y : Int} (h : 0 ≤ x ∧ x < 2147483648 ∧ 0 < y ∧ y < 2147483648) : Int32.ofInt x - Int32.ofInt x / Int32.ofInt y * Int32.ofInt y = Int32.ofInt (x % y) := by
  rw [px_div h, ← Int32.ofInt_mul, ← Int32.ofInt_sub, Int.emod_def, Int.mul_comm y]
theorem px_div64 {x y : Int} (h : 0 ≤ x ∧ x < 4611686018427387904 ∧ 0 < y ∧ y < 4611686018427387904) : Int64.ofInt x / Int64.ofInt y = Int64.ofInt (x / y) := by
  have := Int64.ofInt_tdiv (a := x) (b := y) (by simp [Int64.toInt_minValue]; omega) (by simp [Int64.toInt_maxValue]; omega) (by simp [Int64.toInt_minValue]; omega) (by simp [Int64.toInt_maxValue]; omega)
  rw [← this, Int.tdiv_eq_ediv_of_nonneg h.1]
theorem px_mod641 {x y : Int} (h : 0 ≤ x ∧ x < 4611686018427387904 ∧ 0 < y ∧ y < 4611686018427387904) : Int64.ofInt x - Int64.ofInt x / Int64.ofInt y * Int64.ofInt y = Int64.ofInt (x % y) := by
  rw [px_div64 h, ← Int64.ofInt_mul, ← Int64.ofInt_sub, Int.emod_def, Int.mul_comm y]
section PXR
variable {G : px_G} {own : String} {cc : ByteArray} {nL d pc : Nat} {ret : Option FieldType} {lv : List (Option px_X)} {st : List px_X} {μ : px_Mem} {Q : Option px_X → px_Mem → Prop}
theorem px_iconst {n : Int} (hd : decode cc pc = .ok (.iconst n, 1)) (k : px_J G own cc nL ret d (pc + 1) lv (.inl n :: st) μ Q) : px_J G own cc nL ret d pc lv st μ Q := by
  intro p e s m args below meth c C H locs hP hS ls hl
  exact lv_iconst C.1 C.2.1 hd rfl (k p e s m args below meth c C H locs hP hS ls hl)
theorem px_bipush {n : Int} (hd : decode cc pc = .ok (.bipush n, 2)) (hn : -128 ≤ n ∧ n ≤ 127) (k : px_J G own cc nL ret d (pc + 2) lv (.inl n :: st) μ Q) : px_J G own cc nL ret d pc lv st μ Q := by
  intro p e s m args below meth c C H locs hP hS ls hl
  exact lv_bipush C.1 C.2.1 hd (Int8.toInt32_ofInt (by simp [Int8.toInt_minValue]; omega) (by simp [Int8.toInt_maxValue]; omega)) (k p e s m args below meth c C H locs hP hS ls hl)
theorem px_sipush {n : Int} (hd : decode cc pc = .ok (.sipush n, 3)) (hn : -32768 ≤ n ∧ n ≤ 32767) (k : px_J G own cc nL ret d (pc + 3) lv (.inl n :: st) μ Q) : px_J G own cc nL ret d pc lv st μ Q := by
  intro p e s m args below meth c C H locs hP hS ls hl
  exact lv_sipush C.1 C.2.1 hd (Int16.toInt32_ofInt (by simp [Int16.toInt_minValue]; omega) (by simp [Int16.toInt_maxValue]; omega)) (k p e s m args below meth c C H locs hP hS ls hl)
theorem px_find {α : Type} {l : List α} {f : α → Bool} {β : Type} {g : α → β} {v : β} (h : (l.find? f).map g = some v) : ∃ e ∈ l, f e = true ∧ g e = v := by
  cases h1 : l.find? f with
  | none => rw [h1] at h; cases h
  | some e =>
    rw [h1] at h
    exact ⟨e, List.mem_of_find?_eq_some h1, List.find?_some h1, Option.some.inj h⟩
theorem px_ct_ok {idx : Nat} {v : Int} {b : Bool} (h : px_ct own idx = some (v, b)) : (if b then Cond.constantLong own idx (Int64.ofInt v) else Cond.constant own idx (Int32.ofInt v)) ∈ px_ws := by
  obtain ⟨⟨o, i, z, b', p⟩, h1, h2, h3⟩ := px_find h
  have h4 := List.all_eq_true.mp px_CT_ok _ h1
  simp only [px_CTok, Bool.and_eq_true, decide_eq_true_eq] at h4
  simp only [Bool.and_eq_true, beq_iff_eq] at h2
  obtain ⟨rfl, rfl⟩ := h2
  cases h3
  refine px_ws_at _ h4.1.1 ?_
  dsimp only
  cases b' <;> rfl
theorem px_ldc {idx : Nat} {v : Int} (hd : decode cc pc = .ok (.ldc idx, 2)) (h : px_ct own idx = some (v, false)) (k : px_J G own cc nL ret d (pc + 2) lv (.inl v :: st) μ Q) : px_J G own cc nL ret d pc lv st μ Q := by
  intro p e s m args below meth c C H locs hP hS ls hl
  exact lv_ldc C.1 C.2.1 C.2.2.2.2.2.1 (C.2.2.2.2.2.2.1 _ (px_ct_ok h)) hd (k p e s m args below meth c C H locs hP hS ls hl)
theorem px_ldc2 {idx : Nat} {v : Int} (hd : decode cc pc = .ok (.ldc2_w idx, 3)) (h : px_ct own idx = some (v, true)) (k : px_J G own cc nL ret d (pc + 3) lv (.inr (.inr v) :: st) μ Q) : px_J G own cc nL ret d pc lv st μ Q := by
  intro p e s m args below meth c C H locs hP hS ls hl
  exact lv_ldc2 C.1 C.2.1 C.2.2.2.2.2.1 (C.2.2.2.2.2.2.1 _ (px_ct_ok h)) hd (k p e s m args below meth c C H locs hP hS ls hl)
theorem px_null (hd : decode cc pc = .ok (.aconst_null, 1)) (k : px_J G own cc nL ret d (pc + 1) lv (.inr (.inl none) :: st) μ Q) : px_J G own cc nL ret d pc lv st μ Q := by
  intro p e s m args below meth c C H locs hP hS ls hl
  exact lv_null C.1 C.2.1 hd (k p e s m args below meth c C H locs hP hS ls hl)
theorem px_iload {i : Nat} {z : Int} (hd : decode cc pc = .ok (.iload i, 2)) (h : lv[i]? = some (some (.inl z))) (k : px_J G own cc nL ret d (pc + 2) lv (.inl z :: st) μ Q) : px_J G own cc nL ret d pc lv st μ Q := by
  intro p e s m args below meth c C H locs hP hS ls hl
  exact lv_iload C.1 C.2.1 hd (hl.at h) (k p e s m args below meth c C H locs hP hS ls hl)
theorem px_iload_n {i : Fin 4} {z : Int} (hd : decode cc pc = .ok (.iload_n i, 1)) (h : lv[(i : Nat)]? = some (some (.inl z))) (k : px_J G own cc nL ret d (pc + 1) lv (.inl z :: st) μ Q) : px_J G own cc nL ret d pc lv st μ Q := by
  intro p e s m args below meth c C H locs hP hS ls hl
  exact lv_iload_n C.1 C.2.1 hd rfl (hl.at h) (k p e s m args below meth c C H locs hP hS ls hl)
theorem px_aload {i : Nat} {r : Option Nat} (hd : decode cc pc = .ok (.aload i, 2)) (h : lv[i]? = some (some (.inr (.inl r)))) (k : px_J G own cc nL ret d (pc + 2) lv (.inr (.inl r) :: st) μ Q) : px_J G own cc nL ret d pc lv st μ Q := by
  intro p e s m args below meth c C H locs hP hS ls hl
  cases r with
  | none => exact lv_aloadN C.1 C.2.1 hd (hl.at h) (k p e s m args below meth c C H locs hP hS ls hl)
  | some o => exact lv_aload C.1 C.2.1 hd (hl.at h) (k p e s m args below meth c C H locs hP hS ls hl)
theorem px_aload_n {i : Fin 4} {r : Option Nat} (hd : decode cc pc = .ok (.aload_n i, 1)) (h : lv[(i : Nat)]? = some (some (.inr (.inl r)))) (k : px_J G own cc nL ret d (pc + 1) lv (.inr (.inl r) :: st) μ Q) : px_J G own cc nL ret d pc lv st μ Q := by
  intro p e s m args below meth c C H locs hP hS ls hl
  cases r with
  | none => exact lv_aload_nN C.1 C.2.1 hd rfl (hl.at h) (k p e s m args below meth c C H locs hP hS ls hl)
  | some o => exact lv_aload_n C.1 C.2.1 hd rfl (hl.at h) (k p e s m args below meth c C H locs hP hS ls hl)
theorem px_istore {i : Nat} {z : Int} (hd : decode cc pc = .ok (.istore i, 2)) (hi : i < nL) (k : px_J G own cc nL ret d (pc + 2) (lv.set i (some (.inl z))) st μ Q) : px_J G own cc nL ret d pc lv (.inl z :: st) μ Q := by
  intro p e s m args below meth c C H locs hP hS ls hl
  exact lv_istore C.1 C.2.1 hd hl.1 hi rfl (fun ls' h' => k p e s m args below meth c C H locs hP hS ls' (hl.set trivial h'))
theorem px_istore_n {i : Fin 4} {z : Int} (hd : decode cc pc = .ok (.istore_n i, 1)) (hi : (i : Nat) < nL) (k : px_J G own cc nL ret d (pc + 1) (lv.set i (some (.inl z))) st μ Q) : px_J G own cc nL ret d pc lv (.inl z :: st) μ Q := by
  intro p e s m args below meth c C H locs hP hS ls hl
  exact lv_istore_n C.1 C.2.1 hd rfl hl.1 hi rfl (fun ls' h' => k p e s m args below meth c C H locs hP hS ls' (hl.set trivial h'))
theorem px_astore {i : Nat} {r : Option Nat} (hd : decode cc pc = .ok (.astore i, 2)) (hi : i < nL) (k : px_J G own cc nL ret d (pc + 2) (lv.set i (some (.inr (.inl r)))) st μ Q) : px_J G own cc nL ret d pc lv (.inr (.inl r) :: st) μ Q := by
  intro p e s m args below meth c C H locs hP hS ls hl
  cases r with
  | none => exact lv_astoreN C.1 C.2.1 hd hl.1 hi rfl (fun ls' h' => k p e s m args below meth c C H locs hP hS ls' (hl.set trivial h'))
  | some o => exact lv_astore C.1 C.2.1 hd hl.1 hi rfl (fun ls' h' => k p e s m args below meth c C H locs hP hS ls' (hl.set trivial h'))
theorem px_astore_n {i : Fin 4} {r : Option Nat} (hd : decode cc pc = .ok (.astore_n i, 1)) (hi : (i : Nat) < nL) (k : px_J G own cc nL ret d (pc + 1) (lv.set i (some (.inr (.inl r)))) st μ Q) : px_J G own cc nL ret d pc lv (.inr (.inl r) :: st) μ Q := by
  intro p e s m args below meth c C H locs hP hS ls hl
  cases r with
  | none => exact lv_astore_nN C.1 C.2.1 hd rfl hl.1 hi rfl (fun ls' h' => k p e s m args below meth c C H locs hP hS ls' (hl.set trivial h'))
  | some o => exact lv_astore_n C.1 C.2.1 hd rfl hl.1 hi rfl (fun ls' h' => k p e s m args below meth c C H locs hP hS ls' (hl.set trivial h'))
theorem px_iinc {i : Nat} {n z : Int} (hd : decode cc pc = .ok (.iinc i n, 3)) (h : lv[i]? = some (some (.inl z))) (hi : i < nL) (k : px_J G own cc nL ret d (pc + 3) (lv.set i (some (.inl (z + n)))) st μ Q) : px_J G own cc nL ret d pc lv st μ Q := by
  intro p e s m args below meth c C H locs hP hS ls hl
  obtain ⟨j, hj⟩ := List.getElem?_of_mem (px_ll_mem (b := G.2.2.2) (q := (i, px_v G.2.2.2 (.inl z))) |>.mpr ⟨_, h, rfl⟩)
  exact lv_iinc C.1 C.2.1 hd hl.1 hj (Int32.ofInt_add z n).symm hi rfl (fun ls' h' => k p e s m args below meth c C H locs hP hS ls' (hl.set (v := .inl (z + n)) trivial h'))
theorem px_iadd {x y : Int} (hd : decode cc pc = .ok (.iadd, 1)) (k : px_J G own cc nL ret d (pc + 1) lv (.inl (x + y) :: st) μ Q) : px_J G own cc nL ret d pc lv (.inl y :: .inl x :: st) μ Q := by
  intro p e s m args below meth c C H locs hP hS ls hl
  have h := k p e s m args below meth c C H locs hP hS ls hl
  rw [List.map_cons, px_v, Int32.ofInt_add] at h
  exact lv_iadd C.1 C.2.1 hd h
theorem px_isub {x y : Int} (hd : decode cc pc = .ok (.isub, 1)) (k : px_J G own cc nL ret d (pc + 1) lv (.inl (x - y) :: st) μ Q) : px_J G own cc nL ret d pc lv (.inl y :: .inl x :: st) μ Q := by
  intro p e s m args below meth c C H locs hP hS ls hl
  have h := k p e s m args below meth c C H locs hP hS ls hl
  rw [List.map_cons, px_v, Int32.ofInt_sub] at h
  exact lv_isub C.1 C.2.1 hd h
theorem px_imul {x y : Int} (hd : decode cc pc = .ok (.imul, 1)) (k : px_J G own cc nL ret d (pc + 1) lv (.inl (x * y) :: st) μ Q) : px_J G own cc nL ret d pc lv (.inl y :: .inl x :: st) μ Q := by
  intro p e s m args below meth c C H locs hP hS ls hl
  have h := k p e s m args below meth c C H locs hP hS ls hl
  rw [List.map_cons, px_v, Int32.ofInt_mul] at h
  exact lv_imul C.1 C.2.1 hd h
theorem px_iand {x y : Int} (hd : decode cc pc = .ok (.iand, 1)) (k : px_J G own cc nL ret d (pc + 1) lv (.inl (px_and x y) :: st) μ Q) : px_J G own cc nL ret d pc lv (.inl y :: .inl x :: st) μ Q := by
  intro p e s m args below meth c C H locs hP hS ls hl
  have h := k p e s m args below meth c C H locs hP hS ls hl
  rw [List.map_cons, px_v, px_and, Int32.ofInt_toInt] at h
  exact lv_iand C.1 C.2.1 hd h
theorem px_ior {x y : Int} (hd : decode cc pc = .ok (.ior, 1)) (k : px_J G own cc nL ret d (pc + 1) lv (.inl (px_or x y) :: st) μ Q) : px_J G own cc nL ret d pc lv (.inl y :: .inl x :: st) μ Q := by
  intro p e s m args below meth c C H locs hP hS ls hl
  have h := k p e s m args below meth c C H locs hP hS ls hl
  rw [List.map_cons, px_v, px_or, Int32.ofInt_toInt] at h
  exact lv_ior C.1 C.2.1 hd h
theorem px_ixor {x y : Int} (hd : decode cc pc = .ok (.ixor, 1)) (k : px_J G own cc nL ret d (pc + 1) lv (.inl (px_xor x y) :: st) μ Q) : px_J G own cc nL ret d pc lv (.inl y :: .inl x :: st) μ Q := by
  intro p e s m args below meth c C H locs hP hS ls hl
  have h := k p e s m args below meth c C H locs hP hS ls hl
  rw [List.map_cons, px_v, px_xor, Int32.ofInt_toInt] at h
  exact lv_ixor C.1 C.2.1 hd h
theorem px_ishl {x y : Int} (hd : decode cc pc = .ok (.ishl, 1)) (k : px_J G own cc nL ret d (pc + 1) lv (.inl (px_shl x y) :: st) μ Q) : px_J G own cc nL ret d pc lv (.inl y :: .inl x :: st) μ Q := by
  intro p e s m args below meth c C H locs hP hS ls hl
  have h := k p e s m args below meth c C H locs hP hS ls hl
  rw [List.map_cons, px_v, px_shl, Int32.ofInt_toInt] at h
  exact lv_ishl C.1 C.2.1 hd h
theorem px_ishr {x y : Int} (hd : decode cc pc = .ok (.ishr, 1)) (k : px_J G own cc nL ret d (pc + 1) lv (.inl (px_shr x y) :: st) μ Q) : px_J G own cc nL ret d pc lv (.inl y :: .inl x :: st) μ Q := by
  intro p e s m args below meth c C H locs hP hS ls hl
  have h := k p e s m args below meth c C H locs hP hS ls hl
  rw [List.map_cons, px_v, px_shr, Int32.ofInt_toInt] at h
  exact lv_ishr C.1 C.2.1 hd h
theorem px_idiv {x y : Int} (hd : decode cc pc = .ok (.idiv, 1)) (hr : 0 ≤ x ∧ x < 2147483648 ∧ 0 < y ∧ y < 2147483648) (k : px_J G own cc nL ret d (pc + 1) lv (.inl (x / y) :: st) μ Q) : px_J G own cc nL ret d pc lv (.inl y :: .inl x :: st) μ Q := by
  intro p e s m args below meth c C H locs hP hS ls hl
  have h := k p e s m args below meth c C H locs hP hS ls hl
  rw [List.map_cons, px_v, ← px_div hr] at h
  exact lv_idiv C.1 C.2.1 hd (px_ne0 hr.2.2) h
theorem px_irem {x y : Int} (hd : decode cc pc = .ok (.irem, 1)) (hr : 0 ≤ x ∧ x < 2147483648 ∧ 0 < y ∧ y < 2147483648) (k : px_J G own cc nL ret d (pc + 1) lv (.inl (x % y) :: st) μ Q) : px_J G own cc nL ret d pc lv (.inl y :: .inl x :: st) μ Q := by
  intro p e s m args below meth c C H locs hP hS ls hl
  have h := k p e s m args below meth c C H locs hP hS ls hl
  rw [List.map_cons, px_v, ← px_mod1 hr] at h
  exact lv_irem C.1 C.2.1 hd (px_ne0 hr.2.2) h
theorem px_lmul {x y : Int} (hd : decode cc pc = .ok (.lmul, 1)) (k : px_J G own cc nL ret d (pc + 1) lv (.inr (.inr (x * y)) :: st) μ Q) : px_J G own cc nL ret d pc lv (.inr (.inr y) :: .inr (.inr x) :: st) μ Q := by
  intro p e s m args below meth c C H locs hP hS ls hl
  have h := k p e s m args below meth c C H locs hP hS ls hl
  rw [List.map_cons, px_v, Int64.ofInt_mul] at h
  exact lv_lmul C.1 C.2.1 hd h
theorem px_lrem {x y : Int} (hd : decode cc pc = .ok (.lrem, 1)) (hr : 0 ≤ x ∧ x < 4611686018427387904 ∧ 0 < y ∧ y < 4611686018427387904) (k : px_J G own cc nL ret d (pc + 1) lv (.inr (.inr (x % y)) :: st) μ Q) : px_J G own cc nL ret d pc lv (.inr (.inr y) :: .inr (.inr x) :: st) μ Q := by
  intro p e s m args below meth c C H locs hP hS ls hl
  have h := k p e s m args below meth c C H locs hP hS ls hl
  rw [List.map_cons, px_v, ← px_mod641 hr] at h
  exact lv_lrem C.1 C.2.1 hd (px_ne064 hr.2.2) h
theorem px_i2l_ {x : Int} (hd : decode cc pc = .ok (.i2l, 1)) (hr : -2147483648 ≤ x ∧ x < 2147483648) (k : px_J G own cc nL ret d (pc + 1) lv (.inr (.inr x) :: st) μ Q) : px_J G own cc nL ret d pc lv (.inl x :: st) μ Q := by
  intro p e s m args below meth c C H locs hP hS ls hl
  exact lv_i2l C.1 C.2.1 hd (px_i2l hr) (k p e s m args below meth c C H locs hP hS ls hl)
theorem px_l2i_ {x : Int} (hd : decode cc pc = .ok (.l2i, 1)) (k : px_J G own cc nL ret d (pc + 1) lv (.inl x :: st) μ Q) : px_J G own cc nL ret d pc lv (.inr (.inr x) :: st) μ Q := by
  intro p e s m args below meth c C H locs hP hS ls hl
  exact lv_l2i C.1 C.2.1 hd Int64.toInt32_ofInt (k p e s m args below meth c C H locs hP hS ls hl)
theorem px_dup_ {v : px_X} (hd : decode cc pc = .ok (.dup, 1)) (hv : px_c1 v) (k : px_J G own cc nL ret d (pc + 1) lv (v :: v :: st) μ Q) : px_J G own cc nL ret d pc lv (v :: st) μ Q := by
  intro p e s m args below meth c C H locs hP hS ls hl
  exact lv_dup C.1 C.2.1 hd (px_c1_cat hv) (k p e s m args below meth c C H locs hP hS ls hl)
theorem px_pop_ {v : px_X} (hd : decode cc pc = .ok (.pop, 1)) (hv : px_c1 v) (k : px_J G own cc nL ret d (pc + 1) lv st μ Q) : px_J G own cc nL ret d pc lv (v :: st) μ Q := by
  intro p e s m args below meth c C H locs hP hS ls hl
  exact lv_pop C.1 C.2.1 hd (px_c1_cat hv) (k p e s m args below meth c C H locs hP hS ls hl)
theorem px_dup2_ {v w : px_X} (hd : decode cc pc = .ok (.dup2, 1)) (hv : px_c1 v) (hw : px_c1 w) (k : px_J G own cc nL ret d (pc + 1) lv (v :: w :: v :: w :: st) μ Q) : px_J G own cc nL ret d pc lv (v :: w :: st) μ Q := by
  intro p e s m args below meth c C H locs hP hS ls hl
  exact lv_dup2_11 C.1 C.2.1 hd (px_c1_cat hv) (px_c1_cat hw) (k p e s m args below meth c C H locs hP hS ls hl)
def px_cmp (c : ClassFile.Cond) (x y : Int) : Prop := match c with
  | .eq => px_eq x y
  | .ne => ¬ px_eq x y
  | .lt => px_lt x y
  | .ge => px_le y x
  | .gt => px_lt y x
  | .le => px_le x y
def px_tg (pc : Nat) (off : Int) : Nat := ((pc : Int) + off).toNat
theorem px_if {cn : ClassFile.Cond} {off x : Int} (hd : decode cc pc = .ok (.ifCond cn off, 3)) (ht : 0 ≤ (pc : Int) + off) (k1 : px_cmp cn x 0 → px_J G own cc nL ret d (px_tg pc off) lv st μ Q) (k2 : ¬ px_cmp cn x 0 → px_J G own cc nL ret d (pc + 3) lv st μ Q) : px_J G own cc nL ret d pc lv (.inl x :: st) μ Q := by
  intro p e s m args below meth c C H locs hP hS ls hl
  have hn : (pc : Int) + off = ((px_tg pc off : Nat) : Int) := (Int.toNat_of_nonneg ht).symm
  have a1 := fun h => k1 h p e s m args below meth c C H locs hP hS ls hl
  have a2 := fun h => k2 h p e s m args below meth c C H locs hP hS ls hl
  cases cn
  · exact lv_if_eq C.1 C.2.1 hd hn a1 a2
  · exact lv_if_ne C.1 C.2.1 hd hn a1 (fun h => a2 (fun q => q h))
  · exact lv_if_lt C.1 C.2.1 hd hn a1 a2
  · exact lv_if_ge C.1 C.2.1 hd hn a1 a2
  · exact lv_if_gt C.1 C.2.1 hd hn a1 a2
  · exact lv_if_le C.1 C.2.1 hd hn a1 a2
theorem px_icmp {cn : ClassFile.Cond} {off x y : Int} (hd : decode cc pc = .ok (.if_icmp cn off, 3)) (ht : 0 ≤ (pc : Int) + off) (k1 : px_cmp cn x y → px_J G own cc nL ret d (px_tg pc off) lv st μ Q) (k2 : ¬ px_cmp cn x y → px_J G own cc nL ret d (pc + 3) lv st μ Q) : px_J G own cc nL ret d pc lv (.inl y :: .inl x :: st) μ Q := by
  intro p e s m args below meth c C H locs hP hS ls hl
  have hn : (pc : Int) + off = ((px_tg pc off : Nat) : Int) := (Int.toNat_of_nonneg ht).symm
  have a1 := fun h => k1 h p e s m args below meth c C H locs hP hS ls hl
  have a2 := fun h => k2 h p e s m args below meth c C H locs hP hS ls hl
  cases cn
  · exact lv_icmp_eq C.1 C.2.1 hd hn a1 a2
  · exact lv_icmp_ne C.1 C.2.1 hd hn a1 (fun h => a2 (fun q => q h))
  · exact lv_icmp_lt C.1 C.2.1 hd hn a1 a2
  · exact lv_icmp_ge C.1 C.2.1 hd hn a1 a2
  · exact lv_icmp_gt C.1 C.2.1 hd hn a1 a2
  · exact lv_icmp_le C.1 C.2.1 hd hn a1 a2
theorem px_goto {off : Int} (hd : decode cc pc = .ok (.goto off, 3)) (ht : 0 ≤ (pc : Int) + off) (k : px_J G own cc nL ret d (px_tg pc off) lv st μ Q) : px_J G own cc nL ret d pc lv st μ Q := by
  intro p e s m args below meth c C H locs hP hS ls hl
  exact lv_goto C.1 C.2.1 hd (Int.toNat_of_nonneg ht).symm (k p e s m args below meth c C H locs hP hS ls hl)
theorem px_ifnull {off : Int} {r : Option Nat} (hd : decode cc pc = .ok (.ifnull off, 3)) (ht : 0 ≤ (pc : Int) + off) (k : px_J G own cc nL ret d (match r with | none => px_tg pc off | some _ => pc + 3) lv st μ Q) : px_J G own cc nL ret d pc lv (.inr (.inl r) :: st) μ Q := by
  intro p e s m args below meth c C H locs hP hS ls hl
  cases r with
  | none => exact lv_ifnullN C.1 C.2.1 hd (Int.toNat_of_nonneg ht).symm (k p e s m args below meth c C H locs hP hS ls hl)
  | some o => exact lv_ifnull C.1 C.2.1 hd (k p e s m args below meth c C H locs hP hS ls hl)
theorem px_ifnonnull {off : Int} {r : Option Nat} (hd : decode cc pc = .ok (.ifnonnull off, 3)) (ht : 0 ≤ (pc : Int) + off) (k : px_J G own cc nL ret d (match r with | none => pc + 3 | some _ => px_tg pc off) lv st μ Q) : px_J G own cc nL ret d pc lv (.inr (.inl r) :: st) μ Q := by
  intro p e s m args below meth c C H locs hP hS ls hl
  cases r with
  | none => exact lv_ifnonnullN C.1 C.2.1 hd (k p e s m args below meth c C H locs hP hS ls hl)
  | some o => exact lv_ifnonnull C.1 C.2.1 hd (Int.toNat_of_nonneg ht).symm (k p e s m args below meth c C H locs hP hS ls hl)
end PXR
