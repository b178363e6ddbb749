/-! ===== the walk as a function: what is left to be shown of a stretch of code ===== -/
def px_s1 (st : List px_X) (f : Int → List px_X → Prop) : Prop := match st with
  | .inl x :: r => f x r
  | _ => False
def px_s2 (st : List px_X) (f : Int → Int → List px_X → Prop) : Prop := match st with
  | .inl y :: .inl x :: r => f x y r
  | _ => False
def px_sr (st : List px_X) (f : Nat → List px_X → Prop) : Prop := match st with
  | .inr (.inl (some o)) :: r => f o r
  | _ => False
def px_sq (st : List px_X) (f : Option Nat → List px_X → Prop) : Prop := match st with
  | .inr (.inl q) :: r => f q r
  | _ => False
def px_sir (st : List px_X) (f : Int → Nat → List px_X → Prop) : Prop := match st with
  | .inl i :: .inr (.inl (some a)) :: r => f i a r
  | _ => False
def px_siir (st : List px_X) (f : Int → Int → Nat → List px_X → Prop) : Prop := match st with
  | .inl x :: .inl i :: .inr (.inl (some a)) :: r => f x i a r
  | _ => False
def px_sl1 (st : List px_X) (f : Int → List px_X → Prop) : Prop := match st with
  | .inr (.inr x) :: r => f x r
  | _ => False
def px_sl2 (st : List px_X) (f : Int → Int → List px_X → Prop) : Prop := match st with
  | .inr (.inr y) :: .inr (.inr x) :: r => f x y r
  | _ => False
def px_sx (st : List px_X) (f : px_X → List px_X → Prop) : Prop := match st with
  | v :: r => f v r
  | _ => False
def px_sxr (st : List px_X) (f : px_X → Nat → List px_X → Prop) : Prop := match st with
  | v :: .inr (.inl (some o)) :: r => f v o r
  | _ => False
def px_sac (st : List px_X) (f : Int → Int → Nat → Int → Nat → List px_X → Prop) : Prop := match st with
  | .inl n :: .inl dp :: .inr (.inl (some a)) :: .inl sp :: .inr (.inl (some a0)) :: r => f n dp a sp a0 r
  | _ => False
theorem px_s1_inv {st : List px_X} {f : Int → List px_X → Prop} (h : px_s1 st f) : ∃ x r, st = .inl x :: r ∧ f x r := by
  unfold px_s1 at h; split at h
  · exact ⟨_, _, rfl, h⟩
  · exact h.elim
theorem px_s2_inv {st : List px_X} {f : Int → Int → List px_X → Prop} (h : px_s2 st f) : ∃ x y r, st = .inl y :: .inl x :: r ∧ f x y r := by
  unfold px_s2 at h; split at h
  · exact ⟨_, _, _, rfl, h⟩
  · exact h.elim
theorem px_sr_inv {st : List px_X} {f : Nat → List px_X → Prop} (h : px_sr st f) : ∃ o r, st = .inr (.inl (some o)) :: r ∧ f o r := by
  unfold px_sr at h; split at h
  · exact ⟨_, _, rfl, h⟩
  · exact h.elim
theorem px_sq_inv {st : List px_X} {f : Option Nat → List px_X → Prop} (h : px_sq st f) : ∃ q r, st = .inr (.inl q) :: r ∧ f q r := by
  unfold px_sq at h; split at h
  · exact ⟨_, _, rfl, h⟩
  · exact h.elim
theorem px_sir_inv {st : List px_X} {f : Int → Nat → List px_X → Prop} (h : px_sir st f) : ∃ i a r, st = .inl i :: .inr (.inl (some a)) :: r ∧ f i a r := by
  unfold px_sir at h; split at h
  · exact ⟨_, _, _, rfl, h⟩
  · exact h.elim
theorem px_siir_inv {st : List px_X} {f : Int → Int → Nat → List px_X → Prop} (h : px_siir st f) : ∃ x i a r, st = .inl x :: .inl i :: .inr (.inl (some a)) :: r ∧ f x i a r := by
  unfold px_siir at h; split at h
  · exact ⟨_, _, _, _, rfl, h⟩
  · exact h.elim
theorem px_sl1_inv {st : List px_X} {f : Int → List px_X → Prop} (h : px_sl1 st f) : ∃ x r, st = .inr (.inr x) :: r ∧ f x r := by
  unfold px_sl1 at h; split at h
  · exact ⟨_, _, rfl, h⟩
  · exact h.elim
theorem px_sl2_inv {st : List px_X} {f : Int → Int → List px_X → Prop} (h : px_sl2 st f) : ∃ x y r, st = .inr (.inr y) :: .inr (.inr x) :: r ∧ f x y r := by
  unfold px_sl2 at h; split at h
  · exact ⟨_, _, _, rfl, h⟩
  · exact h.elim
theorem px_sx_inv {st : List px_X} {f : px_X → List px_X → Prop} (h : px_sx st f) : ∃ v r, st = v :: r ∧ f v r := by
  unfold px_sx at h; split at h
  · exact ⟨_, _, rfl, h⟩
  · exact h.elim
theorem px_sxr_inv {st : List px_X} {f : px_X → Nat → List px_X → Prop} (h : px_sxr st f) : ∃ v o r, st = v :: .inr (.inl (some o)) :: r ∧ f v o r := by
  unfold px_sxr at h; split at h
  · exact ⟨_, _, _, rfl, h⟩
  · exact h.elim
theorem px_sac_inv {st : List px_X} {f : Int → Int → Nat → Int → Nat → List px_X → Prop} (h : px_sac st f) : ∃ n dp a sp a0 r, st = .inl n :: .inl dp :: .inr (.inl (some a)) :: .inl sp :: .inr (.inl (some a0)) :: r ∧ f n dp a sp a0 r := by
  unfold px_sac at h; split at h
  · exact ⟨_, _, _, _, _, _, rfl, h⟩
  · exact h.elim
def px_o {α : Type} (q : Option α) (f : α → Prop) : Prop := match q with
  | some a => f a
  | none => False
theorem px_o_inv {α : Type} {q : Option α} {f : α → Prop} (h : px_o q f) : ∃ a, q = some a ∧ f a := by
  cases q with
  | none => exact h.elim
  | some a => exact ⟨a, rfl, h⟩
def px_ld (lv : List (Option px_X)) (k : Nat) : Option px_X := (lv[k]?).getD none
theorem px_ld_inv {lv : List (Option px_X)} {k : Nat} {v : px_X} (h : px_ld lv k = some v) : lv[k]? = some (some v) := by
  unfold px_ld at h
  cases h1 : lv[k]? with
  | none => rw [h1] at h; cases h
  | some w => rw [h1] at h; simp only [Option.getD_some] at h; rw [h]
def px_wi (q : Option px_X) (f : Int → Prop) : Prop := match q with
  | some (.inl z) => f z
  | _ => False
theorem px_wi_inv {q : Option px_X} {f : Int → Prop} (h : px_wi q f) : ∃ z, q = some (.inl z) ∧ f z := by
  unfold px_wi at h; split at h
  · exact ⟨_, rfl, h⟩
  · exact h.elim
def px_wr (q : Option px_X) (f : Option Nat → Prop) : Prop := match q with
  | some (.inr (.inl r)) => f r
  | _ => False
theorem px_wr_inv {q : Option px_X} {f : Option Nat → Prop} (h : px_wr q f) : ∃ r, q = some (.inr (.inl r)) ∧ f r := by
  unfold px_wr at h; split at h
  · exact ⟨_, rfl, h⟩
  · exact h.elim
def px_nl (r : Option Nat) (a b : Nat) : Nat := match r with
  | none => a
  | some _ => b
def px_io (r : Option Nat) (ci : Nat) : Int := match r with
  | none => 0
  | some o => if px_kd o = ci then 1 else 0
def px_call (G : px_G) (d : Nat) (st : List px_X) (q : MethodName × ByteArray × Nat × Option FieldType × Nat × Nat × Bool × Nat) (μ : px_Mem) (f : List px_X → Option px_X → px_Mem → Prop) : Prop :=
  bif q.2.2.2.2.2.2.1 then q.2.2.2.2.1 < d ∧ (st.take q.2.2.2.2.2.1).length = q.2.2.2.2.2.1 ∧ (st.drop q.2.2.2.2.2.1).length ≤ 4 ∧ px_C G q.1 q.2.1 q.2.2.1 q.2.2.2.1 q.2.2.2.2.1 (st.take q.2.2.2.2.2.1).reverse μ (f (st.drop q.2.2.2.2.2.1))
  else q.2.2.2.2.1 < d ∧ (st.take q.2.2.2.2.2.1).length = q.2.2.2.2.2.1 ∧ px_sr (st.drop q.2.2.2.2.2.1) (fun o r => r.length ≤ 4 ∧ px_kd o = q.2.2.2.2.2.2.2 ∧ px_C G q.1 q.2.1 q.2.2.1 q.2.2.2.1 q.2.2.2.2.1 (.inr (.inl (some o)) :: (st.take q.2.2.2.2.2.1).reverse) μ (f r))
def px_step (G : px_G) (own : String) (cc : ByteArray) (nL : Nat) (ret : Option FieldType) (d : Nat) (Q : Option px_X → px_Mem → Prop) (K : Nat → List (Option px_X) → List px_X → px_Mem → Prop) (i : Instr) (len pc : Nat) (lv : List (Option px_X)) (st : List px_X) (μ : px_Mem) : Prop := match i, len with
  | .iconst n, 1 => K (pc + 1) lv (.inl n :: st) μ
  | .bipush n, 2 => (-128 ≤ n ∧ n ≤ 127) ∧ K (pc + 2) lv (.inl n :: st) μ
  | .sipush n, 3 => (-32768 ≤ n ∧ n ≤ 32767) ∧ K (pc + 3) lv (.inl n :: st) μ
  | .ldc idx, 2 => px_o (px_ct own idx) (fun q => q.2 = false ∧ K (pc + 2) lv (.inl q.1 :: st) μ)
  | .ldc2_w idx, 3 => px_o (px_ct own idx) (fun q => q.2 = true ∧ K (pc + 3) lv (.inr (.inr q.1) :: st) μ)
  | .aconst_null, 1 => K (pc + 1) lv (.inr (.inl none) :: st) μ
  | .iload k, 2 => px_wi (px_ld lv k) (fun z => K (pc + 2) lv (.inl z :: st) μ)
  | .iload_n k, 1 => px_wi (px_ld lv k) (fun z => K (pc + 1) lv (.inl z :: st) μ)
  | .aload k, 2 => px_wr (px_ld lv k) (fun r => K (pc + 2) lv (.inr (.inl r) :: st) μ)
  | .aload_n k, 1 => px_wr (px_ld lv k) (fun r => K (pc + 1) lv (.inr (.inl r) :: st) μ)
  | .istore k, 2 => px_s1 st (fun z r => k < nL ∧ K (pc + 2) (lv.set k (some (.inl z))) r μ)
  | .istore_n k, 1 => px_s1 st (fun z r => (k : Nat) < nL ∧ K (pc + 1) (lv.set k (some (.inl z))) r μ)
  | .astore k, 2 => px_sq st (fun q r => k < nL ∧ K (pc + 2) (lv.set k (some (.inr (.inl q)))) r μ)
  | .astore_n k, 1 => px_sq st (fun q r => (k : Nat) < nL ∧ K (pc + 1) (lv.set k (some (.inr (.inl q)))) r μ)
  | .iinc k n, 3 => px_wi (px_ld lv k) (fun z => k < nL ∧ K (pc + 3) (lv.set k (some (.inl (z + n)))) st μ)
  | .iadd, 1 => px_s2 st (fun x y r => K (pc + 1) lv (.inl (x + y) :: r) μ)
  | .isub, 1 => px_s2 st (fun x y r => K (pc + 1) lv (.inl (x - y) :: r) μ)
  | .imul, 1 => px_s2 st (fun x y r => K (pc + 1) lv (.inl (x * y) :: r) μ)
  | .iand, 1 => px_s2 st (fun x y r => K (pc + 1) lv (.inl (px_and x y) :: r) μ)
  | .ior, 1 => px_s2 st (fun x y r => K (pc + 1) lv (.inl (px_or x y) :: r) μ)
  | .ixor, 1 => px_s2 st (fun x y r => K (pc + 1) lv (.inl (px_xor x y) :: r) μ)
  | .ishl, 1 => px_s2 st (fun x y r => K (pc + 1) lv (.inl (px_shl x y) :: r) μ)
  | .ishr, 1 => px_s2 st (fun x y r => K (pc + 1) lv (.inl (px_shr x y) :: r) μ)
  | .idiv, 1 => px_s2 st (fun x y r => (0 ≤ x ∧ x < 2147483648 ∧ 0 < y ∧ y < 2147483648) ∧ K (pc + 1) lv (.inl (x / y) :: r) μ)
  | .irem, 1 => px_s2 st (fun x y r => (0 ≤ x ∧ x < 2147483648 ∧ 0 < y ∧ y < 2147483648) ∧ K (pc + 1) lv (.inl (x % y) :: r) μ)
  | .lmul, 1 => px_sl2 st (fun x y r => K (pc + 1) lv (.inr (.inr (x * y)) :: r) μ)
  | .lrem, 1 => px_sl2 st (fun x y r => (0 ≤ x ∧ x < 4611686018427387904 ∧ 0 < y ∧ y < 4611686018427387904) ∧ K (pc + 1) lv (.inr (.inr (x % y)) :: r) μ)
  | .i2l, 1 => px_s1 st (fun x r => (-2147483648 ≤ x ∧ x < 2147483648) ∧ K (pc + 1) lv (.inr (.inr x) :: r) μ)
  | .l2i, 1 => px_sl1 st (fun x r => K (pc + 1) lv (.inl x :: r) μ)
  | .dup, 1 => px_sx st (fun v r => px_c1 v ∧ K (pc + 1) lv (v :: v :: r) μ)
  | .pop, 1 => px_sx st (fun v r => px_c1 v ∧ K (pc + 1) lv r μ)
  | .dup2, 1 => px_sx st (fun v r0 => px_sx r0 (fun w r => px_c1 v ∧ px_c1 w ∧ K (pc + 1) lv (v :: w :: v :: w :: r) μ))
  | .ifCond c off, 3 => px_s1 st (fun x r => 0 ≤ (pc : Int) + off ∧ (px_cmp c x 0 → K (px_tg pc off) lv r μ) ∧ (¬ px_cmp c x 0 → K (pc + 3) lv r μ))
  | .if_icmp c off, 3 => px_s2 st (fun x y r => 0 ≤ (pc : Int) + off ∧ (px_cmp c x y → K (px_tg pc off) lv r μ) ∧ (¬ px_cmp c x y → K (pc + 3) lv r μ))
  | .goto off, 3 => 0 ≤ (pc : Int) + off ∧ K (px_tg pc off) lv st μ
  | .ifnull off, 3 => px_sq st (fun q r => 0 ≤ (pc : Int) + off ∧ K (px_nl q (px_tg pc off) (pc + 3)) lv r μ)
  | .ifnonnull off, 3 => px_sq st (fun q r => 0 ≤ (pc : Int) + off ∧ K (px_nl q (pc + 3) (px_tg pc off)) lv r μ)
  | .tableswitch dflt lo hi offs, _ => px_s1 st (fun x r => (-2147483648 ≤ lo ∧ hi + 1 ≤ 2147483648 ∧ lo + offs.toList.length = hi + 1) ∧ px_tsw x (fun o => 0 ≤ (pc : Int) + o ∧ K (px_tg pc o) lv r μ) dflt lo offs.toList)
  | .getfield idx, 3 => px_o (px_fd own idx) (fun q => px_sr st (fun o r => px_kd o = q.1 ∧ K (pc + 3) lv (px_fv q.1 q.2 o (μ o) :: r) μ))
  | .putfield idx, 3 => px_o (px_fd own idx) (fun q => px_sxr st (fun v o r => px_kd o = q.1 ∧ px_put (px_pf q.1 q.2) v o (fun z => K (pc + 3) lv r (px_up μ o q.2 z))))
  | .iaload, 1 => px_sir st (fun i a r => (px_kd a = 20 ∧ 0 ≤ i ∧ i < px_ln a) ∧ K (pc + 1) lv (.inl (μ a i) :: r) μ)
  | .baload, 1 => px_sir st (fun i a r => (px_kd a = 21 ∧ 0 ≤ i ∧ i < px_ln a) ∧ K (pc + 1) lv (.inl (μ a i) :: r) μ)
  | .aaload, 1 => px_sir st (fun i a r => ((22 ≤ px_kd a ∧ px_kd a ≤ 25) ∧ 0 ≤ i ∧ i < px_ln a) ∧ K (pc + 1) lv (.inr (.inl (some (px_el (px_kd a) a i.toNat))) :: r) μ)
  | .iastore, 1 => px_siir st (fun x i a r => (px_kd a = 20 ∧ 0 ≤ i ∧ i < px_ln a) ∧ K (pc + 1) lv r (px_up μ a i x))
  | .bastore, 1 => px_siir st (fun x i a r => (px_kd a = 21 ∧ 0 ≤ i ∧ i < px_ln a) ∧ (x = 0 ∨ x = 1) ∧ K (pc + 1) lv r (px_up μ a i x))
  | .checkcast idx, 3 => px_o (px_cl own idx) (fun ci => px_sr st (fun o r => px_kd o = ci ∧ K (pc + 3) lv (.inr (.inl (some o)) :: r) μ))
  | .instanceof idx, 3 => px_o (px_cl own idx) (fun ci => px_sq st (fun q r => (ci = 3 ∨ ci = 8) ∧ (∀ o, q = some o → px_kd o = 3 ∨ px_kd o = 8) ∧ K (pc + 3) lv (.inl (px_io q ci) :: r) μ))
  | .invokestatic idx, 3 => bif px_ac own idx then px_sac st (fun n dp a sp a0 r => 1 ≤ d ∧ (px_kd a0 = 20 ∧ px_kd a = 20) ∧ (0 ≤ sp ∧ 0 ≤ dp ∧ 0 ≤ n ∧ sp + n ≤ px_ln a0 ∧ dp + n ≤ px_ln a) ∧ r.length ≤ 4 ∧ K (pc + 3) lv r (px_cp μ a0 sp a dp n))
      else px_o (px_md own idx) (fun q => q.2.2.2.2.2.2.1 = true ∧ px_call G d st q μ (fun r v μ' => px_J G own cc nL ret d (pc + 3) lv (v.toList ++ r) μ' Q))
  | .invokevirtual idx, 3 => px_o (px_md own idx) (fun q => q.2.2.2.2.2.2.1 = false ∧ px_call G d st q μ (fun r v μ' => px_J G own cc nL ret d (pc + 3) lv (v.toList ++ r) μ' Q))
  | .ireturn, 1 => px_s1 st (fun x r => r = [] ∧ (ret = some .int ∨ (ret = some .boolean ∧ (x = 0 ∨ x = 1))) ∧ Q (some (.inl x)) μ)
  | .return_, 1 => st = [] ∧ ret = none ∧ Q none μ
  | .areturn, 1 => px_sr st (fun o r => r = [] ∧ ret = some (.object "PatchHouse$Writing") ∧ Q (some (.inr (.inl (some o)))) μ)
  | _, _ => False
theorem px_call_ok {G : px_G} {own : String} {cc : ByteArray} {nL d pc : Nat} {ret : Option FieldType} {lv : List (Option px_X)} {st : List px_X} {μ : px_Mem} {Q : Option px_X → px_Mem → Prop} {idx : Nat} {q : MethodName × ByteArray × Nat × Option FieldType × Nat × Nat × Bool × Nat} (hm : px_md own idx = some q)
    (hd : decode cc pc = .ok (if q.2.2.2.2.2.2.1 then .invokestatic idx else .invokevirtual idx, 3)) (h : px_call G d st q μ (fun r v μ' => px_J G own cc nL ret d (pc + 3) lv (v.toList ++ r) μ' Q)) : px_J G own cc nL ret d pc lv st μ Q := by
  obtain ⟨y, cc', nL', ret', d', na, s, ci⟩ := q
  unfold px_call at h
  dsimp only at h hd
  cases s
  · obtain ⟨h1, h2, h3⟩ := h
    obtain ⟨o, r, e1, h4, h5, h6⟩ := px_sr_inv h3
    have := px_callV (as := (st.take na).reverse) (st := r) hd hm h1 (by rw [List.length_reverse]; exact h2) h5 h4 h6
    rw [List.reverse_reverse, ← e1, List.take_append_drop] at this
    exact this
  · obtain ⟨h1, h2, h3, h4⟩ := h
    have := px_callS (as := (st.take na).reverse) (st := st.drop na) hd hm h1 (by rw [List.length_reverse]; exact h2) h3 h4
    rw [List.reverse_reverse, List.take_append_drop] at this
    exact this
theorem px_step_ok {G : px_G} {own : String} {cc : ByteArray} {nL d pc : Nat} {ret : Option FieldType} {lv : List (Option px_X)} {st : List px_X} {μ : px_Mem} {Q : Option px_X → px_Mem → Prop} {K : Nat → List (Option px_X) → List px_X → px_Mem → Prop} {i : Instr} {len : Nat}
    (hK : ∀ pc lv st μ, K pc lv st μ → px_J G own cc nL ret d pc lv st μ Q) (hd : decode cc pc = .ok (i, len)) (h : px_step G own cc nL ret d Q K i len pc lv st μ) : px_J G own cc nL ret d pc lv st μ Q := by
  unfold px_step at h
  split at h
  · exact px_iconst hd (hK _ _ _ _ h)
  · exact px_bipush hd h.1 (hK _ _ _ _ h.2)
  · exact px_sipush hd h.1 (hK _ _ _ _ h.2)
  · obtain ⟨⟨v, b⟩, h1, h2, h3⟩ := px_o_inv h
    dsimp only at h2
    subst h2
    exact px_ldc hd h1 (hK _ _ _ _ h3)
  · obtain ⟨⟨v, b⟩, h1, h2, h3⟩ := px_o_inv h
    dsimp only at h2
    subst h2
    exact px_ldc2 hd h1 (hK _ _ _ _ h3)
  · exact px_null hd (hK _ _ _ _ h)
  · obtain ⟨z, h1, h2⟩ := px_wi_inv h
    exact px_iload hd (px_ld_inv h1) (hK _ _ _ _ h2)
  · obtain ⟨z, h1, h2⟩ := px_wi_inv h
    exact px_iload_n hd (px_ld_inv h1) (hK _ _ _ _ h2)
  · obtain ⟨z, h1, h2⟩ := px_wr_inv h
    exact px_aload hd (px_ld_inv h1) (hK _ _ _ _ h2)
  · obtain ⟨z, h1, h2⟩ := px_wr_inv h
    exact px_aload_n hd (px_ld_inv h1) (hK _ _ _ _ h2)
  · obtain ⟨z, r, rfl, h1, h2⟩ := px_s1_inv h
    exact px_istore hd h1 (hK _ _ _ _ h2)
  · obtain ⟨z, r, rfl, h1, h2⟩ := px_s1_inv h
    exact px_istore_n hd h1 (hK _ _ _ _ h2)
  · obtain ⟨z, r, rfl, h1, h2⟩ := px_sq_inv h
    exact px_astore hd h1 (hK _ _ _ _ h2)
  · obtain ⟨z, r, rfl, h1, h2⟩ := px_sq_inv h
    exact px_astore_n hd h1 (hK _ _ _ _ h2)
  · obtain ⟨z, h1, h2, h3⟩ := px_wi_inv h
    exact px_iinc hd (px_ld_inv h1) h2 (hK _ _ _ _ h3)
  · obtain ⟨x, y, r, rfl, h1⟩ := px_s2_inv h
    exact px_iadd hd (hK _ _ _ _ h1)
  · obtain ⟨x, y, r, rfl, h1⟩ := px_s2_inv h
    exact px_isub hd (hK _ _ _ _ h1)
  · obtain ⟨x, y, r, rfl, h1⟩ := px_s2_inv h
    exact px_imul hd (hK _ _ _ _ h1)
  · obtain ⟨x, y, r, rfl, h1⟩ := px_s2_inv h
    exact px_iand hd (hK _ _ _ _ h1)
  · obtain ⟨x, y, r, rfl, h1⟩ := px_s2_inv h
    exact px_ior hd (hK _ _ _ _ h1)
  · obtain ⟨x, y, r, rfl, h1⟩ := px_s2_inv h
    exact px_ixor hd (hK _ _ _ _ h1)
  · obtain ⟨x, y, r, rfl, h1⟩ := px_s2_inv h
    exact px_ishl hd (hK _ _ _ _ h1)
  · obtain ⟨x, y, r, rfl, h1⟩ := px_s2_inv h
    exact px_ishr hd (hK _ _ _ _ h1)
  · obtain ⟨x, y, r, rfl, h1, h2⟩ := px_s2_inv h
    exact px_idiv hd h1 (hK _ _ _ _ h2)
  · obtain ⟨x, y, r, rfl, h1, h2⟩ := px_s2_inv h
    exact px_irem hd h1 (hK _ _ _ _ h2)
  · obtain ⟨x, y, r, rfl, h1⟩ := px_sl2_inv h
    exact px_lmul hd (hK _ _ _ _ h1)
  · obtain ⟨x, y, r, rfl, h1, h2⟩ := px_sl2_inv h
    exact px_lrem hd h1 (hK _ _ _ _ h2)
  · obtain ⟨x, r, rfl, h1, h2⟩ := px_s1_inv h
    exact px_i2l_ hd h1 (hK _ _ _ _ h2)
  · obtain ⟨x, r, rfl, h1⟩ := px_sl1_inv h
    exact px_l2i_ hd (hK _ _ _ _ h1)
  · obtain ⟨v, r, rfl, h1, h2⟩ := px_sx_inv h
    exact px_dup_ hd h1 (hK _ _ _ _ h2)
  · obtain ⟨v, r, rfl, h1, h2⟩ := px_sx_inv h
    exact px_pop_ hd h1 (hK _ _ _ _ h2)
  · obtain ⟨v, r, rfl, h1⟩ := px_sx_inv h
    obtain ⟨w, r, rfl, h2, h3, h4⟩ := px_sx_inv h1
    exact px_dup2_ hd h2 h3 (hK _ _ _ _ h4)
  · obtain ⟨x, r, rfl, h1, h2, h3⟩ := px_s1_inv h
    exact px_if hd h1 (fun q => hK _ _ _ _ (h2 q)) (fun q => hK _ _ _ _ (h3 q))
  · obtain ⟨x, y, r, rfl, h1, h2, h3⟩ := px_s2_inv h
    exact px_icmp hd h1 (fun q => hK _ _ _ _ (h2 q)) (fun q => hK _ _ _ _ (h3 q))
  · exact px_goto hd h.1 (hK _ _ _ _ h.2)
  · obtain ⟨q, r, rfl, h1, h2⟩ := px_sq_inv h
    refine px_ifnull hd h1 ?_
    cases q <;> exact hK _ _ _ _ h2
  · obtain ⟨q, r, rfl, h1, h2⟩ := px_sq_inv h
    refine px_ifnonnull hd h1 ?_
    cases q <;> exact hK _ _ _ _ h2
  · obtain ⟨x, r, rfl, h1, h2⟩ := px_s1_inv h
    refine px_switch hd h1 ?_
    have key : ∀ (os : List Int) (v : Int) (f g : Int → Prop) (dflt : Int), (∀ o, f o → g o) → px_tsw x f dflt v os → px_tsw x g dflt v os := by
      intro os
      induction os with
      | nil => intro v f g dflt hfg h; exact hfg _ h
      | cons a os ih => intro v f g dflt hfg h; exact ⟨fun q => hfg _ (h.1 q), fun q => ih _ _ _ _ hfg (h.2 q)⟩
    exact key _ _ _ _ _ (fun o ho => ⟨ho.1, hK _ _ _ _ ho.2⟩) h2
  · obtain ⟨⟨ci, k⟩, h1, h2⟩ := px_o_inv h
    obtain ⟨o, r, rfl, h3, h4⟩ := px_sr_inv h2
    exact px_getf hd h1 h3 (hK _ _ _ _ h4)
  · obtain ⟨⟨ci, k⟩, h1, h2⟩ := px_o_inv h
    obtain ⟨v, o, r, rfl, h3, h4⟩ := px_sxr_inv h2
    refine px_putf hd h1 h3 ?_
    have key : ∀ (t : Nat) (f g : Int → Prop), (∀ z, f z → g z) → px_put t v o f → px_put t v o g := by
      intro t f g hfg h
      unfold px_put at h ⊢
      split at h
      · exact hfg _ h
      · exact hfg _ h
      · exact hfg _ h
      · exact ⟨h.1, hfg _ h.2⟩
      · exact h.elim
    exact key _ _ _ (fun z hz => hK _ _ _ _ hz) h4
  · obtain ⟨i, a, r, rfl, h1, h2⟩ := px_sir_inv h
    exact px_iald hd h1 (hK _ _ _ _ h2)
  · obtain ⟨i, a, r, rfl, h1, h2⟩ := px_sir_inv h
    exact px_bald hd h1 (hK _ _ _ _ h2)
  · obtain ⟨i, a, r, rfl, h1, h2⟩ := px_sir_inv h
    exact px_aald hd h1 (hK _ _ _ _ h2)
  · obtain ⟨x, i, a, r, rfl, h1, h2⟩ := px_siir_inv h
    exact px_iast hd h1 (hK _ _ _ _ h2)
  · obtain ⟨x, i, a, r, rfl, h1, h2, h3⟩ := px_siir_inv h
    exact px_bast hd h1 h2 (hK _ _ _ _ h3)
  · obtain ⟨ci, h1, h2⟩ := px_o_inv h
    obtain ⟨o, r, rfl, h3, h4⟩ := px_sr_inv h2
    exact px_cast hd h1 h3 (hK _ _ _ _ h4)
  · obtain ⟨ci, h1, h2⟩ := px_o_inv h
    obtain ⟨q, r, rfl, h3, h4, h5⟩ := px_sq_inv h2
    refine px_inst hd h1 h3 h4 ?_
    cases q <;> exact hK _ _ _ _ h5
  · rename_i idx
    cases hac : px_ac own idx with
    | true =>
      rw [hac] at h
      obtain ⟨n, dp, a, sp, a0, r, rfl, h1, h2, h3, h4, h5⟩ := px_sac_inv h
      exact px_acopy hd hac h1 h2 h3 h4 (hK _ _ _ _ h5)
    | false =>
      rw [hac] at h
      obtain ⟨q, h1, h2, h3⟩ := px_o_inv h
      exact px_call_ok h1 (by rw [h2]; exact hd) h3
  · obtain ⟨q, h1, h2, h3⟩ := px_o_inv h
    exact px_call_ok h1 (by rw [h2]; exact hd) h3
  · obtain ⟨x, r, rfl, rfl, h1, h2⟩ := px_s1_inv h
    exact px_iret hd h1 h2
  · obtain ⟨rfl, h1, h2⟩ := h
    exact px_vret hd h1 h2
  · obtain ⟨o, r, rfl, rfl, h1, h2⟩ := px_sr_inv h
    exact px_aret hd h1 h2
  · exact h.elim
def px_dec {ε : Type} (x : Except ε (Instr × Nat)) (f : Instr → Nat → Prop) : Prop := match x with
  | .ok q => f q.1 q.2
  | .error _ => False
theorem px_dec_ok {ε : Type} (q : Instr × Nat) (f : Instr → Nat → Prop) : px_dec (.ok q : Except ε (Instr × Nat)) f = f q.1 q.2 := rfl
def px_run (cut : Nat → Bool) (G : px_G) (own : String) (cc : ByteArray) (nL : Nat) (ret : Option FieldType) (d : Nat) (Q : Option px_X → px_Mem → Prop) : Nat → Nat → List (Option px_X) → List px_X → px_Mem → Prop
  | 0, pc, lv, st, μ => px_J G own cc nL ret d pc lv st μ Q
  | n + 1, pc, lv, st, μ => bif cut pc then px_J G own cc nL ret d pc lv st μ Q else px_dec (decode cc pc) (fun i len => px_step G own cc nL ret d Q (px_run cut G own cc nL ret d Q n) i len pc lv st μ)
theorem px_run_ok {cut : Nat → Bool} {G : px_G} {own : String} {cc : ByteArray} {nL d : Nat} {ret : Option FieldType} {Q : Option px_X → px_Mem → Prop} : ∀ (n pc : Nat) (lv : List (Option px_X)) (st : List px_X) (μ : px_Mem), px_run cut G own cc nL ret d Q n pc lv st μ → px_J G own cc nL ret d pc lv st μ Q
  | 0, pc, lv, st, μ, h => h
  | n + 1, pc, lv, st, μ, h => by
    unfold px_run at h
    cases hc : cut pc with
    | true => rw [hc] at h; exact h
    | false =>
      rw [hc] at h
      cases hd : decode cc pc with
      | error e => rw [hd] at h; exact h.elim
      | ok q =>
        rw [hd] at h
        exact px_step_ok (fun pc lv st μ hk => px_run_ok n pc lv st μ hk) hd h
/-- the walk from a point on, up to the next points of the cut -/
theorem px_go {G : px_G} {own : String} {cc : ByteArray} {nL d pc : Nat} {ret : Option FieldType} {Q : Option px_X → px_Mem → Prop} {lv : List (Option px_X)} {st : List px_X} {μ : px_Mem} (cut : Nat → Bool) (n : Nat) (h : px_dec (decode cc pc) (fun i len => px_step G own cc nL ret d Q (px_run cut G own cc nL ret d Q n) i len pc lv st μ)) : px_J G own cc nL ret d pc lv st μ Q := by
  cases hd : decode cc pc with
  | error e => rw [hd] at h; exact h.elim
  | ok q =>
    rw [hd] at h
    exact px_step_ok (fun pc lv st μ hk => px_run_ok n pc lv st μ hk) hd h
