/-! ===== the constructors as a program: run by computation, sound over the machine ===== -/
def pn_if {α : Type} (c : Prop) [Decidable c] (x : Option α) : Option α := if c then x else none
theorem pn_if_inv {α : Type} {c : Prop} [Decidable c] {x : Option α} {y : α} (h : pn_if c x = some y) : c ∧ x = some y := by
  unfold pn_if at h
  split at h
  · rename_i hc
    exact ⟨hc, h⟩
  · cases h
def pn_pi {α : Type} (st : List px_X) (f : Int → List px_X → Option α) : Option α := match st with
  | .inl z :: r => f z r
  | _ => none
theorem pn_pi_inv {α : Type} {st : List px_X} {f : Int → List px_X → Option α} {y : α} (h : pn_pi st f = some y) : ∃ z r, st = .inl z :: r ∧ f z r = some y := by
  unfold pn_pi at h
  split at h
  · exact ⟨_, _, rfl, h⟩
  · cases h
def pn_pr {α : Type} (st : List px_X) (f : Nat → List px_X → Option α) : Option α := match st with
  | .inr (.inl (some o)) :: r => f o r
  | _ => none
theorem pn_pr_inv {α : Type} {st : List px_X} {f : Nat → List px_X → Option α} {y : α} (h : pn_pr st f = some y) : ∃ o r, st = .inr (.inl (some o)) :: r ∧ f o r = some y := by
  unfold pn_pr at h
  split at h
  · exact ⟨_, _, rfl, h⟩
  · cases h
def pn_px {α : Type} (st : List px_X) (f : px_X → List px_X → Option α) : Option α := match st with
  | v :: r => f v r
  | _ => none
theorem pn_px_inv {α : Type} {st : List px_X} {f : px_X → List px_X → Option α} {y : α} (h : pn_px st f = some y) : ∃ v r, st = v :: r ∧ f v r = some y := by
  unfold pn_px at h
  split at h
  · exact ⟨_, _, rfl, h⟩
  · cases h
def pn_li (lv : List (Option px_X)) (j : Nat) : Option Int := match px_ld lv j with
  | some (.inl z) => some z
  | _ => none
theorem pn_li_inv {lv : List (Option px_X)} {j : Nat} {z : Int} (h : pn_li lv j = some z) : lv[j]? = some (some (.inl z)) := by
  unfold pn_li at h
  split at h
  · rename_i h1
    cases h
    exact px_ld_inv h1
  · cases h
def pn_lr (lv : List (Option px_X)) (j : Nat) : Option Nat := match px_ld lv j with
  | some (.inr (.inl (some o))) => some o
  | _ => none
theorem pn_lr_inv {lv : List (Option px_X)} {j o : Nat} (h : pn_lr lv j = some o) : lv[j]? = some (some (.inr (.inl (some o)))) := by
  unfold pn_lr at h
  split at h
  · rename_i h1
    cases h
    exact px_ld_inv h1
  · cases h
def pn_ob (w : List pn_E) (o : Nat) : Option (Nat × List px_X) := match w[o]? with
  | some (.inl q) => some q
  | _ => none
theorem pn_ob_inv {w : List pn_E} {o : Nat} {q : Nat × List px_X} (h : pn_ob w o = some q) : w[o]? = some (.inl q) := by
  unfold pn_ob at h
  split at h
  · rename_i h1
    cases h
    exact h1
  · cases h
def pn_ia (w : List pn_E) (o : Nat) : Option (Nat × Nat × List (Int × Int)) := match w[o]? with
  | some (.inr (.inl q)) => some q
  | _ => none
theorem pn_ia_inv {w : List pn_E} {o : Nat} {q : Nat × Nat × List (Int × Int)} (h : pn_ia w o = some q) : w[o]? = some (.inr (.inl q)) := by
  unfold pn_ia at h
  split at h
  · rename_i h1
    cases h
    exact h1
  · cases h
def pn_ra (w : List pn_E) (o : Nat) : Option (Nat × Nat × List (Int × Nat)) := match w[o]? with
  | some (.inr (.inr q)) => some q
  | _ => none
theorem pn_ra_inv {w : List pn_E} {o : Nat} {q : Nat × Nat × List (Int × Nat)} (h : pn_ra w o = some q) : w[o]? = some (.inr (.inr q)) := by
  unfold pn_ra at h
  split at h
  · rename_i h1
    cases h
    exact h1
  · cases h
def pn_at (t : ArrayType) : Option Nat := match t with
  | .int => some 20
  | .boolean => some 21
  | _ => none
theorem pn_at_inv {t : ArrayType} {k : Nat} (h : pn_at t = some k) : (t = .int ∧ k = 20) ∨ (t = .boolean ∧ k = 21) := by
  cases t <;> first | (cases h; done) | (cases h; exact .inl ⟨rfl, rfl⟩) | (cases h; exact .inr ⟨rfl, rfl⟩)
def pn_fit (t : Nat) (v : px_X) : Bool := match t, v with
  | 0, .inl _ => true
  | 1, .inr (.inr _) => true
  | 2, .inr (.inl (some _)) => true
  | _, _ => false
theorem pn_fit_inv {t : Nat} {v : px_X} (h : pn_fit t v = true) : (t = 0 ∧ ∃ z, v = .inl z) ∨ (t = 1 ∧ ∃ z, v = .inr (.inr z)) ∨ (t = 2 ∧ ∃ o, v = .inr (.inl (some o))) := by
  unfold pn_fit at h
  split at h
  · exact .inl ⟨rfl, _, rfl⟩
  · exact .inr (.inl ⟨rfl, _, rfl⟩)
  · exact .inr (.inr ⟨rfl, _, rfl⟩)
  · cases h
def pn_isge (c : ClassFile.Cond) : Bool := match c with
  | .ge => true
  | _ => false
theorem pn_isge_inv {c : ClassFile.Cond} (h : pn_isge c = true) : c = .ge := by
  cases c <;> first | rfl | cases h
def pn_step (own : String) (nL mc ms : Nat) (i : Instr) (len pc : Nat) (lv : List (Option px_X)) (st : List px_X) (w : List pn_E) (k n : Nat) : Option pn_S := match i, len with
  | .aload_n j, 1 => (pn_lr lv j).bind (fun o => some (pc + 1, lv, .inr (.inl (some o)) :: st, w, k, n))
  | .iload_n j, 1 => (pn_li lv j).bind (fun z => some (pc + 1, lv, .inl z :: st, w, k, n))
  | .istore_n j, 1 => pn_pi st (fun z r => pn_if ((j : Nat) < nL) (some (pc + 1, lv.set j (some (.inl z)), r, w, k, n)))
  | .iconst z, 1 => some (pc + 1, lv, .inl z :: st, w, k, n)
  | .bipush z, 2 => pn_if (-128 ≤ z ∧ z ≤ 127) (some (pc + 2, lv, .inl z :: st, w, k, n))
  | .sipush z, 3 => pn_if (-32768 ≤ z ∧ z ≤ 32767) (some (pc + 3, lv, .inl z :: st, w, k, n))
  | .lconst z, 1 => some (pc + 1, lv, .inr (.inr ((z : Nat) : Int)) :: st, w, k, n)
  | .dup, 1 => pn_pr st (fun o r => some (pc + 1, lv, .inr (.inl (some o)) :: .inr (.inl (some o)) :: r, w, k, n))
  | .iinc j z, 3 => (pn_li lv j).bind (fun x => pn_if (j < nL) (some (pc + 3, lv.set j (some (.inl (x + z))), st, w, k, n)))
  | .goto off, 3 => pn_if (0 ≤ (pc : Int) + off) (some (px_tg pc off, lv, st, w, k, n))
  | .if_icmp c off, 3 => pn_pi st (fun y r0 => pn_pi r0 (fun x r => pn_if (0 ≤ (pc : Int) + off ∧ pn_isge c = true ∧ (0 ≤ x ∧ x < 1000) ∧ (0 ≤ y ∧ y < 1000)) (some (if y ≤ x then px_tg pc off else pc + 3, lv, r, w, k, n))))
  | .getfield idx, 3 => (pn_fd own idx).bind (fun q => pn_pr st (fun o r => (pn_ob w o).bind (fun b => pn_if (b.1 = q.1) ((b.2[q.2]?).bind (fun v => some (pc + 3, lv, v :: r, w, k, n))))))
  | .putfield idx, 3 => (pn_fd own idx).bind (fun q => pn_px st (fun v r0 => pn_pr r0 (fun o r => (pn_ob w o).bind (fun b => pn_if (b.1 = q.1 ∧ q.2 < b.2.length ∧ pn_fit (px_pf q.1 q.2) v = true ∧ (vwCl[q.1]?).map (fun x => x.1) = some own) (some (pc + 3, lv, r, w.set o (.inl (b.1, b.2.set q.2 v)), k, n))))))
  | .new idx, 3 => (pn_nw own idx).bind (fun ci => pn_if (k + 1 ≤ mc ∧ n + px_nf ci ≤ ms) (some (pc + 3, lv, .inr (.inl (some w.length)) :: st, w ++ [.inl (ci, pn_fs ci)], k + 1, n + px_nf ci)))
  | .newarray t, 2 => (pn_at t).bind (fun kd => pn_pi st (fun z r => pn_if ((0 ≤ z ∧ z ≤ 4320) ∧ k + 1 ≤ mc ∧ n + z.toNat ≤ ms) (some (pc + 2, lv, .inr (.inl (some w.length)) :: r, w ++ [.inr (.inl (kd, z.toNat, []))], k + 1, n + z.toNat))))
  | .anewarray idx, 3 => (pn_an own idx).bind (fun kd => pn_pi st (fun z r => pn_if ((0 ≤ z ∧ z ≤ 4320) ∧ k + 1 ≤ mc ∧ n + z.toNat ≤ ms) (some (pc + 3, lv, .inr (.inl (some w.length)) :: r, w ++ [.inr (.inr (kd, z.toNat, []))], k + 1, n + z.toNat))))
  | .iastore, 1 => pn_pi st (fun x r0 => pn_pi r0 (fun j r1 => pn_pr r1 (fun a r => (pn_ia w a).bind (fun q => pn_if (q.1 = 20 ∧ 0 ≤ j ∧ j < q.2.1 ∧ q.2.1 ≤ 4320) (some (pc + 1, lv, r, w.set a (.inr (.inl (q.1, q.2.1, (j, x) :: q.2.2))), k, n))))))
  | .aastore, 1 => pn_pr st (fun v r0 => pn_pi r0 (fun j r1 => pn_pr r1 (fun a r => (pn_ra w a).bind (fun q => (pn_ob w v).bind (fun b => pn_if ((22 ≤ q.1 ∧ q.1 ≤ 25) ∧ (0 ≤ j ∧ j < q.2.1 ∧ q.2.1 ≤ 4320) ∧ b.1 = pn_ek q.1) (some (pc + 1, lv, r, w.set a (.inr (.inr (q.1, q.2.1, (j, v) :: q.2.2))), k, n)))))))
  | _, _ => none
def pn_isr1 (i : Instr) : Option Nat := match i with
  | .invokespecial idx => some idx
  | _ => none
def pn_run : Nat → String → ByteArray → Nat → Nat → Nat → Nat → Nat → pn_S → Option pn_S
  | 0, _, _, _, _, _, _, _, _ => none
  | f + 1, own, cc, nL, d, mc, ms, stop, σ => if σ.1 = stop then some σ else match decode cc σ.1 with
    | .error _ => none
    | .ok (i, len) => match pn_isr1 i with
      | none => (pn_step own nL mc ms i len σ.1 σ.2.1 σ.2.2.1 σ.2.2.2.1 σ.2.2.2.2.1 σ.2.2.2.2.2).bind (pn_run f own cc nL d mc ms stop)
      | some idx => pn_if (len = 3 ∧ 1 ≤ d) (pn_pr σ.2.2.1 (fun o r => pn_if (r.length ≤ 4) (
          bif pn_oi own idx then pn_run f own cc nL d mc ms stop (σ.1 + 3, σ.2.1, r, σ.2.2.2)
          else (pn_md own idx).bind (fun q => pn_if (q.2.2.2.1 < d ∧ σ.2.2.2.2.1 + q.2.2.2.2.2.2.1 ≤ mc ∧ σ.2.2.2.2.2 + q.2.2.2.2.2.2.2 ≤ ms) (
            (pn_run f q.1.cls q.2.1 q.2.2.1 q.2.2.2.1 q.2.2.2.2.2.2.1 q.2.2.2.2.2.2.2 q.2.2.2.2.1 (0, ([.inr (.inl (some o))] : List px_X).map some ++ List.replicate (q.2.2.1 - 1) none, [], σ.2.2.2.1, 0, 0)).bind (fun σ' =>
              pn_if (σ'.1 = q.2.2.2.2.1 ∧ σ'.2.2.1 = [] ∧ σ'.2.2.2.2.1 = q.2.2.2.2.2.2.1 ∧ σ'.2.2.2.2.2 = q.2.2.2.2.2.2.2 ∧ σ'.2.2.2.1.length = σ.2.2.2.1.length + q.2.2.2.2.2.2.1) (
                pn_run f own cc nL d mc ms stop (σ.1 + 3, σ.2.1, r, σ'.2.2.2.1, σ.2.2.2.2.1 + q.2.2.2.2.2.2.1, σ.2.2.2.2.2 + q.2.2.2.2.2.2.2))))))))
