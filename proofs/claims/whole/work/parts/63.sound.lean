/-! ===== a step of a constructor, over the machine ===== -/
def pn_room (d mc ms : Nat) : Room := { frames := d, cells := mc, slots := ms, locals := 37 * d }
def pn_ctx (G : px_G) (own : String) (cc : ByteArray) (nL z : Nat) (p : Program) (s : State) (m : MethodId) (args : Array Value) (meth : Method) (c : Code) : Prop :=
  p.tables.exec = Jvm.exec ∧ c.code = cc ∧ c.maxLocals = nL ∧ s.vm.findClass own = some m.cls ∧ (∀ w ∈ px_ws, w.before args s = true) ∧ pn_K G s ∧ meth.name = "<init>" ∧ s.heap.size = G.2.2.2 + z
def pn_At (G : px_G) (nL : Nat) (p : Program) (e : Env) (R : Room) (s : State) (m : MethodId) (args : Array Value) (below : List Frame) (meth : Method) (c : Code) (Z : State → Prop) (σ : pn_S) : Prop :=
  ∀ (H : Heap) (locs : List Loc), va_P G.2.1 vwCl (pn_w G σ.2.2.2.1) H → va_S (fun q : Nat => G.2.2.2 ≤ q) s.heap H locs → ∀ ls : Array Slot, px_lv G.2.2.2 ls nL σ.2.1 →
  W p G.1 e R s m args below meth c H locs σ.2.2.2.2.1 σ.2.2.2.2.2 Z (F0 m σ.1 ls (σ.2.2.1.map (px_v G.2.2.2)))
def pn_inv (z : Nat) (σ : pn_S) : Prop := z + σ.2.2.2.2.1 = σ.2.2.2.1.length ∧ 0 < σ.2.2.2.1.length
theorem pn_long (z : Fin 2) : Int64.ofNat (z : Nat) = Int64.ofInt ((z : Nat) : Int) := by revert z; decide
theorem pn_pos {z : Int} (h0 : 0 ≤ z) (h1 : z ≤ 4320) : ¬ Int32.ofInt z < 0 ∧ (Int32.ofInt z).toNatClampNeg = z.toNat := by
  refine ⟨fun h => ?_, Int32.toNatClampNeg_ofInt_of_le (by omega) (by omega)⟩
  have := Int32.lt_iff_toInt_lt.mp h
  rw [px_toInt (by omega) (by omega)] at this
  have h9 : (0 : Int32).toInt = 0 := rfl
  omega
theorem pn_fs_at {b ci k : Nat} (h : k < px_nf ci) : vp_V ((pn_fs ci).map (px_v b)) k = px_v b (pn_dv (px_pf ci k)) := by
  unfold vp_V pn_fs
  rw [List.getD_eq_getElem?_getD, List.getElem?_map, List.getElem?_map, List.getElem?_range h]
  rfl
theorem pn_grow {G : px_G} {w : List pn_E} {e : pn_E} {H H1 : Heap} (hP : va_P G.2.1 vwCl (pn_w G w) H) (hH : H.size = G.2.2.2 + w.length) (o1 : ∀ q, q < G.2.2.2 + w.length → H1[q]? = H[q]?) (he : va_at G.2.1 vwCl (G.2.2.2 + w.length, pn_c G e) H1) : va_P G.2.1 vwCl (pn_w G (w ++ [e])) H1 := by
  have hk : ∀ (k : Nat) (x : Nat × va_E), (pn_w G w)[k]? = some x → H1[x.1]? = H[x.1]? := fun k x hx => o1 x.1 (by have := (hP k x hx).lt; omega)
  rw [← pn_w_app]
  refine (hP.kept hk).app (fun k x hx => ?_)
  have hz : k < 1 := (List.getElem?_eq_some_iff.mp hx).1
  rw [show k = 0 by omega] at hx
  cases hx
  exact he
theorem pn_growS {A : Nat → Prop} {H0 H H1 : Heap} {locs : List Loc} {h : Nat} (hS : va_S A H0 H locs) (hH : H.size = h) (z1 : H1.size = h + 1) (o1 : ∀ q, q < h → H1[q]? = H[q]?) : va_S A H0 H1 locs :=
  ⟨Nat.le_trans hS.1 (by omega), fun x h1 h2 => (o1 x (by have := hS.1; omega)).trans (hS.2.1 x h1 h2), hS.2.2⟩
section PNS
variable {G : px_G} {own : String} {cc : ByteArray} {nL z d mc ms : Nat} {p : Program} {e : Env} {s : State} {m : MethodId} {args : Array Value} {below : List Frame} {meth : Method} {c : Code} {Z : State → Prop}
variable {pc : Nat} {lv : List (Option px_X)} {st : List px_X} {w : List pn_E} {k n : Nat}
theorem pn_H {H : Heap} (C : pn_ctx G own cc nL z p s m args meth c) (I : z + k = w.length ∧ 0 < w.length) (hP : va_P G.2.1 vwCl (pn_w G w) H) (hz : H.size ≤ s.heap.size + k) : H.size = G.2.2.2 + w.length := by
  have h1 := pn_low hP I.2
  have h2 := C.2.2.2.2.2.2.2
  omega
theorem pn_getf {idx ci f o : Nat} {fs : List px_X} {v : px_X} (C : pn_ctx G own cc nL z p s m args meth c) (hd : decode cc pc = .ok (.getfield idx, 3)) (hf : pn_fd own idx = some (ci, f)) (ho : w[o]? = some (.inl (ci, fs))) (hv : fs[f]? = some v)
    (kk : pn_At G nL p e (pn_room d mc ms) s m args below meth c Z (pc + 3, lv, v :: st, w, k, n)) : pn_At G nL p e (pn_room d mc ms) s m args below meth c Z (pc, lv, .inr (.inl (some o)) :: st, w, k, n) := by
  intro H locs hP hS ls hl
  obtain ⟨C1, T, N, hc, hk, hC, hw⟩ := pn_fd_ok hf
  obtain ⟨ty, hty, hnm, hin, hN, -⟩ := pn_class hc
  have he : (pn_w G w)[o]? = some (G.2.2.2 + o, .inr (ci, fs.map (px_v G.2.2.2))) := pn_w_at ho
  have hv2 : (fs.map (px_v G.2.2.2))[f]? = some (px_v G.2.2.2 v) := by
    rw [List.getElem?_map, hv]
    rfl
  have hsame : ∀ x, s.fieldFound? (T f).1 (T f).2.1 (T f).2.2.1 = some x → s.fieldFound? C1 (T f).2.1 (T f).2.2.1 = some x := by
    rw [hC]
    exact fun _ h => h
  exact va_get C.1 C.2.1 C.2.2.2.2.1 hin C.2.2.2.1 C.2.2.2.2.2.1.1.1 hP o he hc f hk (C.2.2.2.2.1 _ hw) hsame hv2 hd (kk H locs hP hS ls hl)
theorem pn_putf {idx ci f o : Nat} {fs : List px_X} {v : px_X} (C : pn_ctx G own cc nL z p s m args meth c) (hd : decode cc pc = .ok (.putfield idx, 3)) (hf : pn_fd own idx = some (ci, f)) (ho : w[o]? = some (.inl (ci, fs))) (hlen : f < fs.length) (hfit : pn_fit (px_pf ci f) v = true) (hown : (vwCl[ci]?).map (fun x => x.1) = some own)
    (kk : pn_At G nL p e (pn_room d mc ms) s m args below meth c Z (pc + 3, lv, st, w.set o (.inl (ci, fs.set f v)), k, n)) : pn_At G nL p e (pn_room d mc ms) s m args below meth c Z (pc, lv, v :: .inr (.inl (some o)) :: st, w, k, n) := by
  intro H locs hP hS ls hl
  obtain ⟨C1, T, N, hc, hk, hC, hw⟩ := pn_fd_ok hf
  obtain ⟨ty, hty, hnm, hin, hN, hft⟩ := pn_class hc
  have he : (pn_w G w)[o]? = some (G.2.2.2 + o, .inr (ci, fs.map (px_v G.2.2.2))) := pn_w_at ho
  have hsame : ∀ x, s.fieldFound? (T f).1 (T f).2.1 (T f).2.2.1 = some x → s.fieldFound? C1 (T f).2.1 (T f).2.2.1 = some x := by
    rw [hC]
    exact fun _ h => h
  have hC1 : C1 = own := by
    rw [hc] at hown
    exact Option.some.inj hown
  have hval : narrow (ty f) (px_v G.2.2.2 v) = px_v G.2.2.2 v ∧ fits (ty f) (px_v G.2.2.2 v) = true := by
    rcases pn_fit_inv hfit with ⟨h1, x, rfl⟩ | ⟨h1, x, rfl⟩ | ⟨h1, x, rfl⟩
    · rw [((hft f hk).1 h1).1]
      exact ⟨rfl, rfl⟩
    · rw [((hft f hk).2.1 h1).1]
      exact ⟨rfl, rfl⟩
    · exact (pn_isr_ok ((hft f hk).2.2 (by omega) (by omega))).2 _
  have hset : (pn_w G w).set o (G.2.2.2 + o, .inr (ci, (fs.map (px_v G.2.2.2)).set f (px_v G.2.2.2 v))) = pn_w G (w.set o (.inl (ci, fs.set f v))) := by
    refine pn_w_set ?_
    show _ = Sum.inr (ci, (fs.set f v).map (px_v G.2.2.2))
    rw [List.map_set]
  have hk2 : ∀ (H1 : Heap) (locs1 : List Loc), va_P G.2.1 vwCl ((pn_w G w).set o (G.2.2.2 + o, .inr (ci, (fs.map (px_v G.2.2.2)).set f (px_v G.2.2.2 v)))) H1 → va_D (fun q : Nat => G.2.2.2 ≤ q) ((pn_w G w).set o (G.2.2.2 + o, .inr (ci, (fs.map (px_v G.2.2.2)).set f (px_v G.2.2.2 v)))) → va_S (fun q : Nat => G.2.2.2 ≤ q) s.heap H1 locs1 → W p G.1 e (pn_room d mc ms) s m args below meth c H1 locs1 k n Z (F0 m (pc + 3) ls (st.map (px_v G.2.2.2))) := by
    intro H1 locs1 h1 h2 h3
    rw [hset] at h1
    exact kk H1 locs1 h1 h3 ls hl
  cases hfin : (T f).2.2.2 with
  | false => exact va_put C.1 C.2.1 C.2.2.2.2.1 hin ty hty hnm C.2.2.2.1 C.2.2.2.2.2.1.1.1 hP pn_w_D hS o he hc f hk (C.2.2.2.2.1 _ hw) hsame hfin (hty f hk) hval.1 hval.2 (by rw [List.length_map]; exact hlen) hd hk2
  | true => exact va_putF C.1 C.2.1 C.2.2.2.2.1 hin ty hty hnm C.2.2.2.1 C.2.2.2.2.2.1.1.1 hP pn_w_D hS o he hc f hk (C.2.2.2.2.1 _ hw) hsame hfin C.2.2.2.2.2.2.1 (hC.trans hC1) (hty f hk) hval.1 hval.2 (by rw [List.length_map]; exact hlen) hd hk2
theorem pn_new {idx ci : Nat} (C : pn_ctx G own cc nL z p s m args meth c) (I : z + k = w.length ∧ 0 < w.length) (hd : decode cc pc = .ok (.new idx, 3)) (hf : pn_nw own idx = some ci) (h1 : k + 1 ≤ mc) (h2 : n + px_nf ci ≤ ms)
    (kk : pn_At G nL p e (pn_room d mc ms) s m args below meth c Z (pc + 3, lv, .inr (.inl (some w.length)) :: st, w ++ [.inl (ci, pn_fs ci)], k + 1, n + px_nf ci)) : pn_At G nL p e (pn_room d mc ms) s m args below meth c Z (pc, lv, st, w, k, n) := by
  intro H locs hP hS ls hl
  obtain ⟨C1, T, N, hc, hw1, hw2, hw3⟩ := pn_nw_ok hf
  obtain ⟨ty, hty, hnm, hin, hN, hft⟩ := pn_class hc
  have hKn := C.2.2.2.2.2.1.1.1.1 ci _ hc
  refine pn_size (fun hz => ?_)
  have hH := pn_H C I hP hz
  refine W.newcK C.1 C.2.1 C.2.2.2.1 (C.2.2.2.2.1 _ hw1) (C.2.2.2.2.1 _ hw2) (C.2.2.2.2.1 _ hw3) rfl hd h1 (by rw [hN]; exact h2) hKn.2.1 hH (fun H1 kC hkC e1 z1 o1 => ?_)
  have hk := kk H1 locs (pn_grow hP hH o1 ⟨_, hc, (u_born ty C.2.2.2.2.1 hin hKn hkC e1 hty).to (fun j hj => ?_)⟩) (pn_growS hS hH z1 o1) ls hl
  · rw [hN]
    exact hk
  · show defaultValue (ty j) = vp_V ((pn_fs ci).map (px_v G.2.2.2)) j
    have hj : j < N := hj
    rw [pn_fs_at (by omega)]
    by_cases e0 : px_pf ci j = 0
    · rw [((hft j hj).1 e0).1, e0]
      rfl
    · by_cases e1 : px_pf ci j = 1
      · rw [((hft j hj).2.1 e1).1, e1]
        rfl
      · rw [(pn_isr_ok ((hft j hj).2.2 e0 e1)).1]
        unfold pn_dv
        split
        · omega
        · omega
        · rfl
theorem pn_newa {t : ArrayType} {kd : Nat} {v : Int} (C : pn_ctx G own cc nL z p s m args meth c) (I : z + k = w.length ∧ 0 < w.length) (hd : decode cc pc = .ok (.newarray t, 2)) (ht : (t = .int ∧ kd = 20) ∨ (t = .boolean ∧ kd = 21)) (hv : 0 ≤ v ∧ v ≤ 4320) (h1 : k + 1 ≤ mc) (h2 : n + v.toNat ≤ ms)
    (kk : pn_At G nL p e (pn_room d mc ms) s m args below meth c Z (pc + 2, lv, .inr (.inl (some w.length)) :: st, w ++ [.inr (.inl (kd, v.toNat, []))], k + 1, n + v.toNat)) : pn_At G nL p e (pn_room d mc ms) s m args below meth c Z (pc, lv, .inl v :: st, w, k, n) := by
  intro H locs hP hS ls hl
  refine pn_size (fun hz => ?_)
  have hH := pn_H C I hP hz
  obtain ⟨n1, n2⟩ := pn_pos hv.1 hv.2
  rcases ht with ⟨rfl, rfl⟩ | ⟨rfl, rfl⟩
  · refine va_newaK (atype := .int) C.1 C.2.1 (C.2.2.2.2.1 _ (px_ws_at 101 (by decide +kernel) rfl)) rfl hd rfl n1 n2 (by show v.toNat * 4 ≤ _; omega) h1 h2 hH (fun H1 cA e1 z1 o1 hAr hNm => ?_)
    have hcA : cA = G.2.2.1 20 := Option.some.inj (hNm.symm.trans (C.2.2.2.2.2.1.1.1.2 0 (G.2.2.1 20, .int) rfl).2)
    subst hcA
    exact kk H1 locs (pn_grow hP hH o1 e1) (pn_growS hS hH z1 o1) ls hl
  · refine va_newaK (atype := .boolean) C.1 C.2.1 (C.2.2.2.2.1 _ (px_ws_at 212 (by decide +kernel) rfl)) rfl hd rfl n1 n2 (by show v.toNat * 1 ≤ _; omega) h1 h2 hH (fun H1 cA e1 z1 o1 hAr hNm => ?_)
    have hcA : cA = G.2.2.1 21 := Option.some.inj (hNm.symm.trans (C.2.2.2.2.2.1.1.1.2 1 (G.2.2.1 21, .boolean) rfl).2)
    subst hcA
    exact kk H1 locs (pn_grow hP hH o1 e1) (pn_growS hS hH z1 o1) ls hl
theorem pn_anewa {idx kd : Nat} {v : Int} (C : pn_ctx G own cc nL z p s m args meth c) (I : z + k = w.length ∧ 0 < w.length) (hd : decode cc pc = .ok (.anewarray idx, 3)) (hf : pn_an own idx = some kd) (hv : 0 ≤ v ∧ v ≤ 4320) (h1 : k + 1 ≤ mc) (h2 : n + v.toNat ≤ ms)
    (kk : pn_At G nL p e (pn_room d mc ms) s m args below meth c Z (pc + 3, lv, .inr (.inl (some w.length)) :: st, w ++ [.inr (.inr (kd, v.toNat, []))], k + 1, n + v.toNat)) : pn_At G nL p e (pn_room d mc ms) s m args below meth c Z (pc, lv, .inl v :: st, w, k, n) := by
  intro H locs hP hS ls hl
  refine pn_size (fun hz => ?_)
  have hH := pn_H C I hP hz
  obtain ⟨n1, n2⟩ := pn_pos hv.1 hv.2
  obtain ⟨hw, hk1, hk2⟩ := pn_an_ok hf
  refine W.anew C.1 C.2.1 C.2.2.2.1 (C.2.2.2.2.1 _ hw) (va_AO.use C.2.2.2.2.2.1.ao) rfl hd rfl n1 (by rw [n2]; omega) h1 (by rw [n2]; exact h2) (fun cA kA comp f1 f2 f3 f4 => ?_)
  obtain ⟨t0, ht0⟩ := pn_tys (G := G) hk1 hk2
  have hcA : cA = G.2.2.1 kd := by
    obtain ⟨-, -, -, -, -, h4⟩ := (C.2.2.2.2.2.1.1.1.2 t0 _ ht0).2
    exact Option.some.inj (f1.symm.trans h4)
  subst hcA
  rw [hH, n2]
  refine kk _ locs (pn_grow hP hH (fun q hq => ?_) ?_) (pn_growS hS hH (by rw [Array.size_push, hH]) (fun q hq => ?_)) ls hl
  · rw [Array.getElem?_push, if_neg (by omega)]
  · show (H.push _)[G.2.2.2 + w.length]? = some (vp_cell (G.2.2.1 kd) (v.toNat, .inr (.inr (.inr (.inr (fun j => (([] : List (Int × Nat)).lookup (j : Int)).map (fun o => G.2.2.2 + o)))))))
    rw [vp_cell_q, ← hH, Array.getElem?_push_size]
    show _ = some (arrV (G.2.2.1 kd) v.toNat (fun _ => Value.null))
    rw [← arrV_new]
  · rw [Array.getElem?_push, if_neg (by omega)]
theorem pn_iast {a N : Nat} {j x : Int} {ov : List (Int × Int)} (C : pn_ctx G own cc nL z p s m args meth c) (hd : decode cc pc = .ok (.iastore, 1)) (ha : w[a]? = some (.inr (.inl (20, N, ov)))) (hj : 0 ≤ j ∧ j < N ∧ N ≤ 4320)
    (kk : pn_At G nL p e (pn_room d mc ms) s m args below meth c Z (pc + 1, lv, st, w.set a (.inr (.inl (20, N, (j, x) :: ov))), k, n)) : pn_At G nL p e (pn_room d mc ms) s m args below meth c Z (pc, lv, .inl x :: .inl j :: .inr (.inl (some a)) :: st, w, k, n) := by
  intro H locs hP hS ls hl
  obtain ⟨h1, h2⟩ := px_ix_in hj.1 hj.2.1 hj.2.2
  refine va_iast C.1 C.2.1 C.2.2.2.2.2.1.1.1 hP pn_w_D hS a 0 (pn_w_at ha) rfl h1 hd (fun H1 locs1 g1 g2 g3 => ?_)
  rw [h2, pn_w_set (e := .inr (.inl (20, N, (j, x) :: ov)))] at g1
  · exact kk H1 locs1 g1 g3 ls hl
  · show _ = Sum.inl (G.2.2.1 20, N, Sum.inl (fun q : Nat => Int32.ofInt ((((j, x) :: ov).lookup (q : Int)).getD 0)))
    congr 4
    funext q
    unfold upd
    rw [List.lookup_cons]
    by_cases hq : q = j.toNat
    · have : ((q : Int) == j) = true := by rw [beq_iff_eq]; omega
      rw [if_pos hq, this]
      rfl
    · have : ((q : Int) == j) = false := by rw [beq_eq_false_iff_ne]; omega
      rw [if_neg hq, this]
theorem pn_aast {a N v kd ci : Nat} {j : Int} {ov : List (Int × Nat)} {fs : List px_X} (C : pn_ctx G own cc nL z p s m args meth c) (hd : decode cc pc = .ok (.aastore, 1)) (ha : w[a]? = some (.inr (.inr (kd, N, ov)))) (hv : w[v]? = some (.inl (ci, fs))) (hk : 22 ≤ kd ∧ kd ≤ 25) (hj : 0 ≤ j ∧ j < N ∧ N ≤ 4320) (hci : ci = pn_ek kd)
    (kk : pn_At G nL p e (pn_room d mc ms) s m args below meth c Z (pc + 1, lv, st, w.set a (.inr (.inr (kd, N, (j, v) :: ov))), k, n)) : pn_At G nL p e (pn_room d mc ms) s m args below meth c Z (pc, lv, .inr (.inl (some v)) :: .inl j :: .inr (.inl (some a)) :: st, w, k, n) := by
  intro H locs hP hS ls hl
  subst hci
  obtain ⟨h1, h2⟩ := px_ix_in hj.1 hj.2.1 hj.2.2
  obtain ⟨t0, ht0⟩ := pn_tys (G := G) hk.1 hk.2
  obtain ⟨T, M, hc⟩ := pn_ek_ok hk.1 hk.2
  refine va_astq (r := (pn_rk kd, T, M)) C.1 C.2.1 C.2.2.2.2.2.1.1.1 hP pn_w_D hS a t0 v (pn_ek kd) (pn_w_at ha) ht0 (pn_w_at hv) hc h1 hd (fun H1 locs1 g1 g2 g3 => ?_)
  rw [h2, pn_w_set (e := .inr (.inr (kd, N, (j, v) :: ov)))] at g1
  · exact kk H1 locs1 g1 g3 ls hl
  · show _ = Sum.inl (G.2.2.1 kd, N, Sum.inr (Sum.inr (Sum.inr (Sum.inr (fun q : Nat => (((j, v) :: ov).lookup (q : Int)).map (fun o => G.2.2.2 + o))))))
    congr 7
    funext q
    unfold va_up
    rw [List.lookup_cons]
    by_cases hq : q = j.toNat
    · have : ((q : Int) == j) = true := by rw [beq_iff_eq]; omega
      rw [if_pos hq, this]
      rfl
    · have : ((q : Int) == j) = false := by rw [beq_eq_false_iff_ne]; omega
      rw [if_neg hq, this]
theorem pn_step_ok {i : Instr} {len : Nat} {σ' : pn_S} (C : pn_ctx G own cc nL z p s m args meth c) (hd : decode cc pc = .ok (i, len)) (I : z + k = w.length ∧ 0 < w.length) (h : pn_step own nL mc ms i len pc lv st w k n = some σ') :
    pn_inv z σ' ∧ (pn_At G nL p e (pn_room d mc ms) s m args below meth c Z σ' → pn_At G nL p e (pn_room d mc ms) s m args below meth c Z (pc, lv, st, w, k, n)) := by
  have hset : ∀ (o : Nat) (e : pn_E), z + k = (w.set o e).length ∧ 0 < (w.set o e).length := fun o e => by rw [List.length_set]; exact I
  have happ : ∀ e : pn_E, z + (k + 1) = (w ++ [e]).length ∧ 0 < (w ++ [e]).length := fun e => by rw [List.length_append, List.length_singleton]; omega
  unfold pn_step at h
  split at h
  · obtain ⟨o, h1, h2⟩ := Option.bind_eq_some_iff.mp h
    cases h2
    exact ⟨I, fun kk H locs hP hS ls hl => lv_aload_n C.1 C.2.1 hd rfl (hl.at (pn_lr_inv h1)) (kk H locs hP hS ls hl)⟩
  · obtain ⟨o, h1, h2⟩ := Option.bind_eq_some_iff.mp h
    cases h2
    exact ⟨I, fun kk H locs hP hS ls hl => lv_iload_n C.1 C.2.1 hd rfl (hl.at (pn_li_inv h1)) (kk H locs hP hS ls hl)⟩
  · obtain ⟨x, r, rfl, h1⟩ := pn_pi_inv h
    obtain ⟨h2, h3⟩ := pn_if_inv h1
    cases h3
    exact ⟨I, fun kk H locs hP hS ls hl => lv_istore_n C.1 C.2.1 hd rfl hl.1 h2 rfl (fun ls' h' => kk H locs hP hS ls' (hl.set trivial h'))⟩
  · cases h
    exact ⟨I, fun kk H locs hP hS ls hl => lv_iconst C.1 C.2.1 hd rfl (kk H locs hP hS ls hl)⟩
  · obtain ⟨h2, h3⟩ := pn_if_inv h
    cases h3
    exact ⟨I, fun kk H locs hP hS ls hl => lv_bipush C.1 C.2.1 hd (Int8.toInt32_ofInt (by simp [Int8.toInt_minValue]; omega) (by simp [Int8.toInt_maxValue]; omega)) (kk H locs hP hS ls hl)⟩
  · obtain ⟨h2, h3⟩ := pn_if_inv h
    cases h3
    exact ⟨I, fun kk H locs hP hS ls hl => lv_sipush C.1 C.2.1 hd (Int16.toInt32_ofInt (by simp [Int16.toInt_minValue]; omega) (by simp [Int16.toInt_maxValue]; omega)) (kk H locs hP hS ls hl)⟩
  · cases h
    exact ⟨I, fun kk H locs hP hS ls hl => lv_lconst C.1 C.2.1 hd (pn_long _) (kk H locs hP hS ls hl)⟩
  · obtain ⟨o, r, rfl, h1⟩ := pn_pr_inv h
    cases h1
    exact ⟨I, fun kk H locs hP hS ls hl => lv_dup C.1 C.2.1 hd rfl (kk H locs hP hS ls hl)⟩
  · rename_i j x
    obtain ⟨v, h1, h2⟩ := Option.bind_eq_some_iff.mp h
    obtain ⟨h3, h4⟩ := pn_if_inv h2
    cases h4
    refine ⟨I, fun kk H locs hP hS ls hl => ?_⟩
    obtain ⟨q, hq⟩ := List.getElem?_of_mem (px_ll_mem (b := G.2.2.2) (q := (j, px_v G.2.2.2 (.inl v))) |>.mpr ⟨_, pn_li_inv h1, rfl⟩)
    exact lv_iinc C.1 C.2.1 hd hl.1 hq (Int32.ofInt_add v x).symm h3 rfl (fun ls' h' => kk H locs hP hS ls' (hl.set (v := .inl (v + x)) trivial h'))
  · obtain ⟨h2, h3⟩ := pn_if_inv h
    cases h3
    exact ⟨I, fun kk H locs hP hS ls hl => lv_goto C.1 C.2.1 hd (Int.toNat_of_nonneg h2).symm (kk H locs hP hS ls hl)⟩
  · obtain ⟨y, r0, rfl, h1⟩ := pn_pi_inv h
    obtain ⟨x, r, rfl, h2⟩ := pn_pi_inv h1
    obtain ⟨⟨h3, h4, h5, h6⟩, h7⟩ := pn_if_inv h2
    have h8 := pn_isge_inv h4
    subst h8
    cases h7
    refine ⟨I, fun kk H locs hP hS ls hl => ?_⟩
    have hle := px_le_iff (x := y) (y := x) ⟨by omega, by omega, by omega, by omega⟩
    refine lv_icmp_ge C.1 C.2.1 hd (Int.toNat_of_nonneg h3).symm (fun q => ?_) (fun q => ?_)
    · have q1 : y ≤ x := hle.mp q
      have := kk H locs hP hS ls hl
      rw [if_pos q1] at this
      exact this
    · have q1 : ¬ y ≤ x := fun q2 => q (hle.mpr q2)
      have := kk H locs hP hS ls hl
      rw [if_neg q1] at this
      exact this
  · obtain ⟨⟨ci, f⟩, h1, h2⟩ := Option.bind_eq_some_iff.mp h
    obtain ⟨o, r, rfl, h3⟩ := pn_pr_inv h2
    obtain ⟨⟨cj, fs⟩, h4, h5⟩ := Option.bind_eq_some_iff.mp h3
    obtain ⟨h6, h7⟩ := pn_if_inv h5
    dsimp only at h6
    subst h6
    obtain ⟨v, h8, h9⟩ := Option.bind_eq_some_iff.mp h7
    cases h9
    exact ⟨I, pn_getf C hd h1 (pn_ob_inv h4) h8⟩
  · obtain ⟨⟨ci, f⟩, h1, h2⟩ := Option.bind_eq_some_iff.mp h
    obtain ⟨v, r0, rfl, h3⟩ := pn_px_inv h2
    obtain ⟨o, r, rfl, h3⟩ := pn_pr_inv h3
    obtain ⟨⟨cj, fs⟩, h4, h5⟩ := Option.bind_eq_some_iff.mp h3
    obtain ⟨⟨h6, h7, h8, h9⟩, h10⟩ := pn_if_inv h5
    dsimp only at h6
    subst h6
    cases h10
    exact ⟨hset _ _, pn_putf C hd h1 (pn_ob_inv h4) h7 h8 h9⟩
  · obtain ⟨ci, h1, h2⟩ := Option.bind_eq_some_iff.mp h
    obtain ⟨h6, h7⟩ := pn_if_inv h2
    cases h7
    exact ⟨happ _, pn_new C I hd h1 h6.1 h6.2⟩
  · obtain ⟨kd, h1, h2⟩ := Option.bind_eq_some_iff.mp h
    obtain ⟨v, r, rfl, h3⟩ := pn_pi_inv h2
    obtain ⟨h6, h7⟩ := pn_if_inv h3
    cases h7
    exact ⟨happ _, pn_newa C I hd (pn_at_inv h1) h6.1 h6.2.1 h6.2.2⟩
  · obtain ⟨kd, h1, h2⟩ := Option.bind_eq_some_iff.mp h
    obtain ⟨v, r, rfl, h3⟩ := pn_pi_inv h2
    obtain ⟨h6, h7⟩ := pn_if_inv h3
    cases h7
    exact ⟨happ _, pn_anewa C I hd h1 h6.1 h6.2.1 h6.2.2⟩
  · obtain ⟨x, r0, rfl, h1⟩ := pn_pi_inv h
    obtain ⟨j, r1, rfl, h1⟩ := pn_pi_inv h1
    obtain ⟨a, r, rfl, h1⟩ := pn_pr_inv h1
    obtain ⟨⟨kd, N, ov⟩, h2, h3⟩ := Option.bind_eq_some_iff.mp h1
    obtain ⟨⟨h6, h8⟩, h7⟩ := pn_if_inv h3
    dsimp only at h6
    subst h6
    cases h7
    exact ⟨hset _ _, pn_iast C hd (pn_ia_inv h2) h8⟩
  · obtain ⟨v, r0, rfl, h1⟩ := pn_pr_inv h
    obtain ⟨j, r1, rfl, h1⟩ := pn_pi_inv h1
    obtain ⟨a, r, rfl, h1⟩ := pn_pr_inv h1
    obtain ⟨⟨kd, N, ov⟩, h2, h3⟩ := Option.bind_eq_some_iff.mp h1
    obtain ⟨⟨ci, fs⟩, h4, h5⟩ := Option.bind_eq_some_iff.mp h3
    obtain ⟨⟨h6, h8, h9⟩, h7⟩ := pn_if_inv h5
    cases h7
    exact ⟨hset _ _, pn_aast C hd (pn_ra_inv h2) (pn_ob_inv h4) h6 h8 h9⟩
  · cases h
end PNS
