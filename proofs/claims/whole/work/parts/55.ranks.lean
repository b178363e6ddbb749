/-! ===== orders and their ranks ===== -/
def pf : Nat → Nat
  | 0 => 1
  | n + 1 => (n + 1) * pf n
def rk : List Nat → Nat
  | [] => 0
  | a :: r => r.countP (fun x => decide (x < a)) * pf r.length + rk r
theorem rk_lt : ∀ X : List Nat, rk X < pf X.length
  | [] => by decide
  | a :: r => by
    have h1 := rk_lt r
    have h2 : r.countP (fun x => decide (x < a)) ≤ r.length := List.countP_le_length
    have h3 := Nat.mul_le_mul_right (pf r.length) h2
    show r.countP (fun x => decide (x < a)) * pf r.length + rk r < (r.length + 1) * pf r.length
    rw [Nat.add_mul, Nat.one_mul]
    omega
theorem rk_count : ∀ {X : List Nat} {a b : Nat}, a < b → X.countP (fun x => decide (x < a)) ≤ X.countP (fun x => decide (x < b)) ∧ (a ∈ X → X.countP (fun x => decide (x < a)) + 1 ≤ X.countP (fun x => decide (x < b)))
  | [], a, b, h => ⟨Nat.le_refl _, fun h => by cases h⟩
  | x :: X, a, b, h => by
    obtain ⟨i1, i2⟩ := rk_count (X := X) h
    rw [List.countP_cons, List.countP_cons]
    by_cases h1 : x < a
    · have h2 : x < b := by omega
      simp only [h1, h2, decide_true, if_true]
      refine ⟨by omega, fun hm => ?_⟩
      rcases List.mem_cons.mp hm with q | q
      · omega
      · have := i2 q; omega
    · simp only [h1, decide_false, Bool.false_eq_true, if_false]
      by_cases h2 : x < b
      · simp only [h2, decide_true, if_true]
        exact ⟨by omega, fun _ => by omega⟩
      · simp only [h2, decide_false, Bool.false_eq_true, if_false]
        refine ⟨by omega, fun hm => ?_⟩
        rcases List.mem_cons.mp hm with q | q
        · omega
        · have := i2 q; omega
theorem rk_inj : ∀ {X Y : List Nat}, X.Perm Y → X.Nodup → rk X = rk Y → X = Y
  | [], Y, hp, _, _ => (List.Perm.nil_eq hp)
  | a :: r, [], hp, _, _ => by have := hp.length_eq; simp at this
  | a :: r, b :: s, hp, hn, h => by
    have hl : r.length = s.length := by have := hp.length_eq; simpa using this
    have h1 := rk_lt r
    have h2 := rk_lt s
    have e : r.countP (fun x => decide (x < a)) * pf r.length + rk r = s.countP (fun x => decide (x < b)) * pf s.length + rk s := h
    rw [← hl] at e h2
    have ec : r.countP (fun x => decide (x < a)) = s.countP (fun x => decide (x < b)) := by
      rcases Nat.lt_trichotomy (r.countP (fun x => decide (x < a))) (s.countP (fun x => decide (x < b))) with q | q | q
      · have := Nat.mul_le_mul_right (pf r.length) (Nat.succ_le_of_lt q)
        rw [Nat.succ_mul] at this
        omega
      · exact q
      · have := Nat.mul_le_mul_right (pf r.length) (Nat.succ_le_of_lt q)
        rw [Nat.succ_mul] at this
        omega
    have er : rk r = rk s := by rw [ec] at e; omega
    have cX : (a :: r).countP (fun x => decide (x < a)) = r.countP (fun x => decide (x < a)) := by rw [List.countP_cons]; simp
    have cY : (b :: s).countP (fun x => decide (x < b)) = s.countP (fun x => decide (x < b)) := by rw [List.countP_cons]; simp
    have cP := hp.countP_eq (fun x => decide (x < b))
    have cQ := hp.countP_eq (fun x => decide (x < a))
    have ab : a = b := by
      rcases Nat.lt_trichotomy a b with q | q | q
      · have := (rk_count (X := a :: r) q).2 List.mem_cons_self
        omega
      · exact q
      · have := (rk_count (X := b :: s) q).2 List.mem_cons_self
        omega
    subst ab
    rw [rk_inj hp.cons_inv (List.nodup_cons.mp hn).2 er]
theorem po_pig : ∀ (n : Nat) (l : List Nat), l.Nodup → (∀ x ∈ l, x < n) → l.length ≤ n
  | 0, l, _, h => by
    cases l with
    | nil => exact Nat.le_refl _
    | cons x l => exact absurd (h x List.mem_cons_self) (by omega)
  | n + 1, l, hn, h => by
    by_cases hm : n ∈ l
    · have := po_pig n (l.erase n) (hn.erase n) (fun x hx => by
        have hx' := (List.Nodup.mem_erase_iff hn).mp hx
        have := h x hx'.2
        have := hx'.1
        omega)
      rw [List.length_erase_of_mem hm] at this
      omega
    · have := po_pig n l hn (fun x hx => by
        have h1 := h x hx
        have h2 : x ≠ n := fun e => hm (e ▸ hx)
        omega)
      omega
/-! ===== packed rows ===== -/
def pp (b : Nat) : List Nat → Nat
  | [] => 0
  | d :: D => 2 ^ b * pp b D + d
theorem pp_lt {b : Nat} : ∀ {D : List Nat}, (∀ d ∈ D, d < 2 ^ b) → pp b D < 2 ^ (b * D.length)
  | [], _ => by simp [pp]
  | d :: D, h => by
    have h1 := pp_lt (D := D) (fun x hx => h x (List.mem_cons_of_mem _ hx))
    have h2 := h d List.mem_cons_self
    show 2 ^ b * pp b D + d < 2 ^ (b * (D.length + 1))
    rw [Nat.mul_add, Nat.mul_one, Nat.pow_add, Nat.mul_comm (2 ^ (b * D.length))]
    have h3 := Nat.mul_le_mul_left (2 ^ b) (Nat.succ_le_of_lt h1)
    rw [Nat.mul_succ] at h3
    omega
theorem pp_bit {b : Nat} (hb : 0 < b) : ∀ {D : List Nat} (j : Nat), (∀ d ∈ D, d < 2 ^ b) → (pp b D).testBit j = ((D[j / b]?).getD 0).testBit (j % b)
  | [], j, _ => by simp [pp]
  | d :: D, j, h => by
    have h2 := h d List.mem_cons_self
    show (2 ^ b * pp b D + d).testBit j = _
    rw [Nat.testBit_two_pow_mul_add _ h2]
    by_cases hj : j < b
    · rw [if_pos hj, Nat.div_eq_of_lt hj, Nat.mod_eq_of_lt hj]
      rfl
    · have e1 : j / b = (j - b) / b + 1 := Nat.div_eq_sub_div hb (by omega)
      have e2 : j % b = (j - b) % b := Nat.mod_eq_sub_mod (by omega)
      rw [if_neg hj, pp_bit hb (j - b) (fun x hx => h x (List.mem_cons_of_mem _ hx)), e1, e2]
      rfl
theorem pb_nat {x j : Nat} (hj : j < 32) : pb (x : Int) j = x.testBit j := by
  unfold pb
  rw [Int32.toBitVec_ofInt, BitVec.ofInt_natCast, BitVec.getLsbD_ofNat]
  simp [hj]
theorem pv_part {b : Nat} (hb : 0 < b) {D : List Nat} (hD : ∀ d ∈ D, d < 2 ^ b) (hl : b * D.length ≤ 31) {i : Nat} (hi : i < D.length) {m : Int} (hm : ∀ j, j < 32 → pb m j = decide (j < b)) : px_and (px_shr (pp b D : Nat) ((i * b : Nat) : Int)) m = ((D[i] : Nat) : Int) := by
  have hle : i * b + b ≤ 31 := by
    have := Nat.mul_le_mul_right b (Nat.succ_le_of_lt hi)
    rw [Nat.succ_mul, Nat.mul_comm D.length b] at this
    omega
  have dl := hD _ (List.getElem_mem hi)
  have dr : D[i] < 2147483648 := Nat.lt_of_lt_of_le dl (Nat.le_trans (Nat.pow_le_pow_right (by omega) (show b ≤ 31 by omega)) (by decide))
  refine pb_ext (px_and_r _ _) (by omega) (fun j hj => ?_)
  rw [pb_and, hm j hj, pb_nat hj, pb_shr _ (by omega) hj]
  by_cases h : j < b
  · rw [if_pos (by omega), pb_nat (by omega), pp_bit hb _ hD]
    have e1 : (i * b + j) / b = i := by
      rw [Nat.mul_comm, Nat.mul_add_div hb, Nat.div_eq_of_lt h, Nat.add_zero]
    have e2 : (i * b + j) % b = j := by
      rw [Nat.mul_comm, Nat.mul_add_mod, Nat.mod_eq_of_lt h]
    rw [e1, e2, List.getElem?_eq_getElem hi]
    simp [h]
  · rw [Nat.testBit_lt_two_pow (Nat.lt_of_lt_of_le dl (Nat.pow_le_pow_right (by omega) (by omega)))]
    simp [h]
theorem pv_with {b s x y v : Nat} {m : Int} (hs : s < 32) (hb : s + b ≤ 32) (hv : v < 2 ^ b) (hy : y < 2147483648) (hm : ∀ j, j < 32 → pb m j = decide (j < b)) (h : ∀ j, j < 32 → y.testBit j = if s ≤ j ∧ j < s + b then v.testBit (j - s) else x.testBit j) : px_or (px_and (x : Nat) (px_xor (px_shl m (s : Nat)) (-1))) (px_shl (v : Nat) (s : Nat)) = (y : Int) := by
  refine pb_ext (px_or_r _ _) (by omega) (fun j hj => ?_)
  rw [pb_or, pb_and, pb_xor, pb_m1 j hj, pb_shl m hs hj, pb_shl _ hs hj, pb_nat hj, pb_nat hj, h j hj, hm (j - s) (by omega), pb_nat (by omega)]
  by_cases h1 : s ≤ j
  · by_cases h2 : j < s + b
    · have h3 : j - s < b := by omega
      simp [h1, h2, h3]
    · have h3 : ¬ j - s < b := by omega
      rw [Nat.testBit_lt_two_pow (x := v) (Nat.lt_of_lt_of_le hv (Nat.pow_le_pow_right (by omega) (by omega)))]
      simp [h1, h2, h3]
  · simp [h1]
theorem pv_set {b : Nat} (hb : b = 3 ∨ b = 5) {D : List Nat} {i v : Nat} (hD : ∀ d ∈ D, d < 2 ^ b) (hv : v < 2 ^ b) (hi : i < D.length) : ∀ j, j < 32 → (pp b (D.set i v)).testBit j = if i * b ≤ j ∧ j < i * b + b then v.testBit (j - i * b) else (pp b D).testBit j := by
  intro j hj
  have hD2 : ∀ d ∈ D.set i v, d < 2 ^ b := fun d hd => by
    rcases List.mem_or_eq_of_mem_set hd with q | q
    · exact hD d q
    · rw [q]; exact hv
  rw [pp_bit (by omega) j hD2, pp_bit (by omega) j hD, List.getElem?_set]
  rcases hb with rfl | rfl
  · by_cases h : i * 3 ≤ j ∧ j < i * 3 + 3
    · rw [if_pos h, if_pos (by omega), if_pos (by omega), show j - i * 3 = j % 3 by omega]
      rfl
    · rw [if_neg h, if_neg (by omega)]
  · by_cases h : i * 5 ≤ j ∧ j < i * 5 + 5
    · rw [if_pos h, if_pos (by omega), if_pos (by omega), show j - i * 5 = j % 5 by omega]
      rfl
    · rw [if_neg h, if_neg (by omega)]
theorem pv_snoc {b : Nat} (hb : b = 3 ∨ b = 5) {D : List Nat} {v : Nat} (hD : ∀ d ∈ D, d < 2 ^ b) (hv : v < 2 ^ b) : ∀ j, j < 32 → (pp b (D ++ [v])).testBit j = if D.length * b ≤ j ∧ j < D.length * b + b then v.testBit (j - D.length * b) else (pp b D).testBit j := by
  intro j hj
  have hD2 : ∀ d ∈ D ++ [v], d < 2 ^ b := fun d hd => by
    rcases List.mem_append.mp hd with q | q
    · exact hD d q
    · rw [List.mem_singleton.mp q]; exact hv
  rw [pp_bit (by omega) j hD2, pp_bit (by omega) j hD, List.getElem?_append]
  rcases hb with rfl | rfl
  · by_cases h : D.length * 3 ≤ j ∧ j < D.length * 3 + 3
    · rw [if_pos h, if_neg (by omega), show j / 3 - D.length = 0 by omega, show j - D.length * 3 = j % 3 by omega]
      rfl
    · rw [if_neg h]
      by_cases h1 : j / 3 < D.length
      · rw [if_pos h1]
      · rw [if_neg h1, List.getElem?_eq_none (l := D) (by omega), List.getElem?_eq_none (l := [v]) (by simp; omega)]
  · by_cases h : D.length * 5 ≤ j ∧ j < D.length * 5 + 5
    · rw [if_pos h, if_neg (by omega), show j / 5 - D.length = 0 by omega, show j - D.length * 5 = j % 5 by omega]
      rfl
    · rw [if_neg h]
      by_cases h1 : j / 5 < D.length
      · rw [if_pos h1]
      · rw [if_neg h1, List.getElem?_eq_none (l := D) (by omega), List.getElem?_eq_none (l := [v]) (by simp; omega)]
/-! ===== an order, with its places, as a row of changes ===== -/
def po_e (L : List pc_Ch) (j p : Nat) : pc_Ch := ((pa_ch L j).1, (pa_ch L j).2.1, (p : Int), (pa_ch L j).2.2.2)
def po_mk (L : List pc_Ch) (π P : List Nat) : List pc_Ch := List.zipWith (po_e L) π P
theorem po_mk_get {L : List pc_Ch} {π P : List Nat} {k a p : Nat} (h1 : π[k]? = some a) (h2 : P[k]? = some p) : (po_mk L π P)[k]? = some (po_e L a p) := by
  unfold po_mk
  rw [List.getElem?_zipWith, h1, h2]
theorem po_mk_set {L : List pc_Ch} {π P : List Nat} {k j p : Nat} (h : π.length = P.length) : (po_mk L π P).set k (po_e L j p) = po_mk L (π.set k j) (P.set k p) := by
  apply List.ext_getElem?
  intro i
  unfold po_mk
  rw [List.getElem?_set, List.getElem?_zipWith, List.getElem?_zipWith, List.getElem?_set, List.getElem?_set, List.length_zipWith, ← h, Nat.min_self]
  by_cases e : k = i
  · rw [if_pos e, if_pos e, if_pos e]
    by_cases hk : k < π.length
    · rw [if_pos hk, if_pos hk, if_pos hk]
    · rw [if_neg hk, if_neg hk]
  · rw [if_neg e, if_neg e, if_neg e]
def po_sw (L : List pc_Ch) (π P : List Nat) (k : Nat) : Option (List Nat × List Nat) := match π[k]?, π[k + 1]?, P[k]?, P[k + 1]? with
  | some a, some b, some p, some r => (pc_tr (pa_ch L a).2.1 p (pa_ch L b).2.1 r).map (fun q => ((π.set k b).set (k + 1) a, (P.set k q.1.toNat).set (k + 1) q.2.toNat))
  | _, _, _, _ => none
theorem po_sw_at {L : List pc_Ch} {π P : List Nat} {k a b p r : Nat} (h1 : π[k]? = some a) (h2 : π[k + 1]? = some b) (h3 : P[k]? = some p) (h4 : P[k + 1]? = some r) : po_sw L π P k = (pc_tr (pa_ch L a).2.1 p (pa_ch L b).2.1 r).map (fun q => ((π.set k b).set (k + 1) a, (P.set k q.1.toNat).set (k + 1) q.2.toNat)) := by
  unfold po_sw
  rw [h1, h2, h3, h4]
theorem po_sw_mk {L : List pc_Ch} {π P : List Nat} {k : Nat} (h : π.length = P.length) (hk : k + 1 < π.length) : pc_sw (po_mk L π P) k = (po_sw L π P k).map (fun q => po_mk L q.1 q.2) := by
  have h1 : π[k]? = some π[k] := List.getElem?_eq_getElem (by omega)
  have h2 : π[k + 1]? = some π[k + 1] := List.getElem?_eq_getElem (by omega)
  have h3 : P[k]? = some P[k] := List.getElem?_eq_getElem (by omega)
  have h4 : P[k + 1]? = some P[k + 1] := List.getElem?_eq_getElem (by omega)
  rw [po_sw_at h1 h2 h3 h4, pc_sw_at (po_mk_get h1 h3) (po_mk_get h2 h4)]
  unfold pc_sw2
  show ((pc_tr (pa_ch L π[k]).2.1 (P[k] : Nat) (pa_ch L π[k + 1]).2.1 (P[k + 1] : Nat)).map _).map _ = _
  cases ht : pc_tr (pa_ch L π[k]).2.1 (P[k] : Nat) (pa_ch L π[k + 1]).2.1 (P[k + 1] : Nat) with
  | none => rfl
  | some q =>
    obtain ⟨x, y⟩ := q
    have bd := pc_tr_bd ht (by omega) (by omega)
    show some _ = some _
    congr 1
    have e1 : ((po_e L π[k + 1] P[k + 1]).1, (po_e L π[k + 1] P[k + 1]).2.1, x, (po_e L π[k + 1] P[k + 1]).2.2.2) = po_e L π[k + 1] x.toNat := by
      unfold po_e
      rw [show ((x.toNat : Nat) : Int) = x by omega]
    have e2 : ((po_e L π[k] P[k]).1, (po_e L π[k] P[k]).2.1, y, (po_e L π[k] P[k]).2.2.2) = po_e L π[k] y.toNat := by
      unfold po_e
      rw [show ((y.toNat : Nat) : Int) = y by omega]
    dsimp only
    rw [e1, e2, po_mk_set h, po_mk_set (by rw [List.length_set, List.length_set]; exact h)]
theorem po_swap_perm : ∀ (k : Nat) (π : List Nat) (a b : Nat), π[k]? = some a → π[k + 1]? = some b → ((π.set k b).set (k + 1) a).Perm π
  | 0, x :: y :: r, a, b, h1, h2 => by
    cases h1
    cases h2
    exact List.Perm.swap _ _ _
  | 0, [x], a, b, h1, h2 => by cases h2
  | 0, [], a, b, h1, h2 => by cases h1
  | k + 1, [], a, b, h1, h2 => by cases h1
  | k + 1, x :: r, a, b, h1, h2 => List.Perm.cons x (po_swap_perm k r a b h1 h2)
def po_ok (L : List pc_Ch) (K : List (List Nat × List Nat)) : Prop := (∀ q ∈ K, q.1.Perm (List.range L.length) ∧ q.2.length = L.length ∧ pc_V (po_mk L q.1 q.2)) ∧ (K.map (fun q => q.1)).Nodup
theorem pf_720 : ∀ n : Nat, n ≤ 6 → pf n ≤ 720 := by decide
theorem po_ok.ranks {L : List pc_Ch} {K : List (List Nat × List Nat)} (h : po_ok L K) (hL : L.length ≤ 6) : (K.map (fun q => rk q.1)).Nodup ∧ (∀ r ∈ K.map (fun q => rk q.1), r < 720) ∧ K.length ≤ 720 := by
  have n1 : (K.map (fun q => rk q.1)).Nodup := by
    have : K.map (fun q => rk q.1) = (K.map (fun q => q.1)).map rk := by rw [List.map_map]; rfl
    rw [this]
    have h2 := h.2
    have h1 : ∀ π ∈ K.map (fun q => q.1), π.Perm (List.range L.length) := fun π hπ => by
      obtain ⟨q, hq, rfl⟩ := List.mem_map.mp hπ
      exact (h.1 q hq).1
    generalize K.map (fun q => q.1) = M at h1 h2
    induction M with
    | nil => exact List.nodup_nil
    | cons x M ih =>
      rw [List.nodup_cons] at h2
      rw [List.map_cons, List.nodup_cons]
      refine ⟨fun hm => ?_, ih (fun π hπ => h1 π (List.mem_cons_of_mem _ hπ)) h2.2⟩
      obtain ⟨y, hy, ey⟩ := List.mem_map.mp hm
      have px := h1 x List.mem_cons_self
      have py := h1 y (List.mem_cons_of_mem _ hy)
      have : x = y := rk_inj (px.trans py.symm) (px.nodup_iff.mpr List.nodup_range) ey.symm
      exact h2.1 (this ▸ hy)
  have n2 : ∀ r ∈ K.map (fun q => rk q.1), r < 720 := fun r hr => by
    obtain ⟨q, hq, rfl⟩ := List.mem_map.mp hr
    have e := (h.1 q hq).1.length_eq
    rw [List.length_range] at e
    have h1 := rk_lt q.1
    have h2 := pf_720 q.1.length (by omega)
    omega
  refine ⟨n1, n2, ?_⟩
  have := po_pig 720 _ n1 n2
  rwa [List.length_map] at this
def po_look (L : List pc_Ch) (K : List (List Nat × List Nat)) (o k : Nat) : List (List Nat × List Nat) := match K[o]? with
  | none => K
  | some q => match po_sw L q.1 q.2 k with
    | none => K
    | some x => if x.1 ∈ K.map (fun q => q.1) then K else K ++ [x]
def po_in (L : List pc_Ch) (o : Nat) : Nat → Nat → List (List Nat × List Nat) → List (List Nat × List Nat)
  | 0, _, K => K
  | m + 1, k, K => po_in L o m (k + 1) (po_look L K o k)
def po_out (L : List pc_Ch) : Nat → Nat → List (List Nat × List Nat) → List (List Nat × List Nat)
  | 0, _, K => K
  | f + 1, o, K => if o < K.length then po_out L f (o + 1) (po_in L o (L.length - 1) 0 K) else K
def po_0 (L : List pc_Ch) : List Nat × List Nat := (List.range L.length, L.map (fun c => c.2.2.1.toNat))
def pa_lawful (L : List pc_Ch) : Int := (po_out L 720 0 [po_0 L]).length
theorem po_mk_0 {L : List pc_Ch} (h : ∀ c ∈ L, 0 ≤ c.2.2.1) : po_mk L (po_0 L).1 (po_0 L).2 = L := by
  apply List.ext_getElem?
  intro i
  unfold po_mk po_0
  rw [List.getElem?_zipWith, List.getElem?_map]
  by_cases hi : i < L.length
  · rw [List.getElem?_range hi, List.getElem?_eq_getElem hi]
    show some (po_e L i L[i].2.2.1.toNat) = some L[i]
    congr 1
    have hc := h L[i] (List.getElem_mem hi)
    unfold po_e pa_ch
    rw [List.getElem?_eq_getElem hi, Option.getD_some, show ((L[i].2.2.1.toNat : Nat) : Int) = L[i].2.2.1 by omega]
  · rw [List.getElem?_eq_none (l := L) (by omega), List.getElem?_eq_none (l := List.range L.length) (by rw [List.length_range]; omega)]
theorem po_ok_0 {L : List pc_Ch} (h : pc_V L) : po_ok L [po_0 L] := by
  refine ⟨fun q hq => ?_, by simp⟩
  rw [List.mem_singleton.mp hq]
  refine ⟨List.Perm.refl _, by unfold po_0; rw [List.length_map], ?_⟩
  rw [po_mk_0 (fun c hc => (h.place hc).1)]
  exact h
theorem po_sw_ok {L : List pc_Ch} {q x : List Nat × List Nat} {k : Nat} (h1 : q.1.Perm (List.range L.length)) (h2 : q.2.length = L.length) (h3 : pc_V (po_mk L q.1 q.2)) (hk : k + 1 < L.length) (hx : po_sw L q.1 q.2 k = some x) : x.1.Perm (List.range L.length) ∧ x.2.length = L.length ∧ pc_V (po_mk L x.1 x.2) := by
  have l1 : q.1.length = L.length := by rw [h1.length_eq, List.length_range]
  have e := po_sw_mk (L := L) (π := q.1) (P := q.2) (k := k) (by omega) (by omega)
  rw [hx] at e
  have a1 : q.1[k]? = some q.1[k] := List.getElem?_eq_getElem (by omega)
  have a2 : q.1[k + 1]? = some q.1[k + 1] := List.getElem?_eq_getElem (by omega)
  have a3 : q.2[k]? = some q.2[k] := List.getElem?_eq_getElem (by omega)
  have a4 : q.2[k + 1]? = some q.2[k + 1] := List.getElem?_eq_getElem (by omega)
  have hx' := hx
  rw [po_sw_at a1 a2 a3 a4] at hx
  cases ht : pc_tr (pa_ch L q.1[k]).2.1 (q.2[k] : Nat) (pa_ch L q.1[k + 1]).2.1 (q.2[k + 1] : Nat) with
  | none => rw [ht] at hx; cases hx
  | some z =>
    rw [ht] at hx
    cases hx
    refine ⟨(po_swap_perm k q.1 _ _ a1 a2).trans h1, by simp [h2], ?_⟩
    exact pc_sw_V e h3
theorem po_look_ok {L : List pc_Ch} {K : List (List Nat × List Nat)} {o k : Nat} (h : po_ok L K) (hk : k + 1 < L.length) : po_ok L (po_look L K o k) := by
  unfold po_look
  cases hq : K[o]? with
  | none => exact h
  | some q =>
    dsimp only
    cases hx : po_sw L q.1 q.2 k with
    | none => exact h
    | some x =>
      dsimp only
      split
      · exact h
      · rename_i hn
        obtain ⟨b1, b2, b3⟩ := h.1 q (List.mem_of_getElem? hq)
        refine ⟨fun y hy => ?_, ?_⟩
        · rcases List.mem_append.mp hy with w | w
          · exact h.1 y w
          · rw [List.mem_singleton.mp w]
            exact po_sw_ok b1 b2 b3 hk hx
        · rw [List.map_append, List.nodup_append]
          refine ⟨h.2, by simp, fun a ha b hb => ?_⟩
          simp at hb
          subst hb
          exact fun e => hn (e ▸ ha)
theorem po_in_ok {L : List pc_Ch} {o : Nat} : ∀ {m k : Nat} {K : List (List Nat × List Nat)}, po_ok L K → k + m + 1 ≤ L.length ∨ m = 0 → po_ok L (po_in L o m k K)
  | 0, k, K, h, _ => h
  | m + 1, k, K, h, hk => by
    have h1 : po_ok L (po_look L K o k) := po_look_ok h (by omega)
    exact po_in_ok (m := m) (k := k + 1) (K := po_look L K o k) h1 (by omega)
