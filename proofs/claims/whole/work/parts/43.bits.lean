/-! ===== ints as sets of bits ===== -/
def pb (x : Int) (i : Nat) : Bool := (Int32.ofInt x).toBitVec.getLsbD i
theorem pb_ext {x y : Int} (hx : -2147483648 ≤ x ∧ x < 2147483648) (hy : -2147483648 ≤ y ∧ y < 2147483648) (h : ∀ i, i < 32 → pb x i = pb y i) : x = y := by
  have e : Int32.ofInt x = Int32.ofInt y := Int32.toBitVec_inj.mp (BitVec.eq_of_getLsbD_eq (fun i hi => h i hi))
  have := congrArg Int32.toInt e
  rwa [px_toInt hx.1 hx.2, px_toInt hy.1 hy.2] at this
theorem pb_and (x y : Int) (i : Nat) : pb (px_and x y) i = (pb x i && pb y i) := by
  unfold pb px_and
  rw [Int32.ofInt_toInt, Int32.toBitVec_and, BitVec.getLsbD_and]
theorem pb_or (x y : Int) (i : Nat) : pb (px_or x y) i = (pb x i || pb y i) := by
  unfold pb px_or
  rw [Int32.ofInt_toInt, Int32.toBitVec_or, BitVec.getLsbD_or]
theorem pb_xor (x y : Int) (i : Nat) : pb (px_xor x y) i = (pb x i ^^ pb y i) := by
  unfold pb px_xor
  rw [Int32.ofInt_toInt, Int32.toBitVec_xor, BitVec.getLsbD_xor]
theorem pb_sh : ∀ n : Nat, n < 32 → ((Int32.ofInt (n : Int) &&& 31).toBitVec.smod 32).toNat = n := by decide +kernel
theorem pb_shl (x : Int) {n i : Nat} (hn : n < 32) (hi : i < 32) : pb (px_shl x n) i = (decide (n ≤ i) && pb x (i - n)) := by
  unfold pb px_shl
  rw [Int32.ofInt_toInt, Int32.toBitVec_shiftLeft]
  show ((Int32.ofInt x).toBitVec <<< ((Int32.ofInt (n : Int) &&& 31).toBitVec.smod 32).toNat).getLsbD i = _
  rw [pb_sh n hn, BitVec.getLsbD_shiftLeft]
  rcases Nat.lt_or_ge i n with h | h
  · simp [h, Nat.not_le.mpr h]
  · simp [hi, h, Nat.not_lt.mpr h]
theorem pb_shr (x : Int) {n i : Nat} (hn : n < 32) (hi : i < 32) : pb (px_shr x n) i = if n + i < 32 then pb x (n + i) else pb x 31 := by
  unfold pb px_shr
  rw [Int32.ofInt_toInt, Int32.toBitVec_shiftRight]
  show ((Int32.ofInt x).toBitVec.sshiftRight ((Int32.ofInt (n : Int) &&& 31).toBitVec.smod 32).toNat).getLsbD i = _
  rw [pb_sh n hn, BitVec.getLsbD_sshiftRight, BitVec.msb_eq_getLsbD_last]
  simp [hi]
theorem pb_1 : ∀ i, i < 32 → pb 1 i = decide (i = 0) := by decide +kernel
theorem pb_0 : ∀ i, i < 32 → pb 0 i = false := by decide +kernel
theorem pb_m1 : ∀ i, i < 32 → pb (-1) i = true := by decide +kernel
theorem px_shl_r (x y : Int) : -2147483648 ≤ px_shl x y ∧ px_shl x y < 2147483648 := ⟨Int32.le_toInt _, Int32.toInt_lt _⟩
theorem px_shr_r (x y : Int) : -2147483648 ≤ px_shr x y ∧ px_shr x y < 2147483648 := ⟨Int32.le_toInt _, Int32.toInt_lt _⟩
theorem px_xor_r (x y : Int) : -2147483648 ≤ px_xor x y ∧ px_xor x y < 2147483648 := ⟨Int32.le_toInt _, Int32.toInt_lt _⟩
theorem pb_big {x : Int} {i : Nat} (h : 32 ≤ i) : pb x i = false := BitVec.getLsbD_of_ge _ _ h
theorem pc_in_iff {s : Int} {n : Nat} (hn : n < 32) : pc_in s n ↔ pb s n = true := by
  unfold pc_in
  constructor
  · intro h
    have h0 : pb (px_and (px_shr s n) 1) 0 = pb 1 0 := congrArg (fun z => pb z 0) h
    rw [pb_and, pb_shr s hn (by omega), pb_1 0 (by omega)] at h0
    rw [if_pos (by omega)] at h0
    simpa using h0
  · intro h
    refine pb_ext (px_and_r _ _) (by omega) (fun i hi => ?_)
    rw [pb_and, pb_1 i hi]
    by_cases e : i = 0
    · subst e
      rw [pb_shr s hn (by omega), if_pos (by omega)]
      simp [h]
    · simp [e]
theorem pc_set_bit : ∀ (L : List pc_Ch), (∀ c ∈ L, 0 ≤ c.1 ∧ c.1 < 24) → ∀ i : Nat, i < 32 → (pb (pc_set L) i = true ↔ (i : Int) ∈ pn L) := by
  have key : ∀ (L : List pc_Ch) (s : Int), (∀ c ∈ L, 0 ≤ c.1 ∧ c.1 < 24) → ∀ i : Nat, i < 32 → (pb (L.foldl (fun s c => px_or s (px_shl 1 c.1)) s) i = true ↔ pb s i = true ∨ (i : Int) ∈ pn L) := by
    intro L
    induction L with
    | nil => intro s _ i _; simp [pn]
    | cons c L ih =>
      intro s h i hi
      have hc := h c List.mem_cons_self
      rw [List.foldl_cons, ih _ (fun d hd => h d (List.mem_cons_of_mem _ hd)) i hi, pb_or, pn_cons, List.mem_cons]
      obtain ⟨n, hn⟩ : ∃ n : Nat, c.1 = n := ⟨c.1.toNat, by omega⟩
      rw [hn, pb_shl 1 (by omega) hi, pb_1 (i - n) (by omega), Bool.or_eq_true, Bool.and_eq_true, decide_eq_true_eq, decide_eq_true_eq]
      constructor
      · rintro ((q | q) | q)
        · exact .inl q
        · exact .inr (.inl (by omega))
        · exact .inr (.inr q)
      · rintro (q | q | q)
        · exact .inl (.inl q)
        · exact .inl (.inr (by omega))
        · exact .inr q
  intro L h i hi
  have := key L 0 h i hi
  rw [pb_0 i hi] at this
  unfold pc_set
  rw [this]
  simp
theorem pc_set_r (L : List pc_Ch) : -2147483648 ≤ pc_set L ∧ pc_set L < 2147483648 := by
  unfold pc_set
  have : ∀ (L : List pc_Ch) (s : Int), (-2147483648 ≤ s ∧ s < 2147483648) → -2147483648 ≤ L.foldl (fun s c => px_or s (px_shl 1 c.1)) s ∧ L.foldl (fun s c => px_or s (px_shl 1 c.1)) s < 2147483648 := by
    intro L
    induction L with
    | nil => intro s h; exact h
    | cons c L ih => intro s h; exact ih _ (px_or_r _ _)
  exact this L 0 (by omega)
/-- one is in both sets: it is in both rows -/
theorem pc_both {L R : List pc_Ch} (hL : ∀ c ∈ L, 0 ≤ c.1 ∧ c.1 < 24) (hR : ∀ c ∈ R, 0 ≤ c.1 ∧ c.1 < 24) {x : Int} (hx : 0 ≤ x ∧ x < 24) : pc_in (px_and (pc_set L) (pc_set R)) x ↔ x ∈ pn L ∧ x ∈ pn R := by
  obtain ⟨n, rfl⟩ : ∃ n : Nat, x = n := ⟨x.toNat, by omega⟩
  rw [pc_in_iff (by omega), pb_and, Bool.and_eq_true, pc_set_bit L hL n (by omega), pc_set_bit R hR n (by omega)]
theorem pn_mem_r {L : List pc_Ch} (hL : ∀ c ∈ L, 0 ≤ c.1 ∧ c.1 < 24) {x : Int} (h : x ∈ pn L) : 0 ≤ x ∧ x < 24 := by
  obtain ⟨c, hc, rfl⟩ := List.mem_map.mp h
  exact hL c hc
/-- as many to the front in both houses -/
theorem pc_fr_same {L R L1 R1 : List pc_Ch} {f g : Nat} (hL : ∀ c ∈ L, 0 ≤ c.1 ∧ c.1 < 24) (hR : ∀ c ∈ R, 0 ≤ c.1 ∧ c.1 < 24) (nL : (pn L).Nodup) (nR : (pn R).Nodup) (h1 : pc_fr (px_and (pc_set L) (pc_set R)) L.length 0 L 0 = some (L1, f)) (h2 : pc_fr (px_and (pc_set L) (pc_set R)) R.length 0 R 0 = some (R1, g)) : f = g := by
  obtain ⟨F1, W1, a1, a2, a3, a4, a5⟩ := pc_fr_all h1
  obtain ⟨F2, W2, b1, b2, b3, b4, b5⟩ := pc_fr_all h2
  have n1 : (F1 ++ W1).Nodup := a1 ▸ (a5.nodup_iff.mpr nL)
  have n2 : (F2 ++ W2).Nodup := b1 ▸ (b5.nodup_iff.mpr nR)
  have m1 : ∀ x, x ∈ F1 ∨ x ∈ W1 ↔ x ∈ pn L := fun x => by rw [← List.mem_append, ← a1]; exact a5.mem_iff
  have m2 : ∀ x, x ∈ F2 ∨ x ∈ W2 ↔ x ∈ pn R := fun x => by rw [← List.mem_append, ← b1]; exact b5.mem_iff
  have p : F1.Perm F2 := by
    refine (List.perm_ext_iff_of_nodup (List.nodup_append.mp n1).1 (List.nodup_append.mp n2).1).mpr (fun x => ⟨fun hx => ?_, fun hx => ?_⟩)
    · have q := (m1 x).mp (.inl hx)
      have q2 := (pc_both hL hR (pn_mem_r hL q)).mp (a3 x hx)
      rcases (m2 x).mpr q2.2 with r | r
      · exact r
      · exact absurd (a3 x hx) (b4 x r)
    · have q := (m2 x).mp (.inl hx)
      have q2 := (pc_both hL hR (pn_mem_r hR q)).mp (b3 x hx)
      rcases (m1 x).mpr q2.1 with r | r
      · exact r
      · exact absurd (b3 x hx) (a4 x r)
  have := p.length_eq
  omega
/-- one of the other alone stands behind the front, once -/
theorem pc_fr_find {L R R1 : List pc_Ch} {g : Nat} {x : Int} (hL : ∀ c ∈ L, 0 ≤ c.1 ∧ c.1 < 24) (hR : ∀ c ∈ R, 0 ≤ c.1 ∧ c.1 < 24) (nR : (pn R).Nodup) (h2 : pc_fr (px_and (pc_set L) (pc_set R)) R.length 0 R 0 = some (R1, g)) (hx : x ∈ pn R) (hn : x ∉ pn L) : ∃ a : Nat, g ≤ a ∧ a < R1.length ∧ pc_num R1 a = x ∧ (∀ j : Nat, j < R1.length → pc_num R1 j = x → j = a) ∧ pa_find R1 x = some a ∧ (pn R1).Nodup ∧ (∀ y ∈ pn (R1.drop g), y ∈ pn R ∧ y ∉ pn L) := by
  obtain ⟨F, W, b1, b2, b3, b4, b5⟩ := pc_fr_all h2
  have n2 : (pn R1).Nodup := b5.nodup_iff.mpr nR
  have mx : x ∈ pn R1 := b5.mem_iff.mpr hx
  have num : ∀ j : Nat, j < R1.length → (pn R1)[j]? = some (pc_num R1 j) := fun j hj => by
    unfold pn pc_num
    rw [List.getElem?_map, List.getElem?_eq_getElem hj]
    rfl
  have dr : pn (R1.drop g) = W := by
    unfold pn
    rw [List.map_drop]
    show (pn R1).drop g = W
    rw [b1, ← b2, List.drop_left]
  have mW : ∀ y ∈ W, y ∈ pn R ∧ y ∉ pn L := fun y hy => by
    have q : y ∈ pn R := b5.mem_iff.mp (by rw [b1]; exact List.mem_append_right _ hy)
    exact ⟨q, fun n => b4 y hy ((pc_both hL hR (pn_mem_r hR q)).mpr ⟨n, q⟩)⟩
  have xW : x ∈ W := by
    rw [b1] at mx
    rcases List.mem_append.mp mx with r | r
    · exact absurd ((pc_both hL hR (pn_mem_r hR hx)).mp (b3 x r)).1 hn
    · exact r
  obtain ⟨j, hj, ej⟩ := List.getElem_of_mem xW
  have hl : R1.length = g + W.length := by rw [← pn_len, b1, List.length_append, b2]
  have ea : pc_num R1 (g + j) = x := by
    have := num (g + j) (by omega)
    rw [b1, List.getElem?_append_right (by omega), b2, show g + j - g = j by omega, List.getElem?_eq_getElem hj, ej] at this
    exact (Option.some.inj this).symm
  have un : ∀ i : Nat, i < R1.length → pc_num R1 i = x → i = g + j := fun i hi e => by
    have h3 := num i hi
    have h4 := num (g + j) (by omega)
    rw [e] at h3
    rw [ea] at h4
    exact (List.getElem?_inj (by rw [pn_len]; exact hi) n2).mp (h3.trans h4.symm)
  exact ⟨g + j, by omega, by omega, ea, un, pa_find_some (by omega) ea n2, n2, by rw [dr]; exact mW⟩
/-- the set that the reference gathers is the set of the needs -/
theorem pm_ns_eq : ∀ (X : List pc_Ch), (∀ c ∈ X, 0 ≤ c.1 ∧ c.1 < 24) → pm_ns X = pc_set ((pc_gb X).dropLast) := by
  have r0 : ∀ X : List pc_Ch, -2147483648 ≤ pm_ns X ∧ pm_ns X < 2147483648 := by
    intro X
    induction X with
    | nil => show -2147483648 ≤ (0 : Int) ∧ _; exact ⟨by omega, by show (0 : Int) < _; omega⟩
    | cons c X ih =>
      cases X with
      | nil => show -2147483648 ≤ (0 : Int) ∧ _; exact ⟨by omega, by show (0 : Int) < _; omega⟩
      | cons d X =>
        rw [pm_ns_step (X := d :: X) (by simp)]
        split
        · exact ih
        · exact px_or_r _ _
  have key : ∀ (X : List pc_Ch), (∀ c ∈ X, 0 ≤ c.1 ∧ c.1 < 24) → ∀ i : Nat, i < 32 → (pb (pm_ns X) i = true ↔ (i : Int) ∈ (pn (pc_gb X)).dropLast) := by
    intro X
    induction X with
    | nil => intro _ i hi; rw [show pm_ns [] = 0 from rfl, pb_0 i hi]; simp [pn, pc_gb]
    | cons c X ih =>
      cases X with
      | nil => intro _ i hi; rw [show pm_ns [c] = 0 from rfl, pb_0 i hi]; simp [pn, pc_gb]
      | cons d X =>
        intro h i hi
        have ih' := ih (fun e he => h e (List.mem_cons_of_mem _ he)) i hi
        have hc := h c List.mem_cons_self
        rw [pm_ns_step (X := d :: X) (by simp), pc_gb_step (X := d :: X) (by simp)]
        have hne : 0 < (pc_gb (d :: X)).length := pc_gb_ne (by simp)
        cases hb : pc_brF (pc_gb (d :: X)).length (c :: pc_gb (d :: X)) 0 with
        | some T =>
          dsimp only
          rw [pc_gb_take hb]
          exact ih'
        | none =>
          dsimp only
          obtain ⟨n, hn⟩ : ∃ n : Nat, c.1 = n := ⟨c.1.toNat, by omega⟩
          have hpn : pn (pc_gb (d :: X)) ≠ [] := by
            intro e
            have := congrArg List.length e
            rw [pn_len, List.length_nil] at this
            omega
          rw [pb_or, pn_cons, List.dropLast_cons_of_ne_nil hpn, List.mem_cons, hn, pb_shl 1 (by omega) hi, pb_1 (i - n) (by omega), Bool.or_eq_true, Bool.and_eq_true, decide_eq_true_eq, decide_eq_true_eq, ih']
          constructor
          · rintro (q | q)
            · exact .inr q
            · exact .inl (by omega)
          · rintro (q | q)
            · exact .inr (by omega)
            · exact .inl q
  intro X h
  refine pb_ext (r0 X) (pc_set_r _) (fun i hi => ?_)
  have h1 := key X h i hi
  have hs : ∀ c ∈ (pc_gb X).dropLast, 0 ≤ c.1 ∧ c.1 < 24 := fun c hc => by
    have : c.1 ∈ pn (pc_gb X) := List.mem_map.mpr ⟨c, List.dropLast_subset _ hc, rfl⟩
    exact pn_mem_r h ((pc_gb_n X).subset this)
  have h2 := pc_set_bit _ hs i hi
  have e : pn ((pc_gb X).dropLast) = (pn (pc_gb X)).dropLast := by unfold pn; rw [List.map_dropLast]
  rw [e] at h2
  exact Bool.eq_iff_iff.mpr (h1.trans h2.symm)
