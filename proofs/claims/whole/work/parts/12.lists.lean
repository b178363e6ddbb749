/-! ===== changes, texts, histories: what they are, and what turning round keeps ===== -/
abbrev pc_Ch : Type := Int × Int × Int × Int
def pc_sw2 (a b : pc_Ch) : Option (pc_Ch × pc_Ch) := (pc_tr a.2.1 a.2.2.1 b.2.1 b.2.2.1).map (fun q => ((b.1, b.2.1, q.1, b.2.2.2), (a.1, a.2.1, q.2, a.2.2.2)))
def pc_sw (L : List pc_Ch) (i : Nat) : Option (List pc_Ch) := match L[i]?, L[i + 1]? with
  | some a, some b => (pc_sw2 a b).map (fun q => (L.set i q.1).set (i + 1) q.2)
  | _, _ => none
def pc_do (T : List Int) (c : pc_Ch) : Option (List Int) :=
  if c.2.1 = 0 then (if 0 ≤ c.2.2.1 ∧ c.2.2.1 ≤ T.length then some (T.insertIdx c.2.2.1.toNat c.2.2.2) else none)
  else (if 0 ≤ c.2.2.1 ∧ T[c.2.2.1.toNat]? = some c.2.2.2 then some (T.eraseIdx c.2.2.1.toNat) else none)
def pc_dos : List Int → List pc_Ch → Option (List Int)
  | T, [] => some T
  | T, c :: r => (pc_do T c).bind (fun T1 => pc_dos T1 r)
def pc_el (c : pc_Ch) : Prop := (0 ≤ c.1 ∧ c.1 < 24) ∧ (c.2.1 = 0 ∨ c.2.1 = 1) ∧ (97 ≤ c.2.2.2 ∧ c.2.2.2 ≤ 122)
def pc_V (X : List pc_Ch) : Prop := ∃ T T1 : List Int, T.length + X.length ≤ 28 ∧ pc_dos T X = some T1 ∧ ∀ c ∈ X, pc_el c
theorem pc_dos_app (T : List Int) (P R : List pc_Ch) : pc_dos T (P ++ R) = (pc_dos T P).bind (fun T1 => pc_dos T1 R) := by
  induction P generalizing T with
  | nil => rfl
  | cons c P ih =>
    show (pc_do T c).bind _ = ((pc_do T c).bind _).bind _
    cases pc_do T c with
    | none => rfl
    | some T1 => exact ih T1
theorem pc_do_len {T T1 : List Int} {c : pc_Ch} (h : pc_do T c = some T1) : T1.length ≤ T.length + 1 ∧ 0 ≤ c.2.2.1 ∧ c.2.2.1 ≤ T.length := by
  unfold pc_do at h
  split at h
  · split at h
    · rename_i h1
      cases h
      refine ⟨?_, h1⟩
      rw [List.length_insertIdx]
      split <;> omega
    · cases h
  · split at h
    · rename_i h1
      cases h
      have h2 := (List.getElem?_eq_some_iff.mp h1.2).1
      refine ⟨?_, h1.1, by omega⟩
      have := List.length_eraseIdx_le T c.2.2.1.toNat
      omega
    · cases h
theorem pc_dos_len {T T1 : List Int} {L : List pc_Ch} (h : pc_dos T L = some T1) : T1.length ≤ T.length + L.length := by
  induction L generalizing T with
  | nil => cases h; simp
  | cons c r ih =>
    unfold pc_dos at h
    cases h1 : pc_do T c with
    | none => rw [h1] at h; cases h
    | some T2 =>
      rw [h1] at h
      have h2 := ih h
      have h3 := (pc_do_len h1).1
      simp only [List.length_cons]
      omega
theorem pc_dos_place {T T1 : List Int} {L : List pc_Ch} (h : pc_dos T L = some T1) : ∀ c ∈ L, 0 ≤ c.2.2.1 ∧ c.2.2.1 + 1 ≤ T.length + L.length := by
  induction L generalizing T with
  | nil => intro c hc; cases hc
  | cons a r ih =>
    unfold pc_dos at h
    cases h1 : pc_do T a with
    | none => rw [h1] at h; cases h
    | some T2 =>
      rw [h1] at h
      have h3 := pc_do_len h1
      intro c hc
      simp only [List.length_cons]
      rcases List.mem_cons.mp hc with rfl | hc
      · omega
      · have := ih h c hc
        omega
theorem pc_V.place {X : List pc_Ch} (h : pc_V X) {c : pc_Ch} (hc : c ∈ X) : 0 ≤ c.2.2.1 ∧ c.2.2.1 ≤ 27 := by
  obtain ⟨T, T1, h1, h2, -⟩ := h
  have := pc_dos_place h2 c hc
  omega
theorem pc_V.el {X : List pc_Ch} (h : pc_V X) {c : pc_Ch} (hc : c ∈ X) : pc_el c := by
  obtain ⟨T, T1, h1, h2, h3⟩ := h
  exact h3 c hc
theorem pc_V.mid {P X R : List pc_Ch} (h : pc_V (P ++ X ++ R)) : pc_V X := by
  obtain ⟨T, T1, h1, h2, h3⟩ := h
  rw [pc_dos_app, pc_dos_app] at h2
  cases h4 : pc_dos T P with
  | none => rw [h4] at h2; cases h2
  | some T2 =>
    rw [h4] at h2
    have h6 := pc_dos_len h4
    simp only [Option.bind_some] at h2
    cases h5 : pc_dos T2 X with
    | none => rw [h5] at h2; cases h2
    | some T3 =>
      refine ⟨T2, T3, ?_, h5, fun c hc => h3 c ?_⟩
      · simp only [List.length_append] at h1
        omega
      · simp [hc]
/-- two that are turned round: the text behind both is the same -/
theorem pc_do_sw {a b a1 b1 : pc_Ch} {T T2 : List Int} (ha : a.2.1 = 0 ∨ a.2.1 = 1) (hb : b.2.1 = 0 ∨ b.2.1 = 1) (hs : pc_sw2 a b = some (b1, a1)) (h : (pc_do T a).bind (fun T1 => pc_do T1 b) = some T2) : (pc_do T b1).bind (fun T1 => pc_do T1 a1) = some T2 := by
  obtain ⟨an, as, ap, al⟩ := a
  obtain ⟨bn, bs, bp, bl⟩ := b
  simp only at ha hb
  unfold pc_sw2 at hs
  simp only [Option.map_eq_some_iff, Prod.mk.injEq] at hs
  obtain ⟨⟨k, m⟩, h1, rfl, rfl⟩ := hs
  cases h2 : pc_do T (an, as, ap, al) with
  | none => rw [h2] at h; cases h
  | some T1 =>
    rw [h2] at h
    simp only [Option.bind_some] at h
    unfold pc_do at h2 h ⊢
    unfold pc_tr at h1
    rcases ha with rfl | rfl <;> rcases hb with rfl | rfl
    · simp only [if_true, ite_true] at h1 h2 h ⊢
      split at h2
      · rename_i g1
        cases h2
        split at h
        · rename_i g2
          cases h
          rw [List.length_insertIdx, if_pos (by omega)] at g2
          split at h1 <;> cases h1
          · rw [if_pos (by omega)]
            simp only [Option.bind_some]
            rw [if_pos (by rw [List.length_insertIdx]; split <;> omega)]
            congr 1
            apply List.ext_getElem?
            intro n
            simp only [List.getElem?_insertIdx, List.length_insertIdx]
            repeat' split
            all_goals first | rfl | omega | (congr 1; omega) | (exfalso; omega)
          · rw [if_pos (by omega)]
            simp only [Option.bind_some]
            rw [if_pos (by rw [List.length_insertIdx]; split <;> omega)]
            congr 1
            apply List.ext_getElem?
            intro n
            simp only [List.getElem?_insertIdx, List.length_insertIdx]
            repeat' split
            all_goals first | rfl | omega | (congr 1; omega) | (exfalso; omega)
        · cases h
      · cases h2
    · simp only [if_true, ite_true, Int.reduceEq, if_false, ite_false] at h1 h2 h ⊢
      split at h2
      · rename_i g1
        cases h2
        split at h
        · rename_i g2
          cases h
          obtain ⟨g2, g3⟩ := g2
          rw [List.getElem?_insertIdx] at g3
          split at h1
          · cases h1
            rw [if_pos (by omega)] at g3
            have g4 := (List.getElem?_eq_some_iff.mp g3).1
            rw [if_pos ⟨g2, g3⟩]
            simp only [Option.bind_some]
            rw [if_pos (by rw [List.length_eraseIdx_of_lt g4]; omega)]
            congr 1
            apply List.ext_getElem?
            intro n
            simp only [List.getElem?_insertIdx, List.getElem?_eraseIdx, List.length_eraseIdx_of_lt g4]
            repeat' split
            all_goals first | rfl | omega | (congr 1; omega) | (exfalso; omega)
          · split at h1
            · cases h1
              rw [if_neg (by omega), if_neg (by omega)] at g3
              have g4 := (List.getElem?_eq_some_iff.mp g3).1
              have e1 : (bp - 1).toNat = bp.toNat - 1 := by omega
              rw [if_pos ⟨by omega, by rw [e1]; exact g3⟩]
              simp only [Option.bind_some]
              rw [if_pos (by rw [List.length_eraseIdx_of_lt (by omega)]; omega)]
              congr 1
              apply List.ext_getElem?
              intro n
              have e2 := List.length_eraseIdx_of_lt (l := T) (i := (bp - 1).toNat) (by omega)
              simp only [List.getElem?_insertIdx, List.getElem?_eraseIdx, e2]
              repeat' split
              all_goals first | rfl | omega | (congr 1; omega) | (exfalso; omega)
            · cases h1
        · cases h
      · cases h2
    · simp only [if_true, ite_true, Int.reduceEq, if_false, ite_false] at h1 h2 h ⊢
      split at h2
      · rename_i g1
        cases h2
        obtain ⟨g0, g1⟩ := g1
        have g4 := (List.getElem?_eq_some_iff.mp g1).1
        split at h
        · rename_i g2
          cases h
          rw [List.length_eraseIdx_of_lt g4] at g2
          split at h1
          · cases h1
            rw [if_pos (by omega)]
            simp only [Option.bind_some]
            rw [if_pos ⟨by omega, by
              rw [List.getElem?_insertIdx, if_neg (by omega), if_neg (by omega), show (ap + 1).toNat - 1 = ap.toNat by omega]; exact g1⟩]
            congr 1
            apply List.ext_getElem?
            intro n
            simp only [List.getElem?_insertIdx, List.getElem?_eraseIdx, List.length_eraseIdx_of_lt g4]
            repeat' split
            all_goals first | rfl | omega | (congr 1; omega) | (exfalso; omega)
          · split at h1
            · cases h1
              rw [if_pos (by omega)]
              simp only [Option.bind_some]
              rw [if_pos ⟨by omega, by
                rw [List.getElem?_insertIdx, if_pos (by omega)]; exact g1⟩]
              congr 1
              apply List.ext_getElem?
              intro n
              simp only [List.getElem?_insertIdx, List.getElem?_eraseIdx, List.length_eraseIdx_of_lt g4]
              repeat' split
              all_goals first | rfl | omega | (congr 1; omega) | (exfalso; omega)
            · cases h1
        · cases h
      · cases h2
    · simp only [Int.reduceEq, if_false, ite_false] at h1 h2 h ⊢
      split at h2
      · rename_i g1
        cases h2
        obtain ⟨g0, g1⟩ := g1
        have g4 := (List.getElem?_eq_some_iff.mp g1).1
        split at h
        · rename_i g2
          cases h
          obtain ⟨g2, g3⟩ := g2
          rw [List.getElem?_eraseIdx] at g3
          split at h1
          · cases h1
            rw [if_pos (by omega)] at g3
            rw [if_pos ⟨g2, g3⟩]
            simp only [Option.bind_some]
            rw [if_pos ⟨by omega, by
              rw [List.getElem?_eraseIdx, if_neg (by omega), show (ap - 1).toNat + 1 = ap.toNat by omega]; exact g1⟩]
            congr 1
            apply List.ext_getElem?
            intro n
            simp only [List.getElem?_eraseIdx]
            repeat' split
            all_goals first | rfl | omega | (congr 1; omega) | (exfalso; omega)
          · cases h1
            rw [if_neg (by omega)] at g3
            rw [if_pos ⟨by omega, by rw [show (bp + 1).toNat = bp.toNat + 1 by omega]; exact g3⟩]
            simp only [Option.bind_some]
            rw [if_pos ⟨by omega, by rw [List.getElem?_eraseIdx, if_pos (by omega)]; exact g1⟩]
            congr 1
            apply List.ext_getElem?
            intro n
            simp only [List.getElem?_eraseIdx]
            repeat' split
            all_goals first | rfl | omega | (congr 1; omega) | (exfalso; omega)
        · cases h
      · cases h2
theorem pc_sw_form {L L1 : List pc_Ch} {i : Nat} (h : pc_sw L i = some L1) : ∃ P a b R a1 b1, L = P ++ a :: b :: R ∧ P.length = i ∧ pc_sw2 a b = some (b1, a1) ∧ L1 = P ++ b1 :: a1 :: R := by
  unfold pc_sw at h
  split at h
  · rename_i a b ha hb
    simp only [Option.map_eq_some_iff] at h
    obtain ⟨⟨b1, a1⟩, h1, rfl⟩ := h
    have hi := (List.getElem?_eq_some_iff.mp ha).1
    have hi1 := (List.getElem?_eq_some_iff.mp hb).1
    have e1 : L = L.take i ++ a :: b :: L.drop (i + 2) := by
      apply List.ext_getElem?
      intro n
      rw [List.getElem?_append]
      simp only [List.length_take]
      rw [Nat.min_eq_left (by omega)]
      by_cases c1 : n < i
      · rw [if_pos c1, List.getElem?_take, if_pos c1]
      · rw [if_neg c1]
        by_cases c2 : n = i
        · subst c2; simp [ha]
        · by_cases c3 : n = i + 1
          · subst c3
            rw [show i + 1 - i = 1 by omega, hb]
            rfl
          · obtain ⟨k, rfl⟩ : ∃ k, n = i + 2 + k := ⟨n - (i + 2), by omega⟩
            rw [show i + 2 + k - i = k + 1 + 1 by omega, List.getElem?_cons_succ, List.getElem?_cons_succ, List.getElem?_drop]
    have hl : (L.take i).length = i := by rw [List.length_take]; omega
    refine ⟨L.take i, a, b, L.drop (i + 2), a1, b1, e1, hl, h1, ?_⟩
    apply List.ext_getElem?
    intro n
    rw [List.getElem?_append, hl, List.getElem?_set, List.getElem?_set]
    simp only [List.length_set]
    by_cases c1 : n < i
    · rw [if_neg (by omega), if_neg (by omega), if_pos c1, List.getElem?_take, if_pos c1]
    · rw [if_neg c1]
      by_cases c2 : n = i
      · subst c2; rw [if_neg (by omega), if_pos rfl, if_pos hi]; simp
      · by_cases c3 : n = i + 1
        · subst c3
          rw [if_pos rfl, if_pos hi1, show i + 1 - i = 1 by omega]
          rfl
        · obtain ⟨k, rfl⟩ : ∃ k, n = i + 2 + k := ⟨n - (i + 2), by omega⟩
          rw [if_neg (by omega), if_neg (by omega), show i + 2 + k - i = k + 1 + 1 by omega, List.getElem?_cons_succ, List.getElem?_cons_succ, List.getElem?_drop]
  · cases h
theorem pc_sw_app {P R : List pc_Ch} {a b : pc_Ch} : pc_sw (P ++ a :: b :: R) P.length = (pc_sw2 a b).map (fun q => P ++ q.1 :: q.2 :: R) := by
  unfold pc_sw
  have h1 : (P ++ a :: b :: R)[P.length]? = some a := by simp
  have h2 : (P ++ a :: b :: R)[P.length + 1]? = some b := by simp
  rw [h1, h2]
  simp only
  cases pc_sw2 a b with
  | none => rfl
  | some q => simp
theorem pc_sw2_el {a b a1 b1 : pc_Ch} (h : pc_sw2 a b = some (b1, a1)) (ha : pc_el a) (hb : pc_el b) : pc_el a1 ∧ pc_el b1 := by
  unfold pc_sw2 at h
  simp only [Option.map_eq_some_iff, Prod.mk.injEq] at h
  obtain ⟨⟨k, m⟩, -, rfl, rfl⟩ := h
  exact ⟨ha, hb⟩
theorem pc_sw_dos {L L1 : List pc_Ch} {i : Nat} {T T1 : List Int} (h : pc_sw L i = some L1) (he : ∀ c ∈ L, pc_el c) (hd : pc_dos T L = some T1) : pc_dos T L1 = some T1 := by
  obtain ⟨P, a, b, R, a1, b1, rfl, hP, h1, rfl⟩ := pc_sw_form h
  rw [pc_dos_app] at hd ⊢
  cases h2 : pc_dos T P with
  | none => rw [h2] at hd; cases hd
  | some T2 =>
    rw [h2] at hd
    simp only [Option.bind_some] at hd ⊢
    have ha := he a (by simp)
    have hb := he b (by simp)
    have e : ∀ (x y : pc_Ch), pc_dos T2 (x :: y :: R) = ((pc_do T2 x).bind (fun T1 => pc_do T1 y)).bind (fun T3 => pc_dos T3 R) := by
      intro x y
      show (pc_do T2 x).bind (fun T1 => (pc_do T1 y).bind (fun T3 => pc_dos T3 R)) = _
      cases pc_do T2 x <;> rfl
    rw [e] at hd ⊢
    cases h3 : (pc_do T2 a).bind (fun T1 => pc_do T1 b) with
    | none => rw [h3] at hd; cases hd
    | some T3 =>
      rw [h3] at hd
      rw [pc_do_sw ha.2.1 hb.2.1 h1 h3]
      exact hd
theorem pc_sw_len {L L1 : List pc_Ch} {i : Nat} (h : pc_sw L i = some L1) : L1.length = L.length := by
  obtain ⟨P, a, b, R, a1, b1, rfl, hP, h1, rfl⟩ := pc_sw_form h
  simp
theorem pc_sw_V {L L1 : List pc_Ch} {i : Nat} (h : pc_sw L i = some L1) (hv : pc_V L) : pc_V L1 := by
  obtain ⟨T, T1, h1, h2, h3⟩ := hv
  refine ⟨T, T1, by rw [pc_sw_len h]; exact h1, pc_sw_dos h h3 h2, ?_⟩
  obtain ⟨P, a, b, R, a1, b1, rfl, hP, g1, rfl⟩ := pc_sw_form h
  obtain ⟨e1, e2⟩ := pc_sw2_el g1 (h3 a (by simp)) (h3 b (by simp))
  intro c hc
  simp only [List.mem_append, List.mem_cons] at hc
  rcases hc with hc | rfl | rfl | hc
  · exact h3 c (by simp [hc])
  · exact e2
  · exact e1
  · exact h3 c (by simp [hc])
/-- so many steps towards the end, from a place; towards the front -/
def pc_brF : Nat → List pc_Ch → Nat → Option (List pc_Ch)
  | 0, L, _ => some L
  | n + 1, L, i => (pc_sw L i).bind (fun L1 => pc_brF n L1 (i + 1))
def pc_brB : Nat → List pc_Ch → Nat → Option (List pc_Ch)
  | 0, L, _ => some L
  | n + 1, L, i => (pc_sw L (i - 1)).bind (fun L1 => pc_brB n L1 (i - 1))
theorem pc_brF_snoc (n : Nat) (L : List pc_Ch) (i : Nat) : pc_brF (n + 1) L i = (pc_brF n L i).bind (fun L1 => pc_sw L1 (i + n)) := by
  induction n generalizing L i with
  | zero =>
    show (pc_sw L i).bind (fun L1 => some L1) = pc_sw L i
    cases pc_sw L i <;> rfl
  | succ n ih =>
    show (pc_sw L i).bind (fun L1 => pc_brF (n + 1) L1 (i + 1)) = ((pc_sw L i).bind (fun L1 => pc_brF n L1 (i + 1))).bind _
    cases pc_sw L i with
    | none => rfl
    | some L1 =>
      simp only [Option.bind_some]
      rw [ih, show i + 1 + n = i + (n + 1) by omega]
theorem pc_brB_snoc (n : Nat) (L : List pc_Ch) (i : Nat) : pc_brB (n + 1) L i = (pc_brB n L i).bind (fun L1 => pc_sw L1 (i - n - 1)) := by
  induction n generalizing L i with
  | zero =>
    show (pc_sw L (i - 1)).bind (fun L1 => some L1) = pc_sw L (i - 1)
    cases pc_sw L (i - 1) <;> rfl
  | succ n ih =>
    show (pc_sw L (i - 1)).bind (fun L1 => pc_brB (n + 1) L1 (i - 1)) = ((pc_sw L (i - 1)).bind (fun L1 => pc_brB n L1 (i - 1))).bind _
    cases pc_sw L (i - 1) with
    | none => rfl
    | some L1 =>
      simp only [Option.bind_some]
      rw [ih, show i - 1 - n - 1 = i - (n + 1) - 1 by omega]
theorem pc_brF_keep {n : Nat} {L L1 : List pc_Ch} {i : Nat} (h : pc_brF n L i = some L1) : L1.length = L.length ∧ (pc_V L → pc_V L1) ∧ ∀ T T1, (∀ c ∈ L, pc_el c) → pc_dos T L = some T1 → pc_dos T L1 = some T1 ∧ ∀ c ∈ L1, pc_el c := by
  induction n generalizing L i with
  | zero => cases h; exact ⟨rfl, id, fun T T1 a b => ⟨b, a⟩⟩
  | succ n ih =>
    unfold pc_brF at h
    cases h1 : pc_sw L i with
    | none => rw [h1] at h; cases h
    | some L2 =>
      rw [h1] at h
      obtain ⟨g1, g2, g3⟩ := ih h
      refine ⟨by rw [g1, pc_sw_len h1], fun hv => g2 (pc_sw_V h1 hv), fun T T1 a b => g3 T T1 ?_ (pc_sw_dos h1 a b)⟩
      obtain ⟨P, x, y, R, x1, y1, rfl, hP, q1, rfl⟩ := pc_sw_form h1
      obtain ⟨e1, e2⟩ := pc_sw2_el q1 (a x (by simp)) (a y (by simp))
      intro c hc
      simp only [List.mem_append, List.mem_cons] at hc
      rcases hc with hc | rfl | rfl | hc
      · exact a c (by simp [hc])
      · exact e2
      · exact e1
      · exact a c (by simp [hc])
theorem pc_brB_keep {n : Nat} {L L1 : List pc_Ch} {i : Nat} (h : pc_brB n L i = some L1) : L1.length = L.length ∧ (pc_V L → pc_V L1) ∧ ∀ T T1, (∀ c ∈ L, pc_el c) → pc_dos T L = some T1 → pc_dos T L1 = some T1 ∧ ∀ c ∈ L1, pc_el c := by
  induction n generalizing L i with
  | zero => cases h; exact ⟨rfl, id, fun T T1 a b => ⟨b, a⟩⟩
  | succ n ih =>
    unfold pc_brB at h
    cases h1 : pc_sw L (i - 1) with
    | none => rw [h1] at h; cases h
    | some L2 =>
      rw [h1] at h
      obtain ⟨g1, g2, g3⟩ := ih h
      refine ⟨by rw [g1, pc_sw_len h1], fun hv => g2 (pc_sw_V h1 hv), fun T T1 a b => g3 T T1 ?_ (pc_sw_dos h1 a b)⟩
      obtain ⟨P, x, y, R, x1, y1, rfl, hP, q1, rfl⟩ := pc_sw_form h1
      obtain ⟨e1, e2⟩ := pc_sw2_el q1 (a x (by simp)) (a y (by simp))
      intro c hc
      simp only [List.mem_append, List.mem_cons] at hc
      rcases hc with hc | rfl | rfl | hc
      · exact a c (by simp [hc])
      · exact e2
      · exact e1
      · exact a c (by simp [hc])
