/-! ===== what turning round does to the numbers ===== -/
def pn (L : List pc_Ch) : List Int := L.map (fun c => c.1)
theorem pn_app (L R : List pc_Ch) : pn (L ++ R) = pn L ++ pn R := List.map_append
theorem pn_cons (c : pc_Ch) (R : List pc_Ch) : pn (c :: R) = c.1 :: pn R := rfl
theorem pn_len (L : List pc_Ch) : (pn L).length = L.length := List.length_map ..
theorem pc_sw2_n {a b a1 b1 : pc_Ch} (h : pc_sw2 a b = some (b1, a1)) : b1.1 = b.1 ∧ a1.1 = a.1 := by
  unfold pc_sw2 at h
  cases ht : pc_tr a.2.1 a.2.2.1 b.2.1 b.2.2.1 with
  | none => rw [ht] at h; cases h
  | some q => rw [ht] at h; cases h; exact ⟨rfl, rfl⟩
theorem pc_sw_n {L L1 : List pc_Ch} {i : Nat} (h : pc_sw L i = some L1) : ∃ (P : List Int) (a b : Int) (R : List Int), pn L = P ++ a :: b :: R ∧ P.length = i ∧ pn L1 = P ++ b :: a :: R := by
  obtain ⟨P, a, b, R, a1, b1, rfl, e2, e3, rfl⟩ := pc_sw_form h
  obtain ⟨h1, h2⟩ := pc_sw2_n e3
  refine ⟨pn P, a.1, b.1, pn R, ?_, by rw [pn_len]; exact e2, ?_⟩
  · rw [pn_app, pn_cons, pn_cons]
  · rw [pn_app, pn_cons, pn_cons, h1, h2]
theorem pc_sw_perm {L L1 : List pc_Ch} {i : Nat} (h : pc_sw L i = some L1) : (pn L1).Perm (pn L) := by
  obtain ⟨P, a, b, R, h1, -, h3⟩ := pc_sw_n h
  rw [h1, h3]
  exact List.Perm.append_left P (List.Perm.swap a b R)
theorem pc_brF_perm : ∀ {n : Nat} {L L1 : List pc_Ch} {i : Nat}, pc_brF n L i = some L1 → (pn L1).Perm (pn L)
  | 0, L, L1, i, h => by cases h; exact List.Perm.refl _
  | n + 1, L, L1, i, h => by
    unfold pc_brF at h
    cases hs : pc_sw L i with
    | none => rw [hs] at h; cases h
    | some L2 =>
      rw [hs] at h
      exact (pc_brF_perm (L := L2) h).trans (pc_sw_perm hs)
theorem pc_brB_n : ∀ {n : Nat} {L L1 : List pc_Ch} {i : Nat} {X Y Z : List Int} {c : Int}, pc_brB n L i = some L1 → pn L = X ++ Y ++ c :: Z → Y.length = n → (X ++ Y).length = i → pn L1 = X ++ c :: Y ++ Z
  | 0, L, L1, i, X, Y, Z, c, h, h1, h2, h3 => by
    cases h
    rw [h1, List.eq_nil_of_length_eq_zero h2]
    simp
  | n + 1, L, L1, i, X, Y, Z, c, h, h1, h2, h3 => by
    unfold pc_brB at h
    cases hs : pc_sw L (i - 1) with
    | none => rw [hs] at h; cases h
    | some L2 =>
      rw [hs] at h
      obtain ⟨P, a, b, R, e1, e2, e3⟩ := pc_sw_n hs
      have hY : Y ≠ [] := by intro e; rw [e] at h2; cases h2
      have hYe := List.dropLast_concat_getLast hY
      generalize hd : Y.getLast hY = d at hYe
      generalize hD : Y.dropLast = D at hYe
      have hDl : D.length = n := by rw [← hD, List.length_dropLast, h2]; rfl
      rw [h1, ← hYe] at e1
      rw [List.length_append] at h3
      have e1' : (X ++ D) ++ d :: c :: Z = P ++ a :: b :: R := by rw [← e1]; simp
      obtain ⟨q1, q2⟩ := List.append_inj e1' (by rw [List.length_append]; omega)
      obtain ⟨q3, q4⟩ := List.cons.inj q2
      obtain ⟨q5, q6⟩ := List.cons.inj q4
      have := pc_brB_n (L := L2) (X := X) (Y := D) (Z := d :: Z) (c := c) h (by rw [e3, ← q1, ← q3, ← q5, ← q6]) hDl (by rw [List.length_append]; omega)
      rw [this, ← hYe]
      simp
theorem pc_brF_n : ∀ {n : Nat} {L L1 : List pc_Ch} {i : Nat} {X Y Z : List Int} {c : Int}, pc_brF n L i = some L1 → pn L = X ++ c :: Y ++ Z → Y.length = n → X.length = i → pn L1 = X ++ Y ++ c :: Z
  | 0, L, L1, i, X, Y, Z, c, h, h1, h2, h3 => by
    cases h
    rw [h1, List.eq_nil_of_length_eq_zero h2]
    simp
  | n + 1, L, L1, i, X, [], Z, c, h, h1, h2, h3 => by cases h2
  | n + 1, L, L1, i, X, d :: Y, Z, c, h, h1, h2, h3 => by
    unfold pc_brF at h
    cases hs : pc_sw L i with
    | none => rw [hs] at h; cases h
    | some L2 =>
      rw [hs] at h
      obtain ⟨P, a, b, R, e1, e2, e3⟩ := pc_sw_n hs
      rw [h1] at e1
      have e1' : X ++ c :: d :: (Y ++ Z) = P ++ a :: b :: R := by rw [← e1]; simp
      obtain ⟨q1, q2⟩ := List.append_inj e1' (by omega)
      obtain ⟨q3, q4⟩ := List.cons.inj q2
      obtain ⟨q5, q6⟩ := List.cons.inj q4
      have := pc_brF_n (L := L2) (X := X ++ [d]) (Y := Y) (Z := Z) (c := c) h (by rw [e3, ← q1, ← q3, ← q5, ← q6]; simp) (by simpa using h2) (by simp; omega)
      rw [this]
      simp
/-- the numbers of what one needs: those of a part of the row, in its order -/
theorem pc_gb_n : ∀ X : List pc_Ch, (pn (pc_gb X)).Sublist (pn X)
  | [] => List.Sublist.refl _
  | [c] => List.Sublist.refl _
  | c :: d :: X => by
    have ih := pc_gb_n (d :: X)
    rw [pc_gb_step (X := d :: X) (by simp)]
    cases hb : pc_brF (pc_gb (d :: X)).length (c :: pc_gb (d :: X)) 0 with
    | none => exact List.Sublist.cons_cons _ ih
    | some T =>
      have := pc_brF_n (X := []) (Y := pn (pc_gb (d :: X))) (Z := []) (c := c.1) hb (by simp [pn_cons]) (pn_len _) rfl
      dsimp only
      have e : pn (T.take (pc_gb (d :: X)).length) = pn (pc_gb (d :: X)) := by
        unfold pn at this ⊢
        rw [List.map_take, this]
        simp
      rw [e]
      exact List.Sublist.cons _ ih
theorem pc_gb_take {c : pc_Ch} {B T : List pc_Ch} (hb : pc_brF B.length (c :: B) 0 = some T) : pn (T.take B.length) = pn B := by
  have := pc_brF_n (X := []) (Y := pn B) (Z := []) (c := c.1) hb (by simp [pn_cons]) (pn_len _) rfl
  unfold pn at this ⊢
  rw [List.map_take, this]
  simp
/-! ===== to the front ===== -/
def pc_in (set n : Int) : Prop := px_and (px_shr set n) 1 = 1
theorem pc_fr_n {set : Int} : ∀ {n i : Nat} {L L1 : List pc_Ch} {f f1 : Nat} {F R W : List Int}, pc_fr set n i L f = some (L1, f1) → pn L = F ++ R ++ W → F.length = f → (F ++ R).length = i → W.length = n → (∀ x ∈ F, pc_in set x) → (∀ x ∈ R, ¬ pc_in set x) → ∃ F1 R1, pn L1 = F1 ++ R1 ∧ F1.length = f1 ∧ (∀ x ∈ F1, pc_in set x) ∧ (∀ x ∈ R1, ¬ pc_in set x) ∧ (pn L1).Perm (pn L)
  | 0, i, L, L1, f, f1, F, R, W, h, h1, h2, h3, h4, h5, h6 => by
    cases h
    refine ⟨F, R, ?_, h2, h5, h6, List.Perm.refl _⟩
    rw [h1, List.eq_nil_of_length_eq_zero h4, List.append_nil]
  | n + 1, i, L, L1, f, f1, F, R, [], h, h1, h2, h3, h4, h5, h6 => by cases h4
  | n + 1, i, L, L1, f, f1, F, R, w :: W, h, h1, h2, h3, h4, h5, h6 => by
    have hl : i < L.length := by rw [← pn_len, h1, List.length_append, h3]; simp
    have hc : L[i]? = some L[i] := List.getElem?_eq_getElem hl
    have hw : L[i].1 = w := by
      have : (pn L)[i]? = some L[i].1 := by unfold pn; rw [List.getElem?_map, hc]; rfl
      rw [h1, List.getElem?_append_right (by omega), h3, Nat.sub_self] at this
      exact (Option.some.inj this).symm
    rw [pc_fr_step hc, hw] at h
    split at h
    · rename_i hin
      cases hb : pc_brB (i - f) L i with
      | none => rw [hb] at h; cases h
      | some L2 =>
        rw [hb] at h
        have e2 := pc_brB_n (X := F) (Y := R) (Z := W) (c := w) hb h1 (by rw [List.length_append] at h3; omega) h3
        obtain ⟨F1, R1, a1, a2, a3, a4, a5⟩ := pc_fr_n (n := n) (F := F ++ [w]) (R := R) (W := W) h (by rw [e2]; simp) (by simp [h2]) (by simp at h3 ⊢; omega) (by simpa using h4) (fun x hx => by
          rcases List.mem_append.mp hx with q | q
          · exact h5 x q
          · rw [List.mem_singleton.mp q]; exact hin) h6
        refine ⟨F1, R1, a1, a2, a3, a4, a5.trans ?_⟩
        rw [e2, h1]
        have : (w :: R).Perm (R ++ [w]) := (List.perm_append_singleton w R).symm
        have h8 := List.Perm.append_right W (List.Perm.append_left F this)
        simpa using h8
    · rename_i hin
      obtain ⟨F1, R1, a1, a2, a3, a4, a5⟩ := pc_fr_n (n := n) (F := F) (R := R ++ [w]) (W := W) h (by rw [h1]; simp) h2 (by simp at h3 ⊢; omega) (by simpa using h4) h5 (fun x hx => by
          rcases List.mem_append.mp hx with q | q
          · exact h6 x q
          · rw [List.mem_singleton.mp q]; exact hin)
      exact ⟨F1, R1, a1, a2, a3, a4, a5⟩
theorem pc_fr_all {set : Int} {L L1 : List pc_Ch} {f1 : Nat} (h : pc_fr set L.length 0 L 0 = some (L1, f1)) : ∃ F1 R1, pn L1 = F1 ++ R1 ∧ F1.length = f1 ∧ (∀ x ∈ F1, pc_in set x) ∧ (∀ x ∈ R1, ¬ pc_in set x) ∧ (pn L1).Perm (pn L) :=
  pc_fr_n (F := []) (R := []) (W := pn L) h rfl rfl rfl (pn_len L) (fun x hx => by cases hx) (fun x hx => by cases hx)
theorem pc_fr_keep {set : Int} : ∀ {n i : Nat} {L L1 : List pc_Ch} {f f1 : Nat}, pc_fr set n i L f = some (L1, f1) → L1.length = L.length ∧ ∀ T T1, (∀ c ∈ L, pc_el c) → pc_dos T L = some T1 → pc_dos T L1 = some T1 ∧ ∀ c ∈ L1, pc_el c
  | 0, i, L, L1, f, f1, h => by cases h; exact ⟨rfl, fun T T1 h1 h2 => ⟨h2, h1⟩⟩
  | n + 1, i, L, L1, f, f1, h => by
    cases hc : L[i]? with
    | none =>
      unfold pc_fr at h
      rw [hc] at h
      cases h
    | some c =>
      rw [pc_fr_step hc] at h
      split at h
      · cases hb : pc_brB (i - f) L i with
        | none => rw [hb] at h; cases h
        | some L2 =>
          rw [hb] at h
          have k := pc_brB_keep hb
          have ih := pc_fr_keep (L := L2) h
          exact ⟨ih.1.trans k.1, fun T T1 h1 h2 => by
            obtain ⟨q1, q2⟩ := k.2.2 T T1 h1 h2
            exact ih.2 T T1 q2 q1⟩
      · exact pc_fr_keep h
