/-! ===== the state that class and reference both bear ===== -/
def pa_A : Type := List Int × Int × pc_HS × List pc_HS × (Nat → Option pc_HS) × (Nat → Option (pc_Ch ⊕ List Int))
def pa_mk (b : List Int) (n : Int) (w : pc_HS) (p : List pc_HS) (i : Nat → Option pc_HS) (s : Nat → Option (pc_Ch ⊕ List Int)) : pa_A := (b, n, w, p, i, s)
def pa_A.beg : pa_A → List Int := fun q => q.1
def pa_A.num : pa_A → Int := fun q => q.2.1
def pa_A.now : pa_A → pc_HS := fun q => q.2.2.1
def pa_A.past : pa_A → List pc_HS := fun q => q.2.2.2.1
def pa_A.im : pa_A → Nat → Option pc_HS := fun q => q.2.2.2.2.1
def pa_A.sh : pa_A → Nat → Option (pc_Ch ⊕ List Int) := fun q => q.2.2.2.2.2
def pa_L (A : pa_A) (h : Nat) : List pc_Ch := (pc_g A.now h).1
def pa_T (A : pa_A) (h : Nat) : List Int := (pc_dos A.beg (pa_L A h)).getD []
def pa_ok (B : List Int) (n : Int) (L : List pc_Ch) : Prop := L.length ≤ 16 ∧ (∃ T, pc_dos B L = some T) ∧ (∀ c ∈ L, pc_el c ∧ c.1 < n) ∧ (L.map (fun c => c.1)).Nodup
def pa_okS (B : List Int) (n : Int) (s : pc_HS) : Prop := pa_ok B n s.1.1 ∧ pa_ok B n s.2.1
def pa_I (A : pa_A) : Prop := (A.beg.length ≤ 12 ∧ (∀ x ∈ A.beg, 97 ≤ x ∧ x ≤ 122)) ∧ (0 ≤ A.num ∧ A.num ≤ 24) ∧ pa_okS A.beg A.num A.now ∧ ((∀ s ∈ A.past, pa_okS A.beg A.num s) ∧ A.past.length ≤ 8) ∧ (∀ i s, A.im i = some s → pa_okS A.beg A.num s) ∧
  (∀ i c, A.sh i = some (.inl c) → pc_el c ∧ 0 ≤ c.2.2.1 ∧ c.2.2.1 ≤ 27) ∧ (∀ i T, A.sh i = some (.inr T) → T.length ≤ 28 ∧ ∀ x ∈ T, 97 ≤ x ∧ x ≤ 122)
theorem pa_I.b1 {A : pa_A} (h : pa_I A) : A.beg.length ≤ 12 := h.1.1
theorem pa_I.b2 {A : pa_A} (h : pa_I A) : ∀ x ∈ A.beg, 97 ≤ x ∧ x ≤ 122 := h.1.2
theorem pa_I.n {A : pa_A} (h : pa_I A) : 0 ≤ A.num ∧ A.num ≤ 24 := h.2.1
theorem pa_I.now {A : pa_A} (h : pa_I A) : pa_okS A.beg A.num A.now := h.2.2.1
theorem pa_I.past {A : pa_A} (h : pa_I A) : ∀ s ∈ A.past, pa_okS A.beg A.num s := h.2.2.2.1.1
theorem pa_I.pl {A : pa_A} (h : pa_I A) : A.past.length ≤ 8 := h.2.2.2.1.2
theorem pa_I.im {A : pa_A} (h : pa_I A) : ∀ i s, A.im i = some s → pa_okS A.beg A.num s := h.2.2.2.2.1
theorem pa_I.sh1 {A : pa_A} (h : pa_I A) : ∀ i c, A.sh i = some (.inl c) → pc_el c ∧ 0 ≤ c.2.2.1 ∧ c.2.2.1 ≤ 27 := h.2.2.2.2.2.1
theorem pa_I.sh2 {A : pa_A} (h : pa_I A) : ∀ i T, A.sh i = some (.inr T) → T.length ≤ 28 ∧ ∀ x ∈ T, 97 ≤ x ∧ x ≤ 122 := h.2.2.2.2.2.2
theorem pa_okS.at {B : List Int} {n : Int} {s : pc_HS} (h : pa_okS B n s) (j : Nat) : pa_ok B n (pc_g s j).1 := by
  unfold pc_g
  split
  · exact h.1
  · exact h.2
theorem pa_okS.put {B : List Int} {n : Int} {s : pc_HS} (h : pa_okS B n s) {j : Nat} {v : List pc_Ch × Int × Int} (hv : pa_ok B n v.1) : pa_okS B n (pc_p s j v) := by
  unfold pc_p
  split
  · exact ⟨hv, h.2⟩
  · exact ⟨h.1, hv⟩
theorem pa_ok.V {B : List Int} {n : Int} {L : List pc_Ch} (h : pa_ok B n L) (hb : B.length ≤ 12) : pc_V L := by
  obtain ⟨h1, ⟨T, hT⟩, h3, -⟩ := h
  exact ⟨B, T, by omega, hT, fun c hc => (h3 c hc).1⟩
theorem pa_ok.mono {B : List Int} {n m : Int} {L : List pc_Ch} (h : pa_ok B n L) (hm : n ≤ m) : pa_ok B m L := ⟨h.1, h.2.1, fun c hc => ⟨(h.2.2.1 c hc).1, by have := (h.2.2.1 c hc).2; omega⟩, h.2.2.2⟩
theorem pa_okS.mono {B : List Int} {n m : Int} {s : pc_HS} (h : pa_okS B n s) (hm : n ≤ m) : pa_okS B m s := ⟨h.1.mono hm, h.2.mono hm⟩
theorem pa_I.L {A : pa_A} (I : pa_I A) (h : Nat) : pa_ok A.beg A.num (pa_L A h) := I.now.at h
theorem pa_I.V {A : pa_A} (I : pa_I A) (h : Nat) : pc_V (pa_L A h) := (I.L h).V I.b1
theorem pa_I.el {A : pa_A} (I : pa_I A) (h : Nat) : ∀ c ∈ pa_L A h, pc_el c := fun c hc => ((I.L h).2.2.1 c hc).1
theorem pa_I.T {A : pa_A} (I : pa_I A) (h : Nat) : pc_dos A.beg (pa_L A h) = some (pa_T A h) := by
  obtain ⟨-, ⟨T, hT⟩, -⟩ := I.L h
  unfold pa_T
  rw [hT]
  rfl
theorem pc_dos_mem : ∀ {L : List pc_Ch} {T T1 : List Int}, pc_dos T L = some T1 → (∀ c ∈ L, 97 ≤ c.2.2.2 ∧ c.2.2.2 ≤ 122) → (∀ x ∈ T, 97 ≤ x ∧ x ≤ 122) → ∀ x ∈ T1, 97 ≤ x ∧ x ≤ 122
  | [], T, T1, h, _, hT => by cases h; exact hT
  | c :: L, T, T1, h, hL, hT => by
    unfold pc_dos at h
    cases hd : pc_do T c with
    | none => rw [hd] at h; cases h
    | some T2 =>
      rw [hd] at h
      refine pc_dos_mem (T := T2) h (fun d hd => hL d (List.mem_cons_of_mem _ hd)) (fun x hx => ?_)
      rcases pc_do_mem hd x hx with q | q
      · exact hT x q
      · rw [q]; exact hL c List.mem_cons_self
theorem pa_I.Tl {A : pa_A} (I : pa_I A) (h : Nat) : (pa_T A h).length ≤ 28 ∧ ∀ x ∈ pa_T A h, 97 ≤ x ∧ x ≤ 122 := by
  have e := I.T h
  have l := pc_dos_len e
  have := (I.L h).1
  have := I.b1
  exact ⟨by omega, pc_dos_mem e (fun c hc => (I.el h c hc).2.2) I.b2⟩
def pa_find : List pc_Ch → Int → Option Nat
  | [], _ => none
  | c :: L, x => if c.1 = x then some 0 else (pa_find L x).map (fun i => i + 1)
theorem pa_find_none : ∀ {L : List pc_Ch} {x : Int}, (∀ j : Nat, j < L.length → pc_num L j ≠ x) → pa_find L x = none
  | [], x, _ => rfl
  | c :: L, x, h => by
    unfold pa_find
    rw [if_neg (show ¬ c.1 = x from h 0 (by simp)), pa_find_none (fun j hj => ?_)]
    · rfl
    · exact h (j + 1) (by simpa using hj)
theorem pa_find_some : ∀ {L : List pc_Ch} {x : Int} {k : Nat}, k < L.length → pc_num L k = x → (L.map (fun c => c.1)).Nodup → pa_find L x = some k
  | [], x, k, h, _, _ => by cases h
  | c :: L, x, 0, _, h2, _ => by
    unfold pa_find
    rw [if_pos (show c.1 = x from h2)]
  | c :: L, x, k + 1, h1, h2, h3 => by
    rw [List.map_cons, List.nodup_cons] at h3
    have h1' : k < L.length := by simpa using h1
    unfold pa_find
    rw [if_neg (fun e => h3.1 ?_), pa_find_some h1' h2 h3.2]
    · rfl
    · have hk : L[k]? = some L[k] := List.getElem?_eq_getElem h1'
      have : pc_num L k = L[k].1 := by unfold pc_num; rw [hk]; rfl
      rw [e, ← show pc_num L k = x from h2, this]
      exact List.mem_map.mpr ⟨L[k], List.getElem_mem h1', rfl⟩
theorem pa_find_in : ∀ {L : List pc_Ch} {x : Int} {k : Nat}, pa_find L x = some k → k < L.length ∧ pc_num L k = x
  | [], x, k, h => by cases h
  | c :: L, x, k, h => by
    unfold pa_find at h
    split at h
    · rename_i e
      cases h
      exact ⟨by simp, e⟩
    · cases hf : pa_find L x with
      | none => rw [hf] at h; cases h
      | some i =>
        rw [hf] at h
        cases h
        obtain ⟨h1, h2⟩ := pa_find_in hf
        exact ⟨by simpa using h1, h2⟩
def pa_push (A : pa_A) : pa_A := pa_mk A.beg A.num A.now ((A.now :: A.past).take 8) A.im A.sh
def pa_put (A : pa_A) (h : Nat) (L : List pc_Ch) : pa_A := pa_mk A.beg A.num (pc_p A.now h (L, (pc_g A.now h).2)) A.past A.im A.sh
def pa_app (A : pa_A) (h : Nat) (s p l : Int) : pa_A := pa_mk A.beg (A.num + 1) (pc_p A.now h (pa_L A h ++ [(A.num, s, p, l)], (pc_g A.now h).2)) A.past A.im A.sh
abbrev pa_room (A : pa_A) (h : Nat) (s : Int) : Prop := A.num < 24 ∧ (pa_L A h).length < 16 ∧ (s = 1 ∨ (pa_T A h).length < 24)
abbrev pa_R : Type := pa_A × Int
abbrev pa_isH (x : Int) : Prop := 0 ≤ x ∧ x < 2
def pa_anew (A : pa_A) : pa_R := (pa_mk [] 0 (([], -1, -1), ([], -1, -1)) [] (fun _ => none) A.sh, A.num)
def pa_begin (A : pa_A) (l : Int) : pa_R := if ¬ (97 ≤ l ∧ l ≤ 122) then (A, -1000000002) else if 0 < A.num then (A, -1000000003) else if 12 ≤ A.beg.length then (A, -1000000004) else (pa_mk (A.beg ++ [l]) A.num A.now A.past A.im A.sh, A.beg.length + 1)
abbrev pa_fit (T : List Int) (s p l : Int) : Prop := (s = 0 ∧ (97 ≤ l ∧ l ≤ 122) ∧ 0 ≤ p ∧ p ≤ T.length) ∨ (s = 1 ∧ 0 ≤ p ∧ p < T.length)
def pa_at (T : List Int) (p : Int) : Int := (T[p.toNat]?).getD (-1)
def pa_record (A : pa_A) (x s p l : Int) : pa_R := if ¬ pa_isH x then (A, -1000000001) else if ¬ pa_fit (pa_T A x.toNat) s p l then (A, -1000000002) else if ¬ pa_room A x.toNat s then (A, -1000000004) else
  (pa_app (pa_push A) x.toNat s p (if s = 1 then pa_at (pa_T A x.toNat) p else l), A.num)
def pa_takeOff (A : pa_A) (x c : Int) : pa_R := if ¬ pa_isH x then (A, -1000000001) else match pa_find (pa_L A x.toNat) c with
  | none => (A, -1000000001)
  | some k => match pc_brF ((pa_L A x.toNat).length - 1 - k) (pa_L A x.toNat) k with
    | none => (A, -1000000003)
    | some L1 => (pa_put (pa_push A) x.toNat L1.dropLast, (pa_L A x.toNat).length - 1)
def pa_turn (A : pa_A) (x i : Int) : pa_R := if ¬ (pa_isH x ∧ 0 ≤ i ∧ i < (pa_L A x.toNat).length - 1) then (A, -1000000001) else match pc_sw (pa_L A x.toNat) i.toNat with
  | none => (A, -1000000003)
  | some L1 => (pa_put (pa_push A) x.toNat L1, pc_num L1 i.toNat)
def pa_undo (A : pa_A) : pa_R := match A.past with
  | [] => (A, -1000000003)
  | s :: P => (pa_mk A.beg A.num s P A.im A.sh, P.length)
def pa_told (A : pa_A) (w : Int) : Int := if w = 0 then A.beg.length else if w = 1 then A.num else if w = 2 then (if pa_T A 0 = pa_T A 1 then 1 else 0) else if w = 3 then A.past.length else if w = 4 then px_and (pc_set (pa_L A 0)) (pc_set (pa_L A 1)) else -1000000002
def pa_text (A : pa_A) (x i : Int) : Int := if ¬ pa_isH x then -1000000001 else if i < 0 then -1000000002 else pa_at (pa_T A x.toNat) i
def pa_fld (c : pc_Ch) (w : Int) : Int := if w = 0 then c.1 else if w = 1 then c.2.1 else if w = 2 then c.2.2.1 else c.2.2.2
abbrev pa_isP (A : pa_A) (x i : Int) : Prop := pa_isH x ∧ 0 ≤ i ∧ i < (pa_L A x.toNat).length
def pa_ch (L : List pc_Ch) (i : Nat) : pc_Ch := (L[i]?).getD (0, 0, 0, 97)
def pa_history (A : pa_A) (x i w : Int) : Int := if ¬ pa_isP A x i then -1000000001 else if ¬ (0 ≤ w ∧ w ≤ 4) then -1000000002 else if w < 4 then pa_fld (pa_ch (pa_L A x.toNat) i.toNat) w else if (pc_sw (pa_L A x.toNat) i.toNat).isSome then 1 else 0
def pa_change (A : pa_A) (x c w : Int) : Int := if ¬ pa_isH x then -1000000001 else match pa_find (pa_L A x.toNat) c with
  | none => -1000000001
  | some k => if w = 0 then k else if w = 1 then pc_nds (pa_L A x.toNat) k else if w = 2 then pc_ndi (pa_L A x.toNat) k ((pa_L A x.toNat).length - k - 1) (k + 1) 0 else if w = 3 then (if (pc_brF ((pa_L A x.toNat).length - 1 - k) (pa_L A x.toNat) k).isSome then 1 else 0) else -1000000002
def pa_round (s i o j : Int) : Int := if (s = 0 ∨ s = 1) ∧ (o = 0 ∨ o = 1) ∧ (0 ≤ i ∧ i ≤ 30) ∧ (0 ≤ j ∧ j ≤ 30) then pc_trz s i o j else -1000000002
abbrev pa_isS (s : Int) : Prop := 0 ≤ s ∧ s < 4
def pa_setS (A : pa_A) (s : Nat) (v : Option (pc_Ch ⊕ List Int)) : pa_A := pa_mk A.beg A.num A.now A.past A.im (fun i => if i = s then v else A.sh i)
def pa_shelve (A : pa_A) (s x i : Int) : pa_R := if ¬ (pa_isS s ∧ pa_isP A x i) then (A, -1000000001) else (pa_setS A s.toNat (some (.inl (pa_ch (pa_L A x.toNat) i.toNat))), (pa_ch (pa_L A x.toNat) i.toNat).1)
def pa_shelveText (A : pa_A) (s x : Int) : pa_R := if ¬ (pa_isS s ∧ pa_isH x) then (A, -1000000001) else (pa_setS A s.toNat (some (.inr (pa_T A x.toNat))), (pa_T A x.toNat).length)
def pa_empty (A : pa_A) (s : Int) : pa_R := if ¬ pa_isS s then (A, -1000000001) else (pa_setS A s.toNat none, match A.sh s.toNat with
  | none => 0
  | some (.inl _) => 1
  | some (.inr _) => 2)
def pa_shelved (A : pa_A) (s w : Int) : Int := if ¬ pa_isS s then -1000000001 else if ¬ (0 ≤ w ∧ w ≤ 3) then -1000000002 else match A.sh s.toNat with
  | none => -1000000011
  | some (.inl c) => pa_fld c w
  | some (.inr _) => -1000000012
def pa_letter (A : pa_A) (s i : Int) : Int := if ¬ pa_isS s then -1000000001 else if i < 0 then -1000000002 else match A.sh s.toNat with
  | none => -1000000011
  | some (.inl _) => -1000000012
  | some (.inr T) => pa_at T i
def pa_isText (A : pa_A) (s x : Int) : Int := if ¬ (pa_isS s ∧ pa_isH x) then -1000000001 else match A.sh s.toNat with
  | none => -1000000011
  | some (.inl _) => -1000000012
  | some (.inr T) => if T = pa_T A x.toNat then 1 else 0
def pa_oppose (A : pa_A) (s x : Int) : pa_R := if ¬ (pa_isS s ∧ pa_isH x) then (A, -1000000001) else match A.sh s.toNat with
  | none => (A, -1000000011)
  | some (.inr _) => (A, -1000000012)
  | some (.inl c) => if (pc_do (pa_T A x.toNat) (c.1, 1 - c.2.1, c.2.2.1, c.2.2.2)).isNone then (A, -1000000003) else if ¬ pa_room A x.toNat (1 - c.2.1) then (A, -1000000004) else (pa_app (pa_push A) x.toNat (1 - c.2.1) c.2.2.1 c.2.2.2, A.num)
def pa_keep (A : pa_A) (i : Int) : pa_R := if ¬ pa_isH i then (A, -1000000001) else (pa_mk A.beg A.num A.now [] (fun j => if j = i.toNat then some A.now else A.im j) A.sh, 1)
def pa_goBack (A : pa_A) (i : Int) : pa_R := if ¬ pa_isH i then (A, -1000000001) else match A.im i.toNat with
  | none => (A, -1000000003)
  | some s => (pa_mk A.beg A.num s [] A.im A.sh, 1)
/-! ===== how the class bears it, how the reference ===== -/
def pq_b (A : pa_A) (μ : px_Mem) : Prop := pc_tx μ 1 = A.beg ∧ μ 1 1 = A.beg.length
def pq_w (A : pa_A) (μ : px_Mem) : Prop := pc_hsv μ 3 = A.now ∧ pc_hsb μ 3
def pq_p (A : pa_A) (μ : px_Mem) : Prop := pc_past μ = A.past ∧ pc_pastb μ
def pq_i (A : pa_A) (μ : px_Mem) : Prop := ∀ i : Nat, i < 2 → pc_hsb μ (132 + 14 * i) ∧ ((μ 160 i = 0 ∧ A.im i = none) ∨ (μ 160 i = 1 ∧ A.im i = some (pc_hsv μ (132 + 14 * i))))
def pq_s (A : pa_A) (μ : px_Mem) : Prop := ∀ s : Nat, s < 4 → pc_shv μ (162 + 4 * s) = A.sh s ∧ pc_shb μ (162 + 4 * s)
def pq_o (k : Int) (μ : px_Mem) : Prop := (0 ≤ μ 200 3 ∧ μ 200 3 ≤ k) ∧ ∀ r : Int, 0 ≤ r → r < 720 → 0 ≤ μ 203 r ∧ μ 203 r ≤ μ 200 3
def pa_C (A : pa_A) (k : Int) (μ : px_Mem) : Prop := μ 0 11 = A.num ∧ pq_b A μ ∧ pq_w A μ ∧ pq_p A μ ∧ pq_i A μ ∧ pq_s A μ ∧ pq_o k μ
theorem pa_C.n {A : pa_A} {k : Int} {μ : px_Mem} (h : pa_C A k μ) : μ 0 11 = A.num := h.1
theorem pa_C.b {A : pa_A} {k : Int} {μ : px_Mem} (h : pa_C A k μ) : pq_b A μ := h.2.1
theorem pa_C.w {A : pa_A} {k : Int} {μ : px_Mem} (h : pa_C A k μ) : pq_w A μ := h.2.2.1
theorem pa_C.p {A : pa_A} {k : Int} {μ : px_Mem} (h : pa_C A k μ) : pq_p A μ := h.2.2.2.1
theorem pa_C.i {A : pa_A} {k : Int} {μ : px_Mem} (h : pa_C A k μ) : pq_i A μ := h.2.2.2.2.1
theorem pa_C.s {A : pa_A} {k : Int} {μ : px_Mem} (h : pa_C A k μ) : pq_s A μ := h.2.2.2.2.2.1
theorem pa_C.o {A : pa_A} {k : Int} {μ : px_Mem} (h : pa_C A k μ) : pq_o k μ := h.2.2.2.2.2.2
theorem pq_b.same {A A' : pa_A} {μ μ1 : px_Mem} (h : pq_b A μ) (e : ∀ o, 1 ≤ o → o ≤ 2 → μ1 o = μ o) (ea : A'.beg = A.beg) : pq_b A' μ1 := by
  unfold pq_b at *
  rw [ea, pc_tx_same (e 1 (by omega) (by omega)) (e 2 (by omega) (by omega)), e 1 (by omega) (by omega)]
  exact h
theorem pq_w.same {A A' : pa_A} {μ μ1 : px_Mem} (h : pq_w A μ) (e : ∀ o, 3 ≤ o → o ≤ 16 → μ1 o = μ o) (ea : A'.now = A.now) : pq_w A' μ1 := by
  have := pc_hsv_same (μ := μ) (μ1 := μ1) (H := 3) (fun o h1 h2 => e o h1 (by omega))
  unfold pq_w at *
  rw [ea, this.1]
  exact ⟨h.1, this.2 h.2⟩
theorem pc_past_same {μ μ1 : px_Mem} (e : ∀ o, 17 ≤ o → o ≤ 130 → μ1 o = μ o) : pc_past μ1 = pc_past μ ∧ (pc_pastb μ → pc_pastb μ1) := by
  have e17 : μ1 17 = μ 17 := e 17 (by omega) (by omega)
  constructor
  · unfold pc_past
    rw [e17]
    refine List.map_congr_left (fun k hk => ?_)
    refine (pc_hsv_same (fun o h1 h2 => e o ?_ ?_)).1
    · unfold pc_ring at h1; omega
    · unfold pc_ring at h2; omega
  · intro h
    unfold pc_pastb at *
    rw [e17]
    exact ⟨h.1, h.2.1, fun j hj => (pc_hsv_same (fun o h1 h2 => e o (by omega) (by omega))).2 (h.2.2 j hj)⟩
theorem pq_p.same {A A' : pa_A} {μ μ1 : px_Mem} (h : pq_p A μ) (e : ∀ o, 17 ≤ o → o ≤ 130 → μ1 o = μ o) (ea : A'.past = A.past) : pq_p A' μ1 := by
  have := pc_past_same e
  unfold pq_p at *
  rw [ea, this.1]
  exact ⟨h.1, this.2 h.2⟩
theorem pq_i.same {A A' : pa_A} {μ μ1 : px_Mem} (h : pq_i A μ) (e : ∀ o, 132 ≤ o → o ≤ 160 → μ1 o = μ o) (ea : A'.im = A.im) : pq_i A' μ1 := by
  intro i hi
  have h1 := h i hi
  have := pc_hsv_same (μ := μ) (μ1 := μ1) (H := 132 + 14 * i) (fun o h1 h2 => e o (by omega) (by omega))
  rw [ea, this.1, e 160 (by omega) (by omega)]
  exact ⟨this.2 h1.1, h1.2⟩
theorem pc_shv_same {μ μ1 : px_Mem} {S : Nat} (e : ∀ o, S ≤ o → o ≤ S + 3 → μ1 o = μ o) : pc_shv μ1 S = pc_shv μ S ∧ (pc_shb μ S → pc_shb μ1 S) := by
  have e0 := e S (by omega) (by omega)
  have e1 := e (S + 1) (by omega) (by omega)
  have e2 := e (S + 2) (by omega) (by omega)
  have e3 := e (S + 3) (by omega) (by omega)
  unfold pc_shv pc_shb
  rw [e0, e1, e2, pc_tx_same e2 e3]
  exact ⟨rfl, id⟩
theorem pq_s.same {A A' : pa_A} {μ μ1 : px_Mem} (h : pq_s A μ) (e : ∀ o, 162 ≤ o → o ≤ 177 → μ1 o = μ o) (ea : A'.sh = A.sh) : pq_s A' μ1 := by
  intro s hs
  have h1 := h s hs
  have := pc_shv_same (μ := μ) (μ1 := μ1) (S := 162 + 4 * s) (fun o h1 h2 => e o (by omega) (by omega))
  rw [ea, this.1]
  exact ⟨h1.1, this.2 h1.2⟩
theorem pq_o.same {k k' : Int} {μ μ1 : px_Mem} (h : pq_o k μ) (e : ∀ o, 200 ≤ o → o ≤ 203 → μ1 o = μ o) (hk : k ≤ k') : pq_o k' μ1 := by
  unfold pq_o at *
  rw [e 200 (by omega) (by omega), e 203 (by omega) (by omega)]
  exact ⟨⟨h.1.1, by omega⟩, h.2⟩
/-- what the rest of the cells hold matters not -/
theorem pa_C.same {A : pa_A} {k : Int} {μ μ1 : px_Mem} (h : pa_C A k μ) (e : ∀ o, (o < 178 ∨ (200 ≤ o ∧ o ≤ 203)) → μ1 o = μ o) : pa_C A k μ1 :=
  ⟨by rw [e 0 (by omega)]; exact h.n, h.b.same (fun o _ _ => e o (by omega)) rfl, h.w.same (fun o _ _ => e o (by omega)) rfl, h.p.same (fun o _ _ => e o (by omega)) rfl, h.i.same (fun o _ _ => e o (by omega)) rfl, h.s.same (fun o _ _ => e o (by omega)) rfl, h.o.same (fun o _ _ => e o (by omega)) (Int.le_refl _)⟩
theorem pa_C.le {A : pa_A} {k k' : Int} {μ : px_Mem} (h : pa_C A k μ) (hk : k ≤ k') : pa_C A k' μ := ⟨h.n, h.b, h.w, h.p, h.i, h.s, h.o.same (fun _ _ _ => rfl) hk⟩
theorem pa_C.hl {A : pa_A} {k : Int} {μ : px_Mem} (R : pa_C A k μ) {h : Nat} (hh : h < 2) : pc_hl μ (7 + 5 * h) = pa_L A h ∧ (0 ≤ μ (7 + 5 * h) 4 ∧ μ (7 + 5 * h) 4 ≤ 16) ∧ μ (7 + 5 * h) 4 = (pa_L A h).length := by
  have e : pc_hl μ (7 + 5 * h) = pa_L A h := by
    unfold pa_L
    rw [← R.w.1]
    rcases (show h = 0 ∨ h = 1 by omega) with rfl | rfl <;> rfl
  have b : 0 ≤ μ (7 + 5 * h) 4 ∧ μ (7 + 5 * h) 4 ≤ 16 := by
    have := R.w.2
    unfold pc_hsb at this
    rcases (show h = 0 ∨ h = 1 by omega) with rfl | rfl
    · exact this.1
    · exact this.2
  refine ⟨e, b, ?_⟩
  rw [← e, pc_hl_len]
  omega
theorem pa_C.ht {A : pa_A} {k : Int} {μ : px_Mem} (R : pa_C A k μ) (I : pa_I A) {h : Nat} (hh : h < 2) : pc_dos (pc_tx μ 1) (pc_hl μ (7 + 5 * h)) = some (pa_T A h) ∧ (0 ≤ μ 1 1 ∧ μ 1 1 ≤ 12) ∧ ∀ c ∈ pc_hl μ (7 + 5 * h), pc_el c := by
  rw [(R.hl hh).1, R.b.1, R.b.2]
  have := I.b1
  exact ⟨I.T h, by omega, I.el h⟩
def pr_i (A : pa_A) (μ : px_Mem) : Prop := ∀ i : Nat, i < 2 → (μ 210 i = 0 ∧ A.im i = none) ∨ (μ 210 i = 1 ∧ ∃ s, A.im i = some s ∧ pm_hs μ 209 (38 * i) s)
def pr_s (A : pa_A) (μ : px_Mem) : Prop := ∀ s : Nat, s < 4 → (μ 211 s = 0 ∧ A.sh s = none) ∨ (μ 211 s = 1 ∧ ∃ c, A.sh s = some (.inl c) ∧ μ 212 s = pm_pk c) ∨ (μ 211 s = 2 ∧ ∃ T, A.sh s = some (.inr T) ∧ μ 212 s = T.length ∧ pm_il μ 213 (32 * s) T)
def pa_M (A : pa_A) (μ : px_Mem) : Prop := μ 205 2 = A.num ∧ pm_beg μ A.beg ∧ pm_hs μ 207 0 A.now ∧ pm_past μ A.past ∧ pr_i A μ ∧ pr_s A μ
theorem pa_M.n {A : pa_A} {μ : px_Mem} (h : pa_M A μ) : μ 205 2 = A.num := h.1
theorem pa_M.b {A : pa_A} {μ : px_Mem} (h : pa_M A μ) : pm_beg μ A.beg := h.2.1
theorem pa_M.w {A : pa_A} {μ : px_Mem} (h : pa_M A μ) : pm_hs μ 207 0 A.now := h.2.2.1
theorem pa_M.p {A : pa_A} {μ : px_Mem} (h : pa_M A μ) : pm_past μ A.past := h.2.2.2.1
theorem pa_M.i {A : pa_A} {μ : px_Mem} (h : pa_M A μ) : pr_i A μ := h.2.2.2.2.1
theorem pa_M.s {A : pa_A} {μ : px_Mem} (h : pa_M A μ) : pr_s A μ := h.2.2.2.2.2
theorem pm_il.same {μ μ1 : px_Mem} {a : Nat} {f : Int} {T : List Int} (h : pm_il μ a f T) (e : μ1 a = μ a) : pm_il μ1 a f T := fun i c hc => by rw [e]; exact h i c hc
theorem pm_beg.same {μ μ1 : px_Mem} {T : List Int} (h : pm_beg μ T) (e0 : μ1 205 0 = μ 205 0) (e : μ1 206 = μ 206) : pm_beg μ1 T := ⟨by rw [e0]; exact h.1, h.2.1, h.2.2.same e⟩
theorem pr_i.same {A A' : pa_A} {μ μ1 : px_Mem} (h : pr_i A μ) (e9 : μ1 209 = μ 209) (e : μ1 210 = μ 210) (ea : A'.im = A.im) : pr_i A' μ1 := by
  intro i hi
  rw [e, ea]
  rcases h i hi with q | ⟨q, s, q1, q2⟩
  · exact .inl q
  · exact .inr ⟨q, s, q1, q2.same e9⟩
theorem pr_s.same {A A' : pa_A} {μ μ1 : px_Mem} (h : pr_s A μ) (e1 : μ1 211 = μ 211) (e2 : μ1 212 = μ 212) (e3 : μ1 213 = μ 213) (ea : A'.sh = A.sh) : pr_s A' μ1 := by
  intro s hs
  rw [e1, e2, ea]
  rcases h s hs with q | q | ⟨q, T, q1, q2, q3⟩
  · exact .inl q
  · exact .inr (.inl q)
  · exact .inr (.inr ⟨q, T, q1, q2, q3.same e3⟩)
theorem pa_M.same {A : pa_A} {μ μ1 : px_Mem} (h : pa_M A μ) (e5 : μ1 205 0 = μ 205 0 ∧ μ1 205 2 = μ 205 2 ∧ μ1 205 4 = μ 205 4) (e : ∀ o, 206 ≤ o → o ≤ 213 → μ1 o = μ o) : pa_M A μ1 :=
  ⟨by rw [e5.2.1]; exact h.n, h.b.same e5.1 (e _ (by omega) (by omega)), h.w.same (e _ (by omega) (by omega)), h.p.same e5.2.2 (e _ (by omega) (by omega)), h.i.same (e _ (by omega) (by omega)) (e _ (by omega) (by omega)) rfl, h.s.same (e _ (by omega) (by omega)) (e _ (by omega) (by omega)) (e _ (by omega) (by omega)) rfl⟩
theorem pa_M.hl {A : pa_A} {μ : px_Mem} (R : pa_M A μ) {h : Nat} (hh : h < 2) : μ 207 (19 * h) = (pa_L A h).length ∧ pm_at μ 207 (19 * h + 3) (pa_L A h) ∧ (pa_L A h).length ≤ 16 := by
  have := R.w.at hh
  rw [Int.zero_add] at this
  exact ⟨this.1, this.2.2.2.1, this.2.2.2.2⟩
def pa_Qc (μ : px_Mem) (r : pa_R) (k : Int) (Q : Option px_X → px_Mem → Prop) : Prop := ∀ μ1 : px_Mem, (∀ o, 205 ≤ o → μ1 o = μ o) → pa_C r.1 k μ1 → Q (some (.inl r.2)) μ1
def pa_Qm (μ : px_Mem) (r : pa_R) (Q : Option px_X → px_Mem → Prop) : Prop := ∀ μ1 : px_Mem, (∀ o, o < 205 → μ1 o = μ o) → pa_M r.1 μ1 → Q (some (.inl r.2)) μ1
theorem pa_Qc.at {μ : px_Mem} {r : pa_R} {A1 : pa_A} {z1 : Int} {k : Int} {Q : Option px_X → px_Mem → Prop} (h : pa_Qc μ r k Q) (e : r = (A1, z1)) {μ1 : px_Mem} (f : ∀ o, 205 ≤ o → μ1 o = μ o) (g : pa_C A1 k μ1) : Q (some (.inl z1)) μ1 := by
  subst e
  exact h μ1 f g
theorem pa_Qm.at {μ : px_Mem} {r : pa_R} {A1 : pa_A} {z1 : Int} {Q : Option px_X → px_Mem → Prop} (h : pa_Qm μ r Q) (e : r = (A1, z1)) {μ1 : px_Mem} (f : ∀ o, o < 205 → μ1 o = μ o) (g : pa_M A1 μ1) : Q (some (.inl z1)) μ1 := by
  subst e
  exact h μ1 f g
theorem pa_nat {x : Int} (h : pa_isH x) : ∃ h : Nat, h < 2 ∧ x = h := ⟨x.toNat, by unfold pa_isH at h; omega, by unfold pa_isH at h; omega⟩
theorem pa_natS {x : Int} (h : pa_isS x) : ∃ h : Nat, h < 4 ∧ x = h := ⟨x.toNat, by unfold pa_isS at h; omega, by unfold pa_isS at h; omega⟩
