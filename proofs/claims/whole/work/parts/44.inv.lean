/-! ===== pull and drift; what holds in every state ===== -/
def pa_clash (A : pa_A) (h : Nat) (c z : Int) : pa_A := pa_mk A.beg A.num (pc_p A.now h ((pc_g A.now h).1, c, z)) A.past A.im A.sh
noncomputable def pa_come (A : pa_A) (h : Nat) (c : Int) (B Lo : List pc_Ch) (f : Nat) : pa_R := @ite pa_R ((pa_L A h).length + B.length ≤ 16 ∧ pc_room (pa_T A h).length B) (Classical.propDecidable _) (match pc_gp B (Lo.drop f) with
  | .inl z => (pa_clash (pa_push A) h c z, 0)
  | .inr B1 => match pc_dos (pa_T A h) B1 with
    | none => (A, -1000000003)
    | some _ => (pa_put (pa_push A) h (Lo ++ B1), B.length)) (A, -1000000004)
def pa_bothS (A : pa_A) (h : Nat) : Int := px_and (pc_set (pa_L A h)) (pc_set (pa_L A (1 - h)))
noncomputable def pa_pull (A : pa_A) (x c : Int) : pa_R := if ¬ (pa_isH x ∧ (pa_find (pa_L A (1 - x.toNat)) c).isSome) then (A, -1000000001) else if (pa_find (pa_L A x.toNat) c).isSome then (A, -1000000003) else
  match pc_fr (pa_bothS A x.toNat) (pa_L A (1 - x.toNat)).length 0 (pa_L A (1 - x.toNat)) 0, pc_fr (pa_bothS A x.toNat) (pa_L A x.toNat).length 0 (pa_L A x.toNat) 0 with
  | some t, some o => pa_come A x.toNat c (pc_gb ((t.1.take ((pa_find t.1 c).getD 0 + 1)).drop t.2)) o.1 o.2
  | _, _ => (A, -1000000003)
def pa_lcg (x : Int) : Int := x * 16807 % 2147483647
def pa_lot3 (A : pa_A) (h : Nat) (s p l x : Int) : pa_A × Int × Int := if pa_room A h s then (pa_app A h s p l, x, 1) else (A, x, 0)
def pa_lot2 (A : pa_A) (h : Nat) (s x : Int) : pa_A × Int × Int := if s = 1 then (if (pa_T A h).length = 0 then (A, x, 0) else pa_lot3 A h 1 (pa_lcg x % (pa_T A h).length) (pa_at (pa_T A h) (pa_lcg x % (pa_T A h).length)) (pa_lcg x)) else
  pa_lot3 A h 0 (pa_lcg x % ((pa_T A h).length + 1)) (97 + pa_lcg (pa_lcg x) % 26) (pa_lcg (pa_lcg x))
def pa_lot (A : pa_A) (x : Int) : pa_A × Int × Int := pa_lot2 A (pa_lcg x % 2).toNat (if pa_lcg (pa_lcg x) % 3 = 2 then 1 else 0) (pa_lcg (pa_lcg x))
def pa_lots : Nat → pa_A → Int → Int → pa_R
  | 0, A, _, d => (A, d)
  | n + 1, A, x, d => pa_lots n (pa_lot A x).1 (pa_lot A x).2.1 (d + (pa_lot A x).2.2)
def pa_drift (A : pa_A) (n s : Int) : pa_R := if ¬ ((1 ≤ n ∧ n ≤ 20) ∧ (1 ≤ s ∧ s ≤ 999999)) then (A, -1000000002) else pa_lots n.toNat (pa_push A) s 0
theorem pa_lcg_r {x : Int} (h : 0 ≤ x ∧ x < 2147483647) : 0 ≤ pa_lcg x ∧ pa_lcg x < 2147483647 := by unfold pa_lcg; omega
theorem pa_mod (x : Int) {n : Int} (hn : 0 < n) : 0 ≤ x % n ∧ x % n < n := ⟨Int.emod_nonneg _ (by omega), Int.emod_lt_of_pos _ hn⟩
theorem pa_I.push {A : pa_A} (I : pa_I A) : pa_I (pa_push A) := by
  refine ⟨⟨I.b1, I.b2⟩, I.n, I.now, ⟨fun s hs => ?_, ?_⟩, I.im, I.sh1, I.sh2⟩
  · have := List.mem_of_mem_take (show s ∈ (A.now :: A.past).take 8 from hs)
    rcases List.mem_cons.mp this with q | q
    · rw [q]; exact I.now
    · exact I.past s q
  · show ((A.now :: A.past).take 8).length ≤ 8
    rw [List.length_take]
    omega
theorem pa_I.putn {A : pa_A} (I : pa_I A) {h : Nat} {n : Int} {v : List pc_Ch × Int × Int} (hn : A.num ≤ n ∧ n ≤ 24) (hv : pa_ok A.beg n v.1) : pa_I (pa_mk A.beg n (pc_p A.now h v) A.past A.im A.sh) := by
  have := I.n
  exact ⟨⟨I.b1, I.b2⟩, ⟨Int.le_trans this.1 hn.1, hn.2⟩, (I.now.mono hn.1).put hv, ⟨fun s hs => (I.past s hs).mono hn.1, I.pl⟩, fun i s hs => (I.im i s hs).mono hn.1, I.sh1, I.sh2⟩
theorem pa_I.app {A : pa_A} (I : pa_I A) {h : Nat} {s p l : Int} {T1 : List Int} (hd : pc_do (pa_T A h) (A.num, s, p, l) = some T1) (hr : pa_room A h s) (hs : s = 0 ∨ s = 1) (hl : 97 ≤ l ∧ l ≤ 122) : pa_I (pa_app A h s p l) := by
  have hn := I.n
  obtain ⟨r1, r2, r3⟩ := hr
  obtain ⟨o1, ⟨T, o2⟩, o3, o4⟩ := I.L h
  refine I.putn (n := A.num + 1) ⟨by omega, by omega⟩ ⟨?_, ⟨T1, ?_⟩, fun c hc => ?_, ?_⟩
  · show (pa_L A h ++ [(A.num, s, p, l)]).length ≤ 16
    rw [List.length_append]
    show (pa_L A h).length + 1 ≤ 16
    omega
  · show pc_dos A.beg (pa_L A h ++ [(A.num, s, p, l)]) = some T1
    rw [pc_dos_app, I.T h]
    show (pc_do (pa_T A h) (A.num, s, p, l)).bind (fun T1 => pc_dos T1 []) = some T1
    rw [hd]
    rfl
  · rcases List.mem_append.mp hc with q | q
    · have := o3 c q
      exact ⟨this.1, by omega⟩
    · rw [List.mem_singleton.mp q]
      exact ⟨⟨⟨hn.1, r1⟩, hs, hl⟩, by show A.num < A.num + 1; omega⟩
  · show ((pa_L A h ++ [(A.num, s, p, l)]).map (fun c => c.1)).Nodup
    rw [List.map_append, List.nodup_append]
    refine ⟨o4, by simp, fun a ha b hb => ?_⟩
    obtain ⟨c, hc, rfl⟩ := List.mem_map.mp ha
    have := (o3 c hc).2
    simp at hb
    omega
theorem pa_ok.perm {B : List Int} {n : Int} {L L1 : List pc_Ch} (h : pa_ok B n L) (hp : (pn L1).Perm (pn L)) (hl : L1.length = L.length) (hd : ∃ T, pc_dos B L1 = some T) (he : ∀ c ∈ L1, pc_el c) : pa_ok B n L1 := by
  refine ⟨by rw [hl]; exact h.1, hd, fun c hc => ⟨he c hc, ?_⟩, hp.nodup_iff.mpr h.2.2.2⟩
  obtain ⟨d, hd, e⟩ := List.mem_map.mp (hp.mem_iff.mp (List.mem_map.mpr ⟨c, hc, rfl⟩))
  have := (h.2.2.1 d hd).2
  omega
theorem pa_ok.dropLast {B : List Int} {n : Int} {L : List pc_Ch} (h : pa_ok B n L) : pa_ok B n L.dropLast := by
  obtain ⟨h1, ⟨T, h2⟩, h3, h4⟩ := h
  refine ⟨by rw [List.length_dropLast]; omega, ?_, fun c hc => h3 c (List.dropLast_subset _ hc), (List.Sublist.map _ (List.dropLast_sublist L)).nodup h4⟩
  by_cases hL : L = []
  · rw [hL]
    exact ⟨B, rfl⟩
  · rw [← List.dropLast_concat_getLast hL, pc_dos_app] at h2
    cases hd : pc_dos B L.dropLast with
    | none => rw [hd] at h2; cases h2
    | some T1 => exact ⟨T1, rfl⟩
theorem pa_fit_do {T : List Int} {n s p l : Int} (h : pa_fit T s p l) : ∃ T1, pc_do T (n, s, p, if s = 1 then pa_at T p else l) = some T1 := by
  rcases h with ⟨rfl, h1, h2, h3⟩ | ⟨rfl, h1, h2⟩
  · rw [if_neg (by omega), pc_do_put, if_pos ⟨h2, h3⟩]
    exact ⟨_, rfl⟩
  · have hk : T[p.toNat]? = some T[p.toNat] := List.getElem?_eq_getElem (by omega)
    rw [if_pos rfl, pc_do_out, if_pos ⟨h1, by unfold pa_at; rw [hk]; rfl⟩]
    exact ⟨_, rfl⟩
theorem pa_fit_l {T : List Int} {s p l : Int} (h : pa_fit T s p l) (hT : ∀ x ∈ T, 97 ≤ x ∧ x ≤ 122) : (s = 0 ∨ s = 1) ∧ 97 ≤ (if s = 1 then pa_at T p else l) ∧ (if s = 1 then pa_at T p else l) ≤ 122 := by
  rcases h with ⟨rfl, h1, h2, h3⟩ | ⟨rfl, h1, h2⟩
  · exact ⟨.inl rfl, by rw [if_neg (by omega)]; exact h1⟩
  · refine ⟨.inr rfl, ?_⟩
    have hk : T[p.toNat]? = some T[p.toNat] := List.getElem?_eq_getElem (by omega)
    rw [if_pos rfl]
    unfold pa_at
    rw [hk]
    exact hT _ (List.getElem_mem _)
theorem pa_I.rec {A : pa_A} (I : pa_I A) {h : Nat} {s p l : Int} (hf : pa_fit (pa_T A h) s p l) (hr : pa_room A h s) : pa_I (pa_app A h s p (if s = 1 then pa_at (pa_T A h) p else l)) := by
  obtain ⟨T1, e⟩ := pa_fit_do (n := A.num) hf
  obtain ⟨l1, l2⟩ := pa_fit_l hf (I.Tl h).2
  exact I.app e hr l1 l2
theorem pi_anew {A : pa_A} (I : pa_I A) : pa_I (pa_anew A).1 :=
  ⟨⟨by show (0 : Nat) ≤ 12; omega, fun x hx => by cases hx⟩, by show (0 : Int) ≤ 0 ∧ (0 : Int) ≤ 24; omega, ⟨⟨by show (0 : Nat) ≤ 16; omega, ⟨[], rfl⟩, fun c hc => (by cases hc), List.nodup_nil⟩, ⟨by show (0 : Nat) ≤ 16; omega, ⟨[], rfl⟩, fun c hc => (by cases hc), List.nodup_nil⟩⟩, ⟨fun s hs => (by cases hs), by show (0 : Nat) ≤ 8; omega⟩, fun i s hs => (by cases hs), I.sh1, I.sh2⟩
theorem pa_ok.nil {B : List Int} {n : Int} {L : List pc_Ch} (h : pa_ok B n L) (hn : n ≤ 0) : L = [] := by
  cases L with
  | nil => rfl
  | cons c L =>
    have := h.2.2.1 c List.mem_cons_self
    have := this.1.1
    omega
theorem pa_okS.beg {B B1 : List Int} {n : Int} {s : pc_HS} (h : pa_okS B n s) (hn : n ≤ 0) : pa_okS B1 n s := by
  obtain ⟨⟨L1, v1⟩, ⟨L2, v2⟩⟩ := s
  have e1 : L1 = [] := h.1.nil hn
  have e2 : L2 = [] := h.2.nil hn
  subst e1 e2
  have q : pa_ok B1 n [] := ⟨by show (0 : Nat) ≤ 16; omega, ⟨B1, rfl⟩, fun c hc => (by cases hc), List.nodup_nil⟩
  exact ⟨q, q⟩
theorem pi_begin {A : pa_A} (I : pa_I A) (l : Int) : pa_I (pa_begin A l).1 := by
  unfold pa_begin
  split
  · exact I
  · split
    · exact I
    · split
      · exact I
      · rename_i h1 h2 h3
        have h1' : 97 ≤ l ∧ l ≤ 122 := Classical.not_not.mp h1
        have hn : A.num ≤ 0 := by omega
        refine ⟨⟨?_, fun x hx => ?_⟩, I.n, I.now.beg hn, ⟨fun s hs => (I.past s hs).beg hn, I.pl⟩, fun i s hs => (I.im i s hs).beg hn, I.sh1, I.sh2⟩
        · show (A.beg ++ [l]).length ≤ 12
          rw [List.length_append]
          show A.beg.length + 1 ≤ 12
          omega
        · rcases List.mem_append.mp (show x ∈ A.beg ++ [l] from hx) with q | q
          · exact I.b2 x q
          · rw [List.mem_singleton.mp q]; exact h1'
theorem pi_record {A : pa_A} (I : pa_I A) (x s p l : Int) : pa_I (pa_record A x s p l).1 := by
  unfold pa_record
  split
  · exact I
  · split
    · exact I
    · split
      · exact I
      · rename_i h1 h2 h3
        exact I.push.rec (A := pa_push A) (h := x.toNat) (Classical.not_not.mp h2) (Classical.not_not.mp h3)
theorem pi_takeOff {A : pa_A} (I : pa_I A) (x c : Int) : pa_I (pa_takeOff A x c).1 := by
  unfold pa_takeOff
  split
  · exact I
  · split
    · exact I
    · split
      · exact I
      · rename_i k hk L1 hb
        have kp := pc_brF_keep hb
        obtain ⟨q1, q2⟩ := kp.2.2 _ _ (I.el x.toNat) (I.T x.toNat)
        exact I.push.putn (A := pa_push A) ⟨Int.le_refl _, I.n.2⟩ (((I.L x.toNat).perm (pc_brF_perm hb) kp.1 ⟨_, q1⟩ q2).dropLast)
theorem pi_turn {A : pa_A} (I : pa_I A) (x i : Int) : pa_I (pa_turn A x i).1 := by
  unfold pa_turn
  split
  · exact I
  · split
    · exact I
    · rename_i L1 hb
      have q1 := pc_sw_dos hb (I.el x.toNat) (I.T x.toNat)
      have q2 : ∀ c ∈ L1, pc_el c := ((pc_brF_keep (n := 1) (i := i.toNat) (L := pa_L A x.toNat) (L1 := L1) (by unfold pc_brF; rw [hb]; rfl)).2.2 _ _ (I.el x.toNat) (I.T x.toNat)).2
      exact I.push.putn (A := pa_push A) ⟨Int.le_refl _, I.n.2⟩ ((I.L x.toNat).perm (pc_sw_perm hb) (pc_sw_len hb) ⟨_, q1⟩ q2)
theorem pi_undo {A : pa_A} (I : pa_I A) : pa_I (pa_undo A).1 := by
  unfold pa_undo
  split
  · exact I
  · rename_i s P hp
    refine ⟨⟨I.b1, I.b2⟩, I.n, I.past s (by rw [hp]; exact List.mem_cons_self), ⟨fun t ht => I.past t (by rw [hp]; exact List.mem_cons_of_mem _ ht), ?_⟩, I.im, I.sh1, I.sh2⟩
    have := I.pl
    rw [hp, List.length_cons] at this
    show P.length ≤ 8
    omega
theorem pa_I.setS {A : pa_A} (I : pa_I A) {s : Nat} {v : Option (pc_Ch ⊕ List Int)} (h1 : ∀ c, v = some (.inl c) → pc_el c ∧ 0 ≤ c.2.2.1 ∧ c.2.2.1 ≤ 27) (h2 : ∀ T, v = some (.inr T) → T.length ≤ 28 ∧ ∀ x ∈ T, 97 ≤ x ∧ x ≤ 122) : pa_I (pa_setS A s v) := by
  refine ⟨⟨I.b1, I.b2⟩, I.n, I.now, ⟨I.past, I.pl⟩, I.im, fun i c hc => ?_, fun i T hT => ?_⟩
  · have : (if i = s then v else A.sh i) = some (.inl c) := hc
    split at this
    · exact h1 c this
    · exact I.sh1 i c this
  · have : (if i = s then v else A.sh i) = some (.inr T) := hT
    split at this
    · exact h2 T this
    · exact I.sh2 i T this
theorem pa_ch_in {L : List pc_Ch} {i : Nat} (h : i < L.length) : pa_ch L i ∈ L := by
  unfold pa_ch
  rw [List.getElem?_eq_getElem h]
  exact List.getElem_mem h
theorem pi_shelve {A : pa_A} (I : pa_I A) (s x i : Int) : pa_I (pa_shelve A s x i).1 := by
  unfold pa_shelve
  split
  · exact I
  · rename_i h
    have h' := Classical.not_not.mp h
    have hi := h'.2.2
    have hm := pa_ch_in (L := pa_L A x.toNat) (i := i.toNat) (by omega)
    refine I.setS (fun c hc => ?_) (fun T hT => by cases hT)
    cases hc
    exact ⟨I.el _ _ hm, (I.V _).place hm⟩
theorem pi_shelveText {A : pa_A} (I : pa_I A) (s x : Int) : pa_I (pa_shelveText A s x).1 := by
  unfold pa_shelveText
  split
  · exact I
  · refine I.setS (fun c hc => by cases hc) (fun T hT => ?_)
    cases hT
    exact I.Tl _
theorem pi_empty {A : pa_A} (I : pa_I A) (s : Int) : pa_I (pa_empty A s).1 := by
  unfold pa_empty
  split
  · exact I
  · exact I.setS (fun c hc => by cases hc) (fun T hT => by cases hT)
theorem pi_oppose {A : pa_A} (I : pa_I A) (s x : Int) : pa_I (pa_oppose A s x).1 := by
  unfold pa_oppose
  split
  · exact I
  · split
    · exact I
    · exact I
    · rename_i c hc
      split
      · exact I
      · split
        · exact I
        · rename_i h1 h2
          obtain ⟨⟨c1, c2, c3⟩, c4, c5⟩ := I.sh1 _ _ hc
          cases hd : pc_do (pa_T A x.toNat) (c.1, 1 - c.2.1, c.2.2.1, c.2.2.2) with
          | none => rw [hd] at h1; exact absurd rfl h1
          | some T1 => exact I.push.app (A := pa_push A) (h := x.toNat) (T1 := T1) hd (Classical.not_not.mp h2) (by omega) c3
theorem pi_keep {A : pa_A} (I : pa_I A) (i : Int) : pa_I (pa_keep A i).1 := by
  unfold pa_keep
  split
  · exact I
  · refine ⟨⟨I.b1, I.b2⟩, I.n, I.now, ⟨fun s hs => (by cases hs), by show (0 : Nat) ≤ 8; omega⟩, fun j s hs => ?_, I.sh1, I.sh2⟩
    have : (if j = i.toNat then some A.now else A.im j) = some s := hs
    split at this
    · cases this; exact I.now
    · exact I.im j s this
theorem pi_goBack {A : pa_A} (I : pa_I A) (i : Int) : pa_I (pa_goBack A i).1 := by
  unfold pa_goBack
  split
  · exact I
  · split
    · exact I
    · rename_i s hs
      exact ⟨⟨I.b1, I.b2⟩, I.n, I.im _ s hs, ⟨fun s hs => (by cases hs), by show (0 : Nat) ≤ 8; omega⟩, I.im, I.sh1, I.sh2⟩
theorem pi_lot3 {A : pa_A} (I : pa_I A) {h : Nat} {s p l x : Int} (hf : pa_fit (pa_T A h) s p l) : pa_I (pa_lot3 A h s p (if s = 1 then pa_at (pa_T A h) p else l) x).1 := by
  unfold pa_lot3
  split
  · rename_i hr
    exact I.rec hf hr
  · exact I
theorem pi_lot {A : pa_A} (I : pa_I A) {x : Int} (hx : 0 ≤ x ∧ x < 2147483647) : pa_I (pa_lot A x).1 ∧ 0 ≤ (pa_lot A x).2.1 ∧ (pa_lot A x).2.1 < 2147483647 := by
  have x1 := pa_lcg_r hx
  have x2 := pa_lcg_r x1
  have x3 := pa_lcg_r x2
  have x4 := pa_lcg_r x3
  unfold pa_lot
  generalize (pa_lcg x % 2).toNat = h
  generalize (if pa_lcg (pa_lcg x) % 3 = 2 then (1 : Int) else 0) = s
  unfold pa_lot2
  split
  · split
    · exact ⟨I, x2⟩
    · rename_i h0
      have := pi_lot3 I (h := h) (s := 1) (p := pa_lcg (pa_lcg (pa_lcg x)) % (pa_T A h).length) (l := 97) (x := pa_lcg (pa_lcg (pa_lcg x))) (.inr ⟨rfl, (pa_mod _ (by omega)).1, (pa_mod _ (by omega)).2⟩)
      rw [if_pos rfl] at this
      refine ⟨this, ?_⟩
      unfold pa_lot3
      split <;> exact x3
  · have := pi_lot3 I (h := h) (s := 0) (p := pa_lcg (pa_lcg (pa_lcg x)) % ((pa_T A h).length + 1)) (l := 97 + pa_lcg (pa_lcg (pa_lcg (pa_lcg x))) % 26) (x := pa_lcg (pa_lcg (pa_lcg (pa_lcg x)))) (.inl ⟨rfl, by omega, (pa_mod _ (by omega)).1, by have := (pa_mod (pa_lcg (pa_lcg (pa_lcg x))) (show 0 < ((pa_T A h).length : Int) + 1 by omega)).2; omega⟩)
    rw [if_neg (by omega)] at this
    refine ⟨this, ?_⟩
    unfold pa_lot3
    split <;> exact x4
theorem pi_lots : ∀ (n : Nat) {A : pa_A} {x : Int} (d : Int), pa_I A → (0 ≤ x ∧ x < 2147483647) → pa_I (pa_lots n A x d).1
  | 0, A, x, d, I, hx => I
  | n + 1, A, x, d, I, hx => pi_lots n _ (pi_lot I hx).1 (pi_lot I hx).2
theorem pi_drift {A : pa_A} (I : pa_I A) (n s : Int) : pa_I (pa_drift A n s).1 := by
  unfold pa_drift
  split
  · exact I
  · rename_i h
    have := Classical.not_not.mp h
    exact pi_lots _ _ I.push (by omega)
theorem pc_gp1_n : ∀ {O : List pc_Ch} {b b1 : pc_Ch} {O1 : List pc_Ch}, pc_gp1 b O = .inr (b1, O1) → b1.1 = b.1 ∧ b1.2.1 = b.2.1 ∧ b1.2.2.2 = b.2.2.2
  | [], b, b1, O1, h => by cases h; exact ⟨rfl, rfl, rfl⟩
  | o :: O, b, b1, O1, h => by
    unfold pc_gp1 at h
    cases ht : pc_tr (1 - o.2.1) o.2.2.1 b.2.1 b.2.2.1 with
    | none => rw [ht] at h; cases h
    | some q =>
      rw [ht] at h
      dsimp only at h
      cases hr : pc_gp1 (b.1, b.2.1, q.1, b.2.2.2) O with
      | inl n => rw [hr] at h; cases h
      | inr r =>
        obtain ⟨b2, O2⟩ := r
        rw [hr] at h
        cases h
        obtain ⟨e1, e2, e3⟩ := pc_gp1_n hr
        exact ⟨e1, e2, e3⟩
theorem pc_gp_n : ∀ {B O B1 : List pc_Ch}, pc_gp B O = .inr B1 → pn B1 = pn B ∧ ((∀ c ∈ B, pc_el c) → ∀ c ∈ B1, pc_el c)
  | [], O, B1, h => by cases h; exact ⟨rfl, id⟩
  | b :: B, O, B1, h => by
    unfold pc_gp at h
    cases h1 : pc_gp1 b O with
    | inl n => rw [h1] at h; cases h
    | inr r =>
      obtain ⟨b1, O1⟩ := r
      rw [h1] at h
      dsimp only at h
      cases h2 : pc_gp B O1 with
      | inl n => rw [h2] at h; cases h
      | inr B2 =>
        rw [h2] at h
        cases h
        obtain ⟨q1, q2, q3⟩ := pc_gp1_n h1
        obtain ⟨i1, i2⟩ := pc_gp_n h2
        refine ⟨by rw [pn_cons, pn_cons, q1, i1], fun he c hc => ?_⟩
        rcases List.mem_cons.mp hc with rfl | hc
        · have := he b List.mem_cons_self
          unfold pc_el at *
          rw [q1, q2, q3]
          exact this
        · exact i2 (fun d hd => he d (List.mem_cons_of_mem _ hd)) c hc
theorem pa_I.num24 {A : pa_A} (I : pa_I A) (h : Nat) : ∀ c ∈ pa_L A h, 0 ≤ c.1 ∧ c.1 < 24 := fun c hc => (I.el h c hc).1
/-- what a pull finds where both rows can be sorted -/
theorem pa_sorted {A : pa_A} (I : pa_I A) {h : Nat} {c : Int} {Lt Lo : List pc_Ch} {ft fo : Nat} (hc : c ∈ pn (pa_L A (1 - h))) (hn : c ∉ pn (pa_L A h)) (h1 : pc_fr (pa_bothS A h) (pa_L A (1 - h)).length 0 (pa_L A (1 - h)) 0 = some (Lt, ft)) (h2 : pc_fr (pa_bothS A h) (pa_L A h).length 0 (pa_L A h) 0 = some (Lo, fo)) :
    ft = fo ∧ (∃ a, pa_find Lt c = some a ∧ ft ≤ a ∧ a < Lt.length ∧ pc_num Lt a = c ∧ (∀ j : Nat, j < Lt.length → pc_num Lt j = c → j = a) ∧ ∀ y ∈ pn (pc_gb ((Lt.take (a + 1)).drop ft)), y ∈ pn (pa_L A (1 - h)) ∧ y ∉ pn (pa_L A h)) ∧ (pn Lt).Nodup ∧ pa_ok A.beg A.num Lt ∧ pa_ok A.beg A.num Lo ∧ Lo.length = (pa_L A h).length ∧ Lt.length = (pa_L A (1 - h)).length ∧ pc_dos A.beg Lo = some (pa_T A h) ∧ (pn Lo).Perm (pn (pa_L A h)) := by
  have e := pc_fr_same (I.num24 h) (I.num24 (1 - h)) (I.L h).2.2.2 (I.L (1 - h)).2.2.2 h2 h1
  obtain ⟨a, a1, a2, a3, a4, a5, a6, a7⟩ := pc_fr_find (I.num24 h) (I.num24 (1 - h)) (I.L (1 - h)).2.2.2 h1 hc hn
  obtain ⟨F, W, b1, b2, b3, b4, b5⟩ := pc_fr_all h1
  obtain ⟨F', W', d1, d2, d3, d4, d5⟩ := pc_fr_all h2
  have k1 := pc_fr_keep h1
  have k2 := pc_fr_keep h2
  obtain ⟨q1, q2⟩ := k1.2 _ _ (I.el (1 - h)) (I.T (1 - h))
  obtain ⟨r1, r2⟩ := k2.2 _ _ (I.el h) (I.T h)
  refine ⟨e.symm, ⟨a, a5, a1, a2, a3, a4, fun y hy => a7 y ?_⟩, a6, (I.L (1 - h)).perm b5 k1.1 ⟨_, q1⟩ q2, (I.L h).perm d5 k2.1 ⟨_, r1⟩ r2, k2.1, k1.1, r1, d5⟩
  have h5 := (pc_gb_n ((Lt.take (a + 1)).drop ft)).subset hy
  have h6 : ((Lt.take (a + 1)).drop ft).Sublist (Lt.drop ft) := by
    rw [List.drop_take]
    exact List.take_sublist _ _
  exact (List.Sublist.map (fun c : pc_Ch => c.1) h6).subset h5
theorem pa_find_pn {L : List pc_Ch} {x : Int} (h : (pa_find L x).isSome) : x ∈ pn L := by
  cases hf : pa_find L x with
  | none => rw [hf] at h; cases h
  | some k =>
    obtain ⟨h1, h2⟩ := pa_find_in hf
    unfold pc_num at h2
    rw [List.getElem?_eq_getElem h1] at h2
    exact List.mem_map.mpr ⟨L[k], List.getElem_mem h1, h2⟩
theorem pa_find_npn {L : List pc_Ch} {x : Int} (h : ¬ (pa_find L x).isSome) : x ∉ pn L := by
  intro hx
  induction L with
  | nil => cases hx
  | cons c L ih =>
    unfold pa_find at h
    split at h
    · exact h rfl
    · rename_i e
      rcases List.mem_cons.mp hx with q | q
      · exact e q.symm
      · refine ih ?_ q
        intro h9
        apply h
        rw [Option.isSome_map]
        exact h9
theorem pc_gb_el {X : List pc_Ch} {T T1 : List Int} (he : ∀ c ∈ X, pc_el c) (hd : pc_dos T X = some T1) : ∀ c ∈ pc_gb X, pc_el c := by
  obtain ⟨R, -, h2⟩ := pc_gb_ex X
  exact fun c hc => (h2 T T1 he hd).2 c (List.mem_append_left _ hc)
theorem pc_dos_drop {T T1 : List Int} {L : List pc_Ch} (h : pc_dos T L = some T1) (n m : Nat) : ∃ T2 T3, pc_dos T2 ((L.take n).drop m) = some T3 := by
  rw [← List.take_append_drop n L, pc_dos_app] at h
  cases h1 : pc_dos T (L.take n) with
  | none => rw [h1] at h; cases h
  | some T2 =>
    rw [← List.take_append_drop m (L.take n), pc_dos_app] at h1
    cases h3 : pc_dos T ((L.take n).take m) with
    | none => rw [h3] at h1; cases h1
    | some T4 => rw [h3] at h1; exact ⟨T4, T2, h1⟩
theorem pi_pull {A : pa_A} (I : pa_I A) (x c : Int) : pa_I (pa_pull A x c).1 := by
  unfold pa_pull
  split
  · exact I
  · split
    · exact I
    · split
      · rename_i h1 h2 _ _ t o ht ho
        obtain ⟨Lt, ft⟩ := t
        obtain ⟨Lo, fo⟩ := o
        have h1' := Classical.not_not.mp h1
        generalize x.toNat = h at *
        have hc := pa_find_pn h1'.2
        have hn := pa_find_npn h2
        obtain ⟨e1, ⟨a, a1, a2, a3, a4, a5, a6⟩, s2, s3, s4, s5, s6, s7, s8⟩ := pa_sorted I hc hn ht ho
        dsimp only
        rw [a1]
        dsimp only [Option.getD_some]
        have Bel : ∀ d ∈ pc_gb ((Lt.take (a + 1)).drop ft), pc_el d := by
          obtain ⟨T9, hT9⟩ := s3.2.1
          obtain ⟨T2, T3, h9⟩ := pc_dos_drop hT9 (a + 1) ft
          exact pc_gb_el (fun d hd => (s3.2.2.1 d (List.mem_of_mem_take (List.mem_of_mem_drop hd))).1) h9
        have Bnd : (pn (pc_gb ((Lt.take (a + 1)).drop ft))).Nodup := by
          refine (pc_gb_n _).nodup ?_
          exact (List.Sublist.map (fun c : pc_Ch => c.1) ((List.drop_sublist _ _).trans (List.take_sublist _ _))).nodup s2
        generalize pc_gb ((Lt.take (a + 1)).drop ft) = B at *
        unfold pa_come
        split
        · rename_i hr
          split
          · exact I.push.putn (A := pa_push A) ⟨Int.le_refl _, I.n.2⟩ (I.L h)
          · rename_i B1 hg
            split
            · exact I
            · rename_i T9 hT9
              obtain ⟨g1, g2⟩ := pc_gp_n hg
              refine I.push.putn (A := pa_push A) ⟨Int.le_refl _, I.n.2⟩ ⟨?_, ⟨T9, ?_⟩, fun d hd => ?_, ?_⟩
              · show (Lo ++ B1).length ≤ 16
                rw [List.length_append, s5, ← pn_len B1, g1, pn_len]
                exact hr.1
              · show pc_dos A.beg (Lo ++ B1) = some T9
                rw [pc_dos_app, s7]
                exact hT9
              · rcases List.mem_append.mp (show d ∈ Lo ++ B1 from hd) with q | q
                · exact s4.2.2.1 d q
                · refine ⟨g2 Bel d q, ?_⟩
                  have m : d.1 ∈ pn B := by rw [← g1]; exact List.mem_map.mpr ⟨d, q, rfl⟩
                  obtain ⟨e, he, ee⟩ := List.mem_map.mp (a6 _ m).1
                  have := ((I.L (1 - h)).2.2.1 e he).2
                  show d.1 < A.num
                  omega
              · show ((Lo ++ B1).map (fun c => c.1)).Nodup
                rw [List.map_append, List.nodup_append]
                refine ⟨s4.2.2.2, ?_, fun y hy z hz e => ?_⟩
                · show (pn B1).Nodup
                  rw [g1]
                  exact Bnd
                · subst e
                  have m : y ∈ pn B := by rw [← g1]; exact hz
                  exact (a6 _ m).2 (s8.mem_iff.mp hy)
        · exact I
      · exact I
