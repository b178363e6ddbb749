/-! ===== a constructor's run, with its calls ===== -/
def pn_Pc (G : px_G) (o : Nat) (w : List pn_E) : Array Value → State → Prop := va_Pc [.ref (G.2.2.2 + o)] (fun U => va_P G.2.1 vwCl (pn_w G w) U.heap ∧ pn_K G U ∧ U.heap.size = G.2.2.2 + w.length)
def pn_Qc (G : px_G) (B : Heap → Prop) : Array Value → State → Outcome → State → Prop := fun _ st oc t => oc = .returned none ∧ B t.heap ∧ va_F (fun q : Nat => G.2.2.2 ≤ q) st t
def pn_C (G : px_G) (y : MethodName) (cc : ByteArray) (nL d mc ms o : Nat) (w : List pn_E) (B : Heap → Prop) : Prop := Met G.1 y (.code y cc nL none :: px_ws) (pn_room d mc ms) (pn_Pc G o w) (pn_Qc G B) mc ms (fun q : Nat => G.2.2.2 ≤ q)
theorem pn_blind {G : px_G} {o : Nat} {w : List pn_E} : FrameBlind (pn_Pc G o w) := fun a U g mk h => ⟨h.1, h.2.1, pn_K.same (s := U) (U := U.calling g mk a) rfl h.2.2.1, h.2.2.2⟩
def pn_0 (o nL : Nat) (w : List pn_E) : pn_S := (0, ([.inr (.inl (some o))] : List px_X).map some ++ List.replicate (nL - 1) none, [], w, 0, 0)
theorem pn_enter {G : px_G} {y : MethodName} {cc : ByteArray} {nL d mc ms o : Nat} {w : List pn_E} {B : Heap → Prop} (hy : plainName y.cls = true) (hnm : y.name = "<init>") (hn : 1 ≤ nL)
    (k : ∀ (p : Program) (e : Env) (s : State) (m : MethodId) (args : Array Value) (below : List Frame) (meth : Method) (c : Code), pn_ctx G y.cls cc nL w.length p s m args meth c → meth.sig.returnType = none → meth.locks = false →
      pn_At G nL p e (pn_room d mc ms) s m args below meth c (MQ below (pn_Qc G B) args s mc ms (fun q : Nat => G.2.2.2 ≤ q)) (pn_0 o nL w)) : pn_C G y cc nL d mc ms o w B := by
  refine Met.ofW (cc := cc) (maxL := nL) (ret := none) hy rfl ?_
  intro p e s m args below meth c s₁ B1 hml hv
  obtain ⟨rfl, hP, hK, hsz⟩ := hv
  obtain ⟨ls, hl, he⟩ := px_lv.entry G.2.2.2 0 [.inr (.inl (some o))] nL hn (fun v hv => by rw [List.mem_singleton.mp hv]; trivial)
  have he2 : entryFrame m [Value.ref (G.2.2.2 + o)].toArray nL = F0 m 0 ls [] := he m
  rw [he2]
  have hts := atoms_spec (ws := .code y cc nL none :: px_ws) B1.pre
  exact k p e s m _ below meth c ⟨B1.exec, B1.bytes, hml, findClass_of_methodNamed B1.named, fun w hw => hts w (List.mem_cons_of_mem _ hw), hK, (name_of_methodNamed B1.named B1.method).1.trans hnm, hsz⟩ B1.returns B1.notSynchronized s.heap [] hP va_S.rf ls hl
theorem pn_ret {G : px_G} {own : String} {cc : ByteArray} {nL z d mc ms pc : Nat} {lv : List (Option px_X)} {w : List pn_E} {B : Heap → Prop} {p : Program} {e : Env} {s : State} {m : MethodId} {args : Array Value} {below : List Frame} {meth : Method} {c : Code} (C : pn_ctx G own cc nL z p s m args meth c) (hr : meth.sig.returnType = none) (hlocks : meth.locks = false) (hd : decode cc pc = .ok (.return_, 1)) (hB : ∀ H : Heap, va_P G.2.1 vwCl (pn_w G w) H → B H) :
    pn_At G nL p e (pn_room d mc ms) s m args below meth c (MQ below (pn_Qc G B) args s mc ms (fun q : Nat => G.2.2.2 ≤ q)) (pc, lv, [], w, mc, ms) := by
  intro H locs hP hS ls hl
  exact W.vret C.1 C.2.1 hr (fun t ht hW => ⟨rfl, by rw [ht]; exact hB H hP, hS.F ht⟩) hS.2.2 hd
theorem pn_cont {G : px_G} {p : Program} {e : Env} {R : Room} {s : State} {m : MethodId} {args : Array Value} {below : List Frame} {meth : Method} {c : Code} {H : Heap} {locs : List Loc} {k n mc ms pc : Nat} {Z : State → Prop} {ls : Array Slot} {st0 rest : List Value} {a : Array Value} {B : Heap → Prop}
    (hr : va_Run p G.1 e R s m args below meth c H locs k n mc ms (F0 m pc ls st0) rest (pn_Qc G B a) (fun q : Nat => G.2.2.2 ≤ q)) (hS : va_S (fun q : Nat => G.2.2.2 ≤ q) s.heap H locs)
    (kk : ∀ (H1 : Heap) (locs1 : List Loc), B H1 → va_S (fun q : Nat => G.2.2.2 ≤ q) s.heap H1 locs1 → W p G.1 e R s m args below meth c H1 locs1 (k + mc) (n + ms) Z (F0 m (pc + 3) ls rest)) : W p G.1 e R s m args below meth c H locs k n Z (F0 m pc ls st0) := by
  intro T hT X
  obtain ⟨v, st₀, t, T', L, h0, X', hL, e1, e2, ⟨hv, hB, hz, hk⟩, st⟩ := hr T hT X
  cases hv
  rw [h0] at hz hk
  obtain ⟨t2, a1, b1⟩ := kk T'.heap (locs ++ L) (by rw [e1]; exact hB)
    ⟨Nat.le_trans hS.1 (by rw [e1]; exact hz), fun q h1 h2 => by rw [e1, hk q (Nat.lt_of_lt_of_le h1 hS.1) h2]; exact hS.2.1 q h1 h2, fun q hq => by
      rcases List.mem_append.mp hq with h | h
      · exact hS.2.2 q h
      · exact hL q h⟩ T' rfl X'
  exact ⟨t2, st t2 a1, b1⟩
section PNC
variable {G : px_G} {own : String} {cc : ByteArray} {nL z d mc ms : Nat} {p : Program} {e : Env} {s : State} {m : MethodId} {args : Array Value} {below : List Frame} {meth : Method} {c : Code} {Z : State → Prop}
variable {pc : Nat} {lv : List (Option px_X)} {st : List px_X} {w w' : List pn_E} {k n : Nat}
theorem pn_objI {idx o : Nat} (C : pn_ctx G own cc nL z p s m args meth c) (hd : decode cc pc = .ok (.invokespecial idx, 3)) (hf : pn_oi own idx = true) (h1 : 1 ≤ d) (hst : st.length ≤ 4)
    (kk : pn_At G nL p e (pn_room d mc ms) s m args below meth c Z (pc + 3, lv, st, w, k, n)) : pn_At G nL p e (pn_room d mc ms) s m args below meth c Z (pc, lv, .inr (.inl (some o)) :: st, w, k, n) := by
  intro H locs hP hS ls hl
  have hcat := px_cats G.2.2.2 st
  exact W.objInit C.1 C.2.1 C.2.2.2.1 (C.2.2.2.2.1 _ (pn_oi_ok hf)) (C.2.2.2.2.1 _ (px_ws_at _ pn_oi_words.1 rfl)) (C.2.2.2.2.1 _ (px_ws_at _ pn_oi_words.2 rfl)) rfl (hl.1.1.trans C.2.2.1.symm) rfl hd h1 (by show 2 * 0 + _ + 12 ≤ 37 * d; omega) (kk H locs hP hS ls hl)
theorem pn_callI {idx o : Nat} {q : pn_ME} (C : pn_ctx G own cc nL z p s m args meth c) (I : z + k = w.length ∧ 0 < w.length) (hd : decode cc pc = .ok (.invokespecial idx, 3)) (hm : pn_md own idx = some q) (hdd : q.2.2.2.1 < d) (h1 : k + q.2.2.2.2.2.2.1 ≤ mc) (h2 : n + q.2.2.2.2.2.2.2 ≤ ms) (hst : st.length ≤ 4)
    (hM : pn_C G q.1 q.2.1 q.2.2.1 q.2.2.2.1 q.2.2.2.2.2.2.1 q.2.2.2.2.2.2.2 o w (fun H => va_P G.2.1 vwCl (pn_w G w') H))
    (kk : pn_At G nL p e (pn_room d mc ms) s m args below meth c Z (pc + 3, lv, st, w', k + q.2.2.2.2.2.2.1, n + q.2.2.2.2.2.2.2)) : pn_At G nL p e (pn_room d mc ms) s m args below meth c Z (pc, lv, .inr (.inl (some o)) :: st, w, k, n) := by
  intro H locs hP hS ls hl
  obtain ⟨y, cc', nL', d', stop, ci, mc', ms'⟩ := q
  obtain ⟨hlink, hcode, hstat, hini, hdesc, hn1, hn2, hL0, hL, hnm, hpl, hret⟩ := pn_md_ok hm
  dsimp only at hlink hcode hstat hini hdesc hn1 hn2 hL hdd h1 h2 hM kk hnm
  have hts := C.2.2.2.2.1
  have hG : GoodIn px_ws (Cond.code y cc' nL' none :: px_ws) := fun w h => by
    rcases List.mem_cons.mp h with rfl | h
    · exact px_ws_good _ hcode
    · exact px_ws_good _ h
  refine pn_size (fun hz => ?_)
  have hH := pn_H C I hP hz
  have hpre : PreS s H (pn_Pc G o w) [Value.ref (G.2.2.2 + o)] := ⟨pn_blind, fun U hU hW => ⟨rfl, by rw [hU]; exact hP, C.2.2.2.2.2.1.warm hW, by rw [hU]; exact hH⟩⟩
  have hcat := px_cats G.2.2.2 st
  have hroom : (pn_room d' mc' ms').frames + 1 ≤ (pn_room d mc ms).frames ∧ 8 + (nL' + 11) + (pn_room d' mc' ms').locals ≤ (pn_room d mc ms).locals := ⟨hdd, by show 8 + (nL' + 11) + 37 * d' ≤ 37 * d; omega⟩
  refine pn_cont (va_runIN (nL := nL) (As := []) ⟨C.1, C.2.1, C.2.2.1, C.2.2.2.1, hts⟩ hM ⟨va_cnB 0 hts hG rfl rfl rfl (C.2.2.2.2.2.1.1.2.2 _ hlink rfl) (hts _ hini) ⟨hn1, hn2, hdesc⟩ hroom, hnm, hts _ hstat⟩ hpre rfl rfl hl.1.1 rfl (lv_room (by omega)) hd ⟨h1, h2⟩) hS (fun H1 locs1 g1 g2 => ?_)
  exact kk H1 locs1 g1 g2 ls hl
end PNC
theorem pn_run_ok : ∀ (f : Nat) (own : String) (cc : ByteArray) (nL d mc ms stop : Nat) (σ σ' : pn_S), pn_run f own cc nL d mc ms stop σ = some σ' → ∀ (G : px_G) (z : Nat) (p : Program) (e : Env) (s : State) (m : MethodId) (args : Array Value) (below : List Frame) (meth : Method) (c : Code) (Z : State → Prop),
    pn_ctx G own cc nL z p s m args meth c → pn_inv z σ → pn_inv z σ' ∧ (pn_At G nL p e (pn_room d mc ms) s m args below meth c Z σ' → pn_At G nL p e (pn_room d mc ms) s m args below meth c Z σ) := by
  intro f
  induction f with
  | zero => intro own cc nL d mc ms stop σ σ' h; cases h
  | succ f ih =>
    intro own cc nL d mc ms stop σ σ' h G z p e s m args below meth c Z C I
    obtain ⟨pc, lv, st, w, k, n⟩ := σ
    unfold pn_run at h
    split at h
    · cases h
      exact ⟨I, id⟩
    · split at h
      · cases h
      · rename_i i len hd
        dsimp only at hd
        split at h
        · obtain ⟨σ1, h1, h2⟩ := Option.bind_eq_some_iff.mp h
          obtain ⟨I1, k1⟩ := pn_step_ok (d := d) (e := e) (below := below) (Z := Z) C hd I h1
          obtain ⟨I2, k2⟩ := ih own cc nL d mc ms stop σ1 σ' h2 G z p e s m args below meth c Z C I1
          exact ⟨I2, fun q => k1 (k2 q)⟩
        · rename_i idx hi
          have hi2 : i = .invokespecial idx := by
            unfold pn_isr1 at hi
            split at hi
            · cases hi; rfl
            · cases hi
          subst hi2
          obtain ⟨⟨rfl, h1⟩, h2⟩ := pn_if_inv h
          obtain ⟨o, r, h3, h4⟩ := pn_pr_inv h2
          dsimp only at h3
          subst h3
          obtain ⟨h5, h6⟩ := pn_if_inv h4
          cases hoi : pn_oi own idx with
          | true =>
            rw [hoi] at h6
            obtain ⟨I2, k2⟩ := ih own cc nL d mc ms stop _ σ' h6 G z p e s m args below meth c Z C I
            exact ⟨I2, fun q => pn_objI C hd hoi h1 h5 (k2 q)⟩
          | false =>
            rw [hoi] at h6
            obtain ⟨q, h7, h8⟩ := Option.bind_eq_some_iff.mp h6
            obtain ⟨⟨h9, h10, h11⟩, h12⟩ := pn_if_inv h8
            obtain ⟨σ1, h13, h14⟩ := Option.bind_eq_some_iff.mp h12
            obtain ⟨⟨h15, h16, h17, h18, h20⟩, h19⟩ := pn_if_inv h14
            obtain ⟨pc1, lv1, st1, w1, k1, n1⟩ := σ1
            dsimp only at h15 h16 h17 h18 h9 h10 h11 h20
            subst h15 h16 h17 h18
            obtain ⟨-, -, -, -, -, -, -, hL0, -, hnm, hpl, hret⟩ := pn_md_ok h7
            have hM : pn_C G q.1 q.2.1 q.2.2.1 q.2.2.2.1 q.2.2.2.2.2.2.1 q.2.2.2.2.2.2.2 o w (fun H => va_P G.2.1 vwCl (pn_w G w1) H) := by
              refine pn_enter hpl hnm hL0 (fun p e s m args below meth c C hr hlocks => ?_)
              exact (ih _ _ _ _ _ _ _ _ _ h13 G w.length p e s m args below meth c _ C ⟨rfl, I.2⟩).2 (pn_ret C hr hlocks hret (fun H hP => hP))
            have I0 : z + k = w.length ∧ 0 < w.length := I
            obtain ⟨I2, k2⟩ := ih own cc nL d mc ms stop _ σ' h19 G z p e s m args below meth c Z C ⟨by show z + (k + q.2.2.2.2.2.2.1) = w1.length; omega, by show 0 < w1.length; omega⟩
            exact ⟨I2, fun x => pn_callI C I0 hd h7 h9 h10 h11 h5 hM (k2 x)⟩
