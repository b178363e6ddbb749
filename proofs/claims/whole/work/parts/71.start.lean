/-! ===== the law's entry ===== -/
theorem pl_arr {s : State} {A : Array Value} {ty : FieldType} (h : (Cond.arrayClass ty).before A s = true) : ∃ cA : ClassId, ArrOfT s cA ty ∧ s.vm.findClass ("[" ++ ty.toString) = some cA := by
  obtain ⟨c, k, comp, h1, h2, h3⟩ := Cond.arrayClass_spec h
  exact ⟨c, fun n z => ⟨fun k h => (by cases h), k, h2, comp, h3⟩, h1⟩
theorem pl_arrO {s : State} {A : Array Value} {C : String} (h : (Cond.arrayOver (.object C)).before A s = true) : ∃ cA : ClassId, ArrOfT s cA (.object C) ∧ va_RA s cA (.object C) := by
  obtain ⟨comp, c, k, h1, h2, h3, h4, h5⟩ := Cond.arrayOver_spec h
  exact ⟨c, fun n z => ⟨fun k h => (by cases h), k, h3, comp, h4⟩, k, comp, h3, h4, h1, h5⟩
def pl_in : List Cond := [.instantiable RX0 5, .instantiable RX1 3, .instantiable RX2 1, .instantiable RX3 4, .instantiable RX4 5, .instantiable RX5 3, .instantiable RX6 5, .instantiable RX7 3, .instantiable RX9 2, .instantiable RX10 12, .instantiable RX11 22, .arrayClass .int, .arrayClass .boolean, .arrayOver (.object RX0), .arrayOver (.object RX1), .arrayOver (.object RX7), .arrayOver (.object RX9)]
def pl_inp : List Nat := [110, 103, 277, 190, 255, 163, 230, 184, 87, 79, 647, 101, 212, 109, 169, 183, 226]
set_option maxRecDepth 100000 in
theorem pl_in_ok : pl_in = pl_inp.filterMap (fun i => lw_tbl[i]?) := by decide +kernel
theorem pl_in_mem {w : Cond} (h : w ∈ pl_in) : w ∈ lw_tbl := by
  rw [pl_in_ok] at h
  obtain ⟨i, -, hi⟩ := List.mem_filterMap.mp h
  exact List.mem_of_getElem? hi
theorem pl_in_at {w : Cond} (i : Nat) (h : pl_in[i]? = some w) : w ∈ lw_tbl := pl_in_mem (List.mem_of_getElem? h)
theorem pl_known {s : State} {A : Array Value} (hts : ∀ w ∈ lw_tbl, w.before A s = true) : ∃ (dC : Nat → ClassId) (dI : Nat → Nat → Nat), ∀ (k : Nat) (q : vw_C), vwCl[k]? = some q → u_Kn s q.1 q.2.1 q.2.2 (dC k) (dI k) := by
  have htw : ∀ w ∈ px_ws, w.before A s = true := fun w hw => hts w (List.mem_filter.mp hw).1
  have h : ∀ k : Nat, ∃ (c : ClassId) (i : Nat → Nat), ∀ q : vw_C, vwCl[k]? = some q → u_Kn s q.1 q.2.1 q.2.2 c i := by
    intro k
    match k with
    | 0 => obtain ⟨c, i, h⟩ := u_known (C := RX0) (T := TX0) (N := 5) (n := 5) htw px_in0 (hts _ (pl_in_at 0 rfl)); exact ⟨c, i, fun q hq => by cases hq; exact h⟩
    | 1 => obtain ⟨c, i, h⟩ := u_known (C := RX1) (T := TX1) (N := 3) (n := 3) htw px_in1 (hts _ (pl_in_at 1 rfl)); exact ⟨c, i, fun q hq => by cases hq; exact h⟩
    | 2 => obtain ⟨c, i, h⟩ := u_known (C := RX2) (T := TX2) (N := 1) (n := 1) htw px_in2 (hts _ (pl_in_at 2 rfl)); exact ⟨c, i, fun q hq => by cases hq; exact h⟩
    | 3 => obtain ⟨c, i, h⟩ := u_known (C := RX3) (T := TX3) (N := 4) (n := 4) htw px_in3 (hts _ (pl_in_at 3 rfl)); exact ⟨c, i, fun q hq => by cases hq; exact h⟩
    | 4 => obtain ⟨c, i, h⟩ := u_known (C := RX4) (T := TX4) (N := 5) (n := 5) htw px_in4 (hts _ (pl_in_at 4 rfl)); exact ⟨c, i, fun q hq => by cases hq; exact h⟩
    | 5 => obtain ⟨c, i, h⟩ := u_known (C := RX5) (T := TX5) (N := 3) (n := 3) htw px_in5 (hts _ (pl_in_at 5 rfl)); exact ⟨c, i, fun q hq => by cases hq; exact h⟩
    | 6 => obtain ⟨c, i, h⟩ := u_known (C := RX6) (T := TX6) (N := 5) (n := 5) htw px_in6 (hts _ (pl_in_at 6 rfl)); exact ⟨c, i, fun q hq => by cases hq; exact h⟩
    | 7 => obtain ⟨c, i, h⟩ := u_known (C := RX7) (T := TX7) (N := 3) (n := 3) htw px_in7 (hts _ (pl_in_at 7 rfl)); exact ⟨c, i, fun q hq => by cases hq; exact h⟩
    | 8 => obtain ⟨c, i, h⟩ := u_known (C := RX9) (T := TX9) (N := 2) (n := 2) htw px_in8 (hts _ (pl_in_at 8 rfl)); exact ⟨c, i, fun q hq => by cases hq; exact h⟩
    | 9 => obtain ⟨c, i, h⟩ := u_known (C := RX10) (T := TX10) (N := 12) (n := 12) htw px_in9 (hts _ (pl_in_at 9 rfl)); exact ⟨c, i, fun q hq => by cases hq; exact h⟩
    | 10 => obtain ⟨c, i, h⟩ := u_known (C := RX11) (T := TX11) (N := 22) (n := 22) htw px_in10 (hts _ (pl_in_at 10 rfl)); exact ⟨c, i, fun q hq => by cases hq; exact h⟩
    | k + 11 => exact ⟨(0 : Nat), fun _ => 0, fun q hq => by simp [vwCl] at hq⟩
  exact ⟨fun k => (h k).choose, fun k => (h k).choose_spec.choose, fun k q hq => (h k).choose_spec.choose_spec q hq⟩
theorem pl_nc1 : Cond.not (.castable RX9 RX3) ∈ flatC (Jvm.Cond.and given_1 narrow_1) := by decide +kernel
theorem pl_nc2 : Cond.not (.castable RX3 RX9) ∈ flatC (Jvm.Cond.and given_1 narrow_1) := by decide +kernel
theorem pl_G {s : State} {A : Array Value} (l : Launch) (hts : ∀ w ∈ lw_tbl, w.before A s = true) (hgv : (Jvm.Cond.and given_1 narrow_1).before A s = true) : ∃ G : px_G, G.1 = l ∧ G.2.2.2 = s.heap.size ∧ pn_K G s := by
  obtain ⟨dC, dI, hK⟩ := pl_known hts
  obtain ⟨a0, f0, g0⟩ := pl_arr (hts _ (pl_in_at 11 rfl))
  obtain ⟨a1, f1, g1⟩ := pl_arr (hts _ (pl_in_at 12 rfl))
  have o2 := hts _ (pl_in_at 13 rfl)
  have o3 := hts _ (pl_in_at 14 rfl)
  have o4 := hts _ (pl_in_at 15 rfl)
  have o5 := hts _ (pl_in_at 16 rfl)
  obtain ⟨a2, f2, g2⟩ := pl_arrO o2
  obtain ⟨a3, f3, g3⟩ := pl_arrO o3
  obtain ⟨a4, f4, g4⟩ := pl_arrO o4
  obtain ⟨a5, f5, g5⟩ := pl_arrO o5
  have hs := flat_of_before _ hgv
  refine ⟨(l, (dC, dI), (fun k => if k = 20 then a0 else if k = 21 then a1 else if k = 22 then a2 else if k = 23 then a3 else if k = 24 then a4 else a5), s.heap.size), rfl, rfl, ⟨⟨hK, fun k q hk => ?_⟩, ⟨va_Nc.of (hs _ pl_nc1), va_Nc.of (hs _ pl_nc2)⟩, fun w hw hn => ?_⟩, va_AO.of o2, va_AO.of o3, va_AO.of o4, va_AO.of o5⟩
  · match k, hk with
    | 0, hk => cases hk; exact ⟨f0, g0⟩
    | 1, hk => cases hk; exact ⟨f1, g1⟩
    | 2, hk => cases hk; exact ⟨f2, g2⟩
    | 3, hk => cases hk; exact ⟨f3, g3⟩
    | 4, hk => cases hk; exact ⟨f4, g4⟩
    | 5, hk => cases hk; exact ⟨f5, g5⟩
    | k + 6, hk => simp [px_tys] at hk
  · have h1 := hts w hw
    cases w <;> first | (cases hn; done) | exact va_Nw.of rfl h1
/-- a new object, the next cell -/
theorem pl_new {G : px_G} {own C1 : String} {cc : ByteArray} {idx ci pc k n N o : Nat} {T : u_T} {p : Program} {e : Env} {R : Room} {s : State} {m : MethodId} {args : Array Value} {below : List Frame} {meth : Method} {c : Code} {Z : State → Prop} {H : Heap} {locs : List Loc} {ls : Array Slot} {st : List Value} {w : List pn_E}
    (hx : p.tables.exec = Jvm.exec) (hb : c.code = cc) (hown : s.vm.findClass own = some m.cls) (hts : ∀ w ∈ px_ws, w.before args s = true) (hK : px_K G s) (hc : vwCl[ci]? = some (C1, T, N)) (hw1 : Cond.classLink own idx C1 ∈ px_ws) (hw2 : Cond.instantiable C1 N ∈ px_ws) (hw3 : Cond.initialized C1 ∈ px_ws)
    (hd : decode cc pc = .ok (.new idx, 3)) (h1 : k + 1 ≤ R.cells) (h2 : n + N ≤ R.slots) (hP : va_P G.2.1 vwCl (pn_w G w) H) (ho : w.length = o) (hH : H.size = G.2.2.2 + o) (hS : va_S (fun q : Nat => G.2.2.2 ≤ q) s.heap H locs)
    (kk : ∀ H1 : Heap, va_P G.2.1 vwCl (pn_w G (w ++ [.inl (ci, pn_fs ci)])) H1 → va_S (fun q : Nat => G.2.2.2 ≤ q) s.heap H1 locs → H1.size = G.2.2.2 + o + 1 → W p G.1 e R s m args below meth c H1 locs (k + 1) (n + N) Z (F0 m (pc + 3) ls (.ref (G.2.2.2 + o) :: st))) :
    W p G.1 e R s m args below meth c H locs k n Z (F0 m pc ls st) := by
  subst ho
  obtain ⟨ty, hty, hnm, hin, hN, hft⟩ := pn_class hc
  have hKn := hK.1.1 ci _ hc
  refine W.newcK hx hb hown (hts _ hw1) (hts _ hw2) (hts _ hw3) rfl hd h1 h2 hKn.2.1 hH (fun H1 kC hkC e1 z1 o1 => ?_)
  refine kk H1 (pn_grow hP hH o1 ⟨_, hc, (u_born ty hts hin hKn hkC e1 hty).to (fun j hj => ?_)⟩) (pn_growS hS hH z1 o1) z1
  show defaultValue (ty j) = vp_V ((pn_fs ci).map (px_v G.2.2.2)) j
  have hj : j < N := hj
  rw [pn_fs_at (by omega)]
  by_cases e0 : px_pf ci j = 0
  · rw [((hft j hj).1 e0).1, e0]
    rfl
  · by_cases e1 : px_pf ci j = 1
    · rw [((hft j hj).2.1 e1).1, e1]
      rfl
    · rw [(pn_isr_ok ((hft j hj).2.2 e0 e1)).1]
      unfold pn_dv
      split
      · omega
      · omega
      · rfl
/-- a constructor's call -/
theorem pl_init {G : px_G} {own : String} {cc cc' : ByteArray} {nL nL' d mc ms o idx pc k n : Nat} {y : MethodName} {p : Program} {e : Env} {R : Room} {s : State} {m : MethodId} {args : Array Value} {below : List Frame} {meth : Method} {c : Code} {Z : State → Prop} {H : Heap} {locs : List Loc} {ls : Array Slot} {st : List Value} {w : List pn_E} {B : Heap → Prop}
    (hx : p.tables.exec = Jvm.exec) (hb : c.code = cc) (hml : c.maxLocals = nL) (hown : s.vm.findClass own = some m.cls) (hts : ∀ w ∈ px_ws, w.before args s = true) (hK : pn_K G s)
    (hlink : Cond.methodLink own idx y ∈ px_ws) (hcode : Cond.code y cc' nL' none ∈ px_ws) (hinst : Cond.instanceMethod y ∈ px_ws) (hini : Cond.initialized y.cls ∈ px_ws) (hnm : y.name = "<init>") (hdesc : y.cls ≠ "java/lang/invoke/MethodHandle" ∧ y.cls ≠ "java/lang/invoke/VarHandle" ∧ (parseMethodDescriptor y.desc).map (fun d => d.parameters.length) = some 0)
    (hroom : d + 1 ≤ R.frames ∧ 8 + (nL' + 11) + 37 * d ≤ R.locals) (hcs : k + mc ≤ R.cells ∧ n + ms ≤ R.slots) (hst : (st.map fun v => v.category).sum ≤ 8) (hls : ls.size = nL) (hd : decode cc pc = .ok (.invokespecial idx, 3))
    (hP : va_P G.2.1 vwCl (pn_w G w) H) (hH : H.size = G.2.2.2 + w.length) (hS : va_S (fun q : Nat => G.2.2.2 ≤ q) s.heap H locs) (hM : pn_C G y cc' nL' d mc ms o w B)
    (kk : ∀ (H1 : Heap) (locs1 : List Loc), B H1 → va_S (fun q : Nat => G.2.2.2 ≤ q) s.heap H1 locs1 → W p G.1 e R s m args below meth c H1 locs1 (k + mc) (n + ms) Z (F0 m (pc + 3) ls st)) :
    W p G.1 e R s m args below meth c H locs k n Z (F0 m pc ls (.ref (G.2.2.2 + o) :: st)) := by
  have hG : GoodIn px_ws (Cond.code y cc' nL' none :: px_ws) := fun w h => by
    rcases List.mem_cons.mp h with rfl | h
    · exact px_ws_good _ hcode
    · exact px_ws_good _ h
  have hpre : PreS s H (pn_Pc G o w) [Value.ref (G.2.2.2 + o)] := ⟨pn_blind, fun U hU hW => ⟨rfl, by rw [hU]; exact hP, hK.warm hW, by rw [hU]; exact hH⟩⟩
  exact pn_cont (va_runI (nL := nL) (As := []) ⟨hx, hb, hml, hown, hts⟩ hM (cwI 0 hts hG rfl rfl rfl (hts _ hini) (hts _ hlink) (hts _ hinst) hnm hdesc hroom) hpre rfl rfl hls rfl (lv_room hst) hd hcs) hS kk
def pl_lw : List Cond := [.classLink RL 7 RX10, .instantiable RX10 12, .initialized RX10, .methodLink RL 9 yX10_init, .instanceMethod yX10_init, .code yX10_init cX10_init 2 none, .classLink RL 10 RX11, .instantiable RX11 22, .initialized RX11, .methodLink RL 12 yX11_init, .instanceMethod yX11_init, .code yX11_init cX11_init 1 none, .methodLink RX11 56 yX11_clear]
def pl_lwp : List Nat := [78, 79, 65, 80, 81, 82, 646, 647, 75, 648, 649, 650, 652]
set_option maxRecDepth 100000 in
theorem pl_lw_ok : pl_lw = pl_lwp.filterMap (fun i => lw_tbl[i]?) := by decide +kernel
set_option maxRecDepth 100000 in
theorem pl_lw_good : pl_lw.all goodWord = true := by decide +kernel
theorem pl_lw_at {w : Cond} (i : Nat) (h : pl_lw[i]? = some w) : w ∈ px_ws := by
  have h1 := List.mem_of_getElem? h
  refine px_ws_mem ?_ (List.all_eq_true.mp pl_lw_good w h1)
  rw [pl_lw_ok] at h1
  obtain ⟨j, -, hj⟩ := List.mem_filterMap.mp h1
  exact List.mem_of_getElem? hj
theorem pl_Hsz {G : px_G} {w : List pn_E} {s : State} {H : Heap} {k : Nat} (hG : G.2.2.2 = s.heap.size) (hP : va_P G.2.1 vwCl (pn_w G w) H) (h0 : 0 < w.length) (hk : k = w.length) (hz : H.size ≤ s.heap.size + k) : H.size = G.2.2.2 + w.length := by
  have h1 := pn_low hP h0
  omega
theorem whole_start {p : Program} {e : Env} {s : State} {m : MethodId} {below : List Frame} {meth : Method} {c : Code} (l : Launch) (hflags : l.flags = flags0) {b L : Nat} {xs : Nat → Int32} (hL : L ≤ 2560) (C0 : lw_At p s m meth c b L xs) : W p l e room_1 s m #[Value.ref b] below meth c s.heap [] 0 0 (lw_Z below #[Value.ref b] s) (entryFrame m ([Value.ref b] : List Value).toArray 4) := by
  obtain ⟨hx, hb, hr, hml, hown, hts, hX, hbl, hlocks, hgv⟩ := C0
  have htw : ∀ w ∈ px_ws, w.before #[Value.ref b] s = true := fun w hw => hts w (List.mem_filter.mp hw).1
  obtain ⟨G, rfl, hG, hK⟩ := pl_G l hts hgv
  have hown : s.vm.findClass RL = some m.cls := hown
  obtain ⟨w, w1, lv, r0, l0, r1, l1, k1, k2, k3⟩ := pn_runs
  have hl := lv_entry ([.ref b]) (n := 4) (Nat.le_of_ble_eq_true rfl)
  rw [lg_entry_eq]
  generalize (lg_sl ([.ref b]) ++ List.replicate (4 - (lg_sl ([.ref b])).length) Slot.unset).toArray = ls at hl ⊢
  have hl : lv_has ls 4 [(0, .ref b)] := hl
  have hS0 : va_S (fun q : Nat => G.2.2.2 ≤ q) s.heap s.heap [] := va_S.rf
  have hP0 : va_P G.2.1 vwCl (pn_w G []) s.heap := fun k q h => by simp [pn_w] at h
  refine pl_new (ci := 9) (o := 0) (w := []) hx hb hown htw hK.1 rfl (pl_lw_at 0 rfl) (pl_lw_at 1 rfl) (pl_lw_at 2 rfl) pl_d0 (Nat.le_of_ble_eq_true rfl) (Nat.le_of_ble_eq_true rfl) hP0 rfl hG.symm hS0 (fun H1 hP hS hz => ?_)
  have hP : va_P G.2.1 vwCl (pn_w G [.inl (9, pn_fs 9)]) H1 := hP
  have hz : H1.size = G.2.2.2 + ([.inl (9, pn_fs 9)] : List pn_E).length := hz
  refine lv_dup hx hb pl_d3 rfl ?_
  refine pl_init (st := [.ref (G.2.2.2 + 0)]) hx hb hml hown htw hK (pl_lw_at 3 rfl) (pl_lw_at 5 rfl) (pl_lw_at 4 rfl) (pl_lw_at 2 rfl) rfl (by decide +kernel) ⟨Nat.le_of_ble_eq_true rfl, Nat.le_of_ble_eq_true rfl⟩ ⟨Nat.le_of_ble_eq_true rfl, Nat.le_of_ble_eq_true rfl⟩ (Nat.le_of_ble_eq_true rfl) hl.1 pl_d4 hP hz hS (pn_w10 r0) (fun H2 locs2 hP hS => ?_)
  refine lv_astore_n (lv' := [(1, .ref (G.2.2.2 + 0)), (0, .ref b)]) hx hb pl_d7 rfl hl (by decide) rfl (fun ls hl => ?_)
  refine W.widen (k := 205) (n := 4282) (Nat.le_of_ble_eq_true rfl) (Nat.le_of_ble_eq_true rfl) ?_
  refine pn_size (fun hz => ?_)
  have hH2 := pl_Hsz hG hP (by omega) l0.symm hz
  rw [l0] at hH2
  refine pl_new (ci := 10) (o := 205) (w := w) hx hb hown htw hK.1 rfl (pl_lw_at 6 rfl) (pl_lw_at 7 rfl) (pl_lw_at 8 rfl) pl_d8 (Nat.le_of_ble_eq_true rfl) (Nat.le_of_ble_eq_true rfl) hP l0 hH2 hS (fun H3 hP hS hz => ?_)
  refine lv_dup hx hb pl_d11 rfl ?_
  refine pl_init (st := [.ref (G.2.2.2 + 205)]) hx hb hml hown htw hK (pl_lw_at 9 rfl) (pl_lw_at 11 rfl) (pl_lw_at 10 rfl) (pl_lw_at 8 rfl) rfl (by decide +kernel) ⟨Nat.le_of_ble_eq_true rfl, Nat.le_of_ble_eq_true rfl⟩ ⟨Nat.le_of_ble_eq_true rfl, Nat.le_of_ble_eq_true rfl⟩ (Nat.le_of_ble_eq_true rfl) hl.1 pl_d12 hP (by rw [hz, List.length_append, l0]; rfl) hS (pn_w11 l0 r1 k1 k2 k3 (pl_lw_at 12 rfl)) (fun H4 locs4 hB hS => ?_)
  obtain ⟨μ, RC, RM, hP⟩ := hB
  refine lv_astore_n (lv' := [(2, .ref (G.2.2.2 + 205)), (1, .ref (G.2.2.2 + 0)), (0, .ref b)]) hx hb pl_d15 rfl hl (by decide) rfl (fun ls hl => ?_)
  refine lv_iconst hx hb pl_d16 rfl ?_
  refine lv_istore_n (lv' := [(3, .int (Int32.ofInt ((0 : Nat) : Int))), (2, .ref (G.2.2.2 + 205)), (1, .ref (G.2.2.2 + 0)), (0, .ref b)]) hx hb pl_d17 rfl hl (by decide) rfl (fun ls hl => ?_)
  refine W.widen (k := 221) (n := 9338) (Nat.le_of_ble_eq_true rfl) (Nat.le_of_ble_eq_true rfl) ?_
  exact pl_loop ⟨hx, hb, hr, hml, hown, htw, hX, hbl, hlocks, hK.1, hG⟩ hL (L + 6) 0 pa_A0 0 μ (by omega) (by omega) (by omega) pa_I0 RC RM H4 locs4 hP hS ls hl
