/-! ===== the constructors: what their instructions link ===== -/
/-- new: of which class, by which entry; the class in vwCl; where its words stand in lw_tbl (classLink, instantiable, initialized) -/
def pn_NW : List ((String × Nat) × Nat × List Nat) := [((RX1, 9), 0, [108, 110, 68]), ((RX5, 9), 1, [168, 103, 67]), ((RX6, 9), 0, [235, 110, 68]), ((RX7, 7), 3, [189, 190, 71]), ((RX7, 16), 8, [213, 87, 66]), ((RX10, 9), 8, [86, 87, 66]), ((RX10, 16), 1, [102, 103, 67]), ((RX10, 23), 5, [162, 163, 69]), ((RX10, 38), 7, [182, 184, 70]), ((RX10, 49), 0, [227, 110, 68]), ((RX10, 56), 6, [229, 230, 72]), ((RX10, 63), 4, [254, 255, 73]), ((RX10, 70), 2, [276, 277, 74])]
def pn_nw (own : String) (idx : Nat) : Option Nat := (pn_NW.find? (fun e => e.1.1 == own && e.1.2 == idx)).map (fun e => e.2.1)
def pn_NWok (e : (String × Nat) × Nat × List Nat) : Bool := match vwCl[e.2.1]? with
  | some (C, _, N) => decide (lw_tbl[e.2.2.getD 0 0]? = some (.classLink e.1.1 e.1.2 C)) && decide (lw_tbl[e.2.2.getD 1 0]? = some (.instantiable C N)) && decide (lw_tbl[e.2.2.getD 2 0]? = some (.initialized C))
  | none => false
set_option maxRecDepth 100000 in
theorem pn_NW_ok : pn_NW.all pn_NWok = true := by decide +kernel
/-- anewarray: the array's kind, where its class link stands -/
def pn_AN : List ((String × Nat) × Nat × Nat) := [((RX1, 9), 22, 108), ((RX5, 9), 23, 168), ((RX10, 16), 23, 102), ((RX10, 38), 24, 182), ((RX10, 9), 25, 86)]
def pn_an (own : String) (idx : Nat) : Option Nat := (pn_AN.find? (fun e => e.1.1 == own && e.1.2 == idx)).map (fun e => e.2.1)
def pn_rk (k : Nat) : String := if k = 22 then RX0 else if k = 23 then RX1 else if k = 24 then RX7 else RX9
def pn_ek (k : Nat) : Nat := if k = 22 then 0 else if k = 23 then 1 else if k = 24 then 7 else 8
set_option maxRecDepth 100000 in
theorem pn_AN_ok : pn_AN.all (fun e => decide (lw_tbl[e.2.2]? = some (.classLink e.1.1 e.1.2 (pn_rk e.2.1))) && decide (22 ≤ e.2.1) && decide (e.2.1 ≤ 25)) = true := by decide +kernel
/-- Object's constructor -/
def pn_OI : List ((String × Nat) × Nat) := [((RX0, 3), 114), ((RX1, 3), 107), ((RX2, 1), 281), ((RX3, 1), 194), ((RX4, 3), 259), ((RX5, 3), 167), ((RX6, 3), 234), ((RX7, 1), 188), ((RX9, 3), 91), ((RX10, 3), 83), ((RX11, 1), 651)]
def pn_oi (own : String) (idx : Nat) : Bool := pn_OI.any (fun e => e.1.1 == own && e.1.2 == idx)
set_option maxRecDepth 100000 in
theorem pn_OI_ok : pn_OI.all (fun e => decide (lw_tbl[e.2]? = some (.methodLink e.1.1 e.1.2 objectInit))) = true := by decide +kernel
set_option maxRecDepth 100000 in
theorem pn_oi_words : lw_tbl[84]? = some (.instanceMethod objectInit) ∧ lw_tbl[85]? = some (.code objectInit ⟨#[0xb1]⟩ 1 none) := ⟨by decide +kernel, by decide +kernel⟩
/-- a constructor: its name, code, locals, height in calls, where it returns, its class in vwCl, the cells and slots that it makes; its words (link of a nest mate, code, instanceMethod, initialized) -/
abbrev pn_ME : Type := MethodName × ByteArray × Nat × Nat × Nat × Nat × Nat × Nat
def pn_MI : List ((String × Nat) × pn_ME × List Nat) := [((RX1, 24), (yX0_init, cX0_init, 1, 1, 36, 0, 4, 64), [111, 113, 112, 68]), ((RX5, 17), (yX1_init, cX1_init, 2, 2, 66, 1, 13, 144), [170, 106, 105, 67]), ((RX6, 11), (yX0_init, cX0_init, 1, 1, 36, 0, 4, 64), [236, 113, 112, 68]), ((RX7, 9), (yX3_init, cX3_init, 1, 1, 4, 3, 0, 0), [191, 193, 192, 71]), ((RX7, 18), (yX9_init, cX9_init, 1, 1, 12, 8, 1, 28), [214, 90, 89, 66]), ((RX10, 11), (yX9_init, cX9_init, 1, 1, 12, 8, 1, 28), [88, 90, 89, 66]), ((RX10, 18), (yX1_init, cX1_init, 2, 2, 66, 1, 13, 144), [104, 106, 105, 67]), ((RX10, 25), (yX5_init, cX5_init, 2, 3, 40, 5, 113, 1184), [164, 166, 165, 69]), ((RX10, 44), (yX7_init, cX7_init, 1, 2, 26, 7, 3, 34), [185, 187, 186, 70]), ((RX10, 51), (yX0_init, cX0_init, 1, 1, 36, 0, 4, 64), [228, 113, 112, 68]), ((RX10, 58), (yX6_init, cX6_init, 1, 2, 34, 6, 11, 154), [231, 233, 232, 72]), ((RX10, 65), (yX4_init, cX4_init, 1, 1, 31, 4, 3, 2160), [256, 258, 257, 73]), ((RX10, 72), (yX2_init, cX2_init, 1, 1, 9, 2, 0, 0), [278, 280, 279, 74])]
def pn_md (own : String) (idx : Nat) : Option pn_ME := (pn_MI.find? (fun e => e.1.1 == own && e.1.2 == idx)).map (fun e => e.2.1)
def pn_MIok (e : (String × Nat) × pn_ME × List Nat) : Bool :=
  decide (lw_tbl[e.2.2.getD 0 0]? = some (.methodLinkNest e.1.1 e.1.2 e.2.1.1 "PatchHouse")) && decide (lw_tbl[e.2.2.getD 1 0]? = some (.code e.2.1.1 e.2.1.2.1 e.2.1.2.2.1 none)) && decide (lw_tbl[e.2.2.getD 2 0]? = some (.instanceMethod e.2.1.1)) && decide (lw_tbl[e.2.2.getD 3 0]? = some (.initialized e.2.1.1.cls)) &&
  decide ((parseMethodDescriptor e.2.1.1.desc).map (fun d => d.parameters.length) = some 0) && decide (e.2.1.1.cls ≠ "java/lang/invoke/MethodHandle") && decide (e.2.1.1.cls ≠ "java/lang/invoke/VarHandle") && decide (1 ≤ e.2.1.2.2.1) && decide (e.2.1.2.2.1 ≤ 18) && decide (e.2.1.1.name = "<init>") && plainName e.2.1.1.cls && goodWord (.code e.2.1.1 e.2.1.2.1 e.2.1.2.2.1 none) && decide (decode e.2.1.2.1 e.2.1.2.2.2.2.1 = .ok (.return_, 1))
set_option maxRecDepth 100000 in
theorem pn_MI_ok : pn_MI.all pn_MIok = true := by decide +kernel
/-- a field of the class itself -/
def pn_fd (own : String) (idx : Nat) : Option (Nat × Nat) := (px_F.find? (fun e => e.1 == own && e.2.1 == idx && !e.2.2.2.2.1)).map (fun e => (e.2.2.1, e.2.2.2.1))
