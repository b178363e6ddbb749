/-! ===== the law's loop ===== -/
theorem pl_and31 (x : Int32) : 0 ≤ (x &&& 31).toInt ∧ (x &&& 31).toInt ≤ 31 := by
  have h1 : (x &&& 31).toBitVec.toNat ≤ 31 := by
    rw [Int32.toBitVec_and, BitVec.toNat_and]
    exact Nat.le_trans Nat.and_le_right (by decide)
  have h2 : (x &&& 31).toBitVec.toInt = ((x &&& 31).toBitVec.toNat : Int) := BitVec.toInt_eq_toNat_of_lt (by omega)
  have h3 : (x &&& 31).toInt = (x &&& 31).toBitVec.toInt := rfl
  omega
section PLL
variable {G : px_G} {p : Program} {e : Env} {s : State} {m : MethodId} {below : List Frame} {meth : Method} {c : Code} {b L : Nat} {xs : Nat → Int32}
theorem pl_switch {i : Nat} {A : pa_A} {k : Int} {μ : px_Mem} (C : pl_ctx G p s m meth c b L xs) (hL : L ≤ 2560) (hi : i + 5 ≤ L) (I : pa_I A) (RC : pa_C A k μ) (RM : pa_M A μ) (hk : k < 100000)
    (kk : ∀ (A1 : pa_A) (k1 : Int) (μ2 : px_Mem), k1 ≤ k + 1 → pa_I A1 → pa_C A1 k1 μ2 → pa_M A1 μ2 → pl_J G p e s m below meth c b 879 [] μ2 i) : pl_J G p e s m below meth c b 26 [] μ i := by
  have k1 : ∀ (A1 : pa_A) (μ2 : px_Mem), pa_I A1 → pa_C A1 (k + 1) μ2 → pa_M A1 μ2 → pl_J G p e s m below meth c b 879 [] μ2 i := fun A1 μ2 q1 q2 q3 => kk A1 (k + 1) μ2 (Int.le_refl _) q1 q2 q3
  intro H locs hP hS ls hl
  refine lv_aload_n C.1 C.2.1 pl_d26 rfl (lv_at hl 3 rfl) ?_
  refine lv_iload_n C.1 C.2.1 pl_d27 rfl (lv_at hl 0 rfl) ?_
  obtain ⟨h1, h2⟩ := px_ix_in (i := (i : Int)) (n := L) (by omega) (by omega) (by omega)
  refine va_sld C.1 C.2.1 C.2.2.2.2.2.2.1 C.2.2.2.2.2.2.2.1 (pl_bA C) hS h1 pl_d28 ?_
  refine lv_bipush (v := 31) C.1 C.2.1 pl_d29 (by decide) ?_
  refine lv_iand C.1 C.2.1 pl_d31 ?_
  refine lv_topi (fun y hy => ?_)
  have hb : 0 ≤ y.toInt ∧ y.toInt ≤ 31 := by
    rw [hy]
    exact pl_and31 _
  by_cases h22 : 22 < y.toInt
  · refine lv_tableOut (tgt := 879) C.1 C.2.1 pl_d32 (.inr h22) (by decide) ?_
    exact kk A k μ (by omega) I RC RM H locs hP hS ls hl
  · obtain ⟨j, hj⟩ : ∃ j : Nat, y.toInt = (j : Int) := ⟨y.toInt.toNat, by omega⟩
    rcases (show j = 0 ∨ j = 1 ∨ j = 2 ∨ j = 3 ∨ j = 4 ∨ j = 5 ∨ j = 6 ∨ j = 7 ∨ j = 8 ∨ j = 9 ∨ j = 10 ∨ j = 11 ∨ j = 12 ∨ j = 13 ∨ j = 14 ∨ j = 15 ∨ j = 16 ∨ j = 17 ∨ j = 18 ∨ j = 19 ∨ j = 20 ∨ j = 21 ∨ j = 22 by omega) with rfl | rfl | rfl | rfl | rfl | rfl | rfl | rfl | rfl | rfl | rfl | rfl | rfl | rfl | rfl | rfl | rfl | rfl | rfl | rfl | rfl | rfl | rfl
    · exact lv_tableIn (off := 108) (tgt := 140) C.1 C.2.1 pl_d32 (by omega) h22 (by rw [hj]; rfl) (by decide) (pl_go0 C hL hi I RC RM hk k1 H locs hP hS ls hl)
    · exact lv_tableIn (off := 121) (tgt := 153) C.1 C.2.1 pl_d32 (by omega) h22 (by rw [hj]; rfl) (by decide) (pl_go1 C hL hi I RC RM hk k1 H locs hP hS ls hl)
    · exact lv_tableIn (off := 144) (tgt := 176) C.1 C.2.1 pl_d32 (by omega) h22 (by rw [hj]; rfl) (by decide) (pl_go2 C hL hi I RC RM hk k1 H locs hP hS ls hl)
    · exact lv_tableIn (off := 197) (tgt := 229) C.1 C.2.1 pl_d32 (by omega) h22 (by rw [hj]; rfl) (by decide) (pl_go3 C hL hi I RC RM hk k1 H locs hP hS ls hl)
    · exact lv_tableIn (off := 230) (tgt := 262) C.1 C.2.1 pl_d32 (by omega) h22 (by rw [hj]; rfl) (by decide) (pl_go4 C hL hi I RC RM hk k1 H locs hP hS ls hl)
    · exact lv_tableIn (off := 263) (tgt := 295) C.1 C.2.1 pl_d32 (by omega) h22 (by rw [hj]; rfl) (by decide) (pl_go5 C hL hi I RC RM hk k1 H locs hP hS ls hl)
    · exact lv_tableIn (off := 296) (tgt := 328) C.1 C.2.1 pl_d32 (by omega) h22 (by rw [hj]; rfl) (by decide) (pl_go6 C hL hi I RC RM hk k1 H locs hP hS ls hl)
    · exact lv_tableIn (off := 329) (tgt := 361) C.1 C.2.1 pl_d32 (by omega) h22 (by rw [hj]; rfl) (by decide) (pl_go7 C hL hi I RC RM hk k1 H locs hP hS ls hl)
    · exact lv_tableIn (off := 342) (tgt := 374) C.1 C.2.1 pl_d32 (by omega) h22 (by rw [hj]; rfl) (by decide) (pl_go8 C hL hi I RC RM hk k1 H locs hP hS ls hl)
    · exact lv_tableIn (off := 365) (tgt := 397) C.1 C.2.1 pl_d32 (by omega) h22 (by rw [hj]; rfl) (by decide) (pl_go9 C hL hi I RC RM hk k1 H locs hP hS ls hl)
    · exact lv_tableIn (off := 398) (tgt := 430) C.1 C.2.1 pl_d32 (by omega) h22 (by rw [hj]; rfl) (by decide) (pl_go10 C hL hi I RC RM hk k1 H locs hP hS ls hl)
    · exact lv_tableIn (off := 431) (tgt := 463) C.1 C.2.1 pl_d32 (by omega) h22 (by rw [hj]; rfl) (by decide) (pl_go11 C hL hi I RC RM hk k1 H locs hP hS ls hl)
    · exact lv_tableIn (off := 474) (tgt := 506) C.1 C.2.1 pl_d32 (by omega) h22 (by rw [hj]; rfl) (by decide) (pl_go12 C hL hi I RC RM hk k1 H locs hP hS ls hl)
    · exact lv_tableIn (off := 517) (tgt := 549) C.1 C.2.1 pl_d32 (by omega) h22 (by rw [hj]; rfl) (by decide) (pl_go13 C hL hi I RC RM hk k1 H locs hP hS ls hl)
    · exact lv_tableIn (off := 570) (tgt := 602) C.1 C.2.1 pl_d32 (by omega) h22 (by rw [hj]; rfl) (by decide) (pl_go14 C hL hi I RC RM hk k1 H locs hP hS ls hl)
    · exact lv_tableIn (off := 613) (tgt := 645) C.1 C.2.1 pl_d32 (by omega) h22 (by rw [hj]; rfl) (by decide) (pl_go15 C hL hi I RC RM hk k1 H locs hP hS ls hl)
    · exact lv_tableIn (off := 646) (tgt := 678) C.1 C.2.1 pl_d32 (by omega) h22 (by rw [hj]; rfl) (by decide) (pl_go16 C hL hi I RC RM hk k1 H locs hP hS ls hl)
    · exact lv_tableIn (off := 669) (tgt := 701) C.1 C.2.1 pl_d32 (by omega) h22 (by rw [hj]; rfl) (by decide) (pl_go17 C hL hi I RC RM hk k1 H locs hP hS ls hl)
    · exact lv_tableIn (off := 702) (tgt := 734) C.1 C.2.1 pl_d32 (by omega) h22 (by rw [hj]; rfl) (by decide) (pl_go18 C hL hi I RC RM hk k1 H locs hP hS ls hl)
    · exact lv_tableIn (off := 735) (tgt := 767) C.1 C.2.1 pl_d32 (by omega) h22 (by rw [hj]; rfl) (by decide) (pl_go19 C hL hi I RC RM hk k1 H locs hP hS ls hl)
    · exact lv_tableIn (off := 768) (tgt := 800) C.1 C.2.1 pl_d32 (by omega) h22 (by rw [hj]; rfl) (by decide) (pl_go20 C hL hi I RC RM hk k1 H locs hP hS ls hl)
    · exact lv_tableIn (off := 801) (tgt := 833) C.1 C.2.1 pl_d32 (by omega) h22 (by rw [hj]; rfl) (by decide) (pl_go21 C hL hi I RC RM hk k1 H locs hP hS ls hl)
    · exact lv_tableIn (off := 824) (tgt := 856) C.1 C.2.1 pl_d32 (by omega) h22 (by rw [hj]; rfl) (by decide) (pl_go22 C hL hi I RC RM hk k1 H locs hP hS ls hl)
theorem pl_loop (C : pl_ctx G p s m meth c b L xs) (hL : L ≤ 2560) : ∀ (n i : Nat) (A : pa_A) (k : Int) (μ : px_Mem), i ≤ L + 5 → L + 6 ≤ i + n → k ≤ (i : Int) → pa_I A → pa_C A k μ → pa_M A μ → pl_J G p e s m below meth c b 18 [] μ i := by
  intro n
  induction n with
  | zero =>
    intro i A k μ h1 h2
    exact absurd h2 (by omega)
  | succ n ih =>
    intro i A k μ h1 h2 hk I RC RM H locs hP hS ls hl
    refine lv_iload_n C.1 C.2.1 pl_d18 rfl (lv_at hl 0 rfl) ?_
    refine lv_aload_n C.1 C.2.1 pl_d19 rfl (lv_at hl 3 rfl) ?_
    refine va_slen C.1 C.2.1 C.2.2.2.2.2.2.1 C.2.2.2.2.2.2.2.1 (pl_bA C) hS pl_d20 ?_
    refine lv_iconst C.1 C.2.1 pl_d21 rfl ?_
    refine lv_isub C.1 C.2.1 pl_d22 ?_
    rw [pl_on hL, ← Int32.ofInt_sub]
    refine lv_icmp_gt (tgt := 885) C.1 C.2.1 pl_d23 (by decide) (fun q => ?_) (fun q => ?_)
    · refine lv_iconst (v := 1) C.1 C.2.1 pl_d885 (by decide) ?_
      refine va_forget (fun r hr => ?_) ?_
      · have h3 : G.2.2.2 ≤ r.base := hS.2.2 r hr
        have h4 := C.2.2.2.2.2.2.2.2.2.2
        omega
      · refine W.widen (k := 600000) (n := 7302250) (Nat.le_of_ble_eq_true rfl) (Nat.le_of_ble_eq_true rfl) ?_
        exact lw_ret C.1 C.2.1 C.2.2.1 C.2.2.2.2.2.2.2.2.1 pl_d886
    · have hi : i + 5 ≤ L := by
        rw [Int32.lt_iff_toInt_lt, px_toInt (by omega) (by omega), px_toInt (by omega) (by omega)] at q
        omega
      refine pl_switch C hL hi I RC RM (by omega) (fun A1 k1 μ2 hk1 I1 RC1 RM1 => ?_) H locs hP hS ls hl
      intro H locs hP hS ls hl
      have e5 : Int32.ofInt (i : Int) + Int32.ofInt 5 = Int32.ofInt ((i + 5 : Nat) : Int) := by
        have e0 : ((i + 5 : Nat) : Int) = (i : Int) + 5 := by omega
        rw [e0]
        exact (Int32.ofInt_add _ _).symm
      refine lv_iinc (v := Int32.ofInt ((i + 5 : Nat) : Int)) (lv' := [(3, .int (Int32.ofInt ((i + 5 : Nat) : Int))), (2, .ref (G.2.2.2 + 205)), (1, .ref (G.2.2.2 + 0)), (0, .ref b)]) C.1 C.2.1 pl_d879 hl (k := 0) rfl e5 (by decide) rfl (fun ls hl => ?_)
      refine lv_goto (tgt := 18) C.1 C.2.1 pl_d882 (by decide) ?_
      exact ih (i + 5) A1 k1 μ2 (by omega) (by omega) (by omega) I1 RC1 RM1 H locs hP hS ls hl
end PLL
