theorem n_and31 (x : Int32) : ∃ k, k < 32 ∧ x &&& nI 31 = nI k := by
  refine ⟨x.toBitVec.toNat &&& 31, ?_, ?_⟩
  · have : x.toBitVec.toNat &&& 31 ≤ 31 := Nat.and_le_right
    omega
  · apply n_eqv
    rw [Int32.toBitVec_and, BitVec.toNat_and, n_tn]
    have : x.toBitVec.toNat &&& 31 ≤ 31 := Nat.and_le_right
    rw [show 31 % 2 ^ 32 = 31 by decide]
    omega
set_option maxHeartbeats 4000000 in
set_option maxRecDepth 100000 in
theorem lw_loop {p : Program} {l : Launch} {e : Env} {s : State} {m : MethodId} {below : List Frame} {meth : Method} {c : Code} {b L : Nat} {xs : Nat → Int32} (C0 : lw_At p s m meth c b L xs) {g : gE} {ad ad' : Nat → Nat} (hI : g_inj ad 55) (hI2 : g_inj ad' 14) (hap : g_ap ad ad') (hold : ∀ i, i < 55 → s.heap.size ≤ ad i) (hold2 : ∀ i, i < 14 → s.heap.size ≤ ad' i) (hK : g_K g s) {cells slots : Nat} (hfit : cells ≤ 600000 ∧ slots ≤ 7302250) (hL : L ≤ 3072) : ∀ (d i : Nat) (M N : gMem) (J K : gMeL) (H : Heap) (locs : List Loc) (ls : Array Slot), L ≤ i + d → i ≤ L + 6 → RelA M N J K → g_P g ad dsX 55 M J H → g_P g ad' dsR 14 N K H → va_S (fun q => s.heap.size ≤ q) s.heap H locs → lv_has ls 4 [(3, .int (nI i)), (2, .ref (ad' 0)), (1, .ref (ad 0)), (0, .ref b)] → W p l e room_1 s m #[Value.ref b] below meth c H locs cells slots (lw_Z below #[Value.ref b] s) (F0 m 18 ls []) := by
  have C := C0
  obtain ⟨hx, hb, hr, hml, hown, hts, hX, hbl, hlocks, hgv⟩ := C0
  have hbA : ¬ (fun q : Nat => s.heap.size ≤ q) b := Nat.not_le.mpr hbl
  have hAl : ∀ w ∈ Al, w.before #[Value.ref b] s = true := fun w hw => hts w (Al_tbl hw)
  have CF : CallFix p m c code 4 s #[Value.ref b] (g_ws yX5_cut cX5_cut 5 (some .int)) R_law := ⟨hx, hb, hml, hown, fun w hw => (List.mem_cons.mp hw).elim (fun q => by rw [q]; exact hAl _ kw_X5_cut.1.1) (hAl w)⟩
  have hA1 : ∀ q, g_A ad 55 q → s.heap.size ≤ q := fun q ⟨i, hi, e⟩ => by rw [e]; exact hold i hi
  have hA2 : ∀ q, g_A ad' 14 q → s.heap.size ≤ q := fun q ⟨i, hi, e⟩ => by rw [e]; exact hold2 i hi
  have hno1 : ∀ i, i < 55 → ¬ g_A ad' 14 (ad i) := fun i hi ⟨j, hj, e⟩ => hap i j hi hj e
  have hno2 : ∀ j, j < 14 → ¬ g_A ad 55 (ad' j) := fun j hj ⟨i, hi, e⟩ => hap i j hi hj e.symm
  intro d
  induction d with
  | zero =>
    intro i M N J K H locs ls hd hi h hP hP2 hS hl
    refine lv_iload_n hx hb dL_law_18 rfl (lv_at hl 0 rfl) ?_
    refine lv_aload_n hx hb dL_law_19 rfl (lv_at hl 3 rfl) ?_
    refine va_slen hx hb hX hbl hbA hS dL_law_20 ?_
    refine lv_bipush (v := nI 6) hx hb dL_law_21 (by decide) ?_
    refine lv_isub hx hb dL_law_23 ?_
    refine x_zgt (u := ((i : Nat) : Int)) (v := ((L : Nat) : Int) - ((6 : Nat) : Int)) (tgt := 1238) hx hb (nI_toInt (by omega)) (z_sub (by omega) (by omega)) dL_law_24 (by decide) (fun h9 => ?_) (fun h9 => ?_)
    · refine lv_iconst (v := 1) hx hb dL_law_1238 (by decide) ?_
      refine va_forget (fun q hq => hS.2.2 q hq) ?_
      refine W.widen (k := 600000) (n := 7302250) hfit.1 hfit.2 ?_
      exact lw_ret hx hb hr hlocks dL_law_1239
    · exact absurd h9 (by omega)
  | succ d ih =>
    intro i M N J K H locs ls hd hi h hP hP2 hS hl
    refine lv_iload_n hx hb dL_law_18 rfl (lv_at hl 0 rfl) ?_
    refine lv_aload_n hx hb dL_law_19 rfl (lv_at hl 3 rfl) ?_
    refine va_slen hx hb hX hbl hbA hS dL_law_20 ?_
    refine lv_bipush (v := nI 6) hx hb dL_law_21 (by decide) ?_
    refine lv_isub hx hb dL_law_23 ?_
    refine x_zgt (u := ((i : Nat) : Int)) (v := ((L : Nat) : Int) - ((6 : Nat) : Int)) (tgt := 1238) hx hb (nI_toInt (by omega)) (z_sub (by omega) (by omega)) dL_law_24 (by decide) (fun h9 => ?_) (fun h9 => ?_)
    · refine lv_iconst (v := 1) hx hb dL_law_1238 (by decide) ?_
      refine va_forget (fun q hq => hS.2.2 q hq) ?_
      refine W.widen (k := 600000) (n := 7302250) hfit.1 hfit.2 ?_
      exact lw_ret hx hb hr hlocks dL_law_1239
    · refine lv_aload_n hx hb dL_law_27 rfl (lv_at hl 3 rfl) ?_
      refine lv_iload_n hx hb dL_law_28 rfl (lv_at hl 0 rfl) ?_
      refine va_sld hx hb hX hbl hbA hS (i := nI i) (vp_in_nI (by omega) (by omega)) dL_law_29 ?_
      rw [nI_clamp (by omega)]
      refine lv_bipush (v := nI 31) hx hb dL_law_30 (by decide) ?_
      refine lv_iand hx hb dL_law_32 ?_
      obtain ⟨k, hk, ek⟩ := n_and31 (xs i)
      refine x_ri ek ?_
      have kk : ∀ (M N : gMem) (J K : gMeL) (H : Heap) (locs : List Loc) (ls : Array Slot), RelA M N J K → g_P g ad dsX 55 M J H → g_P g ad' dsR 14 N K H → va_S (fun q => s.heap.size ≤ q) s.heap H locs → lv_has ls 4 [(3, .int (nI (i + 6))), (2, .ref (ad' 0)), (1, .ref (ad 0)), (0, .ref b)] → W p l e room_1 s m #[Value.ref b] below meth c H locs cells slots (lw_Z below #[Value.ref b] s) (F0 m 18 ls []) := fun M N J K H locs ls a1 a2 a3 a4 a5 => ih (i + 6) M N J K H locs ls (by omega) (by omega) a1 a2 a3 a4 a5
      rcases (show k = 0 ∨ k = 1 ∨ k = 2 ∨ k = 3 ∨ k = 4 ∨ k = 5 ∨ k = 6 ∨ k = 7 ∨ k = 8 ∨ k = 9 ∨ k = 10 ∨ k = 11 ∨ k = 12 ∨ k = 13 ∨ k = 14 ∨ k = 15 ∨ k = 16 ∨ k = 17 ∨ k = 18 ∨ k = 19 ∨ k = 20 ∨ k = 21 ∨ k = 22 ∨ k = 23 ∨ k = 24 ∨ k = 25 ∨ k = 26 ∨ k = 27 ∨ k = 28 ∨ k = 29 ∨ k = 30 ∨ k = 31 by omega) with rfl | rfl | rfl | rfl | rfl | rfl | rfl | rfl | rfl | rfl | rfl | rfl | rfl | rfl | rfl | rfl | rfl | rfl | rfl | rfl | rfl | rfl | rfl | rfl | rfl | rfl | rfl | rfl | rfl | rfl | rfl | rfl
      · refine lv_tableIn (tgt := 176) hx hb dL_law_33 (by decide) (by decide) (off := 143) (by rfl) (by decide) ?_
        exact lw_arm_0 C hI hI2 hap hold hold2 hK hfit i (by omega) hL M N J K h H locs ls hP hP2 hS hl kk
      · refine lv_tableIn (tgt := 239) hx hb dL_law_33 (by decide) (by decide) (off := 206) (by rfl) (by decide) ?_
        exact lw_arm_1 C hI hI2 hap hold hold2 hK hfit i (by omega) hL M N J K h H locs ls hP hP2 hS hl kk
      · refine lv_tableIn (tgt := 252) hx hb dL_law_33 (by decide) (by decide) (off := 219) (by rfl) (by decide) ?_
        exact lw_arm_2 C hI hI2 hap hold hold2 hK hfit i (by omega) hL M N J K h H locs ls hP hP2 hS hl kk
      · refine lv_tableIn (tgt := 295) hx hb dL_law_33 (by decide) (by decide) (off := 262) (by rfl) (by decide) ?_
        exact lw_arm_3 C hI hI2 hap hold hold2 hK hfit i (by omega) hL M N J K h H locs ls hP hP2 hS hl kk
      · refine lv_tableIn (tgt := 328) hx hb dL_law_33 (by decide) (by decide) (off := 295) (by rfl) (by decide) ?_
        exact lw_arm_4 C hI hI2 hap hold hold2 hK hfit i (by omega) hL M N J K h H locs ls hP hP2 hS hl kk
      · refine lv_tableIn (tgt := 381) hx hb dL_law_33 (by decide) (by decide) (off := 348) (by rfl) (by decide) ?_
        exact lw_arm_5 C hI hI2 hap hold hold2 hK hfit i (by omega) hL M N J K h H locs ls hP hP2 hS hl kk
      · refine lv_tableIn (tgt := 424) hx hb dL_law_33 (by decide) (by decide) (off := 391) (by rfl) (by decide) ?_
        exact lw_arm_6 C hI hI2 hap hold hold2 hK hfit i (by omega) hL M N J K h H locs ls hP hP2 hS hl kk
      · refine lv_tableIn (tgt := 447) hx hb dL_law_33 (by decide) (by decide) (off := 414) (by rfl) (by decide) ?_
        exact lw_arm_7 C hI hI2 hap hold hold2 hK hfit i (by omega) hL M N J K h H locs ls hP hP2 hS hl kk
      · refine lv_tableIn (tgt := 470) hx hb dL_law_33 (by decide) (by decide) (off := 437) (by rfl) (by decide) ?_
        exact lw_arm_8 C hI hI2 hap hold hold2 hK hfit i (by omega) hL M N J K h H locs ls hP hP2 hS hl kk
      · refine lv_tableIn (tgt := 493) hx hb dL_law_33 (by decide) (by decide) (off := 460) (by rfl) (by decide) ?_
        exact lw_arm_9 C hI hI2 hap hold hold2 hK hfit i (by omega) hL M N J K h H locs ls hP hP2 hS hl kk
      · refine lv_tableIn (tgt := 516) hx hb dL_law_33 (by decide) (by decide) (off := 483) (by rfl) (by decide) ?_
        exact lw_arm_10 C hI hI2 hap hold hold2 hK hfit i (by omega) hL M N J K h H locs ls hP hP2 hS hl kk
      · refine lv_tableIn (tgt := 549) hx hb dL_law_33 (by decide) (by decide) (off := 516) (by rfl) (by decide) ?_
        exact lw_arm_11 C hI hI2 hap hold hold2 hK hfit i (by omega) hL M N J K h H locs ls hP hP2 hS hl kk
      · refine lv_tableIn (tgt := 572) hx hb dL_law_33 (by decide) (by decide) (off := 539) (by rfl) (by decide) ?_
        exact lw_arm_12 C hI hI2 hap hold hold2 hK hfit i (by omega) hL M N J K h H locs ls hP hP2 hS hl kk
      · refine lv_tableIn (tgt := 595) hx hb dL_law_33 (by decide) (by decide) (off := 562) (by rfl) (by decide) ?_
        exact lw_arm_13 C hI hI2 hap hold hold2 hK hfit i (by omega) hL M N J K h H locs ls hP hP2 hS hl kk
      · refine lv_tableIn (tgt := 628) hx hb dL_law_33 (by decide) (by decide) (off := 595) (by rfl) (by decide) ?_
        exact lw_arm_14 C hI hI2 hap hold hold2 hK hfit i (by omega) hL M N J K h H locs ls hP hP2 hS hl kk
      · refine lv_tableIn (tgt := 651) hx hb dL_law_33 (by decide) (by decide) (off := 618) (by rfl) (by decide) ?_
        exact lw_arm_15 C hI hI2 hap hold hold2 hK hfit i (by omega) hL M N J K h H locs ls hP hP2 hS hl kk
      · refine lv_tableIn (tgt := 674) hx hb dL_law_33 (by decide) (by decide) (off := 641) (by rfl) (by decide) ?_
        exact lw_arm_16 C hI hI2 hap hold hold2 hK hfit i (by omega) hL M N J K h H locs ls hP hP2 hS hl kk
      · refine lv_tableIn (tgt := 687) hx hb dL_law_33 (by decide) (by decide) (off := 654) (by rfl) (by decide) ?_
        exact lw_arm_17 C hI hI2 hap hold hold2 hK hfit i (by omega) hL M N J K h H locs ls hP hP2 hS hl kk
      · refine lv_tableIn (tgt := 720) hx hb dL_law_33 (by decide) (by decide) (off := 687) (by rfl) (by decide) ?_
        exact lw_arm_18 C hI hI2 hap hold hold2 hK hfit i (by omega) hL M N J K h H locs ls hP hP2 hS hl kk
      · refine lv_tableIn (tgt := 753) hx hb dL_law_33 (by decide) (by decide) (off := 720) (by rfl) (by decide) ?_
        exact lw_arm_19 C hI hI2 hap hold hold2 hK hfit i (by omega) hL M N J K h H locs ls hP hP2 hS hl kk
      · refine lv_tableIn (tgt := 786) hx hb dL_law_33 (by decide) (by decide) (off := 753) (by rfl) (by decide) ?_
        exact lw_arm_20 C hI hI2 hap hold hold2 hK hfit i (by omega) hL M N J K h H locs ls hP hP2 hS hl kk
      · refine lv_tableIn (tgt := 809) hx hb dL_law_33 (by decide) (by decide) (off := 776) (by rfl) (by decide) ?_
        exact lw_arm_21 C hI hI2 hap hold hold2 hK hfit i (by omega) hL M N J K h H locs ls hP hP2 hS hl kk
      · refine lv_tableIn (tgt := 832) hx hb dL_law_33 (by decide) (by decide) (off := 799) (by rfl) (by decide) ?_
        exact lw_arm_22 C hI hI2 hap hold hold2 hK hfit i (by omega) hL M N J K h H locs ls hP hP2 hS hl kk
      · refine lv_tableIn (tgt := 865) hx hb dL_law_33 (by decide) (by decide) (off := 832) (by rfl) (by decide) ?_
        exact lw_arm_23 C hI hI2 hap hold hold2 hK hfit i (by omega) hL M N J K h H locs ls hP hP2 hS hl kk
      · refine lv_tableIn (tgt := 888) hx hb dL_law_33 (by decide) (by decide) (off := 855) (by rfl) (by decide) ?_
        exact lw_arm_24 C hI hI2 hap hold hold2 hK hfit i (by omega) hL M N J K h H locs ls hP hP2 hS hl kk
      · refine lv_tableIn (tgt := 901) hx hb dL_law_33 (by decide) (by decide) (off := 868) (by rfl) (by decide) ?_
        exact lw_arm_25 C hI hI2 hap hold hold2 hK hfit i (by omega) hL M N J K h H locs ls hP hP2 hS hl kk
      · refine lv_tableIn (tgt := 914) hx hb dL_law_33 (by decide) (by decide) (off := 881) (by rfl) (by decide) ?_
        exact lw_arm_26 C hI hI2 hap hold hold2 hK hfit i (by omega) hL M N J K h H locs ls hP hP2 hS hl kk
      · refine lv_tableIn (tgt := 967) hx hb dL_law_33 (by decide) (by decide) (off := 934) (by rfl) (by decide) ?_
        exact lw_arm_27 C hI hI2 hap hold hold2 hK hfit i (by omega) hL M N J K h H locs ls hP hP2 hS hl kk
      · refine lv_tableIn (tgt := 1020) hx hb dL_law_33 (by decide) (by decide) (off := 987) (by rfl) (by decide) ?_
        exact lw_arm_28 C hI hI2 hap hold hold2 hK hfit i (by omega) hL M N J K h H locs ls hP hP2 hS hl kk
      · refine lv_tableIn (tgt := 1063) hx hb dL_law_33 (by decide) (by decide) (off := 1030) (by rfl) (by decide) ?_
        exact lw_arm_29 C hI hI2 hap hold hold2 hK hfit i (by omega) hL M N J K h H locs ls hP hP2 hS hl kk
      · refine lv_tableIn (tgt := 1086) hx hb dL_law_33 (by decide) (by decide) (off := 1053) (by rfl) (by decide) ?_
        exact lw_arm_30 C hI hI2 hap hold hold2 hK hfit i (by omega) hL M N J K h H locs ls hP hP2 hS hl kk
      · refine lv_tableIn (tgt := 1169) hx hb dL_law_33 (by decide) (by decide) (off := 1136) (by rfl) (by decide) ?_
        exact lw_arm_31 C hI hI2 hap hold hold2 hK hfit i (by omega) hL M N J K h H locs ls hP hP2 hS hl kk
