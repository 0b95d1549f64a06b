set_option maxHeartbeats 4000000 in
set_option maxRecDepth 100000 in
theorem c_isCam_t {l : Launch} {g : gE} {ad : Nat → Nat} (hI : g_inj ad 55) (M : gMem) (J : gMeL) (c : Nat) (h : c < M 23 1) (h2 : M 23 1 ≤ 6) : CI l g ad dsX 55 yX5_isCam cX5_isCam 2 (some .boolean) 1 [.ref (ad 0), .int (nI c)] M J (nI 1) M J := by
  refine CI.of (plainFor_of_name (by decide)) (Nat.le_of_ble_eq_true rfl) (fun p9 e9 s9 m9 args9 below9 meth9 c9 CF hK hr9 hlk9 hP hS ls hl => ?_)
  have hx := CF.1
  have hb := CF.2.1
  have hA : ∀ q, g_A ad 55 q → g_A ad 55 q := fun _ h => h
  have hl : lv_has ls 2 [(0, .ref (ad 0)), (1, .int (nI c))] := hl
  refine lv_iload_n hx hb dX5_isCam_0 rfl (lv_at hl 1 rfl) ?_
  refine lv_iconst (v := nI 0) hx hb dX5_isCam_1 (by decide) ?_
  refine lv_aload_n hx hb dX5_isCam_2 rfl (lv_at hl 0 rfl) ?_
  refine x_getr CF hK hP 0 (by decide) dX_0 rfl uX5 0 (by decide) (j := 23) rfl wd1_164 rfl dX5_isCam_3 ?_
  refine x_geti CF hK hP 23 (by decide) dX_23 rfl uX1 1 (by decide) rfl wd1_70 rfl dX5_isCam_6 ?_
  refine lv_iconst (v := nI 1) hx hb dX5_isCam_9 (by decide) ?_
  refine x_isub hx hb (by omega) dX5_isCam_10 ?_
  refine x_callSP CF hK hP hS hl (As := [.int (nI c), .int (nI 0), .int (nI ((M 23 1) - 1))]) (rest := []) (c_isWithin_t _ _ _ (w_in (by omega) (by omega) (by omega))) kw_X5_isWithin wd1_190 rfl ⟨Nat.le_of_ble_eq_true rfl, Nat.le_of_ble_eq_true rfl⟩ ⟨Nat.le_refl _, Nat.le_refl _⟩ (Nat.le_of_ble_eq_true rfl) dX5_isCam_11 (fun H locs hP hS => ?_)
  exact x_retz hx hb hr9 hlk9 hS hP (by first | rfl | (show nI 1 = nI 1; first | rfl | omega)) (rfl) dX5_isCam_14
set_option maxHeartbeats 4000000 in
set_option maxRecDepth 100000 in
theorem c_isCam_f {l : Launch} {g : gE} {ad : Nat → Nat} (hI : g_inj ad 55) (M : gMem) (J : gMeL) (v : Int32) (h : v.toInt < 0 ∨ ((M 23 1 : Nat) : Int) ≤ v.toInt) (h2 : M 23 1 ≤ 6) : CI l g ad dsX 55 yX5_isCam cX5_isCam 2 (some .boolean) 1 [.ref (ad 0), .int v] M J (nI 0) M J := by
  refine CI.of (plainFor_of_name (by decide)) (Nat.le_of_ble_eq_true rfl) (fun p9 e9 s9 m9 args9 below9 meth9 c9 CF hK hr9 hlk9 hP hS ls hl => ?_)
  have hx := CF.1
  have hb := CF.2.1
  have hA : ∀ q, g_A ad 55 q → g_A ad 55 q := fun _ h => h
  have hl : lv_has ls 2 [(0, .ref (ad 0)), (1, .int v)] := hl
  refine lv_iload_n hx hb dX5_isCam_0 rfl (lv_at hl 1 rfl) ?_
  refine lv_iconst (v := nI 0) hx hb dX5_isCam_1 (by decide) ?_
  refine lv_aload_n hx hb dX5_isCam_2 rfl (lv_at hl 0 rfl) ?_
  refine x_getr CF hK hP 0 (by decide) dX_0 rfl uX5 0 (by decide) (j := 23) rfl wd1_164 rfl dX5_isCam_3 ?_
  refine x_geti CF hK hP 23 (by decide) dX_23 rfl uX1 1 (by decide) rfl wd1_70 rfl dX5_isCam_6 ?_
  refine lv_iconst (v := nI 1) hx hb dX5_isCam_9 (by decide) ?_
  refine lv_isub hx hb dX5_isCam_10 ?_
  refine x_callSP CF hK hP hS hl (As := [.int v, .int (nI 0), .int (nI (M 23 1) - nI 1)]) (rest := []) (c_isWithin_f _ _ _ (by rw [z_sub (by omega) (by omega), tz (by omega)]; omega)) kw_X5_isWithin wd1_190 rfl ⟨Nat.le_of_ble_eq_true rfl, Nat.le_of_ble_eq_true rfl⟩ ⟨Nat.le_refl _, Nat.le_refl _⟩ (Nat.le_of_ble_eq_true rfl) dX5_isCam_11 (fun H locs hP hS => ?_)
  exact x_retz hx hb hr9 hlk9 hS hP (by first | rfl | (show nI 0 = nI 0; first | rfl | omega)) (rfl) dX5_isCam_14
set_option maxHeartbeats 4000000 in
set_option maxRecDepth 100000 in
theorem c_isFigure_t {l : Launch} {g : gE} {ad : Nat → Nat} (hI : g_inj ad 55) (M : gMem) (J : gMeL) (c : Nat) (h : c < M 23 3) (h2 : M 23 3 ≤ 5) : CI l g ad dsX 55 yX5_isFigure cX5_isFigure 2 (some .boolean) 1 [.ref (ad 0), .int (nI c)] M J (nI 1) M J := by
  refine CI.of (plainFor_of_name (by decide)) (Nat.le_of_ble_eq_true rfl) (fun p9 e9 s9 m9 args9 below9 meth9 c9 CF hK hr9 hlk9 hP hS ls hl => ?_)
  have hx := CF.1
  have hb := CF.2.1
  have hA : ∀ q, g_A ad 55 q → g_A ad 55 q := fun _ h => h
  have hl : lv_has ls 2 [(0, .ref (ad 0)), (1, .int (nI c))] := hl
  refine lv_iload_n hx hb dX5_isFigure_0 rfl (lv_at hl 1 rfl) ?_
  refine lv_iconst (v := nI 0) hx hb dX5_isFigure_1 (by decide) ?_
  refine lv_aload_n hx hb dX5_isFigure_2 rfl (lv_at hl 0 rfl) ?_
  refine x_getr CF hK hP 0 (by decide) dX_0 rfl uX5 0 (by decide) (j := 23) rfl wd1_164 rfl dX5_isFigure_3 ?_
  refine x_geti CF hK hP 23 (by decide) dX_23 rfl uX1 3 (by decide) rfl wd1_74 rfl dX5_isFigure_6 ?_
  refine lv_iconst (v := nI 1) hx hb dX5_isFigure_9 (by decide) ?_
  refine x_isub hx hb (by omega) dX5_isFigure_10 ?_
  refine x_callSP CF hK hP hS hl (As := [.int (nI c), .int (nI 0), .int (nI ((M 23 3) - 1))]) (rest := []) (c_isWithin_t _ _ _ (w_in (by omega) (by omega) (by omega))) kw_X5_isWithin wd1_190 rfl ⟨Nat.le_of_ble_eq_true rfl, Nat.le_of_ble_eq_true rfl⟩ ⟨Nat.le_refl _, Nat.le_refl _⟩ (Nat.le_of_ble_eq_true rfl) dX5_isFigure_11 (fun H locs hP hS => ?_)
  exact x_retz hx hb hr9 hlk9 hS hP (by first | rfl | (show nI 1 = nI 1; first | rfl | omega)) (rfl) dX5_isFigure_14
set_option maxHeartbeats 4000000 in
set_option maxRecDepth 100000 in
theorem c_isFigure_f {l : Launch} {g : gE} {ad : Nat → Nat} (hI : g_inj ad 55) (M : gMem) (J : gMeL) (v : Int32) (h : v.toInt < 0 ∨ ((M 23 3 : Nat) : Int) ≤ v.toInt) (h2 : M 23 3 ≤ 5) : CI l g ad dsX 55 yX5_isFigure cX5_isFigure 2 (some .boolean) 1 [.ref (ad 0), .int v] M J (nI 0) M J := by
  refine CI.of (plainFor_of_name (by decide)) (Nat.le_of_ble_eq_true rfl) (fun p9 e9 s9 m9 args9 below9 meth9 c9 CF hK hr9 hlk9 hP hS ls hl => ?_)
  have hx := CF.1
  have hb := CF.2.1
  have hA : ∀ q, g_A ad 55 q → g_A ad 55 q := fun _ h => h
  have hl : lv_has ls 2 [(0, .ref (ad 0)), (1, .int v)] := hl
  refine lv_iload_n hx hb dX5_isFigure_0 rfl (lv_at hl 1 rfl) ?_
  refine lv_iconst (v := nI 0) hx hb dX5_isFigure_1 (by decide) ?_
  refine lv_aload_n hx hb dX5_isFigure_2 rfl (lv_at hl 0 rfl) ?_
  refine x_getr CF hK hP 0 (by decide) dX_0 rfl uX5 0 (by decide) (j := 23) rfl wd1_164 rfl dX5_isFigure_3 ?_
  refine x_geti CF hK hP 23 (by decide) dX_23 rfl uX1 3 (by decide) rfl wd1_74 rfl dX5_isFigure_6 ?_
  refine lv_iconst (v := nI 1) hx hb dX5_isFigure_9 (by decide) ?_
  refine lv_isub hx hb dX5_isFigure_10 ?_
  refine x_callSP CF hK hP hS hl (As := [.int v, .int (nI 0), .int (nI (M 23 3) - nI 1)]) (rest := []) (c_isWithin_f _ _ _ (by rw [z_sub (by omega) (by omega), tz (by omega)]; omega)) kw_X5_isWithin wd1_190 rfl ⟨Nat.le_of_ble_eq_true rfl, Nat.le_of_ble_eq_true rfl⟩ ⟨Nat.le_refl _, Nat.le_refl _⟩ (Nat.le_of_ble_eq_true rfl) dX5_isFigure_11 (fun H locs hP hS => ?_)
  exact x_retz hx hb hr9 hlk9 hS hP (by first | rfl | (show nI 0 = nI 0; first | rfl | omega)) (rfl) dX5_isFigure_14
set_option maxHeartbeats 4000000 in
set_option maxRecDepth 100000 in
theorem c_lagsOf {l : Launch} {g : gE} {ad : Nat → Nat} (hI : g_inj ad 55) (M : gMem) (J : gMeL) (i j : Nat) (hi9 : i < 5) (hj9 : j < 5) (hu : ∀ k, k < 5 → M (32 + k) 4 < 4096 ∧ M (32 + k) 5 < 4096) : CI l g ad dsX 55 yX2_lagsOf cX2_lagsOf 6 (some .int) 4 [.ref (ad (32 + i)), .ref (ad (32 + j))] M J (nI (lgX M i j)) M J := by
  refine CI.of (plainFor_of_name (by decide)) (Nat.le_of_ble_eq_true rfl) (fun p9 e9 s9 m9 args9 below9 meth9 c9 CF hK hr9 hlk9 hP hS ls hl => ?_)
  have hx := CF.1
  have hb := CF.2.1
  have hA : ∀ q, g_A ad 55 q → g_A ad 55 q := fun _ h => h
  have hl : lv_has ls 6 [(0, .ref (ad (32 + i))), (1, .ref (ad (32 + j)))] := hl
  have h1 := hu i hi9
  have h2 := hu j hj9
  refine lv_iconst (v := nI 0) hx hb dX2_lagsOf_0 (by decide) ?_
  refine lv_istore_n (lv' := [(2, .int (nI 0)), (0, .ref (ad (32 + i))), (1, .ref (ad (32 + j)))]) hx hb dX2_lagsOf_1 rfl hl (by decide) rfl (fun ls hl => ?_)
  refine lv_iconst (v := nI 0) hx hb dX2_lagsOf_2 (by decide) ?_
  refine lv_istore_n (lv' := [(3, .int (nI 0)), (2, .int (nI 0)), (0, .ref (ad (32 + i))), (1, .ref (ad (32 + j)))]) hx hb dX2_lagsOf_3 rfl hl (by decide) rfl (fun ls hl => ?_)
  have L4 : ∀ (d4 : Nat) (x : Nat), (x + d4 = 12) → (∀ (H : Heap) (locs : List Loc) (ls : Array Slot), g_P g ad dsX 55 M J H → va_S (g_A ad 55) s9.heap H locs → lv_has ls 6 [(3, .int (nI x)), (2, .int (nI (setN (fun q => decide (lgO (M (32 + i) 4) (M (32 + i) 5) (M (32 + j) 4) (M (32 + j) 5) q = 0)) x))), (0, .ref (ad (32 + i))), (1, .ref (ad (32 + j)))] → W p9 l e9 (g_rm 4) s9 m9 args9 below9 meth9 c9 H locs 0 0 (MQ below9 (va_Qi (fun r' (_ : Unit) => r' = (nI (lgX M i j))) (fun _ t => g_P g ad dsX 55 M J t.heap) (g_A ad 55)) args9 s9 0 0 (g_A ad 55)) (F0 m9 4 ls [])) := by
    intro d4
    induction d4 with
    | zero =>
      intro x h_x H locs ls hP hS hl
      refine lv_iload_n hx hb dX2_lagsOf_4 rfl (lv_at hl 0 rfl) ?_
      refine lv_bipush (v := nI 12) hx hb dX2_lagsOf_5 (by decide) ?_
      refine x_zge (u := (x : Nat)) (v := (12 : Int)) (tgt := 60) hx hb (nI_toInt (by omega)) (rfl) dX2_lagsOf_7 (by decide) (fun h_1 => ?_) (fun h_1 => (by omega : False).elim)
      refine lv_iload_n hx hb dX2_lagsOf_60 rfl (lv_at hl 1 rfl) ?_
      exact x_reti hx hb hr9 hlk9 hS hP (by rw [show x = 12 by omega]; rfl) dX2_lagsOf_61
    | succ d4 ih4 =>
      intro x h_x H locs ls hP hS hl
      have b1 : lgO (M (32 + i) 4) (M (32 + i) 5) (M (32 + j) 4) (M (32 + j) 5) x < 4096 := or_lt (and_lt _ h1.1) (and_lt _ h1.2)
      refine lv_iload_n hx hb dX2_lagsOf_4 rfl (lv_at hl 0 rfl) ?_
      refine lv_bipush (v := nI 12) hx hb dX2_lagsOf_5 (by decide) ?_
      refine x_zge (u := (x : Nat)) (v := (12 : Int)) (tgt := 60) hx hb (nI_toInt (by omega)) (rfl) dX2_lagsOf_7 (by decide) (fun h_2 => (by omega : False).elim) (fun h_2 => ?_)
      refine lv_aload_n hx hb dX2_lagsOf_10 rfl (lv_at hl 3 rfl) ?_
      refine x_geti CF hK hP (32 + j) (by omega) (dX_fig j (by omega)) rfl uX0 4 (by decide) rfl wd1_44 rfl dX2_lagsOf_11 ?_
      refine lv_iload_n hx hb dX2_lagsOf_14 rfl (lv_at hl 0 rfl) ?_
      refine x_callNP CF hK hP hS hl (As := [.int (nI (M (32 + j) 4)), .int (nI x)]) (rest := []) (c_movedOn_n (M (32 + j) 4) x (by omega) (by omega)) kw_X5_movedOn hK.2.2.2.1 rfl ⟨Nat.le_of_ble_eq_true rfl, Nat.le_of_ble_eq_true rfl⟩ ⟨Nat.le_refl _, Nat.le_refl _⟩ (Nat.le_of_ble_eq_true rfl) dX2_lagsOf_15 (fun H locs hP hS => ?_)
      refine lv_istore (lv' := [(4, .int (nI (rot (M (32 + j) 4) x))), (3, .int (nI x)), (2, .int (nI (setN (fun q => decide (lgO (M (32 + i) 4) (M (32 + i) 5) (M (32 + j) 4) (M (32 + j) 5) q = 0)) x))), (0, .ref (ad (32 + i))), (1, .ref (ad (32 + j)))]) hx hb dX2_lagsOf_18 hl (by decide) rfl (fun ls hl => ?_)
      refine lv_aload_n hx hb dX2_lagsOf_20 rfl (lv_at hl 4 rfl) ?_
      refine x_geti CF hK hP (32 + j) (by omega) (dX_fig j (by omega)) rfl uX0 5 (by decide) rfl wd1_47 rfl dX2_lagsOf_21 ?_
      refine lv_iload_n hx hb dX2_lagsOf_24 rfl (lv_at hl 1 rfl) ?_
      refine x_callNP CF hK hP hS hl (As := [.int (nI (M (32 + j) 5)), .int (nI x)]) (rest := []) (c_movedOn_n (M (32 + j) 5) x (by omega) (by omega)) kw_X5_movedOn hK.2.2.2.1 rfl ⟨Nat.le_of_ble_eq_true rfl, Nat.le_of_ble_eq_true rfl⟩ ⟨Nat.le_refl _, Nat.le_refl _⟩ (Nat.le_of_ble_eq_true rfl) dX2_lagsOf_25 (fun H locs hP hS => ?_)
      refine lv_istore (lv' := [(5, .int (nI (rot (M (32 + j) 5) x))), (4, .int (nI (rot (M (32 + j) 4) x))), (3, .int (nI x)), (2, .int (nI (setN (fun q => decide (lgO (M (32 + i) 4) (M (32 + i) 5) (M (32 + j) 4) (M (32 + j) 5) q = 0)) x))), (0, .ref (ad (32 + i))), (1, .ref (ad (32 + j)))]) hx hb dX2_lagsOf_28 hl (by decide) rfl (fun ls hl => ?_)
      refine lv_aload_n hx hb dX2_lagsOf_30 rfl (lv_at hl 4 rfl) ?_
      refine x_geti CF hK hP (32 + i) (by omega) (dX_fig i (by omega)) rfl uX0 4 (by decide) rfl wd1_44 rfl dX2_lagsOf_31 ?_
      refine lv_iload hx hb dX2_lagsOf_34 (lv_at hl 0 rfl) ?_
      refine x_iand hx hb dX2_lagsOf_36 ?_
      refine lv_aload_n hx hb dX2_lagsOf_37 rfl (lv_at hl 4 rfl) ?_
      refine x_geti CF hK hP (32 + i) (by omega) (dX_fig i (by omega)) rfl uX0 5 (by decide) rfl wd1_47 rfl dX2_lagsOf_38 ?_
      refine lv_iload hx hb dX2_lagsOf_41 (lv_at hl 1 rfl) ?_
      refine x_iand hx hb dX2_lagsOf_43 ?_
      refine x_ior hx hb dX2_lagsOf_44 ?_
      refine x_ri (show (nI (((M (32 + i) 4) &&& (rot (M (32 + j) 5) x)) ||| ((M (32 + i) 5) &&& (rot (M (32 + j) 4) x)))) = nI (lgO (M (32 + i) 4) (M (32 + i) 5) (M (32 + j) 4) (M (32 + j) 5) x) from rfl) ?_
      refine x_yne (u := (lgO (M (32 + i) 4) (M (32 + i) 5) (M (32 + j) 4) (M (32 + j) 5) x : Nat)) (tgt := 54) hx hb (nI_toInt (by omega)) dX2_lagsOf_45 (by decide) (fun h_3 => ?_) (fun h_3 => ?_)
      · refine lv_iinc (v := nI (x + 1)) (lv' := [(3, .int (nI (x + 1))), (5, .int (nI (rot (M (32 + j) 5) x))), (4, .int (nI (rot (M (32 + j) 4) x))), (2, .int (nI (setN (fun q => decide (lgO (M (32 + i) 4) (M (32 + i) 5) (M (32 + j) 4) (M (32 + j) 5) q = 0)) x))), (0, .ref (ad (32 + i))), (1, .ref (ad (32 + j)))]) hx hb dX2_lagsOf_54 hl (k := 2) rfl (n_inc x 1) (by decide) rfl (fun ls hl => ?_)
        refine lv_goto (tgt := 4) hx hb dX2_lagsOf_57 (by decide) ?_
        have hl0 : lv_has ls 6 [(3, .int (nI (x + 1))), (2, .int (nI (setN (fun q => decide (lgO (M (32 + i) 4) (M (32 + i) 5) (M (32 + j) 4) (M (32 + j) 5) q = 0)) (x + 1)))), (0, .ref (ad (32 + i))), (1, .ref (ad (32 + j)))] := by rw [(show nI (setN (fun q => decide (lgO (M (32 + i) 4) (M (32 + i) 5) (M (32 + j) 4) (M (32 + j) 5) q = 0)) (x + 1)) = nI (setN (fun q => decide (lgO (M (32 + i) 4) (M (32 + i) 5) (M (32 + j) 4) (M (32 + j) 5) q = 0)) x) from by first | rfl | (congr 1; omega) | (refine congrArg nI ?_; first | rfl | (exact (setN_t (decide_eq_true (by omega)))) | (exact (setN_f (decide_eq_false (by omega)))) | (rw [Nat.or_zero]; exact (setN_f (decide_eq_false (by omega))))))]; exact lv_sub hl [0, 3, 4, 5] rfl
        exact ih4 (x + 1) (by omega) _ _ _ (hP) hS hl0
      · refine lv_iload_n hx hb dX2_lagsOf_48 rfl (lv_at hl 3 rfl) ?_
        refine lv_iconst (v := nI 1) hx hb dX2_lagsOf_49 (by decide) ?_
        refine lv_iload_n hx hb dX2_lagsOf_50 rfl (lv_at hl 2 rfl) ?_
        refine x_ishl hx hb (by omega) dX2_lagsOf_51 ?_
        refine x_ior hx hb dX2_lagsOf_52 ?_
        refine lv_istore_n (lv' := [(2, .int (nI ((setN (fun q => decide (lgO (M (32 + i) 4) (M (32 + i) 5) (M (32 + j) 4) (M (32 + j) 5) q = 0)) x) ||| (1 <<< x)))), (5, .int (nI (rot (M (32 + j) 5) x))), (4, .int (nI (rot (M (32 + j) 4) x))), (3, .int (nI x)), (0, .ref (ad (32 + i))), (1, .ref (ad (32 + j)))]) hx hb dX2_lagsOf_53 rfl hl (by decide) rfl (fun ls hl => ?_)
        refine lv_iinc (v := nI (x + 1)) (lv' := [(3, .int (nI (x + 1))), (2, .int (nI ((setN (fun q => decide (lgO (M (32 + i) 4) (M (32 + i) 5) (M (32 + j) 4) (M (32 + j) 5) q = 0)) x) ||| (1 <<< x)))), (5, .int (nI (rot (M (32 + j) 5) x))), (4, .int (nI (rot (M (32 + j) 4) x))), (0, .ref (ad (32 + i))), (1, .ref (ad (32 + j)))]) hx hb dX2_lagsOf_54 hl (k := 3) rfl (n_inc x 1) (by decide) rfl (fun ls hl => ?_)
        refine lv_goto (tgt := 4) hx hb dX2_lagsOf_57 (by decide) ?_
        have hl0 : lv_has ls 6 [(3, .int (nI (x + 1))), (2, .int (nI (setN (fun q => decide (lgO (M (32 + i) 4) (M (32 + i) 5) (M (32 + j) 4) (M (32 + j) 5) q = 0)) (x + 1)))), (0, .ref (ad (32 + i))), (1, .ref (ad (32 + j)))] := by rw [(show nI (setN (fun q => decide (lgO (M (32 + i) 4) (M (32 + i) 5) (M (32 + j) 4) (M (32 + j) 5) q = 0)) (x + 1)) = nI ((setN (fun q => decide (lgO (M (32 + i) 4) (M (32 + i) 5) (M (32 + j) 4) (M (32 + j) 5) q = 0)) x) ||| (1 <<< x)) from by first | rfl | (congr 1; omega) | (refine congrArg nI ?_; first | rfl | (exact (setN_t (decide_eq_true (by omega)))) | (exact (setN_f (decide_eq_false (by omega)))) | (rw [Nat.or_zero]; exact (setN_f (decide_eq_false (by omega))))))]; exact lv_sub hl [0, 1, 4, 5] rfl
        exact ih4 (x + 1) (by omega) _ _ _ (hP) hS hl0
  have hl0 : lv_has ls 6 [(3, .int (nI 0)), (2, .int (nI (setN (fun q => decide (lgO (M (32 + i) 4) (M (32 + i) 5) (M (32 + j) 4) (M (32 + j) 5) q = 0)) 0))), (0, .ref (ad (32 + i))), (1, .ref (ad (32 + j)))] := by rw [(show nI (setN (fun q => decide (lgO (M (32 + i) 4) (M (32 + i) 5) (M (32 + j) 4) (M (32 + j) 5) q = 0)) 0) = nI 0 from rfl)]; exact lv_sub hl [0, 1, 2, 3] rfl
  exact L4 12 0 (by omega) _ _ _ (hP) hS hl0
set_option maxHeartbeats 4000000 in
set_option maxRecDepth 100000 in
theorem c_compare {l : Launch} {g : gE} {ad : Nat → Nat} (hI : g_inj ad 55) (M : gMem) (J : gMeL) (n : Nat) (hn : n ≤ 5) (hu : ∀ k, k < 5 → M (32 + k) 4 < 4096 ∧ M (32 + k) 5 < 4096) : CV l g ad dsX 55 yX2_compare cX2_compare 5 5 [.ref (ad 13), .ref (ad 31), .int (nI n)] M J (cmpM M n) J := by
  refine CV.of (plainFor_of_name (by decide)) (Nat.le_of_ble_eq_true rfl) (fun p9 e9 s9 m9 args9 below9 meth9 c9 CF hK hr9 hlk9 hP hS ls hl => ?_)
  have hx := CF.1
  have hb := CF.2.1
  have hA : ∀ q, g_A ad 55 q → g_A ad 55 q := fun _ h => h
  have hl : lv_has ls 5 [(0, .ref (ad 13)), (1, .ref (ad 31)), (2, .int (nI n))] := hl
  refine lv_iconst (v := nI 0) hx hb dX2_compare_0 (by decide) ?_
  refine lv_istore_n (lv' := [(3, .int (nI 0)), (0, .ref (ad 13)), (1, .ref (ad 31)), (2, .int (nI n))]) hx hb dX2_compare_1 rfl hl (by decide) rfl (fun ls hl => ?_)
  have L2 : ∀ (d2 : Nat) (j : Nat), (j + d2 = n) → (∀ (H : Heap) (locs : List Loc) (ls : Array Slot), g_P g ad dsX 55 (cmpM M j) J H → va_S (g_A ad 55) s9.heap H locs → lv_has ls 5 [(3, .int (nI j)), (0, .ref (ad 13)), (1, .ref (ad 31)), (2, .int (nI n))] → W p9 l e9 (g_rm 5) s9 m9 args9 below9 meth9 c9 H locs 0 0 (MQ below9 (va_Qv (fun (_ : Unit) => True) (fun _ t => g_P g ad dsX 55 (cmpM M n) J t.heap) (g_A ad 55)) args9 s9 0 0 (g_A ad 55)) (F0 m9 2 ls [])) := by
    intro d2
    induction d2 with
    | zero =>
      intro j h_j H locs ls hP hS hl
      refine lv_iload_n hx hb dX2_compare_2 rfl (lv_at hl 0 rfl) ?_
      refine lv_iload_n hx hb dX2_compare_3 rfl (lv_at hl 3 rfl) ?_
      refine x_zge (u := (j : Nat)) (v := (n : Nat)) (tgt := 47) hx hb (nI_toInt (by omega)) (nI_toInt (by omega)) dX2_compare_4 (by decide) (fun h_1 => ?_) (fun h_1 => (by omega : False).elim)
      exact x_retv hx hb hr9 hlk9 hS (by rw [show n = j by omega]; exact hP) dX2_compare_47
    | succ d2 ih2 =>
      intro j h_j H locs ls hP hS hl
      refine lv_iload_n hx hb dX2_compare_2 rfl (lv_at hl 0 rfl) ?_
      refine lv_iload_n hx hb dX2_compare_3 rfl (lv_at hl 3 rfl) ?_
      refine x_zge (u := (j : Nat)) (v := (n : Nat)) (tgt := 47) hx hb (nI_toInt (by omega)) (nI_toInt (by omega)) dX2_compare_4 (by decide) (fun h_2 => (by omega : False).elim) (fun h_2 => ?_)
      refine lv_iconst (v := nI 0) hx hb dX2_compare_7 (by decide) ?_
      refine lv_istore (lv' := [(4, .int (nI 0)), (3, .int (nI j)), (0, .ref (ad 13)), (1, .ref (ad 31)), (2, .int (nI n))]) hx hb dX2_compare_8 hl (by decide) rfl (fun ls hl => ?_)
      have L10 : ∀ (d10 : Nat) (i : Nat), (i + d10 = j) → (∀ (H : Heap) (locs : List Loc) (ls : Array Slot), g_P g ad dsX 55 (cmp2 M j i) J H → va_S (g_A ad 55) s9.heap H locs → lv_has ls 5 [(4, .int (nI i)), (3, .int (nI j)), (0, .ref (ad 13)), (1, .ref (ad 31)), (2, .int (nI n))] → W p9 l e9 (g_rm 5) s9 m9 args9 below9 meth9 c9 H locs 0 0 (MQ below9 (va_Qv (fun (_ : Unit) => True) (fun _ t => g_P g ad dsX 55 (cmpM M n) J t.heap) (g_A ad 55)) args9 s9 0 0 (g_A ad 55)) (F0 m9 10 ls [])) := by
        intro d10
        induction d10 with
        | zero =>
          intro i h_i H locs ls hP hS hl
          refine lv_iload hx hb dX2_compare_10 (lv_at hl 0 rfl) ?_
          refine lv_iload_n hx hb dX2_compare_12 rfl (lv_at hl 1 rfl) ?_
          refine x_zge (u := (i : Nat)) (v := (j : Nat)) (tgt := 41) hx hb (nI_toInt (by omega)) (nI_toInt (by omega)) dX2_compare_13 (by decide) (fun h_3 => ?_) (fun h_3 => (by omega : False).elim)
          refine lv_iinc (v := nI (j + 1)) (lv' := [(3, .int (nI (j + 1))), (4, .int (nI i)), (0, .ref (ad 13)), (1, .ref (ad 31)), (2, .int (nI n))]) hx hb dX2_compare_41 hl (k := 1) rfl (n_inc j 1) (by decide) rfl (fun ls hl => ?_)
          refine lv_goto (tgt := 2) hx hb dX2_compare_44 (by decide) ?_
          have hl0 : lv_has ls 5 [(3, .int (nI (j + 1))), (0, .ref (ad 13)), (1, .ref (ad 31)), (2, .int (nI n))] := lv_sub hl [0, 2, 3, 4] rfl
          exact ih2 (j + 1) (by omega) _ _ _ (by rw [← cmp2_e]; rw [show cmp2 M j i = cmp2 M j j by rw [show i = j by omega]] at hP; exact hP) hS hl0
        | succ d10 ih10 =>
          intro i h_i H locs ls hP hS hl
          refine lv_iload hx hb dX2_compare_10 (lv_at hl 0 rfl) ?_
          refine lv_iload_n hx hb dX2_compare_12 rfl (lv_at hl 1 rfl) ?_
          refine x_zge (u := (i : Nat)) (v := (j : Nat)) (tgt := 41) hx hb (nI_toInt (by omega)) (nI_toInt (by omega)) dX2_compare_13 (by decide) (fun h_4 => (by omega : False).elim) (fun h_4 => ?_)
          refine lv_aload_n hx hb dX2_compare_16 rfl (lv_at hl 2 rfl) ?_
          refine x_getr CF hK hP 13 (by decide) dX_13 rfl uX2 2 (by decide) (j := 16) rfl wd1_156 rfl dX2_compare_17 ?_
          refine lv_iload hx hb dX2_compare_20 (lv_at hl 0 rfl) ?_
          refine x_aald CF hK hP 16 (by decide) (t := 2) dX_16 (by decide) i (by omega) (by decide) (j := (17 + i)) (oX_ltr i (by omega)) dX2_compare_22 ?_
          refine lv_iload_n hx hb dX2_compare_23 rfl (lv_at hl 1 rfl) ?_
          refine lv_aload_n hx hb dX2_compare_24 rfl (lv_at hl 3 rfl) ?_
          refine lv_iload hx hb dX2_compare_25 (lv_at hl 0 rfl) ?_
          refine x_aald CF hK hP 31 (by decide) (t := 0) dX_31 (by decide) i (by omega) (by decide) (j := (32 + i)) (oX_fig i (by omega)) dX2_compare_27 ?_
          refine lv_aload_n hx hb dX2_compare_28 rfl (lv_at hl 3 rfl) ?_
          refine lv_iload_n hx hb dX2_compare_29 rfl (lv_at hl 1 rfl) ?_
          refine x_aald CF hK hP 31 (by decide) (t := 0) dX_31 (by decide) j (by omega) (by decide) (j := (32 + j)) (oX_fig j (by omega)) dX2_compare_30 ?_
          refine x_callSI CF hK hP hS hA hl (As := [.ref (ad (32 + i)), .ref (ad (32 + j))]) (rest := [.int (nI j), .ref (ad (17 + i))]) (c_lagsOf hI (cmp2 M j i) J i j (by omega) (by omega) (fun k hk => by rw [cmp2_out (by omega) (by omega) (by omega)]; exact hu k hk)) kw_X2_lagsOf wd2_188 rfl ⟨Nat.le_of_ble_eq_true rfl, Nat.le_of_ble_eq_true rfl⟩ ⟨Nat.le_refl _, Nat.le_refl _⟩ (Nat.le_of_ble_eq_true rfl) dX2_compare_31 (fun H locs hP hS => ?_)
          refine x_ri (show (nI (lgX (cmp2 M j i) i j)) = nI (lgX M i j) from congrArg nI (lgX_cmp2 (by omega) (by omega))) ?_
          refine x_iast CF hK hI hA hP hS (17 + i) (by omega) (dX_ltr i (by omega)) j (by omega) (by decide) (lgX M i j) dX2_compare_34 (fun H locs hP hS => ?_)
          refine lv_iinc (v := nI (i + 1)) (lv' := [(4, .int (nI (i + 1))), (3, .int (nI j)), (0, .ref (ad 13)), (1, .ref (ad 31)), (2, .int (nI n))]) hx hb dX2_compare_35 hl (k := 0) rfl (n_inc i 1) (by decide) rfl (fun ls hl => ?_)
          refine lv_goto (tgt := 10) hx hb dX2_compare_38 (by decide) ?_
          have hl0 : lv_has ls 5 [(4, .int (nI (i + 1))), (3, .int (nI j)), (0, .ref (ad 13)), (1, .ref (ad 31)), (2, .int (nI n))] := lv_sub hl [0, 1, 2, 3, 4] rfl
          exact ih10 (i + 1) (by omega) _ _ _ (by rw [← cmp2_s]; exact hP) hS hl0
      have hl0 : lv_has ls 5 [(4, .int (nI 0)), (3, .int (nI j)), (0, .ref (ad 13)), (1, .ref (ad 31)), (2, .int (nI n))] := lv_sub hl [0, 1, 2, 3, 4] rfl
      exact L10 j 0 (by omega) _ _ _ (by rw [cmp2_0]; exact hP) hS hl0
  have hl0 : lv_has ls 5 [(3, .int (nI 0)), (0, .ref (ad 13)), (1, .ref (ad 31)), (2, .int (nI n))] := lv_sub hl [0, 1, 2, 3] rfl
  exact L2 n 0 (by omega) _ _ _ (by rw [cmpM_0]; exact hP) hS hl0
set_option maxHeartbeats 4000000 in
set_option maxRecDepth 100000 in
theorem c_lagsOn {l : Launch} {g : gE} {ad : Nat → Nat} (hI : g_inj ad 55) (M : gMem) (J : gMeL) (cam f : Nat) (hf : f < 5) (hcm : cam < 2 ^ 31) (hk9 : seatOk f M) : CI l g ad dsX 55 yX2_lagsOn cX2_lagsOn 5 (some .int) 3 [.ref (ad 13), .int (nI cam), .int (nI f)] M J (nI (lon M cam f f)) M J := by
  refine CI.of (plainFor_of_name (by decide)) (Nat.le_of_ble_eq_true rfl) (fun p9 e9 s9 m9 args9 below9 meth9 c9 CF hK hr9 hlk9 hP hS ls hl => ?_)
  have hx := CF.1
  have hb := CF.2.1
  have hA : ∀ q, g_A ad 55 q → g_A ad 55 q := fun _ h => h
  have hl : lv_has ls 5 [(0, .ref (ad 13)), (1, .int (nI cam)), (2, .int (nI f))] := hl
  refine lv_sipush (v := nI 4095) hx hb dX2_lagsOn_0 (by decide) ?_
  refine lv_istore_n (lv' := [(3, .int (nI 4095)), (0, .ref (ad 13)), (1, .int (nI cam)), (2, .int (nI f))]) hx hb dX2_lagsOn_3 rfl hl (by decide) rfl (fun ls hl => ?_)
  refine lv_iconst (v := nI 0) hx hb dX2_lagsOn_4 (by decide) ?_
  refine lv_istore (lv' := [(4, .int (nI 0)), (3, .int (nI 4095)), (0, .ref (ad 13)), (1, .int (nI cam)), (2, .int (nI f))]) hx hb dX2_lagsOn_5 hl (by decide) rfl (fun ls hl => ?_)
  have L7 : ∀ (d7 : Nat) (q : Nat), (q + d7 = f) → (∀ (H : Heap) (locs : List Loc) (ls : Array Slot), g_P g ad dsX 55 M J H → va_S (g_A ad 55) s9.heap H locs → lv_has ls 5 [(4, .int (nI q)), (3, .int (nI (lon M cam f q))), (0, .ref (ad 13)), (1, .int (nI cam)), (2, .int (nI f))] → W p9 l e9 (g_rm 3) s9 m9 args9 below9 meth9 c9 H locs 0 0 (MQ below9 (va_Qi (fun r' (_ : Unit) => r' = (nI (lon M cam f f))) (fun _ t => g_P g ad dsX 55 M J t.heap) (g_A ad 55)) args9 s9 0 0 (g_A ad 55)) (F0 m9 7 ls [])) := by
    intro d7
    induction d7 with
    | zero =>
      intro q h_q H locs ls hP hS hl
      refine lv_iload hx hb dX2_lagsOn_7 (lv_at hl 0 rfl) ?_
      refine lv_iload_n hx hb dX2_lagsOn_9 rfl (lv_at hl 4 rfl) ?_
      refine x_zge (u := (q : Nat)) (v := (f : Nat)) (tgt := 52) hx hb (nI_toInt (by omega)) (nI_toInt (by omega)) dX2_lagsOn_10 (by decide) (fun h_1 => ?_) (fun h_1 => (by omega : False).elim)
      refine lv_iload_n hx hb dX2_lagsOn_52 rfl (lv_at hl 1 rfl) ?_
      exact x_reti hx hb hr9 hlk9 hS hP (by rw [show q = f by omega]) dX2_lagsOn_53
    | succ d7 ih7 =>
      intro q h_q H locs ls hP hS hl
      have b1 := hk9.1 q (by omega)
      have b2 := hk9.2 (17 + q) f (by omega) (by omega) hf (by omega)
      refine lv_iload hx hb dX2_lagsOn_7 (lv_at hl 0 rfl) ?_
      refine lv_iload_n hx hb dX2_lagsOn_9 rfl (lv_at hl 4 rfl) ?_
      refine x_zge (u := (q : Nat)) (v := (f : Nat)) (tgt := 52) hx hb (nI_toInt (by omega)) (nI_toInt (by omega)) dX2_lagsOn_10 (by decide) (fun h_2 => (by omega : False).elim) (fun h_2 => ?_)
      refine lv_aload_n hx hb dX2_lagsOn_13 rfl (lv_at hl 2 rfl) ?_
      refine x_getr CF hK hP 13 (by decide) dX_13 rfl uX2 0 (by decide) (j := 14) rfl wd1_152 rfl dX2_lagsOn_14 ?_
      refine lv_iload hx hb dX2_lagsOn_17 (lv_at hl 0 rfl) ?_
      refine x_iald CF hK hP 14 (by decide) dX_14 q (by omega) (by decide) dX2_lagsOn_19 ?_
      refine lv_iload_n hx hb dX2_lagsOn_20 rfl (lv_at hl 3 rfl) ?_
      refine x_zne (u := (M 14 q : Nat)) (v := (cam : Nat)) (tgt := 46) hx hb (nI_toInt (by omega)) (nI_toInt (by omega)) dX2_lagsOn_21 (by decide) (fun h_3 => ?_) (fun h_3 => ?_)
      · refine lv_iinc (v := nI (q + 1)) (lv' := [(4, .int (nI (q + 1))), (3, .int (nI (lon M cam f q))), (0, .ref (ad 13)), (1, .int (nI cam)), (2, .int (nI f))]) hx hb dX2_lagsOn_46 hl (k := 0) rfl (n_inc q 1) (by decide) rfl (fun ls hl => ?_)
        refine lv_goto (tgt := 7) hx hb dX2_lagsOn_49 (by decide) ?_
        have hl0 : lv_has ls 5 [(4, .int (nI (q + 1))), (3, .int (nI (lon M cam f (q + 1)))), (0, .ref (ad 13)), (1, .int (nI cam)), (2, .int (nI f))] := by rw [(show nI (lon M cam f (q + 1)) = nI (lon M cam f q) from by rw [lon, if_neg (by omega)])]; exact lv_sub hl [0, 1, 2, 3, 4] rfl
        exact ih7 (q + 1) (by omega) _ _ _ (hP) hS hl0
      · refine lv_iload_n hx hb dX2_lagsOn_24 rfl (lv_at hl 1 rfl) ?_
        refine lv_aload_n hx hb dX2_lagsOn_25 rfl (lv_at hl 2 rfl) ?_
        refine x_getr CF hK hP 13 (by decide) dX_13 rfl uX2 2 (by decide) (j := 16) rfl wd1_156 rfl dX2_lagsOn_26 ?_
        refine lv_iload hx hb dX2_lagsOn_29 (lv_at hl 0 rfl) ?_
        refine x_aald CF hK hP 16 (by decide) (t := 2) dX_16 (by decide) q (by omega) (by decide) (j := (17 + q)) (oX_ltr q (by omega)) dX2_lagsOn_31 ?_
        refine lv_iload_n hx hb dX2_lagsOn_32 rfl (lv_at hl 4 rfl) ?_
        refine x_iald CF hK hP (17 + q) (by omega) (dX_ltr q (by omega)) f (by omega) (by decide) dX2_lagsOn_33 ?_
        refine lv_aload_n hx hb dX2_lagsOn_34 rfl (lv_at hl 2 rfl) ?_
        refine x_getr CF hK hP 13 (by decide) dX_13 rfl uX2 1 (by decide) (j := 15) rfl wd1_154 rfl dX2_lagsOn_35 ?_
        refine lv_iload hx hb dX2_lagsOn_38 (lv_at hl 0 rfl) ?_
        refine x_iald CF hK hP 15 (by decide) dX_15 q (by omega) (by decide) dX2_lagsOn_40 ?_
        refine x_callNP CF hK hP hS hl (As := [.int (nI (M (17 + q) f)), .int (nI (M 15 q))]) (rest := [.int (nI (lon M cam f q))]) (c_movedOn_n (M (17 + q) f) (M 15 q) (by omega) (by omega)) kw_X5_movedOn hK.2.2.2.1 rfl ⟨Nat.le_of_ble_eq_true rfl, Nat.le_of_ble_eq_true rfl⟩ ⟨Nat.le_refl _, Nat.le_refl _⟩ (Nat.le_of_ble_eq_true rfl) dX2_lagsOn_41 (fun H locs hP hS => ?_)
        refine x_iand hx hb dX2_lagsOn_44 ?_
        refine lv_istore_n (lv' := [(3, .int (nI ((lon M cam f q) &&& (rot (M (17 + q) f) (M 15 q))))), (4, .int (nI q)), (0, .ref (ad 13)), (1, .int (nI cam)), (2, .int (nI f))]) hx hb dX2_lagsOn_45 rfl hl (by decide) rfl (fun ls hl => ?_)
        refine lv_iinc (v := nI (q + 1)) (lv' := [(4, .int (nI (q + 1))), (3, .int (nI ((lon M cam f q) &&& (rot (M (17 + q) f) (M 15 q))))), (0, .ref (ad 13)), (1, .int (nI cam)), (2, .int (nI f))]) hx hb dX2_lagsOn_46 hl (k := 1) rfl (n_inc q 1) (by decide) rfl (fun ls hl => ?_)
        refine lv_goto (tgt := 7) hx hb dX2_lagsOn_49 (by decide) ?_
        have hl0 : lv_has ls 5 [(4, .int (nI (q + 1))), (3, .int (nI (lon M cam f (q + 1)))), (0, .ref (ad 13)), (1, .int (nI cam)), (2, .int (nI f))] := by rw [(show nI (lon M cam f (q + 1)) = nI ((lon M cam f q) &&& (rot (M (17 + q) f) (M 15 q))) from by rw [lon, if_pos (by omega)])]; exact lv_sub hl [0, 1, 2, 3, 4] rfl
        exact ih7 (q + 1) (by omega) _ _ _ (hP) hS hl0
  have hl0 : lv_has ls 5 [(4, .int (nI 0)), (3, .int (nI (lon M cam f 0))), (0, .ref (ad 13)), (1, .int (nI cam)), (2, .int (nI f))] := by rw [(show nI (lon M cam f 0) = nI 4095 from rfl)]; exact lv_sub hl [0, 1, 2, 3, 4] rfl
  exact L7 f 0 (by omega) _ _ _ (hP) hS hl0
set_option maxHeartbeats 4000000 in
set_option maxRecDepth 100000 in
theorem c_seat_0 {l : Launch} {g : gE} {ad : Nat → Nat} (hI : g_inj ad 55) (M : gMem) (J : gMeL) (nf f cams most : Nat) (hnf : nf ≤ 5) (hfd : f + 0 = nf) (hcm : cams ≤ f) (hms : most ≤ 5) (hk9 : seatOk f M) : CI l g ad dsX 55 yX5_isSeated cX5_isSeated 8 (some .boolean) 4 [.ref (ad 13), .int (nI nf), .int (nI f), .int (nI cams), .int (nI most)] M J (nI (b2n (seat most 0 f cams M).1)) ((seat most 0 f cams M).2) J := by
  refine CI.of (plainFor_of_name (by decide)) (Nat.le_of_ble_eq_true rfl) (fun p9 e9 s9 m9 args9 below9 meth9 c9 CF hK hr9 hlk9 hP hS ls hl => ?_)
  have hx := CF.1
  have hb := CF.2.1
  have hA : ∀ q, g_A ad 55 q → g_A ad 55 q := fun _ h => h
  have hl : lv_has ls 8 [(0, .ref (ad 13)), (1, .int (nI nf)), (2, .int (nI f)), (3, .int (nI cams)), (4, .int (nI most))] := hl
  refine lv_iload_n hx hb dX5_isSeated_0 rfl (lv_at hl 2 rfl) ?_
  refine lv_iload_n hx hb dX5_isSeated_1 rfl (lv_at hl 1 rfl) ?_
  refine x_zge (u := (f : Nat)) (v := (nf : Nat)) (tgt := 10) hx hb (nI_toInt (by omega)) (nI_toInt (by omega)) dX5_isSeated_2 (by decide) (fun h_1 => ?_) (fun h_1 => (by omega : False).elim)
  refine lv_iconst (v := nI 1) hx hb dX5_isSeated_10 (by decide) ?_
  exact x_retz hx hb hr9 hlk9 hS (by exact hP) (rfl) (rfl) dX5_isSeated_11
set_option maxHeartbeats 4000000 in
set_option maxRecDepth 100000 in
theorem c_seat_1 {l : Launch} {g : gE} {ad : Nat → Nat} (hI : g_inj ad 55) (M : gMem) (J : gMeL) (nf f cams most : Nat) (hnf : nf ≤ 5) (hfd : f + 1 = nf) (hcm : cams ≤ f) (hms : most ≤ 5) (hk9 : seatOk f M) : CI l g ad dsX 55 yX5_isSeated cX5_isSeated 8 (some .boolean) 5 [.ref (ad 13), .int (nI nf), .int (nI f), .int (nI cams), .int (nI most)] M J (nI (b2n (seat most 1 f cams M).1)) ((seat most 1 f cams M).2) J := by
  refine CI.of (plainFor_of_name (by decide)) (Nat.le_of_ble_eq_true rfl) (fun p9 e9 s9 m9 args9 below9 meth9 c9 CF hK hr9 hlk9 hP hS ls hl => ?_)
  have hx := CF.1
  have hb := CF.2.1
  have hA : ∀ q, g_A ad 55 q → g_A ad 55 q := fun _ h => h
  have hl : lv_has ls 8 [(0, .ref (ad 13)), (1, .int (nI nf)), (2, .int (nI f)), (3, .int (nI cams)), (4, .int (nI most))] := hl
  refine lv_iload_n hx hb dX5_isSeated_0 rfl (lv_at hl 2 rfl) ?_
  refine lv_iload_n hx hb dX5_isSeated_1 rfl (lv_at hl 1 rfl) ?_
  refine x_zge (u := (f : Nat)) (v := (nf : Nat)) (tgt := 10) hx hb (nI_toInt (by omega)) (nI_toInt (by omega)) dX5_isSeated_2 (by decide) (fun h_1 => (by omega : False).elim) (fun h_1 => ?_)
  refine lv_iload_n hx hb dX5_isSeated_5 rfl (lv_at hl 2 rfl) ?_
  refine lv_iconst (v := nI 5) hx hb dX5_isSeated_6 (by decide) ?_
  refine x_zlt (u := (f : Nat)) (v := (5 : Int)) (tgt := 12) hx hb (nI_toInt (by omega)) (rfl) dX5_isSeated_7 (by decide) (fun h_2 => ?_) (fun h_2 => (by omega : False).elim)
  refine lv_iconst (v := nI 0) hx hb dX5_isSeated_12 (by decide) ?_
  refine lv_istore (lv' := [(5, .int (nI 0)), (0, .ref (ad 13)), (1, .int (nI nf)), (2, .int (nI f)), (3, .int (nI cams)), (4, .int (nI most))]) hx hb dX5_isSeated_13 hl (by decide) rfl (fun ls hl => ?_)
  have L15 : ∀ (d15 : Nat) (cam : Nat) (m : gMem), (cam + d15 = min (cams + 1) most) → (camL (fun q9 z9 => seat most 0 (f + 1) (max cams (q9 + 1)) z9) cams f d15 cam m = (seat most 1 f cams M)) → (seatOk f m) → (∀ (H : Heap) (locs : List Loc) (ls : Array Slot), g_P g ad dsX 55 m J H → va_S (g_A ad 55) s9.heap H locs → lv_has ls 8 [(5, .int (nI cam)), (0, .ref (ad 13)), (1, .int (nI nf)), (2, .int (nI f)), (3, .int (nI cams)), (4, .int (nI most))] → W p9 l e9 (g_rm 5) s9 m9 args9 below9 meth9 c9 H locs 0 0 (MQ below9 (va_Qi (fun r' (_ : Unit) => r' = (nI (b2n (seat most 1 f cams M).1))) (fun _ t => g_P g ad dsX 55 ((seat most 1 f cams M).2) J t.heap) (g_A ad 55)) args9 s9 0 0 (g_A ad 55)) (F0 m9 15 ls [])) := by
    intro d15
    induction d15 with
    | zero =>
      intro cam m hc hR hk H locs ls hP hS hl
      refine lv_iload hx hb dX5_isSeated_15 (lv_at hl 0 rfl) ?_
      refine lv_iload_n hx hb dX5_isSeated_17 rfl (lv_at hl 4 rfl) ?_
      refine x_zgt (u := (cam : Nat)) (v := (cams : Nat)) (tgt := 119) hx hb (nI_toInt (by omega)) (nI_toInt (by omega)) dX5_isSeated_18 (by decide) (fun h_3 => ?_) (fun h_3 => ?_)
      · refine lv_iconst (v := nI 0) hx hb dX5_isSeated_119 (by decide) ?_
        exact x_retz hx hb hr9 hlk9 hS (by rw [← hR]; exact hP) (by rw [← hR]; rfl) (rfl) dX5_isSeated_120
      · refine lv_iload hx hb dX5_isSeated_21 (lv_at hl 0 rfl) ?_
        refine lv_iload hx hb dX5_isSeated_23 (lv_at hl 5 rfl) ?_
        refine x_zge (u := (cam : Nat)) (v := (most : Nat)) (tgt := 119) hx hb (nI_toInt (by omega)) (nI_toInt (by omega)) dX5_isSeated_25 (by decide) (fun h_4 => ?_) (fun h_4 => (by omega : False).elim)
        refine lv_iconst (v := nI 0) hx hb dX5_isSeated_119 (by decide) ?_
        exact x_retz hx hb hr9 hlk9 hS (by rw [← hR]; exact hP) (by rw [← hR]; rfl) (rfl) dX5_isSeated_120
    | succ d15 ih15 =>
      intro cam m hc hR hk H locs ls hP hS hl
      rw [camL_s] at hR
      have ba := lgA_lt m cam cams f
      refine lv_iload hx hb dX5_isSeated_15 (lv_at hl 0 rfl) ?_
      refine lv_iload_n hx hb dX5_isSeated_17 rfl (lv_at hl 4 rfl) ?_
      refine x_zgt (u := (cam : Nat)) (v := (cams : Nat)) (tgt := 119) hx hb (nI_toInt (by omega)) (nI_toInt (by omega)) dX5_isSeated_18 (by decide) (fun h_5 => (by omega : False).elim) (fun h_5 => ?_)
      refine lv_iload hx hb dX5_isSeated_21 (lv_at hl 0 rfl) ?_
      refine lv_iload hx hb dX5_isSeated_23 (lv_at hl 5 rfl) ?_
      refine x_zge (u := (cam : Nat)) (v := (most : Nat)) (tgt := 119) hx hb (nI_toInt (by omega)) (nI_toInt (by omega)) dX5_isSeated_25 (by decide) (fun h_6 => (by omega : False).elim) (fun h_6 => ?_)
      refine lv_iload hx hb dX5_isSeated_28 (lv_at hl 0 rfl) ?_
      refine lv_iload_n hx hb dX5_isSeated_30 rfl (lv_at hl 4 rfl) ?_
      refine x_zge (u := (cam : Nat)) (v := (cams : Nat)) (tgt := 44) hx hb (nI_toInt (by omega)) (nI_toInt (by omega)) dX5_isSeated_31 (by decide) (fun h_7 => ?_) (fun h_7 => ?_)
      · refine lv_iconst (v := nI 1) hx hb dX5_isSeated_44 (by decide) ?_
        refine x_ri (show (nI 1) = nI (lgA m cam cams f) from (by rw [lgA, if_neg (by omega)])) ?_
        refine lv_istore (lv' := [(6, .int (nI (lgA m cam cams f))), (5, .int (nI cam)), (0, .ref (ad 13)), (1, .int (nI nf)), (2, .int (nI f)), (3, .int (nI cams)), (4, .int (nI most))]) hx hb dX5_isSeated_45 hl (by decide) rfl (fun ls hl => ?_)
        refine lv_iconst (v := nI 0) hx hb dX5_isSeated_47 (by decide) ?_
        refine lv_istore (lv' := [(7, .int (nI 0)), (6, .int (nI (lgA m cam cams f))), (5, .int (nI cam)), (0, .ref (ad 13)), (1, .int (nI nf)), (2, .int (nI f)), (3, .int (nI cams)), (4, .int (nI most))]) hx hb dX5_isSeated_48 hl (by decide) rfl (fun ls hl => ?_)
        have L50 : ∀ (d50 : Nat) (lag : Nat) (m2 : gMem), (lag + d50 = 12) → (lagL ((fun q9 z9 => seat most 0 (f + 1) (max cams (q9 + 1)) z9) cam) (lgA m cam cams f) f cam d50 lag m2 = lagL ((fun q9 z9 => seat most 0 (f + 1) (max cams (q9 + 1)) z9) cam) (lgA m cam cams f) f cam 12 0 m) → (seatOk f m2) → (∀ (H : Heap) (locs : List Loc) (ls : Array Slot), g_P g ad dsX 55 m2 J H → va_S (g_A ad 55) s9.heap H locs → lv_has ls 8 [(7, .int (nI lag)), (6, .int (nI (lgA m cam cams f))), (5, .int (nI cam)), (0, .ref (ad 13)), (1, .int (nI nf)), (2, .int (nI f)), (3, .int (nI cams)), (4, .int (nI most))] → W p9 l e9 (g_rm 5) s9 m9 args9 below9 meth9 c9 H locs 0 0 (MQ below9 (va_Qi (fun r' (_ : Unit) => r' = (nI (b2n (seat most 1 f cams M).1))) (fun _ t => g_P g ad dsX 55 ((seat most 1 f cams M).2) J t.heap) (g_A ad 55)) args9 s9 0 0 (g_A ad 55)) (F0 m9 50 ls [])) := by
          intro d50
          induction d50 with
          | zero =>
            intro lag m2 hl9 hR2 hk2 H locs ls hP hS hl
            have hR3 : (false, m2) = lagL ((fun q9 z9 => seat most 0 (f + 1) (max cams (q9 + 1)) z9) cam) (lgA m cam cams f) f cam 12 0 m := hR2
            refine lv_iload hx hb dX5_isSeated_50 (lv_at hl 0 rfl) ?_
            refine lv_bipush (v := nI 12) hx hb dX5_isSeated_52 (by decide) ?_
            refine x_zge (u := (lag : Nat)) (v := (12 : Int)) (tgt := 113) hx hb (nI_toInt (by omega)) (rfl) dX5_isSeated_54 (by decide) (fun h_8 => ?_) (fun h_8 => (by omega : False).elim)
            refine lv_iinc (v := nI (cam + 1)) (lv' := [(5, .int (nI (cam + 1))), (7, .int (nI lag)), (6, .int (nI (lgA m cam cams f))), (0, .ref (ad 13)), (1, .int (nI nf)), (2, .int (nI f)), (3, .int (nI cams)), (4, .int (nI most))]) hx hb dX5_isSeated_113 hl (k := 2) rfl (n_inc cam 1) (by decide) rfl (fun ls hl => ?_)
            refine lv_goto (tgt := 15) hx hb dX5_isSeated_116 (by decide) ?_
            have hl0 : lv_has ls 8 [(5, .int (nI (cam + 1))), (0, .ref (ad 13)), (1, .int (nI nf)), (2, .int (nI f)), (3, .int (nI cams)), (4, .int (nI most))] := lv_sub hl [0, 3, 4, 5, 6, 7] rfl
            exact ih15 (cam + 1) m2 (by omega) (by rw [← hR3] at hR; exact hR) (hk2) _ _ _ (hP) hS hl0
          | succ d50 ih50 =>
            intro lag m2 hl9 hR2 hk2 H locs ls hP hS hl
            rw [lagL_s] at hR2
            have bl := and1_lt ((lgA m cam cams f) >>> lag)
            refine lv_iload hx hb dX5_isSeated_50 (lv_at hl 0 rfl) ?_
            refine lv_bipush (v := nI 12) hx hb dX5_isSeated_52 (by decide) ?_
            refine x_zge (u := (lag : Nat)) (v := (12 : Int)) (tgt := 113) hx hb (nI_toInt (by omega)) (rfl) dX5_isSeated_54 (by decide) (fun h_9 => (by omega : False).elim) (fun h_9 => ?_)
            refine lv_iload hx hb dX5_isSeated_57 (lv_at hl 1 rfl) ?_
            refine lv_iload hx hb dX5_isSeated_59 (lv_at hl 0 rfl) ?_
            refine x_ishr hx hb (by omega) (by omega) dX5_isSeated_61 ?_
            refine lv_iconst (v := nI 1) hx hb dX5_isSeated_62 (by decide) ?_
            refine x_iand hx hb dX5_isSeated_63 ?_
            refine lv_iconst (v := nI 1) hx hb dX5_isSeated_64 (by decide) ?_
            refine x_zne (u := (((lgA m cam cams f) >>> lag) &&& 1 : Nat)) (v := (1 : Int)) (tgt := 107) hx hb (nI_toInt (by omega)) (rfl) dX5_isSeated_65 (by decide) (fun h_10 => ?_) (fun h_10 => ?_)
            · refine lv_iinc (v := nI (lag + 1)) (lv' := [(7, .int (nI (lag + 1))), (6, .int (nI (lgA m cam cams f))), (5, .int (nI cam)), (0, .ref (ad 13)), (1, .int (nI nf)), (2, .int (nI f)), (3, .int (nI cams)), (4, .int (nI most))]) hx hb dX5_isSeated_107 hl (k := 0) rfl (n_inc lag 1) (by decide) rfl (fun ls hl => ?_)
              refine lv_goto (tgt := 50) hx hb dX5_isSeated_110 (by decide) ?_
              have hl0 : lv_has ls 8 [(7, .int (nI (lag + 1))), (6, .int (nI (lgA m cam cams f))), (5, .int (nI cam)), (0, .ref (ad 13)), (1, .int (nI nf)), (2, .int (nI f)), (3, .int (nI cams)), (4, .int (nI most))] := lv_sub hl [0, 1, 2, 3, 4, 5, 6, 7] rfl
              exact ih50 (lag + 1) m2 (by omega) (by rw [if_neg (by omega)] at hR2; exact hR2) (hk2) _ _ _ (hP) hS hl0
            · refine lv_aload_n hx hb dX5_isSeated_68 rfl (lv_at hl 3 rfl) ?_
              refine x_getr CF hK hP 13 (by decide) dX_13 rfl uX2 0 (by decide) (j := 14) rfl wd1_153 rfl dX5_isSeated_69 ?_
              refine lv_iload_n hx hb dX5_isSeated_72 rfl (lv_at hl 5 rfl) ?_
              refine lv_iload hx hb dX5_isSeated_73 (lv_at hl 2 rfl) ?_
              refine x_iast CF hK hI hA hP hS 14 (by decide) dX_14 f (by omega) (by decide) cam dX5_isSeated_75 (fun H locs hP hS => ?_)
              refine lv_aload_n hx hb dX5_isSeated_76 rfl (lv_at hl 3 rfl) ?_
              refine x_getr CF hK hP 13 (by decide) dX_13 rfl uX2 1 (by decide) (j := 15) rfl wd1_155 rfl dX5_isSeated_77 ?_
              refine lv_iload_n hx hb dX5_isSeated_80 rfl (lv_at hl 5 rfl) ?_
              refine lv_iload hx hb dX5_isSeated_81 (lv_at hl 0 rfl) ?_
              refine x_iast CF hK hI hA hP hS 15 (by decide) dX_15 f (by omega) (by decide) lag dX5_isSeated_83 (fun H locs hP hS => ?_)
              refine lv_aload_n hx hb dX5_isSeated_84 rfl (lv_at hl 3 rfl) ?_
              refine lv_iload_n hx hb dX5_isSeated_85 rfl (lv_at hl 4 rfl) ?_
              refine lv_iload_n hx hb dX5_isSeated_86 rfl (lv_at hl 5 rfl) ?_
              refine lv_iconst (v := nI 1) hx hb dX5_isSeated_87 (by decide) ?_
              refine x_iadd hx hb dX5_isSeated_88 ?_
              refine lv_iload_n hx hb dX5_isSeated_89 rfl (lv_at hl 6 rfl) ?_
              refine lv_iload hx hb dX5_isSeated_90 (lv_at hl 2 rfl) ?_
              refine lv_iconst (v := nI 1) hx hb dX5_isSeated_92 (by decide) ?_
              refine x_iadd hx hb dX5_isSeated_93 ?_
              refine x_callSP CF hK hP hS hl (As := [.int (nI cams), .int (nI (cam + 1))]) (rest := [.int (nI (f + 1)), .int (nI nf), .ref (ad 13)]) (c_max (nI cams) (nI (cam + 1))) kw_J9_max_7cf53 wd2_199 rfl ⟨Nat.le_of_ble_eq_true rfl, Nat.le_of_ble_eq_true rfl⟩ ⟨Nat.le_refl _, Nat.le_refl _⟩ (Nat.le_of_ble_eq_true rfl) dX5_isSeated_94 (fun H locs hP hS => ?_)
              refine x_ri (show (if (nI cams).toInt < (nI (cam + 1)).toInt then nI (cam + 1) else nI cams) = nI (max cams (cam + 1)) from n_maxN (by omega) (by omega)) ?_
              refine lv_iload hx hb dX5_isSeated_97 (lv_at hl 7 rfl) ?_
              refine x_callSI CF hK hP hS hA hl (As := [.ref (ad 13), .int (nI nf), .int (nI (f + 1)), .int (nI (max cams (cam + 1))), .int (nI most)]) (rest := []) (c_seat_0 hI (u2 (u2 m2 14 f cam) 15 f lag) J nf (f + 1) (max cams (cam + 1)) most (by omega) (by omega) (by omega) (by omega) (hk2.st (by omega) (by omega))) kw_X5_isSeated wd2_192 rfl ⟨Nat.le_of_ble_eq_true rfl, Nat.le_of_ble_eq_true rfl⟩ ⟨Nat.le_refl _, Nat.le_refl _⟩ (Nat.le_of_ble_eq_true rfl) dX5_isSeated_99 (fun H locs hP hS => ?_)
              refine x_yeq (u := (b2n (seat most 0 (f + 1) (max cams (cam + 1)) (u2 (u2 m2 14 f cam) 15 f lag)).1 : Nat)) (tgt := 107) hx hb (nI_toInt (Nat.lt_of_le_of_lt (b2n_le _) (by decide))) dX5_isSeated_102 (by decide) (fun h_11 => ?_) (fun h_11 => ?_)
              · refine lv_iinc (v := nI (lag + 1)) (lv' := [(7, .int (nI (lag + 1))), (6, .int (nI (lgA m cam cams f))), (5, .int (nI cam)), (0, .ref (ad 13)), (1, .int (nI nf)), (2, .int (nI f)), (3, .int (nI cams)), (4, .int (nI most))]) hx hb dX5_isSeated_107 hl (k := 0) rfl (n_inc lag 1) (by decide) rfl (fun ls hl => ?_)
                refine lv_goto (tgt := 50) hx hb dX5_isSeated_110 (by decide) ?_
                have hl0 : lv_has ls 8 [(7, .int (nI (lag + 1))), (6, .int (nI (lgA m cam cams f))), (5, .int (nI cam)), (0, .ref (ad 13)), (1, .int (nI nf)), (2, .int (nI f)), (3, .int (nI cams)), (4, .int (nI most))] := lv_sub hl [0, 1, 2, 3, 4, 5, 6, 7] rfl
                exact ih50 (lag + 1) ((seat most 0 (f + 1) (max cams (cam + 1)) (u2 (u2 m2 14 f cam) 15 f lag)).2) (by omega) (by rw [if_pos (by omega), if_neg (by show ¬ (seat most 0 (f + 1) (max cams (cam + 1)) (u2 (u2 m2 14 f cam) 15 f lag)).1 = true; rw [b2n_0 h_11]; decide)] at hR2; exact hR2) ((hk2.keep (keeps.st.tr (seat_keeps _ _ _ _ _).up))) _ _ _ (hP) hS hl0
              · refine lv_iconst (v := nI 1) hx hb dX5_isSeated_105 (by decide) ?_
                exact x_retz hx hb hr9 hlk9 hS (by have hb1 : (seat most 0 (f + 1) (max cams (cam + 1)) (u2 (u2 m2 14 f cam) 15 f lag)).1 = true := b2n_1 h_11; rw [if_pos (by omega), if_pos hb1] at hR2; rw [← hR2, if_pos hb1] at hR; rw [← hR]; exact hP) (by have hb1 : (seat most 0 (f + 1) (max cams (cam + 1)) (u2 (u2 m2 14 f cam) 15 f lag)).1 = true := b2n_1 h_11; rw [if_pos (by omega), if_pos hb1] at hR2; rw [← hR2, if_pos hb1] at hR; rw [← hR]; show nI 1 = nI (b2n (seat most 0 (f + 1) (max cams (cam + 1)) (u2 (u2 m2 14 f cam) 15 f lag)).1); rw [hb1]; rfl) (rfl) dX5_isSeated_106
        have hl0 : lv_has ls 8 [(7, .int (nI 0)), (6, .int (nI (lgA m cam cams f))), (5, .int (nI cam)), (0, .ref (ad 13)), (1, .int (nI nf)), (2, .int (nI f)), (3, .int (nI cams)), (4, .int (nI most))] := lv_sub hl [0, 1, 2, 3, 4, 5, 6, 7] rfl
        exact L50 12 0 m (by omega) (rfl) (hk) _ _ _ (hP) hS hl0
      · refine lv_aload_n hx hb dX5_isSeated_34 rfl (lv_at hl 1 rfl) ?_
        refine lv_iload hx hb dX5_isSeated_35 (lv_at hl 0 rfl) ?_
        refine lv_iload_n hx hb dX5_isSeated_37 rfl (lv_at hl 3 rfl) ?_
        refine x_callVI CF hK hP hS hA hl (As := [.int (nI cam), .int (nI f)]) (rest := []) (c_lagsOn hI m J cam f (by omega) (by omega) hk) kw_X2_lagsOn wd2_195 (by decide) dX_13 rfl rfl ⟨Nat.le_of_ble_eq_true rfl, Nat.le_of_ble_eq_true rfl⟩ ⟨Nat.le_refl _, Nat.le_refl _⟩ (Nat.le_of_ble_eq_true rfl) dX5_isSeated_38 (fun H locs hP hS => ?_)
        refine x_ri (show (nI (lon m cam f f)) = nI (lgA m cam cams f) from (by rw [lgA, if_pos (by omega)])) ?_
        refine lv_goto (tgt := 45) hx hb dX5_isSeated_41 (by decide) ?_
        refine lv_istore (lv' := [(6, .int (nI (lgA m cam cams f))), (5, .int (nI cam)), (0, .ref (ad 13)), (1, .int (nI nf)), (2, .int (nI f)), (3, .int (nI cams)), (4, .int (nI most))]) hx hb dX5_isSeated_45 hl (by decide) rfl (fun ls hl => ?_)
        refine lv_iconst (v := nI 0) hx hb dX5_isSeated_47 (by decide) ?_
        refine lv_istore (lv' := [(7, .int (nI 0)), (6, .int (nI (lgA m cam cams f))), (5, .int (nI cam)), (0, .ref (ad 13)), (1, .int (nI nf)), (2, .int (nI f)), (3, .int (nI cams)), (4, .int (nI most))]) hx hb dX5_isSeated_48 hl (by decide) rfl (fun ls hl => ?_)
        have L50 : ∀ (d50 : Nat) (lag : Nat) (m2 : gMem), (lag + d50 = 12) → (lagL ((fun q9 z9 => seat most 0 (f + 1) (max cams (q9 + 1)) z9) cam) (lgA m cam cams f) f cam d50 lag m2 = lagL ((fun q9 z9 => seat most 0 (f + 1) (max cams (q9 + 1)) z9) cam) (lgA m cam cams f) f cam 12 0 m) → (seatOk f m2) → (∀ (H : Heap) (locs : List Loc) (ls : Array Slot), g_P g ad dsX 55 m2 J H → va_S (g_A ad 55) s9.heap H locs → lv_has ls 8 [(7, .int (nI lag)), (6, .int (nI (lgA m cam cams f))), (5, .int (nI cam)), (0, .ref (ad 13)), (1, .int (nI nf)), (2, .int (nI f)), (3, .int (nI cams)), (4, .int (nI most))] → W p9 l e9 (g_rm 5) s9 m9 args9 below9 meth9 c9 H locs 0 0 (MQ below9 (va_Qi (fun r' (_ : Unit) => r' = (nI (b2n (seat most 1 f cams M).1))) (fun _ t => g_P g ad dsX 55 ((seat most 1 f cams M).2) J t.heap) (g_A ad 55)) args9 s9 0 0 (g_A ad 55)) (F0 m9 50 ls [])) := by
          intro d50
          induction d50 with
          | zero =>
            intro lag m2 hl9 hR2 hk2 H locs ls hP hS hl
            have hR3 : (false, m2) = lagL ((fun q9 z9 => seat most 0 (f + 1) (max cams (q9 + 1)) z9) cam) (lgA m cam cams f) f cam 12 0 m := hR2
            refine lv_iload hx hb dX5_isSeated_50 (lv_at hl 0 rfl) ?_
            refine lv_bipush (v := nI 12) hx hb dX5_isSeated_52 (by decide) ?_
            refine x_zge (u := (lag : Nat)) (v := (12 : Int)) (tgt := 113) hx hb (nI_toInt (by omega)) (rfl) dX5_isSeated_54 (by decide) (fun h_12 => ?_) (fun h_12 => (by omega : False).elim)
            refine lv_iinc (v := nI (cam + 1)) (lv' := [(5, .int (nI (cam + 1))), (7, .int (nI lag)), (6, .int (nI (lgA m cam cams f))), (0, .ref (ad 13)), (1, .int (nI nf)), (2, .int (nI f)), (3, .int (nI cams)), (4, .int (nI most))]) hx hb dX5_isSeated_113 hl (k := 2) rfl (n_inc cam 1) (by decide) rfl (fun ls hl => ?_)
            refine lv_goto (tgt := 15) hx hb dX5_isSeated_116 (by decide) ?_
            have hl0 : lv_has ls 8 [(5, .int (nI (cam + 1))), (0, .ref (ad 13)), (1, .int (nI nf)), (2, .int (nI f)), (3, .int (nI cams)), (4, .int (nI most))] := lv_sub hl [0, 3, 4, 5, 6, 7] rfl
            exact ih15 (cam + 1) m2 (by omega) (by rw [← hR3] at hR; exact hR) (hk2) _ _ _ (hP) hS hl0
          | succ d50 ih50 =>
            intro lag m2 hl9 hR2 hk2 H locs ls hP hS hl
            rw [lagL_s] at hR2
            have bl := and1_lt ((lgA m cam cams f) >>> lag)
            refine lv_iload hx hb dX5_isSeated_50 (lv_at hl 0 rfl) ?_
            refine lv_bipush (v := nI 12) hx hb dX5_isSeated_52 (by decide) ?_
            refine x_zge (u := (lag : Nat)) (v := (12 : Int)) (tgt := 113) hx hb (nI_toInt (by omega)) (rfl) dX5_isSeated_54 (by decide) (fun h_13 => (by omega : False).elim) (fun h_13 => ?_)
            refine lv_iload hx hb dX5_isSeated_57 (lv_at hl 1 rfl) ?_
            refine lv_iload hx hb dX5_isSeated_59 (lv_at hl 0 rfl) ?_
            refine x_ishr hx hb (by omega) (by omega) dX5_isSeated_61 ?_
            refine lv_iconst (v := nI 1) hx hb dX5_isSeated_62 (by decide) ?_
            refine x_iand hx hb dX5_isSeated_63 ?_
            refine lv_iconst (v := nI 1) hx hb dX5_isSeated_64 (by decide) ?_
            refine x_zne (u := (((lgA m cam cams f) >>> lag) &&& 1 : Nat)) (v := (1 : Int)) (tgt := 107) hx hb (nI_toInt (by omega)) (rfl) dX5_isSeated_65 (by decide) (fun h_14 => ?_) (fun h_14 => ?_)
            · refine lv_iinc (v := nI (lag + 1)) (lv' := [(7, .int (nI (lag + 1))), (6, .int (nI (lgA m cam cams f))), (5, .int (nI cam)), (0, .ref (ad 13)), (1, .int (nI nf)), (2, .int (nI f)), (3, .int (nI cams)), (4, .int (nI most))]) hx hb dX5_isSeated_107 hl (k := 0) rfl (n_inc lag 1) (by decide) rfl (fun ls hl => ?_)
              refine lv_goto (tgt := 50) hx hb dX5_isSeated_110 (by decide) ?_
              have hl0 : lv_has ls 8 [(7, .int (nI (lag + 1))), (6, .int (nI (lgA m cam cams f))), (5, .int (nI cam)), (0, .ref (ad 13)), (1, .int (nI nf)), (2, .int (nI f)), (3, .int (nI cams)), (4, .int (nI most))] := lv_sub hl [0, 1, 2, 3, 4, 5, 6, 7] rfl
              exact ih50 (lag + 1) m2 (by omega) (by rw [if_neg (by omega)] at hR2; exact hR2) (hk2) _ _ _ (hP) hS hl0
            · refine lv_aload_n hx hb dX5_isSeated_68 rfl (lv_at hl 3 rfl) ?_
              refine x_getr CF hK hP 13 (by decide) dX_13 rfl uX2 0 (by decide) (j := 14) rfl wd1_153 rfl dX5_isSeated_69 ?_
              refine lv_iload_n hx hb dX5_isSeated_72 rfl (lv_at hl 5 rfl) ?_
              refine lv_iload hx hb dX5_isSeated_73 (lv_at hl 2 rfl) ?_
              refine x_iast CF hK hI hA hP hS 14 (by decide) dX_14 f (by omega) (by decide) cam dX5_isSeated_75 (fun H locs hP hS => ?_)
              refine lv_aload_n hx hb dX5_isSeated_76 rfl (lv_at hl 3 rfl) ?_
              refine x_getr CF hK hP 13 (by decide) dX_13 rfl uX2 1 (by decide) (j := 15) rfl wd1_155 rfl dX5_isSeated_77 ?_
              refine lv_iload_n hx hb dX5_isSeated_80 rfl (lv_at hl 5 rfl) ?_
              refine lv_iload hx hb dX5_isSeated_81 (lv_at hl 0 rfl) ?_
              refine x_iast CF hK hI hA hP hS 15 (by decide) dX_15 f (by omega) (by decide) lag dX5_isSeated_83 (fun H locs hP hS => ?_)
              refine lv_aload_n hx hb dX5_isSeated_84 rfl (lv_at hl 3 rfl) ?_
              refine lv_iload_n hx hb dX5_isSeated_85 rfl (lv_at hl 4 rfl) ?_
              refine lv_iload_n hx hb dX5_isSeated_86 rfl (lv_at hl 5 rfl) ?_
              refine lv_iconst (v := nI 1) hx hb dX5_isSeated_87 (by decide) ?_
              refine x_iadd hx hb dX5_isSeated_88 ?_
              refine lv_iload_n hx hb dX5_isSeated_89 rfl (lv_at hl 6 rfl) ?_
              refine lv_iload hx hb dX5_isSeated_90 (lv_at hl 2 rfl) ?_
              refine lv_iconst (v := nI 1) hx hb dX5_isSeated_92 (by decide) ?_
              refine x_iadd hx hb dX5_isSeated_93 ?_
              refine x_callSP CF hK hP hS hl (As := [.int (nI cams), .int (nI (cam + 1))]) (rest := [.int (nI (f + 1)), .int (nI nf), .ref (ad 13)]) (c_max (nI cams) (nI (cam + 1))) kw_J9_max_7cf53 wd2_199 rfl ⟨Nat.le_of_ble_eq_true rfl, Nat.le_of_ble_eq_true rfl⟩ ⟨Nat.le_refl _, Nat.le_refl _⟩ (Nat.le_of_ble_eq_true rfl) dX5_isSeated_94 (fun H locs hP hS => ?_)
              refine x_ri (show (if (nI cams).toInt < (nI (cam + 1)).toInt then nI (cam + 1) else nI cams) = nI (max cams (cam + 1)) from n_maxN (by omega) (by omega)) ?_
              refine lv_iload hx hb dX5_isSeated_97 (lv_at hl 7 rfl) ?_
              refine x_callSI CF hK hP hS hA hl (As := [.ref (ad 13), .int (nI nf), .int (nI (f + 1)), .int (nI (max cams (cam + 1))), .int (nI most)]) (rest := []) (c_seat_0 hI (u2 (u2 m2 14 f cam) 15 f lag) J nf (f + 1) (max cams (cam + 1)) most (by omega) (by omega) (by omega) (by omega) (hk2.st (by omega) (by omega))) kw_X5_isSeated wd2_192 rfl ⟨Nat.le_of_ble_eq_true rfl, Nat.le_of_ble_eq_true rfl⟩ ⟨Nat.le_refl _, Nat.le_refl _⟩ (Nat.le_of_ble_eq_true rfl) dX5_isSeated_99 (fun H locs hP hS => ?_)
              refine x_yeq (u := (b2n (seat most 0 (f + 1) (max cams (cam + 1)) (u2 (u2 m2 14 f cam) 15 f lag)).1 : Nat)) (tgt := 107) hx hb (nI_toInt (Nat.lt_of_le_of_lt (b2n_le _) (by decide))) dX5_isSeated_102 (by decide) (fun h_15 => ?_) (fun h_15 => ?_)
              · refine lv_iinc (v := nI (lag + 1)) (lv' := [(7, .int (nI (lag + 1))), (6, .int (nI (lgA m cam cams f))), (5, .int (nI cam)), (0, .ref (ad 13)), (1, .int (nI nf)), (2, .int (nI f)), (3, .int (nI cams)), (4, .int (nI most))]) hx hb dX5_isSeated_107 hl (k := 0) rfl (n_inc lag 1) (by decide) rfl (fun ls hl => ?_)
                refine lv_goto (tgt := 50) hx hb dX5_isSeated_110 (by decide) ?_
                have hl0 : lv_has ls 8 [(7, .int (nI (lag + 1))), (6, .int (nI (lgA m cam cams f))), (5, .int (nI cam)), (0, .ref (ad 13)), (1, .int (nI nf)), (2, .int (nI f)), (3, .int (nI cams)), (4, .int (nI most))] := lv_sub hl [0, 1, 2, 3, 4, 5, 6, 7] rfl
                exact ih50 (lag + 1) ((seat most 0 (f + 1) (max cams (cam + 1)) (u2 (u2 m2 14 f cam) 15 f lag)).2) (by omega) (by rw [if_pos (by omega), if_neg (by show ¬ (seat most 0 (f + 1) (max cams (cam + 1)) (u2 (u2 m2 14 f cam) 15 f lag)).1 = true; rw [b2n_0 h_15]; decide)] at hR2; exact hR2) ((hk2.keep (keeps.st.tr (seat_keeps _ _ _ _ _).up))) _ _ _ (hP) hS hl0
              · refine lv_iconst (v := nI 1) hx hb dX5_isSeated_105 (by decide) ?_
                exact x_retz hx hb hr9 hlk9 hS (by have hb1 : (seat most 0 (f + 1) (max cams (cam + 1)) (u2 (u2 m2 14 f cam) 15 f lag)).1 = true := b2n_1 h_15; rw [if_pos (by omega), if_pos hb1] at hR2; rw [← hR2, if_pos hb1] at hR; rw [← hR]; exact hP) (by have hb1 : (seat most 0 (f + 1) (max cams (cam + 1)) (u2 (u2 m2 14 f cam) 15 f lag)).1 = true := b2n_1 h_15; rw [if_pos (by omega), if_pos hb1] at hR2; rw [← hR2, if_pos hb1] at hR; rw [← hR]; show nI 1 = nI (b2n (seat most 0 (f + 1) (max cams (cam + 1)) (u2 (u2 m2 14 f cam) 15 f lag)).1); rw [hb1]; rfl) (rfl) dX5_isSeated_106
        have hl0 : lv_has ls 8 [(7, .int (nI 0)), (6, .int (nI (lgA m cam cams f))), (5, .int (nI cam)), (0, .ref (ad 13)), (1, .int (nI nf)), (2, .int (nI f)), (3, .int (nI cams)), (4, .int (nI most))] := lv_sub hl [0, 1, 2, 3, 4, 5, 6, 7] rfl
        exact L50 12 0 m (by omega) (rfl) (hk) _ _ _ (hP) hS hl0
  have hl0 : lv_has ls 8 [(5, .int (nI 0)), (0, .ref (ad 13)), (1, .int (nI nf)), (2, .int (nI f)), (3, .int (nI cams)), (4, .int (nI most))] := lv_sub hl [0, 1, 2, 3, 4, 5] rfl
  exact L15 (min (cams + 1) most) 0 M (by omega) (rfl) (hk9) _ _ _ (hP) hS hl0
set_option maxHeartbeats 4000000 in
set_option maxRecDepth 100000 in
theorem c_seat_2 {l : Launch} {g : gE} {ad : Nat → Nat} (hI : g_inj ad 55) (M : gMem) (J : gMeL) (nf f cams most : Nat) (hnf : nf ≤ 5) (hfd : f + 2 = nf) (hcm : cams ≤ f) (hms : most ≤ 5) (hk9 : seatOk f M) : CI l g ad dsX 55 yX5_isSeated cX5_isSeated 8 (some .boolean) 6 [.ref (ad 13), .int (nI nf), .int (nI f), .int (nI cams), .int (nI most)] M J (nI (b2n (seat most 2 f cams M).1)) ((seat most 2 f cams M).2) J := by
  refine CI.of (plainFor_of_name (by decide)) (Nat.le_of_ble_eq_true rfl) (fun p9 e9 s9 m9 args9 below9 meth9 c9 CF hK hr9 hlk9 hP hS ls hl => ?_)
  have hx := CF.1
  have hb := CF.2.1
  have hA : ∀ q, g_A ad 55 q → g_A ad 55 q := fun _ h => h
  have hl : lv_has ls 8 [(0, .ref (ad 13)), (1, .int (nI nf)), (2, .int (nI f)), (3, .int (nI cams)), (4, .int (nI most))] := hl
  refine lv_iload_n hx hb dX5_isSeated_0 rfl (lv_at hl 2 rfl) ?_
  refine lv_iload_n hx hb dX5_isSeated_1 rfl (lv_at hl 1 rfl) ?_
  refine x_zge (u := (f : Nat)) (v := (nf : Nat)) (tgt := 10) hx hb (nI_toInt (by omega)) (nI_toInt (by omega)) dX5_isSeated_2 (by decide) (fun h_1 => (by omega : False).elim) (fun h_1 => ?_)
  refine lv_iload_n hx hb dX5_isSeated_5 rfl (lv_at hl 2 rfl) ?_
  refine lv_iconst (v := nI 5) hx hb dX5_isSeated_6 (by decide) ?_
  refine x_zlt (u := (f : Nat)) (v := (5 : Int)) (tgt := 12) hx hb (nI_toInt (by omega)) (rfl) dX5_isSeated_7 (by decide) (fun h_2 => ?_) (fun h_2 => (by omega : False).elim)
  refine lv_iconst (v := nI 0) hx hb dX5_isSeated_12 (by decide) ?_
  refine lv_istore (lv' := [(5, .int (nI 0)), (0, .ref (ad 13)), (1, .int (nI nf)), (2, .int (nI f)), (3, .int (nI cams)), (4, .int (nI most))]) hx hb dX5_isSeated_13 hl (by decide) rfl (fun ls hl => ?_)
  have L15 : ∀ (d15 : Nat) (cam : Nat) (m : gMem), (cam + d15 = min (cams + 1) most) → (camL (fun q9 z9 => seat most 1 (f + 1) (max cams (q9 + 1)) z9) cams f d15 cam m = (seat most 2 f cams M)) → (seatOk f m) → (∀ (H : Heap) (locs : List Loc) (ls : Array Slot), g_P g ad dsX 55 m J H → va_S (g_A ad 55) s9.heap H locs → lv_has ls 8 [(5, .int (nI cam)), (0, .ref (ad 13)), (1, .int (nI nf)), (2, .int (nI f)), (3, .int (nI cams)), (4, .int (nI most))] → W p9 l e9 (g_rm 6) s9 m9 args9 below9 meth9 c9 H locs 0 0 (MQ below9 (va_Qi (fun r' (_ : Unit) => r' = (nI (b2n (seat most 2 f cams M).1))) (fun _ t => g_P g ad dsX 55 ((seat most 2 f cams M).2) J t.heap) (g_A ad 55)) args9 s9 0 0 (g_A ad 55)) (F0 m9 15 ls [])) := by
    intro d15
    induction d15 with
    | zero =>
      intro cam m hc hR hk H locs ls hP hS hl
      refine lv_iload hx hb dX5_isSeated_15 (lv_at hl 0 rfl) ?_
      refine lv_iload_n hx hb dX5_isSeated_17 rfl (lv_at hl 4 rfl) ?_
      refine x_zgt (u := (cam : Nat)) (v := (cams : Nat)) (tgt := 119) hx hb (nI_toInt (by omega)) (nI_toInt (by omega)) dX5_isSeated_18 (by decide) (fun h_3 => ?_) (fun h_3 => ?_)
      · refine lv_iconst (v := nI 0) hx hb dX5_isSeated_119 (by decide) ?_
        exact x_retz hx hb hr9 hlk9 hS (by rw [← hR]; exact hP) (by rw [← hR]; rfl) (rfl) dX5_isSeated_120
      · refine lv_iload hx hb dX5_isSeated_21 (lv_at hl 0 rfl) ?_
        refine lv_iload hx hb dX5_isSeated_23 (lv_at hl 5 rfl) ?_
        refine x_zge (u := (cam : Nat)) (v := (most : Nat)) (tgt := 119) hx hb (nI_toInt (by omega)) (nI_toInt (by omega)) dX5_isSeated_25 (by decide) (fun h_4 => ?_) (fun h_4 => (by omega : False).elim)
        refine lv_iconst (v := nI 0) hx hb dX5_isSeated_119 (by decide) ?_
        exact x_retz hx hb hr9 hlk9 hS (by rw [← hR]; exact hP) (by rw [← hR]; rfl) (rfl) dX5_isSeated_120
    | succ d15 ih15 =>
      intro cam m hc hR hk H locs ls hP hS hl
      rw [camL_s] at hR
      have ba := lgA_lt m cam cams f
      refine lv_iload hx hb dX5_isSeated_15 (lv_at hl 0 rfl) ?_
      refine lv_iload_n hx hb dX5_isSeated_17 rfl (lv_at hl 4 rfl) ?_
      refine x_zgt (u := (cam : Nat)) (v := (cams : Nat)) (tgt := 119) hx hb (nI_toInt (by omega)) (nI_toInt (by omega)) dX5_isSeated_18 (by decide) (fun h_5 => (by omega : False).elim) (fun h_5 => ?_)
      refine lv_iload hx hb dX5_isSeated_21 (lv_at hl 0 rfl) ?_
      refine lv_iload hx hb dX5_isSeated_23 (lv_at hl 5 rfl) ?_
      refine x_zge (u := (cam : Nat)) (v := (most : Nat)) (tgt := 119) hx hb (nI_toInt (by omega)) (nI_toInt (by omega)) dX5_isSeated_25 (by decide) (fun h_6 => (by omega : False).elim) (fun h_6 => ?_)
      refine lv_iload hx hb dX5_isSeated_28 (lv_at hl 0 rfl) ?_
      refine lv_iload_n hx hb dX5_isSeated_30 rfl (lv_at hl 4 rfl) ?_
      refine x_zge (u := (cam : Nat)) (v := (cams : Nat)) (tgt := 44) hx hb (nI_toInt (by omega)) (nI_toInt (by omega)) dX5_isSeated_31 (by decide) (fun h_7 => ?_) (fun h_7 => ?_)
      · refine lv_iconst (v := nI 1) hx hb dX5_isSeated_44 (by decide) ?_
        refine x_ri (show (nI 1) = nI (lgA m cam cams f) from (by rw [lgA, if_neg (by omega)])) ?_
        refine lv_istore (lv' := [(6, .int (nI (lgA m cam cams f))), (5, .int (nI cam)), (0, .ref (ad 13)), (1, .int (nI nf)), (2, .int (nI f)), (3, .int (nI cams)), (4, .int (nI most))]) hx hb dX5_isSeated_45 hl (by decide) rfl (fun ls hl => ?_)
        refine lv_iconst (v := nI 0) hx hb dX5_isSeated_47 (by decide) ?_
        refine lv_istore (lv' := [(7, .int (nI 0)), (6, .int (nI (lgA m cam cams f))), (5, .int (nI cam)), (0, .ref (ad 13)), (1, .int (nI nf)), (2, .int (nI f)), (3, .int (nI cams)), (4, .int (nI most))]) hx hb dX5_isSeated_48 hl (by decide) rfl (fun ls hl => ?_)
        have L50 : ∀ (d50 : Nat) (lag : Nat) (m2 : gMem), (lag + d50 = 12) → (lagL ((fun q9 z9 => seat most 1 (f + 1) (max cams (q9 + 1)) z9) cam) (lgA m cam cams f) f cam d50 lag m2 = lagL ((fun q9 z9 => seat most 1 (f + 1) (max cams (q9 + 1)) z9) cam) (lgA m cam cams f) f cam 12 0 m) → (seatOk f m2) → (∀ (H : Heap) (locs : List Loc) (ls : Array Slot), g_P g ad dsX 55 m2 J H → va_S (g_A ad 55) s9.heap H locs → lv_has ls 8 [(7, .int (nI lag)), (6, .int (nI (lgA m cam cams f))), (5, .int (nI cam)), (0, .ref (ad 13)), (1, .int (nI nf)), (2, .int (nI f)), (3, .int (nI cams)), (4, .int (nI most))] → W p9 l e9 (g_rm 6) s9 m9 args9 below9 meth9 c9 H locs 0 0 (MQ below9 (va_Qi (fun r' (_ : Unit) => r' = (nI (b2n (seat most 2 f cams M).1))) (fun _ t => g_P g ad dsX 55 ((seat most 2 f cams M).2) J t.heap) (g_A ad 55)) args9 s9 0 0 (g_A ad 55)) (F0 m9 50 ls [])) := by
          intro d50
          induction d50 with
          | zero =>
            intro lag m2 hl9 hR2 hk2 H locs ls hP hS hl
            have hR3 : (false, m2) = lagL ((fun q9 z9 => seat most 1 (f + 1) (max cams (q9 + 1)) z9) cam) (lgA m cam cams f) f cam 12 0 m := hR2
            refine lv_iload hx hb dX5_isSeated_50 (lv_at hl 0 rfl) ?_
            refine lv_bipush (v := nI 12) hx hb dX5_isSeated_52 (by decide) ?_
            refine x_zge (u := (lag : Nat)) (v := (12 : Int)) (tgt := 113) hx hb (nI_toInt (by omega)) (rfl) dX5_isSeated_54 (by decide) (fun h_8 => ?_) (fun h_8 => (by omega : False).elim)
            refine lv_iinc (v := nI (cam + 1)) (lv' := [(5, .int (nI (cam + 1))), (7, .int (nI lag)), (6, .int (nI (lgA m cam cams f))), (0, .ref (ad 13)), (1, .int (nI nf)), (2, .int (nI f)), (3, .int (nI cams)), (4, .int (nI most))]) hx hb dX5_isSeated_113 hl (k := 2) rfl (n_inc cam 1) (by decide) rfl (fun ls hl => ?_)
            refine lv_goto (tgt := 15) hx hb dX5_isSeated_116 (by decide) ?_
            have hl0 : lv_has ls 8 [(5, .int (nI (cam + 1))), (0, .ref (ad 13)), (1, .int (nI nf)), (2, .int (nI f)), (3, .int (nI cams)), (4, .int (nI most))] := lv_sub hl [0, 3, 4, 5, 6, 7] rfl
            exact ih15 (cam + 1) m2 (by omega) (by rw [← hR3] at hR; exact hR) (hk2) _ _ _ (hP) hS hl0
          | succ d50 ih50 =>
            intro lag m2 hl9 hR2 hk2 H locs ls hP hS hl
            rw [lagL_s] at hR2
            have bl := and1_lt ((lgA m cam cams f) >>> lag)
            refine lv_iload hx hb dX5_isSeated_50 (lv_at hl 0 rfl) ?_
            refine lv_bipush (v := nI 12) hx hb dX5_isSeated_52 (by decide) ?_
            refine x_zge (u := (lag : Nat)) (v := (12 : Int)) (tgt := 113) hx hb (nI_toInt (by omega)) (rfl) dX5_isSeated_54 (by decide) (fun h_9 => (by omega : False).elim) (fun h_9 => ?_)
            refine lv_iload hx hb dX5_isSeated_57 (lv_at hl 1 rfl) ?_
            refine lv_iload hx hb dX5_isSeated_59 (lv_at hl 0 rfl) ?_
            refine x_ishr hx hb (by omega) (by omega) dX5_isSeated_61 ?_
            refine lv_iconst (v := nI 1) hx hb dX5_isSeated_62 (by decide) ?_
            refine x_iand hx hb dX5_isSeated_63 ?_
            refine lv_iconst (v := nI 1) hx hb dX5_isSeated_64 (by decide) ?_
            refine x_zne (u := (((lgA m cam cams f) >>> lag) &&& 1 : Nat)) (v := (1 : Int)) (tgt := 107) hx hb (nI_toInt (by omega)) (rfl) dX5_isSeated_65 (by decide) (fun h_10 => ?_) (fun h_10 => ?_)
            · refine lv_iinc (v := nI (lag + 1)) (lv' := [(7, .int (nI (lag + 1))), (6, .int (nI (lgA m cam cams f))), (5, .int (nI cam)), (0, .ref (ad 13)), (1, .int (nI nf)), (2, .int (nI f)), (3, .int (nI cams)), (4, .int (nI most))]) hx hb dX5_isSeated_107 hl (k := 0) rfl (n_inc lag 1) (by decide) rfl (fun ls hl => ?_)
              refine lv_goto (tgt := 50) hx hb dX5_isSeated_110 (by decide) ?_
              have hl0 : lv_has ls 8 [(7, .int (nI (lag + 1))), (6, .int (nI (lgA m cam cams f))), (5, .int (nI cam)), (0, .ref (ad 13)), (1, .int (nI nf)), (2, .int (nI f)), (3, .int (nI cams)), (4, .int (nI most))] := lv_sub hl [0, 1, 2, 3, 4, 5, 6, 7] rfl
              exact ih50 (lag + 1) m2 (by omega) (by rw [if_neg (by omega)] at hR2; exact hR2) (hk2) _ _ _ (hP) hS hl0
            · refine lv_aload_n hx hb dX5_isSeated_68 rfl (lv_at hl 3 rfl) ?_
              refine x_getr CF hK hP 13 (by decide) dX_13 rfl uX2 0 (by decide) (j := 14) rfl wd1_153 rfl dX5_isSeated_69 ?_
              refine lv_iload_n hx hb dX5_isSeated_72 rfl (lv_at hl 5 rfl) ?_
              refine lv_iload hx hb dX5_isSeated_73 (lv_at hl 2 rfl) ?_
              refine x_iast CF hK hI hA hP hS 14 (by decide) dX_14 f (by omega) (by decide) cam dX5_isSeated_75 (fun H locs hP hS => ?_)
              refine lv_aload_n hx hb dX5_isSeated_76 rfl (lv_at hl 3 rfl) ?_
              refine x_getr CF hK hP 13 (by decide) dX_13 rfl uX2 1 (by decide) (j := 15) rfl wd1_155 rfl dX5_isSeated_77 ?_
              refine lv_iload_n hx hb dX5_isSeated_80 rfl (lv_at hl 5 rfl) ?_
              refine lv_iload hx hb dX5_isSeated_81 (lv_at hl 0 rfl) ?_
              refine x_iast CF hK hI hA hP hS 15 (by decide) dX_15 f (by omega) (by decide) lag dX5_isSeated_83 (fun H locs hP hS => ?_)
              refine lv_aload_n hx hb dX5_isSeated_84 rfl (lv_at hl 3 rfl) ?_
              refine lv_iload_n hx hb dX5_isSeated_85 rfl (lv_at hl 4 rfl) ?_
              refine lv_iload_n hx hb dX5_isSeated_86 rfl (lv_at hl 5 rfl) ?_
              refine lv_iconst (v := nI 1) hx hb dX5_isSeated_87 (by decide) ?_
              refine x_iadd hx hb dX5_isSeated_88 ?_
              refine lv_iload_n hx hb dX5_isSeated_89 rfl (lv_at hl 6 rfl) ?_
              refine lv_iload hx hb dX5_isSeated_90 (lv_at hl 2 rfl) ?_
              refine lv_iconst (v := nI 1) hx hb dX5_isSeated_92 (by decide) ?_
              refine x_iadd hx hb dX5_isSeated_93 ?_
              refine x_callSP CF hK hP hS hl (As := [.int (nI cams), .int (nI (cam + 1))]) (rest := [.int (nI (f + 1)), .int (nI nf), .ref (ad 13)]) (c_max (nI cams) (nI (cam + 1))) kw_J9_max_7cf53 wd2_199 rfl ⟨Nat.le_of_ble_eq_true rfl, Nat.le_of_ble_eq_true rfl⟩ ⟨Nat.le_refl _, Nat.le_refl _⟩ (Nat.le_of_ble_eq_true rfl) dX5_isSeated_94 (fun H locs hP hS => ?_)
              refine x_ri (show (if (nI cams).toInt < (nI (cam + 1)).toInt then nI (cam + 1) else nI cams) = nI (max cams (cam + 1)) from n_maxN (by omega) (by omega)) ?_
              refine lv_iload hx hb dX5_isSeated_97 (lv_at hl 7 rfl) ?_
              refine x_callSI CF hK hP hS hA hl (As := [.ref (ad 13), .int (nI nf), .int (nI (f + 1)), .int (nI (max cams (cam + 1))), .int (nI most)]) (rest := []) (c_seat_1 hI (u2 (u2 m2 14 f cam) 15 f lag) J nf (f + 1) (max cams (cam + 1)) most (by omega) (by omega) (by omega) (by omega) (hk2.st (by omega) (by omega))) kw_X5_isSeated wd2_192 rfl ⟨Nat.le_of_ble_eq_true rfl, Nat.le_of_ble_eq_true rfl⟩ ⟨Nat.le_refl _, Nat.le_refl _⟩ (Nat.le_of_ble_eq_true rfl) dX5_isSeated_99 (fun H locs hP hS => ?_)
              refine x_yeq (u := (b2n (seat most 1 (f + 1) (max cams (cam + 1)) (u2 (u2 m2 14 f cam) 15 f lag)).1 : Nat)) (tgt := 107) hx hb (nI_toInt (Nat.lt_of_le_of_lt (b2n_le _) (by decide))) dX5_isSeated_102 (by decide) (fun h_11 => ?_) (fun h_11 => ?_)
              · refine lv_iinc (v := nI (lag + 1)) (lv' := [(7, .int (nI (lag + 1))), (6, .int (nI (lgA m cam cams f))), (5, .int (nI cam)), (0, .ref (ad 13)), (1, .int (nI nf)), (2, .int (nI f)), (3, .int (nI cams)), (4, .int (nI most))]) hx hb dX5_isSeated_107 hl (k := 0) rfl (n_inc lag 1) (by decide) rfl (fun ls hl => ?_)
                refine lv_goto (tgt := 50) hx hb dX5_isSeated_110 (by decide) ?_
                have hl0 : lv_has ls 8 [(7, .int (nI (lag + 1))), (6, .int (nI (lgA m cam cams f))), (5, .int (nI cam)), (0, .ref (ad 13)), (1, .int (nI nf)), (2, .int (nI f)), (3, .int (nI cams)), (4, .int (nI most))] := lv_sub hl [0, 1, 2, 3, 4, 5, 6, 7] rfl
                exact ih50 (lag + 1) ((seat most 1 (f + 1) (max cams (cam + 1)) (u2 (u2 m2 14 f cam) 15 f lag)).2) (by omega) (by rw [if_pos (by omega), if_neg (by show ¬ (seat most 1 (f + 1) (max cams (cam + 1)) (u2 (u2 m2 14 f cam) 15 f lag)).1 = true; rw [b2n_0 h_11]; decide)] at hR2; exact hR2) ((hk2.keep (keeps.st.tr (seat_keeps _ _ _ _ _).up))) _ _ _ (hP) hS hl0
              · refine lv_iconst (v := nI 1) hx hb dX5_isSeated_105 (by decide) ?_
                exact x_retz hx hb hr9 hlk9 hS (by have hb1 : (seat most 1 (f + 1) (max cams (cam + 1)) (u2 (u2 m2 14 f cam) 15 f lag)).1 = true := b2n_1 h_11; rw [if_pos (by omega), if_pos hb1] at hR2; rw [← hR2, if_pos hb1] at hR; rw [← hR]; exact hP) (by have hb1 : (seat most 1 (f + 1) (max cams (cam + 1)) (u2 (u2 m2 14 f cam) 15 f lag)).1 = true := b2n_1 h_11; rw [if_pos (by omega), if_pos hb1] at hR2; rw [← hR2, if_pos hb1] at hR; rw [← hR]; show nI 1 = nI (b2n (seat most 1 (f + 1) (max cams (cam + 1)) (u2 (u2 m2 14 f cam) 15 f lag)).1); rw [hb1]; rfl) (rfl) dX5_isSeated_106
        have hl0 : lv_has ls 8 [(7, .int (nI 0)), (6, .int (nI (lgA m cam cams f))), (5, .int (nI cam)), (0, .ref (ad 13)), (1, .int (nI nf)), (2, .int (nI f)), (3, .int (nI cams)), (4, .int (nI most))] := lv_sub hl [0, 1, 2, 3, 4, 5, 6, 7] rfl
        exact L50 12 0 m (by omega) (rfl) (hk) _ _ _ (hP) hS hl0
      · refine lv_aload_n hx hb dX5_isSeated_34 rfl (lv_at hl 1 rfl) ?_
        refine lv_iload hx hb dX5_isSeated_35 (lv_at hl 0 rfl) ?_
        refine lv_iload_n hx hb dX5_isSeated_37 rfl (lv_at hl 3 rfl) ?_
        refine x_callVI CF hK hP hS hA hl (As := [.int (nI cam), .int (nI f)]) (rest := []) (c_lagsOn hI m J cam f (by omega) (by omega) hk) kw_X2_lagsOn wd2_195 (by decide) dX_13 rfl rfl ⟨Nat.le_of_ble_eq_true rfl, Nat.le_of_ble_eq_true rfl⟩ ⟨Nat.le_refl _, Nat.le_refl _⟩ (Nat.le_of_ble_eq_true rfl) dX5_isSeated_38 (fun H locs hP hS => ?_)
        refine x_ri (show (nI (lon m cam f f)) = nI (lgA m cam cams f) from (by rw [lgA, if_pos (by omega)])) ?_
        refine lv_goto (tgt := 45) hx hb dX5_isSeated_41 (by decide) ?_
        refine lv_istore (lv' := [(6, .int (nI (lgA m cam cams f))), (5, .int (nI cam)), (0, .ref (ad 13)), (1, .int (nI nf)), (2, .int (nI f)), (3, .int (nI cams)), (4, .int (nI most))]) hx hb dX5_isSeated_45 hl (by decide) rfl (fun ls hl => ?_)
        refine lv_iconst (v := nI 0) hx hb dX5_isSeated_47 (by decide) ?_
        refine lv_istore (lv' := [(7, .int (nI 0)), (6, .int (nI (lgA m cam cams f))), (5, .int (nI cam)), (0, .ref (ad 13)), (1, .int (nI nf)), (2, .int (nI f)), (3, .int (nI cams)), (4, .int (nI most))]) hx hb dX5_isSeated_48 hl (by decide) rfl (fun ls hl => ?_)
        have L50 : ∀ (d50 : Nat) (lag : Nat) (m2 : gMem), (lag + d50 = 12) → (lagL ((fun q9 z9 => seat most 1 (f + 1) (max cams (q9 + 1)) z9) cam) (lgA m cam cams f) f cam d50 lag m2 = lagL ((fun q9 z9 => seat most 1 (f + 1) (max cams (q9 + 1)) z9) cam) (lgA m cam cams f) f cam 12 0 m) → (seatOk f m2) → (∀ (H : Heap) (locs : List Loc) (ls : Array Slot), g_P g ad dsX 55 m2 J H → va_S (g_A ad 55) s9.heap H locs → lv_has ls 8 [(7, .int (nI lag)), (6, .int (nI (lgA m cam cams f))), (5, .int (nI cam)), (0, .ref (ad 13)), (1, .int (nI nf)), (2, .int (nI f)), (3, .int (nI cams)), (4, .int (nI most))] → W p9 l e9 (g_rm 6) s9 m9 args9 below9 meth9 c9 H locs 0 0 (MQ below9 (va_Qi (fun r' (_ : Unit) => r' = (nI (b2n (seat most 2 f cams M).1))) (fun _ t => g_P g ad dsX 55 ((seat most 2 f cams M).2) J t.heap) (g_A ad 55)) args9 s9 0 0 (g_A ad 55)) (F0 m9 50 ls [])) := by
          intro d50
          induction d50 with
          | zero =>
            intro lag m2 hl9 hR2 hk2 H locs ls hP hS hl
            have hR3 : (false, m2) = lagL ((fun q9 z9 => seat most 1 (f + 1) (max cams (q9 + 1)) z9) cam) (lgA m cam cams f) f cam 12 0 m := hR2
            refine lv_iload hx hb dX5_isSeated_50 (lv_at hl 0 rfl) ?_
            refine lv_bipush (v := nI 12) hx hb dX5_isSeated_52 (by decide) ?_
            refine x_zge (u := (lag : Nat)) (v := (12 : Int)) (tgt := 113) hx hb (nI_toInt (by omega)) (rfl) dX5_isSeated_54 (by decide) (fun h_12 => ?_) (fun h_12 => (by omega : False).elim)
            refine lv_iinc (v := nI (cam + 1)) (lv' := [(5, .int (nI (cam + 1))), (7, .int (nI lag)), (6, .int (nI (lgA m cam cams f))), (0, .ref (ad 13)), (1, .int (nI nf)), (2, .int (nI f)), (3, .int (nI cams)), (4, .int (nI most))]) hx hb dX5_isSeated_113 hl (k := 2) rfl (n_inc cam 1) (by decide) rfl (fun ls hl => ?_)
            refine lv_goto (tgt := 15) hx hb dX5_isSeated_116 (by decide) ?_
            have hl0 : lv_has ls 8 [(5, .int (nI (cam + 1))), (0, .ref (ad 13)), (1, .int (nI nf)), (2, .int (nI f)), (3, .int (nI cams)), (4, .int (nI most))] := lv_sub hl [0, 3, 4, 5, 6, 7] rfl
            exact ih15 (cam + 1) m2 (by omega) (by rw [← hR3] at hR; exact hR) (hk2) _ _ _ (hP) hS hl0
          | succ d50 ih50 =>
            intro lag m2 hl9 hR2 hk2 H locs ls hP hS hl
            rw [lagL_s] at hR2
            have bl := and1_lt ((lgA m cam cams f) >>> lag)
            refine lv_iload hx hb dX5_isSeated_50 (lv_at hl 0 rfl) ?_
            refine lv_bipush (v := nI 12) hx hb dX5_isSeated_52 (by decide) ?_
            refine x_zge (u := (lag : Nat)) (v := (12 : Int)) (tgt := 113) hx hb (nI_toInt (by omega)) (rfl) dX5_isSeated_54 (by decide) (fun h_13 => (by omega : False).elim) (fun h_13 => ?_)
            refine lv_iload hx hb dX5_isSeated_57 (lv_at hl 1 rfl) ?_
            refine lv_iload hx hb dX5_isSeated_59 (lv_at hl 0 rfl) ?_
            refine x_ishr hx hb (by omega) (by omega) dX5_isSeated_61 ?_
            refine lv_iconst (v := nI 1) hx hb dX5_isSeated_62 (by decide) ?_
            refine x_iand hx hb dX5_isSeated_63 ?_
            refine lv_iconst (v := nI 1) hx hb dX5_isSeated_64 (by decide) ?_
            refine x_zne (u := (((lgA m cam cams f) >>> lag) &&& 1 : Nat)) (v := (1 : Int)) (tgt := 107) hx hb (nI_toInt (by omega)) (rfl) dX5_isSeated_65 (by decide) (fun h_14 => ?_) (fun h_14 => ?_)
            · refine lv_iinc (v := nI (lag + 1)) (lv' := [(7, .int (nI (lag + 1))), (6, .int (nI (lgA m cam cams f))), (5, .int (nI cam)), (0, .ref (ad 13)), (1, .int (nI nf)), (2, .int (nI f)), (3, .int (nI cams)), (4, .int (nI most))]) hx hb dX5_isSeated_107 hl (k := 0) rfl (n_inc lag 1) (by decide) rfl (fun ls hl => ?_)
              refine lv_goto (tgt := 50) hx hb dX5_isSeated_110 (by decide) ?_
              have hl0 : lv_has ls 8 [(7, .int (nI (lag + 1))), (6, .int (nI (lgA m cam cams f))), (5, .int (nI cam)), (0, .ref (ad 13)), (1, .int (nI nf)), (2, .int (nI f)), (3, .int (nI cams)), (4, .int (nI most))] := lv_sub hl [0, 1, 2, 3, 4, 5, 6, 7] rfl
              exact ih50 (lag + 1) m2 (by omega) (by rw [if_neg (by omega)] at hR2; exact hR2) (hk2) _ _ _ (hP) hS hl0
            · refine lv_aload_n hx hb dX5_isSeated_68 rfl (lv_at hl 3 rfl) ?_
              refine x_getr CF hK hP 13 (by decide) dX_13 rfl uX2 0 (by decide) (j := 14) rfl wd1_153 rfl dX5_isSeated_69 ?_
              refine lv_iload_n hx hb dX5_isSeated_72 rfl (lv_at hl 5 rfl) ?_
              refine lv_iload hx hb dX5_isSeated_73 (lv_at hl 2 rfl) ?_
              refine x_iast CF hK hI hA hP hS 14 (by decide) dX_14 f (by omega) (by decide) cam dX5_isSeated_75 (fun H locs hP hS => ?_)
              refine lv_aload_n hx hb dX5_isSeated_76 rfl (lv_at hl 3 rfl) ?_
              refine x_getr CF hK hP 13 (by decide) dX_13 rfl uX2 1 (by decide) (j := 15) rfl wd1_155 rfl dX5_isSeated_77 ?_
              refine lv_iload_n hx hb dX5_isSeated_80 rfl (lv_at hl 5 rfl) ?_
              refine lv_iload hx hb dX5_isSeated_81 (lv_at hl 0 rfl) ?_
              refine x_iast CF hK hI hA hP hS 15 (by decide) dX_15 f (by omega) (by decide) lag dX5_isSeated_83 (fun H locs hP hS => ?_)
              refine lv_aload_n hx hb dX5_isSeated_84 rfl (lv_at hl 3 rfl) ?_
              refine lv_iload_n hx hb dX5_isSeated_85 rfl (lv_at hl 4 rfl) ?_
              refine lv_iload_n hx hb dX5_isSeated_86 rfl (lv_at hl 5 rfl) ?_
              refine lv_iconst (v := nI 1) hx hb dX5_isSeated_87 (by decide) ?_
              refine x_iadd hx hb dX5_isSeated_88 ?_
              refine lv_iload_n hx hb dX5_isSeated_89 rfl (lv_at hl 6 rfl) ?_
              refine lv_iload hx hb dX5_isSeated_90 (lv_at hl 2 rfl) ?_
              refine lv_iconst (v := nI 1) hx hb dX5_isSeated_92 (by decide) ?_
              refine x_iadd hx hb dX5_isSeated_93 ?_
              refine x_callSP CF hK hP hS hl (As := [.int (nI cams), .int (nI (cam + 1))]) (rest := [.int (nI (f + 1)), .int (nI nf), .ref (ad 13)]) (c_max (nI cams) (nI (cam + 1))) kw_J9_max_7cf53 wd2_199 rfl ⟨Nat.le_of_ble_eq_true rfl, Nat.le_of_ble_eq_true rfl⟩ ⟨Nat.le_refl _, Nat.le_refl _⟩ (Nat.le_of_ble_eq_true rfl) dX5_isSeated_94 (fun H locs hP hS => ?_)
              refine x_ri (show (if (nI cams).toInt < (nI (cam + 1)).toInt then nI (cam + 1) else nI cams) = nI (max cams (cam + 1)) from n_maxN (by omega) (by omega)) ?_
              refine lv_iload hx hb dX5_isSeated_97 (lv_at hl 7 rfl) ?_
              refine x_callSI CF hK hP hS hA hl (As := [.ref (ad 13), .int (nI nf), .int (nI (f + 1)), .int (nI (max cams (cam + 1))), .int (nI most)]) (rest := []) (c_seat_1 hI (u2 (u2 m2 14 f cam) 15 f lag) J nf (f + 1) (max cams (cam + 1)) most (by omega) (by omega) (by omega) (by omega) (hk2.st (by omega) (by omega))) kw_X5_isSeated wd2_192 rfl ⟨Nat.le_of_ble_eq_true rfl, Nat.le_of_ble_eq_true rfl⟩ ⟨Nat.le_refl _, Nat.le_refl _⟩ (Nat.le_of_ble_eq_true rfl) dX5_isSeated_99 (fun H locs hP hS => ?_)
              refine x_yeq (u := (b2n (seat most 1 (f + 1) (max cams (cam + 1)) (u2 (u2 m2 14 f cam) 15 f lag)).1 : Nat)) (tgt := 107) hx hb (nI_toInt (Nat.lt_of_le_of_lt (b2n_le _) (by decide))) dX5_isSeated_102 (by decide) (fun h_15 => ?_) (fun h_15 => ?_)
              · refine lv_iinc (v := nI (lag + 1)) (lv' := [(7, .int (nI (lag + 1))), (6, .int (nI (lgA m cam cams f))), (5, .int (nI cam)), (0, .ref (ad 13)), (1, .int (nI nf)), (2, .int (nI f)), (3, .int (nI cams)), (4, .int (nI most))]) hx hb dX5_isSeated_107 hl (k := 0) rfl (n_inc lag 1) (by decide) rfl (fun ls hl => ?_)
                refine lv_goto (tgt := 50) hx hb dX5_isSeated_110 (by decide) ?_
                have hl0 : lv_has ls 8 [(7, .int (nI (lag + 1))), (6, .int (nI (lgA m cam cams f))), (5, .int (nI cam)), (0, .ref (ad 13)), (1, .int (nI nf)), (2, .int (nI f)), (3, .int (nI cams)), (4, .int (nI most))] := lv_sub hl [0, 1, 2, 3, 4, 5, 6, 7] rfl
                exact ih50 (lag + 1) ((seat most 1 (f + 1) (max cams (cam + 1)) (u2 (u2 m2 14 f cam) 15 f lag)).2) (by omega) (by rw [if_pos (by omega), if_neg (by show ¬ (seat most 1 (f + 1) (max cams (cam + 1)) (u2 (u2 m2 14 f cam) 15 f lag)).1 = true; rw [b2n_0 h_15]; decide)] at hR2; exact hR2) ((hk2.keep (keeps.st.tr (seat_keeps _ _ _ _ _).up))) _ _ _ (hP) hS hl0
              · refine lv_iconst (v := nI 1) hx hb dX5_isSeated_105 (by decide) ?_
                exact x_retz hx hb hr9 hlk9 hS (by have hb1 : (seat most 1 (f + 1) (max cams (cam + 1)) (u2 (u2 m2 14 f cam) 15 f lag)).1 = true := b2n_1 h_15; rw [if_pos (by omega), if_pos hb1] at hR2; rw [← hR2, if_pos hb1] at hR; rw [← hR]; exact hP) (by have hb1 : (seat most 1 (f + 1) (max cams (cam + 1)) (u2 (u2 m2 14 f cam) 15 f lag)).1 = true := b2n_1 h_15; rw [if_pos (by omega), if_pos hb1] at hR2; rw [← hR2, if_pos hb1] at hR; rw [← hR]; show nI 1 = nI (b2n (seat most 1 (f + 1) (max cams (cam + 1)) (u2 (u2 m2 14 f cam) 15 f lag)).1); rw [hb1]; rfl) (rfl) dX5_isSeated_106
        have hl0 : lv_has ls 8 [(7, .int (nI 0)), (6, .int (nI (lgA m cam cams f))), (5, .int (nI cam)), (0, .ref (ad 13)), (1, .int (nI nf)), (2, .int (nI f)), (3, .int (nI cams)), (4, .int (nI most))] := lv_sub hl [0, 1, 2, 3, 4, 5, 6, 7] rfl
        exact L50 12 0 m (by omega) (rfl) (hk) _ _ _ (hP) hS hl0
  have hl0 : lv_has ls 8 [(5, .int (nI 0)), (0, .ref (ad 13)), (1, .int (nI nf)), (2, .int (nI f)), (3, .int (nI cams)), (4, .int (nI most))] := lv_sub hl [0, 1, 2, 3, 4, 5] rfl
  exact L15 (min (cams + 1) most) 0 M (by omega) (rfl) (hk9) _ _ _ (hP) hS hl0
set_option maxHeartbeats 4000000 in
set_option maxRecDepth 100000 in
theorem c_seat_3 {l : Launch} {g : gE} {ad : Nat → Nat} (hI : g_inj ad 55) (M : gMem) (J : gMeL) (nf f cams most : Nat) (hnf : nf ≤ 5) (hfd : f + 3 = nf) (hcm : cams ≤ f) (hms : most ≤ 5) (hk9 : seatOk f M) : CI l g ad dsX 55 yX5_isSeated cX5_isSeated 8 (some .boolean) 7 [.ref (ad 13), .int (nI nf), .int (nI f), .int (nI cams), .int (nI most)] M J (nI (b2n (seat most 3 f cams M).1)) ((seat most 3 f cams M).2) J := by
  refine CI.of (plainFor_of_name (by decide)) (Nat.le_of_ble_eq_true rfl) (fun p9 e9 s9 m9 args9 below9 meth9 c9 CF hK hr9 hlk9 hP hS ls hl => ?_)
  have hx := CF.1
  have hb := CF.2.1
  have hA : ∀ q, g_A ad 55 q → g_A ad 55 q := fun _ h => h
  have hl : lv_has ls 8 [(0, .ref (ad 13)), (1, .int (nI nf)), (2, .int (nI f)), (3, .int (nI cams)), (4, .int (nI most))] := hl
  refine lv_iload_n hx hb dX5_isSeated_0 rfl (lv_at hl 2 rfl) ?_
  refine lv_iload_n hx hb dX5_isSeated_1 rfl (lv_at hl 1 rfl) ?_
  refine x_zge (u := (f : Nat)) (v := (nf : Nat)) (tgt := 10) hx hb (nI_toInt (by omega)) (nI_toInt (by omega)) dX5_isSeated_2 (by decide) (fun h_1 => (by omega : False).elim) (fun h_1 => ?_)
  refine lv_iload_n hx hb dX5_isSeated_5 rfl (lv_at hl 2 rfl) ?_
  refine lv_iconst (v := nI 5) hx hb dX5_isSeated_6 (by decide) ?_
  refine x_zlt (u := (f : Nat)) (v := (5 : Int)) (tgt := 12) hx hb (nI_toInt (by omega)) (rfl) dX5_isSeated_7 (by decide) (fun h_2 => ?_) (fun h_2 => (by omega : False).elim)
  refine lv_iconst (v := nI 0) hx hb dX5_isSeated_12 (by decide) ?_
  refine lv_istore (lv' := [(5, .int (nI 0)), (0, .ref (ad 13)), (1, .int (nI nf)), (2, .int (nI f)), (3, .int (nI cams)), (4, .int (nI most))]) hx hb dX5_isSeated_13 hl (by decide) rfl (fun ls hl => ?_)
  have L15 : ∀ (d15 : Nat) (cam : Nat) (m : gMem), (cam + d15 = min (cams + 1) most) → (camL (fun q9 z9 => seat most 2 (f + 1) (max cams (q9 + 1)) z9) cams f d15 cam m = (seat most 3 f cams M)) → (seatOk f m) → (∀ (H : Heap) (locs : List Loc) (ls : Array Slot), g_P g ad dsX 55 m J H → va_S (g_A ad 55) s9.heap H locs → lv_has ls 8 [(5, .int (nI cam)), (0, .ref (ad 13)), (1, .int (nI nf)), (2, .int (nI f)), (3, .int (nI cams)), (4, .int (nI most))] → W p9 l e9 (g_rm 7) s9 m9 args9 below9 meth9 c9 H locs 0 0 (MQ below9 (va_Qi (fun r' (_ : Unit) => r' = (nI (b2n (seat most 3 f cams M).1))) (fun _ t => g_P g ad dsX 55 ((seat most 3 f cams M).2) J t.heap) (g_A ad 55)) args9 s9 0 0 (g_A ad 55)) (F0 m9 15 ls [])) := by
    intro d15
    induction d15 with
    | zero =>
      intro cam m hc hR hk H locs ls hP hS hl
      refine lv_iload hx hb dX5_isSeated_15 (lv_at hl 0 rfl) ?_
      refine lv_iload_n hx hb dX5_isSeated_17 rfl (lv_at hl 4 rfl) ?_
      refine x_zgt (u := (cam : Nat)) (v := (cams : Nat)) (tgt := 119) hx hb (nI_toInt (by omega)) (nI_toInt (by omega)) dX5_isSeated_18 (by decide) (fun h_3 => ?_) (fun h_3 => ?_)
      · refine lv_iconst (v := nI 0) hx hb dX5_isSeated_119 (by decide) ?_
        exact x_retz hx hb hr9 hlk9 hS (by rw [← hR]; exact hP) (by rw [← hR]; rfl) (rfl) dX5_isSeated_120
      · refine lv_iload hx hb dX5_isSeated_21 (lv_at hl 0 rfl) ?_
        refine lv_iload hx hb dX5_isSeated_23 (lv_at hl 5 rfl) ?_
        refine x_zge (u := (cam : Nat)) (v := (most : Nat)) (tgt := 119) hx hb (nI_toInt (by omega)) (nI_toInt (by omega)) dX5_isSeated_25 (by decide) (fun h_4 => ?_) (fun h_4 => (by omega : False).elim)
        refine lv_iconst (v := nI 0) hx hb dX5_isSeated_119 (by decide) ?_
        exact x_retz hx hb hr9 hlk9 hS (by rw [← hR]; exact hP) (by rw [← hR]; rfl) (rfl) dX5_isSeated_120
    | succ d15 ih15 =>
      intro cam m hc hR hk H locs ls hP hS hl
      rw [camL_s] at hR
      have ba := lgA_lt m cam cams f
      refine lv_iload hx hb dX5_isSeated_15 (lv_at hl 0 rfl) ?_
      refine lv_iload_n hx hb dX5_isSeated_17 rfl (lv_at hl 4 rfl) ?_
      refine x_zgt (u := (cam : Nat)) (v := (cams : Nat)) (tgt := 119) hx hb (nI_toInt (by omega)) (nI_toInt (by omega)) dX5_isSeated_18 (by decide) (fun h_5 => (by omega : False).elim) (fun h_5 => ?_)
      refine lv_iload hx hb dX5_isSeated_21 (lv_at hl 0 rfl) ?_
      refine lv_iload hx hb dX5_isSeated_23 (lv_at hl 5 rfl) ?_
      refine x_zge (u := (cam : Nat)) (v := (most : Nat)) (tgt := 119) hx hb (nI_toInt (by omega)) (nI_toInt (by omega)) dX5_isSeated_25 (by decide) (fun h_6 => (by omega : False).elim) (fun h_6 => ?_)
      refine lv_iload hx hb dX5_isSeated_28 (lv_at hl 0 rfl) ?_
      refine lv_iload_n hx hb dX5_isSeated_30 rfl (lv_at hl 4 rfl) ?_
      refine x_zge (u := (cam : Nat)) (v := (cams : Nat)) (tgt := 44) hx hb (nI_toInt (by omega)) (nI_toInt (by omega)) dX5_isSeated_31 (by decide) (fun h_7 => ?_) (fun h_7 => ?_)
      · refine lv_iconst (v := nI 1) hx hb dX5_isSeated_44 (by decide) ?_
        refine x_ri (show (nI 1) = nI (lgA m cam cams f) from (by rw [lgA, if_neg (by omega)])) ?_
        refine lv_istore (lv' := [(6, .int (nI (lgA m cam cams f))), (5, .int (nI cam)), (0, .ref (ad 13)), (1, .int (nI nf)), (2, .int (nI f)), (3, .int (nI cams)), (4, .int (nI most))]) hx hb dX5_isSeated_45 hl (by decide) rfl (fun ls hl => ?_)
        refine lv_iconst (v := nI 0) hx hb dX5_isSeated_47 (by decide) ?_
        refine lv_istore (lv' := [(7, .int (nI 0)), (6, .int (nI (lgA m cam cams f))), (5, .int (nI cam)), (0, .ref (ad 13)), (1, .int (nI nf)), (2, .int (nI f)), (3, .int (nI cams)), (4, .int (nI most))]) hx hb dX5_isSeated_48 hl (by decide) rfl (fun ls hl => ?_)
        have L50 : ∀ (d50 : Nat) (lag : Nat) (m2 : gMem), (lag + d50 = 12) → (lagL ((fun q9 z9 => seat most 2 (f + 1) (max cams (q9 + 1)) z9) cam) (lgA m cam cams f) f cam d50 lag m2 = lagL ((fun q9 z9 => seat most 2 (f + 1) (max cams (q9 + 1)) z9) cam) (lgA m cam cams f) f cam 12 0 m) → (seatOk f m2) → (∀ (H : Heap) (locs : List Loc) (ls : Array Slot), g_P g ad dsX 55 m2 J H → va_S (g_A ad 55) s9.heap H locs → lv_has ls 8 [(7, .int (nI lag)), (6, .int (nI (lgA m cam cams f))), (5, .int (nI cam)), (0, .ref (ad 13)), (1, .int (nI nf)), (2, .int (nI f)), (3, .int (nI cams)), (4, .int (nI most))] → W p9 l e9 (g_rm 7) s9 m9 args9 below9 meth9 c9 H locs 0 0 (MQ below9 (va_Qi (fun r' (_ : Unit) => r' = (nI (b2n (seat most 3 f cams M).1))) (fun _ t => g_P g ad dsX 55 ((seat most 3 f cams M).2) J t.heap) (g_A ad 55)) args9 s9 0 0 (g_A ad 55)) (F0 m9 50 ls [])) := by
          intro d50
          induction d50 with
          | zero =>
            intro lag m2 hl9 hR2 hk2 H locs ls hP hS hl
            have hR3 : (false, m2) = lagL ((fun q9 z9 => seat most 2 (f + 1) (max cams (q9 + 1)) z9) cam) (lgA m cam cams f) f cam 12 0 m := hR2
            refine lv_iload hx hb dX5_isSeated_50 (lv_at hl 0 rfl) ?_
            refine lv_bipush (v := nI 12) hx hb dX5_isSeated_52 (by decide) ?_
            refine x_zge (u := (lag : Nat)) (v := (12 : Int)) (tgt := 113) hx hb (nI_toInt (by omega)) (rfl) dX5_isSeated_54 (by decide) (fun h_8 => ?_) (fun h_8 => (by omega : False).elim)
            refine lv_iinc (v := nI (cam + 1)) (lv' := [(5, .int (nI (cam + 1))), (7, .int (nI lag)), (6, .int (nI (lgA m cam cams f))), (0, .ref (ad 13)), (1, .int (nI nf)), (2, .int (nI f)), (3, .int (nI cams)), (4, .int (nI most))]) hx hb dX5_isSeated_113 hl (k := 2) rfl (n_inc cam 1) (by decide) rfl (fun ls hl => ?_)
            refine lv_goto (tgt := 15) hx hb dX5_isSeated_116 (by decide) ?_
            have hl0 : lv_has ls 8 [(5, .int (nI (cam + 1))), (0, .ref (ad 13)), (1, .int (nI nf)), (2, .int (nI f)), (3, .int (nI cams)), (4, .int (nI most))] := lv_sub hl [0, 3, 4, 5, 6, 7] rfl
            exact ih15 (cam + 1) m2 (by omega) (by rw [← hR3] at hR; exact hR) (hk2) _ _ _ (hP) hS hl0
          | succ d50 ih50 =>
            intro lag m2 hl9 hR2 hk2 H locs ls hP hS hl
            rw [lagL_s] at hR2
            have bl := and1_lt ((lgA m cam cams f) >>> lag)
            refine lv_iload hx hb dX5_isSeated_50 (lv_at hl 0 rfl) ?_
            refine lv_bipush (v := nI 12) hx hb dX5_isSeated_52 (by decide) ?_
            refine x_zge (u := (lag : Nat)) (v := (12 : Int)) (tgt := 113) hx hb (nI_toInt (by omega)) (rfl) dX5_isSeated_54 (by decide) (fun h_9 => (by omega : False).elim) (fun h_9 => ?_)
            refine lv_iload hx hb dX5_isSeated_57 (lv_at hl 1 rfl) ?_
            refine lv_iload hx hb dX5_isSeated_59 (lv_at hl 0 rfl) ?_
            refine x_ishr hx hb (by omega) (by omega) dX5_isSeated_61 ?_
            refine lv_iconst (v := nI 1) hx hb dX5_isSeated_62 (by decide) ?_
            refine x_iand hx hb dX5_isSeated_63 ?_
            refine lv_iconst (v := nI 1) hx hb dX5_isSeated_64 (by decide) ?_
            refine x_zne (u := (((lgA m cam cams f) >>> lag) &&& 1 : Nat)) (v := (1 : Int)) (tgt := 107) hx hb (nI_toInt (by omega)) (rfl) dX5_isSeated_65 (by decide) (fun h_10 => ?_) (fun h_10 => ?_)
            · refine lv_iinc (v := nI (lag + 1)) (lv' := [(7, .int (nI (lag + 1))), (6, .int (nI (lgA m cam cams f))), (5, .int (nI cam)), (0, .ref (ad 13)), (1, .int (nI nf)), (2, .int (nI f)), (3, .int (nI cams)), (4, .int (nI most))]) hx hb dX5_isSeated_107 hl (k := 0) rfl (n_inc lag 1) (by decide) rfl (fun ls hl => ?_)
              refine lv_goto (tgt := 50) hx hb dX5_isSeated_110 (by decide) ?_
              have hl0 : lv_has ls 8 [(7, .int (nI (lag + 1))), (6, .int (nI (lgA m cam cams f))), (5, .int (nI cam)), (0, .ref (ad 13)), (1, .int (nI nf)), (2, .int (nI f)), (3, .int (nI cams)), (4, .int (nI most))] := lv_sub hl [0, 1, 2, 3, 4, 5, 6, 7] rfl
              exact ih50 (lag + 1) m2 (by omega) (by rw [if_neg (by omega)] at hR2; exact hR2) (hk2) _ _ _ (hP) hS hl0
            · refine lv_aload_n hx hb dX5_isSeated_68 rfl (lv_at hl 3 rfl) ?_
              refine x_getr CF hK hP 13 (by decide) dX_13 rfl uX2 0 (by decide) (j := 14) rfl wd1_153 rfl dX5_isSeated_69 ?_
              refine lv_iload_n hx hb dX5_isSeated_72 rfl (lv_at hl 5 rfl) ?_
              refine lv_iload hx hb dX5_isSeated_73 (lv_at hl 2 rfl) ?_
              refine x_iast CF hK hI hA hP hS 14 (by decide) dX_14 f (by omega) (by decide) cam dX5_isSeated_75 (fun H locs hP hS => ?_)
              refine lv_aload_n hx hb dX5_isSeated_76 rfl (lv_at hl 3 rfl) ?_
              refine x_getr CF hK hP 13 (by decide) dX_13 rfl uX2 1 (by decide) (j := 15) rfl wd1_155 rfl dX5_isSeated_77 ?_
              refine lv_iload_n hx hb dX5_isSeated_80 rfl (lv_at hl 5 rfl) ?_
              refine lv_iload hx hb dX5_isSeated_81 (lv_at hl 0 rfl) ?_
              refine x_iast CF hK hI hA hP hS 15 (by decide) dX_15 f (by omega) (by decide) lag dX5_isSeated_83 (fun H locs hP hS => ?_)
              refine lv_aload_n hx hb dX5_isSeated_84 rfl (lv_at hl 3 rfl) ?_
              refine lv_iload_n hx hb dX5_isSeated_85 rfl (lv_at hl 4 rfl) ?_
              refine lv_iload_n hx hb dX5_isSeated_86 rfl (lv_at hl 5 rfl) ?_
              refine lv_iconst (v := nI 1) hx hb dX5_isSeated_87 (by decide) ?_
              refine x_iadd hx hb dX5_isSeated_88 ?_
              refine lv_iload_n hx hb dX5_isSeated_89 rfl (lv_at hl 6 rfl) ?_
              refine lv_iload hx hb dX5_isSeated_90 (lv_at hl 2 rfl) ?_
              refine lv_iconst (v := nI 1) hx hb dX5_isSeated_92 (by decide) ?_
              refine x_iadd hx hb dX5_isSeated_93 ?_
              refine x_callSP CF hK hP hS hl (As := [.int (nI cams), .int (nI (cam + 1))]) (rest := [.int (nI (f + 1)), .int (nI nf), .ref (ad 13)]) (c_max (nI cams) (nI (cam + 1))) kw_J9_max_7cf53 wd2_199 rfl ⟨Nat.le_of_ble_eq_true rfl, Nat.le_of_ble_eq_true rfl⟩ ⟨Nat.le_refl _, Nat.le_refl _⟩ (Nat.le_of_ble_eq_true rfl) dX5_isSeated_94 (fun H locs hP hS => ?_)
              refine x_ri (show (if (nI cams).toInt < (nI (cam + 1)).toInt then nI (cam + 1) else nI cams) = nI (max cams (cam + 1)) from n_maxN (by omega) (by omega)) ?_
              refine lv_iload hx hb dX5_isSeated_97 (lv_at hl 7 rfl) ?_
              refine x_callSI CF hK hP hS hA hl (As := [.ref (ad 13), .int (nI nf), .int (nI (f + 1)), .int (nI (max cams (cam + 1))), .int (nI most)]) (rest := []) (c_seat_2 hI (u2 (u2 m2 14 f cam) 15 f lag) J nf (f + 1) (max cams (cam + 1)) most (by omega) (by omega) (by omega) (by omega) (hk2.st (by omega) (by omega))) kw_X5_isSeated wd2_192 rfl ⟨Nat.le_of_ble_eq_true rfl, Nat.le_of_ble_eq_true rfl⟩ ⟨Nat.le_refl _, Nat.le_refl _⟩ (Nat.le_of_ble_eq_true rfl) dX5_isSeated_99 (fun H locs hP hS => ?_)
              refine x_yeq (u := (b2n (seat most 2 (f + 1) (max cams (cam + 1)) (u2 (u2 m2 14 f cam) 15 f lag)).1 : Nat)) (tgt := 107) hx hb (nI_toInt (Nat.lt_of_le_of_lt (b2n_le _) (by decide))) dX5_isSeated_102 (by decide) (fun h_11 => ?_) (fun h_11 => ?_)
              · refine lv_iinc (v := nI (lag + 1)) (lv' := [(7, .int (nI (lag + 1))), (6, .int (nI (lgA m cam cams f))), (5, .int (nI cam)), (0, .ref (ad 13)), (1, .int (nI nf)), (2, .int (nI f)), (3, .int (nI cams)), (4, .int (nI most))]) hx hb dX5_isSeated_107 hl (k := 0) rfl (n_inc lag 1) (by decide) rfl (fun ls hl => ?_)
                refine lv_goto (tgt := 50) hx hb dX5_isSeated_110 (by decide) ?_
                have hl0 : lv_has ls 8 [(7, .int (nI (lag + 1))), (6, .int (nI (lgA m cam cams f))), (5, .int (nI cam)), (0, .ref (ad 13)), (1, .int (nI nf)), (2, .int (nI f)), (3, .int (nI cams)), (4, .int (nI most))] := lv_sub hl [0, 1, 2, 3, 4, 5, 6, 7] rfl
                exact ih50 (lag + 1) ((seat most 2 (f + 1) (max cams (cam + 1)) (u2 (u2 m2 14 f cam) 15 f lag)).2) (by omega) (by rw [if_pos (by omega), if_neg (by show ¬ (seat most 2 (f + 1) (max cams (cam + 1)) (u2 (u2 m2 14 f cam) 15 f lag)).1 = true; rw [b2n_0 h_11]; decide)] at hR2; exact hR2) ((hk2.keep (keeps.st.tr (seat_keeps _ _ _ _ _).up))) _ _ _ (hP) hS hl0
              · refine lv_iconst (v := nI 1) hx hb dX5_isSeated_105 (by decide) ?_
                exact x_retz hx hb hr9 hlk9 hS (by have hb1 : (seat most 2 (f + 1) (max cams (cam + 1)) (u2 (u2 m2 14 f cam) 15 f lag)).1 = true := b2n_1 h_11; rw [if_pos (by omega), if_pos hb1] at hR2; rw [← hR2, if_pos hb1] at hR; rw [← hR]; exact hP) (by have hb1 : (seat most 2 (f + 1) (max cams (cam + 1)) (u2 (u2 m2 14 f cam) 15 f lag)).1 = true := b2n_1 h_11; rw [if_pos (by omega), if_pos hb1] at hR2; rw [← hR2, if_pos hb1] at hR; rw [← hR]; show nI 1 = nI (b2n (seat most 2 (f + 1) (max cams (cam + 1)) (u2 (u2 m2 14 f cam) 15 f lag)).1); rw [hb1]; rfl) (rfl) dX5_isSeated_106
        have hl0 : lv_has ls 8 [(7, .int (nI 0)), (6, .int (nI (lgA m cam cams f))), (5, .int (nI cam)), (0, .ref (ad 13)), (1, .int (nI nf)), (2, .int (nI f)), (3, .int (nI cams)), (4, .int (nI most))] := lv_sub hl [0, 1, 2, 3, 4, 5, 6, 7] rfl
        exact L50 12 0 m (by omega) (rfl) (hk) _ _ _ (hP) hS hl0
      · refine lv_aload_n hx hb dX5_isSeated_34 rfl (lv_at hl 1 rfl) ?_
        refine lv_iload hx hb dX5_isSeated_35 (lv_at hl 0 rfl) ?_
        refine lv_iload_n hx hb dX5_isSeated_37 rfl (lv_at hl 3 rfl) ?_
        refine x_callVI CF hK hP hS hA hl (As := [.int (nI cam), .int (nI f)]) (rest := []) (c_lagsOn hI m J cam f (by omega) (by omega) hk) kw_X2_lagsOn wd2_195 (by decide) dX_13 rfl rfl ⟨Nat.le_of_ble_eq_true rfl, Nat.le_of_ble_eq_true rfl⟩ ⟨Nat.le_refl _, Nat.le_refl _⟩ (Nat.le_of_ble_eq_true rfl) dX5_isSeated_38 (fun H locs hP hS => ?_)
        refine x_ri (show (nI (lon m cam f f)) = nI (lgA m cam cams f) from (by rw [lgA, if_pos (by omega)])) ?_
        refine lv_goto (tgt := 45) hx hb dX5_isSeated_41 (by decide) ?_
        refine lv_istore (lv' := [(6, .int (nI (lgA m cam cams f))), (5, .int (nI cam)), (0, .ref (ad 13)), (1, .int (nI nf)), (2, .int (nI f)), (3, .int (nI cams)), (4, .int (nI most))]) hx hb dX5_isSeated_45 hl (by decide) rfl (fun ls hl => ?_)
        refine lv_iconst (v := nI 0) hx hb dX5_isSeated_47 (by decide) ?_
        refine lv_istore (lv' := [(7, .int (nI 0)), (6, .int (nI (lgA m cam cams f))), (5, .int (nI cam)), (0, .ref (ad 13)), (1, .int (nI nf)), (2, .int (nI f)), (3, .int (nI cams)), (4, .int (nI most))]) hx hb dX5_isSeated_48 hl (by decide) rfl (fun ls hl => ?_)
        have L50 : ∀ (d50 : Nat) (lag : Nat) (m2 : gMem), (lag + d50 = 12) → (lagL ((fun q9 z9 => seat most 2 (f + 1) (max cams (q9 + 1)) z9) cam) (lgA m cam cams f) f cam d50 lag m2 = lagL ((fun q9 z9 => seat most 2 (f + 1) (max cams (q9 + 1)) z9) cam) (lgA m cam cams f) f cam 12 0 m) → (seatOk f m2) → (∀ (H : Heap) (locs : List Loc) (ls : Array Slot), g_P g ad dsX 55 m2 J H → va_S (g_A ad 55) s9.heap H locs → lv_has ls 8 [(7, .int (nI lag)), (6, .int (nI (lgA m cam cams f))), (5, .int (nI cam)), (0, .ref (ad 13)), (1, .int (nI nf)), (2, .int (nI f)), (3, .int (nI cams)), (4, .int (nI most))] → W p9 l e9 (g_rm 7) s9 m9 args9 below9 meth9 c9 H locs 0 0 (MQ below9 (va_Qi (fun r' (_ : Unit) => r' = (nI (b2n (seat most 3 f cams M).1))) (fun _ t => g_P g ad dsX 55 ((seat most 3 f cams M).2) J t.heap) (g_A ad 55)) args9 s9 0 0 (g_A ad 55)) (F0 m9 50 ls [])) := by
          intro d50
          induction d50 with
          | zero =>
            intro lag m2 hl9 hR2 hk2 H locs ls hP hS hl
            have hR3 : (false, m2) = lagL ((fun q9 z9 => seat most 2 (f + 1) (max cams (q9 + 1)) z9) cam) (lgA m cam cams f) f cam 12 0 m := hR2
            refine lv_iload hx hb dX5_isSeated_50 (lv_at hl 0 rfl) ?_
            refine lv_bipush (v := nI 12) hx hb dX5_isSeated_52 (by decide) ?_
            refine x_zge (u := (lag : Nat)) (v := (12 : Int)) (tgt := 113) hx hb (nI_toInt (by omega)) (rfl) dX5_isSeated_54 (by decide) (fun h_12 => ?_) (fun h_12 => (by omega : False).elim)
            refine lv_iinc (v := nI (cam + 1)) (lv' := [(5, .int (nI (cam + 1))), (7, .int (nI lag)), (6, .int (nI (lgA m cam cams f))), (0, .ref (ad 13)), (1, .int (nI nf)), (2, .int (nI f)), (3, .int (nI cams)), (4, .int (nI most))]) hx hb dX5_isSeated_113 hl (k := 2) rfl (n_inc cam 1) (by decide) rfl (fun ls hl => ?_)
            refine lv_goto (tgt := 15) hx hb dX5_isSeated_116 (by decide) ?_
            have hl0 : lv_has ls 8 [(5, .int (nI (cam + 1))), (0, .ref (ad 13)), (1, .int (nI nf)), (2, .int (nI f)), (3, .int (nI cams)), (4, .int (nI most))] := lv_sub hl [0, 3, 4, 5, 6, 7] rfl
            exact ih15 (cam + 1) m2 (by omega) (by rw [← hR3] at hR; exact hR) (hk2) _ _ _ (hP) hS hl0
          | succ d50 ih50 =>
            intro lag m2 hl9 hR2 hk2 H locs ls hP hS hl
            rw [lagL_s] at hR2
            have bl := and1_lt ((lgA m cam cams f) >>> lag)
            refine lv_iload hx hb dX5_isSeated_50 (lv_at hl 0 rfl) ?_
            refine lv_bipush (v := nI 12) hx hb dX5_isSeated_52 (by decide) ?_
            refine x_zge (u := (lag : Nat)) (v := (12 : Int)) (tgt := 113) hx hb (nI_toInt (by omega)) (rfl) dX5_isSeated_54 (by decide) (fun h_13 => (by omega : False).elim) (fun h_13 => ?_)
            refine lv_iload hx hb dX5_isSeated_57 (lv_at hl 1 rfl) ?_
            refine lv_iload hx hb dX5_isSeated_59 (lv_at hl 0 rfl) ?_
            refine x_ishr hx hb (by omega) (by omega) dX5_isSeated_61 ?_
            refine lv_iconst (v := nI 1) hx hb dX5_isSeated_62 (by decide) ?_
            refine x_iand hx hb dX5_isSeated_63 ?_
            refine lv_iconst (v := nI 1) hx hb dX5_isSeated_64 (by decide) ?_
            refine x_zne (u := (((lgA m cam cams f) >>> lag) &&& 1 : Nat)) (v := (1 : Int)) (tgt := 107) hx hb (nI_toInt (by omega)) (rfl) dX5_isSeated_65 (by decide) (fun h_14 => ?_) (fun h_14 => ?_)
            · refine lv_iinc (v := nI (lag + 1)) (lv' := [(7, .int (nI (lag + 1))), (6, .int (nI (lgA m cam cams f))), (5, .int (nI cam)), (0, .ref (ad 13)), (1, .int (nI nf)), (2, .int (nI f)), (3, .int (nI cams)), (4, .int (nI most))]) hx hb dX5_isSeated_107 hl (k := 0) rfl (n_inc lag 1) (by decide) rfl (fun ls hl => ?_)
              refine lv_goto (tgt := 50) hx hb dX5_isSeated_110 (by decide) ?_
              have hl0 : lv_has ls 8 [(7, .int (nI (lag + 1))), (6, .int (nI (lgA m cam cams f))), (5, .int (nI cam)), (0, .ref (ad 13)), (1, .int (nI nf)), (2, .int (nI f)), (3, .int (nI cams)), (4, .int (nI most))] := lv_sub hl [0, 1, 2, 3, 4, 5, 6, 7] rfl
              exact ih50 (lag + 1) m2 (by omega) (by rw [if_neg (by omega)] at hR2; exact hR2) (hk2) _ _ _ (hP) hS hl0
            · refine lv_aload_n hx hb dX5_isSeated_68 rfl (lv_at hl 3 rfl) ?_
              refine x_getr CF hK hP 13 (by decide) dX_13 rfl uX2 0 (by decide) (j := 14) rfl wd1_153 rfl dX5_isSeated_69 ?_
              refine lv_iload_n hx hb dX5_isSeated_72 rfl (lv_at hl 5 rfl) ?_
              refine lv_iload hx hb dX5_isSeated_73 (lv_at hl 2 rfl) ?_
              refine x_iast CF hK hI hA hP hS 14 (by decide) dX_14 f (by omega) (by decide) cam dX5_isSeated_75 (fun H locs hP hS => ?_)
              refine lv_aload_n hx hb dX5_isSeated_76 rfl (lv_at hl 3 rfl) ?_
              refine x_getr CF hK hP 13 (by decide) dX_13 rfl uX2 1 (by decide) (j := 15) rfl wd1_155 rfl dX5_isSeated_77 ?_
              refine lv_iload_n hx hb dX5_isSeated_80 rfl (lv_at hl 5 rfl) ?_
              refine lv_iload hx hb dX5_isSeated_81 (lv_at hl 0 rfl) ?_
              refine x_iast CF hK hI hA hP hS 15 (by decide) dX_15 f (by omega) (by decide) lag dX5_isSeated_83 (fun H locs hP hS => ?_)
              refine lv_aload_n hx hb dX5_isSeated_84 rfl (lv_at hl 3 rfl) ?_
              refine lv_iload_n hx hb dX5_isSeated_85 rfl (lv_at hl 4 rfl) ?_
              refine lv_iload_n hx hb dX5_isSeated_86 rfl (lv_at hl 5 rfl) ?_
              refine lv_iconst (v := nI 1) hx hb dX5_isSeated_87 (by decide) ?_
              refine x_iadd hx hb dX5_isSeated_88 ?_
              refine lv_iload_n hx hb dX5_isSeated_89 rfl (lv_at hl 6 rfl) ?_
              refine lv_iload hx hb dX5_isSeated_90 (lv_at hl 2 rfl) ?_
              refine lv_iconst (v := nI 1) hx hb dX5_isSeated_92 (by decide) ?_
              refine x_iadd hx hb dX5_isSeated_93 ?_
              refine x_callSP CF hK hP hS hl (As := [.int (nI cams), .int (nI (cam + 1))]) (rest := [.int (nI (f + 1)), .int (nI nf), .ref (ad 13)]) (c_max (nI cams) (nI (cam + 1))) kw_J9_max_7cf53 wd2_199 rfl ⟨Nat.le_of_ble_eq_true rfl, Nat.le_of_ble_eq_true rfl⟩ ⟨Nat.le_refl _, Nat.le_refl _⟩ (Nat.le_of_ble_eq_true rfl) dX5_isSeated_94 (fun H locs hP hS => ?_)
              refine x_ri (show (if (nI cams).toInt < (nI (cam + 1)).toInt then nI (cam + 1) else nI cams) = nI (max cams (cam + 1)) from n_maxN (by omega) (by omega)) ?_
              refine lv_iload hx hb dX5_isSeated_97 (lv_at hl 7 rfl) ?_
              refine x_callSI CF hK hP hS hA hl (As := [.ref (ad 13), .int (nI nf), .int (nI (f + 1)), .int (nI (max cams (cam + 1))), .int (nI most)]) (rest := []) (c_seat_2 hI (u2 (u2 m2 14 f cam) 15 f lag) J nf (f + 1) (max cams (cam + 1)) most (by omega) (by omega) (by omega) (by omega) (hk2.st (by omega) (by omega))) kw_X5_isSeated wd2_192 rfl ⟨Nat.le_of_ble_eq_true rfl, Nat.le_of_ble_eq_true rfl⟩ ⟨Nat.le_refl _, Nat.le_refl _⟩ (Nat.le_of_ble_eq_true rfl) dX5_isSeated_99 (fun H locs hP hS => ?_)
              refine x_yeq (u := (b2n (seat most 2 (f + 1) (max cams (cam + 1)) (u2 (u2 m2 14 f cam) 15 f lag)).1 : Nat)) (tgt := 107) hx hb (nI_toInt (Nat.lt_of_le_of_lt (b2n_le _) (by decide))) dX5_isSeated_102 (by decide) (fun h_15 => ?_) (fun h_15 => ?_)
              · refine lv_iinc (v := nI (lag + 1)) (lv' := [(7, .int (nI (lag + 1))), (6, .int (nI (lgA m cam cams f))), (5, .int (nI cam)), (0, .ref (ad 13)), (1, .int (nI nf)), (2, .int (nI f)), (3, .int (nI cams)), (4, .int (nI most))]) hx hb dX5_isSeated_107 hl (k := 0) rfl (n_inc lag 1) (by decide) rfl (fun ls hl => ?_)
                refine lv_goto (tgt := 50) hx hb dX5_isSeated_110 (by decide) ?_
                have hl0 : lv_has ls 8 [(7, .int (nI (lag + 1))), (6, .int (nI (lgA m cam cams f))), (5, .int (nI cam)), (0, .ref (ad 13)), (1, .int (nI nf)), (2, .int (nI f)), (3, .int (nI cams)), (4, .int (nI most))] := lv_sub hl [0, 1, 2, 3, 4, 5, 6, 7] rfl
                exact ih50 (lag + 1) ((seat most 2 (f + 1) (max cams (cam + 1)) (u2 (u2 m2 14 f cam) 15 f lag)).2) (by omega) (by rw [if_pos (by omega), if_neg (by show ¬ (seat most 2 (f + 1) (max cams (cam + 1)) (u2 (u2 m2 14 f cam) 15 f lag)).1 = true; rw [b2n_0 h_15]; decide)] at hR2; exact hR2) ((hk2.keep (keeps.st.tr (seat_keeps _ _ _ _ _).up))) _ _ _ (hP) hS hl0
              · refine lv_iconst (v := nI 1) hx hb dX5_isSeated_105 (by decide) ?_
                exact x_retz hx hb hr9 hlk9 hS (by have hb1 : (seat most 2 (f + 1) (max cams (cam + 1)) (u2 (u2 m2 14 f cam) 15 f lag)).1 = true := b2n_1 h_15; rw [if_pos (by omega), if_pos hb1] at hR2; rw [← hR2, if_pos hb1] at hR; rw [← hR]; exact hP) (by have hb1 : (seat most 2 (f + 1) (max cams (cam + 1)) (u2 (u2 m2 14 f cam) 15 f lag)).1 = true := b2n_1 h_15; rw [if_pos (by omega), if_pos hb1] at hR2; rw [← hR2, if_pos hb1] at hR; rw [← hR]; show nI 1 = nI (b2n (seat most 2 (f + 1) (max cams (cam + 1)) (u2 (u2 m2 14 f cam) 15 f lag)).1); rw [hb1]; rfl) (rfl) dX5_isSeated_106
        have hl0 : lv_has ls 8 [(7, .int (nI 0)), (6, .int (nI (lgA m cam cams f))), (5, .int (nI cam)), (0, .ref (ad 13)), (1, .int (nI nf)), (2, .int (nI f)), (3, .int (nI cams)), (4, .int (nI most))] := lv_sub hl [0, 1, 2, 3, 4, 5, 6, 7] rfl
        exact L50 12 0 m (by omega) (rfl) (hk) _ _ _ (hP) hS hl0
  have hl0 : lv_has ls 8 [(5, .int (nI 0)), (0, .ref (ad 13)), (1, .int (nI nf)), (2, .int (nI f)), (3, .int (nI cams)), (4, .int (nI most))] := lv_sub hl [0, 1, 2, 3, 4, 5] rfl
  exact L15 (min (cams + 1) most) 0 M (by omega) (rfl) (hk9) _ _ _ (hP) hS hl0
set_option maxHeartbeats 4000000 in
set_option maxRecDepth 100000 in
theorem c_seat_4 {l : Launch} {g : gE} {ad : Nat → Nat} (hI : g_inj ad 55) (M : gMem) (J : gMeL) (nf f cams most : Nat) (hnf : nf ≤ 5) (hfd : f + 4 = nf) (hcm : cams ≤ f) (hms : most ≤ 5) (hk9 : seatOk f M) : CI l g ad dsX 55 yX5_isSeated cX5_isSeated 8 (some .boolean) 8 [.ref (ad 13), .int (nI nf), .int (nI f), .int (nI cams), .int (nI most)] M J (nI (b2n (seat most 4 f cams M).1)) ((seat most 4 f cams M).2) J := by
  refine CI.of (plainFor_of_name (by decide)) (Nat.le_of_ble_eq_true rfl) (fun p9 e9 s9 m9 args9 below9 meth9 c9 CF hK hr9 hlk9 hP hS ls hl => ?_)
  have hx := CF.1
  have hb := CF.2.1
  have hA : ∀ q, g_A ad 55 q → g_A ad 55 q := fun _ h => h
  have hl : lv_has ls 8 [(0, .ref (ad 13)), (1, .int (nI nf)), (2, .int (nI f)), (3, .int (nI cams)), (4, .int (nI most))] := hl
  refine lv_iload_n hx hb dX5_isSeated_0 rfl (lv_at hl 2 rfl) ?_
  refine lv_iload_n hx hb dX5_isSeated_1 rfl (lv_at hl 1 rfl) ?_
  refine x_zge (u := (f : Nat)) (v := (nf : Nat)) (tgt := 10) hx hb (nI_toInt (by omega)) (nI_toInt (by omega)) dX5_isSeated_2 (by decide) (fun h_1 => (by omega : False).elim) (fun h_1 => ?_)
  refine lv_iload_n hx hb dX5_isSeated_5 rfl (lv_at hl 2 rfl) ?_
  refine lv_iconst (v := nI 5) hx hb dX5_isSeated_6 (by decide) ?_
  refine x_zlt (u := (f : Nat)) (v := (5 : Int)) (tgt := 12) hx hb (nI_toInt (by omega)) (rfl) dX5_isSeated_7 (by decide) (fun h_2 => ?_) (fun h_2 => (by omega : False).elim)
  refine lv_iconst (v := nI 0) hx hb dX5_isSeated_12 (by decide) ?_
  refine lv_istore (lv' := [(5, .int (nI 0)), (0, .ref (ad 13)), (1, .int (nI nf)), (2, .int (nI f)), (3, .int (nI cams)), (4, .int (nI most))]) hx hb dX5_isSeated_13 hl (by decide) rfl (fun ls hl => ?_)
  have L15 : ∀ (d15 : Nat) (cam : Nat) (m : gMem), (cam + d15 = min (cams + 1) most) → (camL (fun q9 z9 => seat most 3 (f + 1) (max cams (q9 + 1)) z9) cams f d15 cam m = (seat most 4 f cams M)) → (seatOk f m) → (∀ (H : Heap) (locs : List Loc) (ls : Array Slot), g_P g ad dsX 55 m J H → va_S (g_A ad 55) s9.heap H locs → lv_has ls 8 [(5, .int (nI cam)), (0, .ref (ad 13)), (1, .int (nI nf)), (2, .int (nI f)), (3, .int (nI cams)), (4, .int (nI most))] → W p9 l e9 (g_rm 8) s9 m9 args9 below9 meth9 c9 H locs 0 0 (MQ below9 (va_Qi (fun r' (_ : Unit) => r' = (nI (b2n (seat most 4 f cams M).1))) (fun _ t => g_P g ad dsX 55 ((seat most 4 f cams M).2) J t.heap) (g_A ad 55)) args9 s9 0 0 (g_A ad 55)) (F0 m9 15 ls [])) := by
    intro d15
    induction d15 with
    | zero =>
      intro cam m hc hR hk H locs ls hP hS hl
      refine lv_iload hx hb dX5_isSeated_15 (lv_at hl 0 rfl) ?_
      refine lv_iload_n hx hb dX5_isSeated_17 rfl (lv_at hl 4 rfl) ?_
      refine x_zgt (u := (cam : Nat)) (v := (cams : Nat)) (tgt := 119) hx hb (nI_toInt (by omega)) (nI_toInt (by omega)) dX5_isSeated_18 (by decide) (fun h_3 => ?_) (fun h_3 => ?_)
      · refine lv_iconst (v := nI 0) hx hb dX5_isSeated_119 (by decide) ?_
        exact x_retz hx hb hr9 hlk9 hS (by rw [← hR]; exact hP) (by rw [← hR]; rfl) (rfl) dX5_isSeated_120
      · refine lv_iload hx hb dX5_isSeated_21 (lv_at hl 0 rfl) ?_
        refine lv_iload hx hb dX5_isSeated_23 (lv_at hl 5 rfl) ?_
        refine x_zge (u := (cam : Nat)) (v := (most : Nat)) (tgt := 119) hx hb (nI_toInt (by omega)) (nI_toInt (by omega)) dX5_isSeated_25 (by decide) (fun h_4 => ?_) (fun h_4 => (by omega : False).elim)
        refine lv_iconst (v := nI 0) hx hb dX5_isSeated_119 (by decide) ?_
        exact x_retz hx hb hr9 hlk9 hS (by rw [← hR]; exact hP) (by rw [← hR]; rfl) (rfl) dX5_isSeated_120
    | succ d15 ih15 =>
      intro cam m hc hR hk H locs ls hP hS hl
      rw [camL_s] at hR
      have ba := lgA_lt m cam cams f
      refine lv_iload hx hb dX5_isSeated_15 (lv_at hl 0 rfl) ?_
      refine lv_iload_n hx hb dX5_isSeated_17 rfl (lv_at hl 4 rfl) ?_
      refine x_zgt (u := (cam : Nat)) (v := (cams : Nat)) (tgt := 119) hx hb (nI_toInt (by omega)) (nI_toInt (by omega)) dX5_isSeated_18 (by decide) (fun h_5 => (by omega : False).elim) (fun h_5 => ?_)
      refine lv_iload hx hb dX5_isSeated_21 (lv_at hl 0 rfl) ?_
      refine lv_iload hx hb dX5_isSeated_23 (lv_at hl 5 rfl) ?_
      refine x_zge (u := (cam : Nat)) (v := (most : Nat)) (tgt := 119) hx hb (nI_toInt (by omega)) (nI_toInt (by omega)) dX5_isSeated_25 (by decide) (fun h_6 => (by omega : False).elim) (fun h_6 => ?_)
      refine lv_iload hx hb dX5_isSeated_28 (lv_at hl 0 rfl) ?_
      refine lv_iload_n hx hb dX5_isSeated_30 rfl (lv_at hl 4 rfl) ?_
      refine x_zge (u := (cam : Nat)) (v := (cams : Nat)) (tgt := 44) hx hb (nI_toInt (by omega)) (nI_toInt (by omega)) dX5_isSeated_31 (by decide) (fun h_7 => ?_) (fun h_7 => ?_)
      · refine lv_iconst (v := nI 1) hx hb dX5_isSeated_44 (by decide) ?_
        refine x_ri (show (nI 1) = nI (lgA m cam cams f) from (by rw [lgA, if_neg (by omega)])) ?_
        refine lv_istore (lv' := [(6, .int (nI (lgA m cam cams f))), (5, .int (nI cam)), (0, .ref (ad 13)), (1, .int (nI nf)), (2, .int (nI f)), (3, .int (nI cams)), (4, .int (nI most))]) hx hb dX5_isSeated_45 hl (by decide) rfl (fun ls hl => ?_)
        refine lv_iconst (v := nI 0) hx hb dX5_isSeated_47 (by decide) ?_
        refine lv_istore (lv' := [(7, .int (nI 0)), (6, .int (nI (lgA m cam cams f))), (5, .int (nI cam)), (0, .ref (ad 13)), (1, .int (nI nf)), (2, .int (nI f)), (3, .int (nI cams)), (4, .int (nI most))]) hx hb dX5_isSeated_48 hl (by decide) rfl (fun ls hl => ?_)
        have L50 : ∀ (d50 : Nat) (lag : Nat) (m2 : gMem), (lag + d50 = 12) → (lagL ((fun q9 z9 => seat most 3 (f + 1) (max cams (q9 + 1)) z9) cam) (lgA m cam cams f) f cam d50 lag m2 = lagL ((fun q9 z9 => seat most 3 (f + 1) (max cams (q9 + 1)) z9) cam) (lgA m cam cams f) f cam 12 0 m) → (seatOk f m2) → (∀ (H : Heap) (locs : List Loc) (ls : Array Slot), g_P g ad dsX 55 m2 J H → va_S (g_A ad 55) s9.heap H locs → lv_has ls 8 [(7, .int (nI lag)), (6, .int (nI (lgA m cam cams f))), (5, .int (nI cam)), (0, .ref (ad 13)), (1, .int (nI nf)), (2, .int (nI f)), (3, .int (nI cams)), (4, .int (nI most))] → W p9 l e9 (g_rm 8) s9 m9 args9 below9 meth9 c9 H locs 0 0 (MQ below9 (va_Qi (fun r' (_ : Unit) => r' = (nI (b2n (seat most 4 f cams M).1))) (fun _ t => g_P g ad dsX 55 ((seat most 4 f cams M).2) J t.heap) (g_A ad 55)) args9 s9 0 0 (g_A ad 55)) (F0 m9 50 ls [])) := by
          intro d50
          induction d50 with
          | zero =>
            intro lag m2 hl9 hR2 hk2 H locs ls hP hS hl
            have hR3 : (false, m2) = lagL ((fun q9 z9 => seat most 3 (f + 1) (max cams (q9 + 1)) z9) cam) (lgA m cam cams f) f cam 12 0 m := hR2
            refine lv_iload hx hb dX5_isSeated_50 (lv_at hl 0 rfl) ?_
            refine lv_bipush (v := nI 12) hx hb dX5_isSeated_52 (by decide) ?_
            refine x_zge (u := (lag : Nat)) (v := (12 : Int)) (tgt := 113) hx hb (nI_toInt (by omega)) (rfl) dX5_isSeated_54 (by decide) (fun h_8 => ?_) (fun h_8 => (by omega : False).elim)
            refine lv_iinc (v := nI (cam + 1)) (lv' := [(5, .int (nI (cam + 1))), (7, .int (nI lag)), (6, .int (nI (lgA m cam cams f))), (0, .ref (ad 13)), (1, .int (nI nf)), (2, .int (nI f)), (3, .int (nI cams)), (4, .int (nI most))]) hx hb dX5_isSeated_113 hl (k := 2) rfl (n_inc cam 1) (by decide) rfl (fun ls hl => ?_)
            refine lv_goto (tgt := 15) hx hb dX5_isSeated_116 (by decide) ?_
            have hl0 : lv_has ls 8 [(5, .int (nI (cam + 1))), (0, .ref (ad 13)), (1, .int (nI nf)), (2, .int (nI f)), (3, .int (nI cams)), (4, .int (nI most))] := lv_sub hl [0, 3, 4, 5, 6, 7] rfl
            exact ih15 (cam + 1) m2 (by omega) (by rw [← hR3] at hR; exact hR) (hk2) _ _ _ (hP) hS hl0
          | succ d50 ih50 =>
            intro lag m2 hl9 hR2 hk2 H locs ls hP hS hl
            rw [lagL_s] at hR2
            have bl := and1_lt ((lgA m cam cams f) >>> lag)
            refine lv_iload hx hb dX5_isSeated_50 (lv_at hl 0 rfl) ?_
            refine lv_bipush (v := nI 12) hx hb dX5_isSeated_52 (by decide) ?_
            refine x_zge (u := (lag : Nat)) (v := (12 : Int)) (tgt := 113) hx hb (nI_toInt (by omega)) (rfl) dX5_isSeated_54 (by decide) (fun h_9 => (by omega : False).elim) (fun h_9 => ?_)
            refine lv_iload hx hb dX5_isSeated_57 (lv_at hl 1 rfl) ?_
            refine lv_iload hx hb dX5_isSeated_59 (lv_at hl 0 rfl) ?_
            refine x_ishr hx hb (by omega) (by omega) dX5_isSeated_61 ?_
            refine lv_iconst (v := nI 1) hx hb dX5_isSeated_62 (by decide) ?_
            refine x_iand hx hb dX5_isSeated_63 ?_
            refine lv_iconst (v := nI 1) hx hb dX5_isSeated_64 (by decide) ?_
            refine x_zne (u := (((lgA m cam cams f) >>> lag) &&& 1 : Nat)) (v := (1 : Int)) (tgt := 107) hx hb (nI_toInt (by omega)) (rfl) dX5_isSeated_65 (by decide) (fun h_10 => ?_) (fun h_10 => ?_)
            · refine lv_iinc (v := nI (lag + 1)) (lv' := [(7, .int (nI (lag + 1))), (6, .int (nI (lgA m cam cams f))), (5, .int (nI cam)), (0, .ref (ad 13)), (1, .int (nI nf)), (2, .int (nI f)), (3, .int (nI cams)), (4, .int (nI most))]) hx hb dX5_isSeated_107 hl (k := 0) rfl (n_inc lag 1) (by decide) rfl (fun ls hl => ?_)
              refine lv_goto (tgt := 50) hx hb dX5_isSeated_110 (by decide) ?_
              have hl0 : lv_has ls 8 [(7, .int (nI (lag + 1))), (6, .int (nI (lgA m cam cams f))), (5, .int (nI cam)), (0, .ref (ad 13)), (1, .int (nI nf)), (2, .int (nI f)), (3, .int (nI cams)), (4, .int (nI most))] := lv_sub hl [0, 1, 2, 3, 4, 5, 6, 7] rfl
              exact ih50 (lag + 1) m2 (by omega) (by rw [if_neg (by omega)] at hR2; exact hR2) (hk2) _ _ _ (hP) hS hl0
            · refine lv_aload_n hx hb dX5_isSeated_68 rfl (lv_at hl 3 rfl) ?_
              refine x_getr CF hK hP 13 (by decide) dX_13 rfl uX2 0 (by decide) (j := 14) rfl wd1_153 rfl dX5_isSeated_69 ?_
              refine lv_iload_n hx hb dX5_isSeated_72 rfl (lv_at hl 5 rfl) ?_
              refine lv_iload hx hb dX5_isSeated_73 (lv_at hl 2 rfl) ?_
              refine x_iast CF hK hI hA hP hS 14 (by decide) dX_14 f (by omega) (by decide) cam dX5_isSeated_75 (fun H locs hP hS => ?_)
              refine lv_aload_n hx hb dX5_isSeated_76 rfl (lv_at hl 3 rfl) ?_
              refine x_getr CF hK hP 13 (by decide) dX_13 rfl uX2 1 (by decide) (j := 15) rfl wd1_155 rfl dX5_isSeated_77 ?_
              refine lv_iload_n hx hb dX5_isSeated_80 rfl (lv_at hl 5 rfl) ?_
              refine lv_iload hx hb dX5_isSeated_81 (lv_at hl 0 rfl) ?_
              refine x_iast CF hK hI hA hP hS 15 (by decide) dX_15 f (by omega) (by decide) lag dX5_isSeated_83 (fun H locs hP hS => ?_)
              refine lv_aload_n hx hb dX5_isSeated_84 rfl (lv_at hl 3 rfl) ?_
              refine lv_iload_n hx hb dX5_isSeated_85 rfl (lv_at hl 4 rfl) ?_
              refine lv_iload_n hx hb dX5_isSeated_86 rfl (lv_at hl 5 rfl) ?_
              refine lv_iconst (v := nI 1) hx hb dX5_isSeated_87 (by decide) ?_
              refine x_iadd hx hb dX5_isSeated_88 ?_
              refine lv_iload_n hx hb dX5_isSeated_89 rfl (lv_at hl 6 rfl) ?_
              refine lv_iload hx hb dX5_isSeated_90 (lv_at hl 2 rfl) ?_
              refine lv_iconst (v := nI 1) hx hb dX5_isSeated_92 (by decide) ?_
              refine x_iadd hx hb dX5_isSeated_93 ?_
              refine x_callSP CF hK hP hS hl (As := [.int (nI cams), .int (nI (cam + 1))]) (rest := [.int (nI (f + 1)), .int (nI nf), .ref (ad 13)]) (c_max (nI cams) (nI (cam + 1))) kw_J9_max_7cf53 wd2_199 rfl ⟨Nat.le_of_ble_eq_true rfl, Nat.le_of_ble_eq_true rfl⟩ ⟨Nat.le_refl _, Nat.le_refl _⟩ (Nat.le_of_ble_eq_true rfl) dX5_isSeated_94 (fun H locs hP hS => ?_)
              refine x_ri (show (if (nI cams).toInt < (nI (cam + 1)).toInt then nI (cam + 1) else nI cams) = nI (max cams (cam + 1)) from n_maxN (by omega) (by omega)) ?_
              refine lv_iload hx hb dX5_isSeated_97 (lv_at hl 7 rfl) ?_
              refine x_callSI CF hK hP hS hA hl (As := [.ref (ad 13), .int (nI nf), .int (nI (f + 1)), .int (nI (max cams (cam + 1))), .int (nI most)]) (rest := []) (c_seat_3 hI (u2 (u2 m2 14 f cam) 15 f lag) J nf (f + 1) (max cams (cam + 1)) most (by omega) (by omega) (by omega) (by omega) (hk2.st (by omega) (by omega))) kw_X5_isSeated wd2_192 rfl ⟨Nat.le_of_ble_eq_true rfl, Nat.le_of_ble_eq_true rfl⟩ ⟨Nat.le_refl _, Nat.le_refl _⟩ (Nat.le_of_ble_eq_true rfl) dX5_isSeated_99 (fun H locs hP hS => ?_)
              refine x_yeq (u := (b2n (seat most 3 (f + 1) (max cams (cam + 1)) (u2 (u2 m2 14 f cam) 15 f lag)).1 : Nat)) (tgt := 107) hx hb (nI_toInt (Nat.lt_of_le_of_lt (b2n_le _) (by decide))) dX5_isSeated_102 (by decide) (fun h_11 => ?_) (fun h_11 => ?_)
              · refine lv_iinc (v := nI (lag + 1)) (lv' := [(7, .int (nI (lag + 1))), (6, .int (nI (lgA m cam cams f))), (5, .int (nI cam)), (0, .ref (ad 13)), (1, .int (nI nf)), (2, .int (nI f)), (3, .int (nI cams)), (4, .int (nI most))]) hx hb dX5_isSeated_107 hl (k := 0) rfl (n_inc lag 1) (by decide) rfl (fun ls hl => ?_)
                refine lv_goto (tgt := 50) hx hb dX5_isSeated_110 (by decide) ?_
                have hl0 : lv_has ls 8 [(7, .int (nI (lag + 1))), (6, .int (nI (lgA m cam cams f))), (5, .int (nI cam)), (0, .ref (ad 13)), (1, .int (nI nf)), (2, .int (nI f)), (3, .int (nI cams)), (4, .int (nI most))] := lv_sub hl [0, 1, 2, 3, 4, 5, 6, 7] rfl
                exact ih50 (lag + 1) ((seat most 3 (f + 1) (max cams (cam + 1)) (u2 (u2 m2 14 f cam) 15 f lag)).2) (by omega) (by rw [if_pos (by omega), if_neg (by show ¬ (seat most 3 (f + 1) (max cams (cam + 1)) (u2 (u2 m2 14 f cam) 15 f lag)).1 = true; rw [b2n_0 h_11]; decide)] at hR2; exact hR2) ((hk2.keep (keeps.st.tr (seat_keeps _ _ _ _ _).up))) _ _ _ (hP) hS hl0
              · refine lv_iconst (v := nI 1) hx hb dX5_isSeated_105 (by decide) ?_
                exact x_retz hx hb hr9 hlk9 hS (by have hb1 : (seat most 3 (f + 1) (max cams (cam + 1)) (u2 (u2 m2 14 f cam) 15 f lag)).1 = true := b2n_1 h_11; rw [if_pos (by omega), if_pos hb1] at hR2; rw [← hR2, if_pos hb1] at hR; rw [← hR]; exact hP) (by have hb1 : (seat most 3 (f + 1) (max cams (cam + 1)) (u2 (u2 m2 14 f cam) 15 f lag)).1 = true := b2n_1 h_11; rw [if_pos (by omega), if_pos hb1] at hR2; rw [← hR2, if_pos hb1] at hR; rw [← hR]; show nI 1 = nI (b2n (seat most 3 (f + 1) (max cams (cam + 1)) (u2 (u2 m2 14 f cam) 15 f lag)).1); rw [hb1]; rfl) (rfl) dX5_isSeated_106
        have hl0 : lv_has ls 8 [(7, .int (nI 0)), (6, .int (nI (lgA m cam cams f))), (5, .int (nI cam)), (0, .ref (ad 13)), (1, .int (nI nf)), (2, .int (nI f)), (3, .int (nI cams)), (4, .int (nI most))] := lv_sub hl [0, 1, 2, 3, 4, 5, 6, 7] rfl
        exact L50 12 0 m (by omega) (rfl) (hk) _ _ _ (hP) hS hl0
      · refine lv_aload_n hx hb dX5_isSeated_34 rfl (lv_at hl 1 rfl) ?_
        refine lv_iload hx hb dX5_isSeated_35 (lv_at hl 0 rfl) ?_
        refine lv_iload_n hx hb dX5_isSeated_37 rfl (lv_at hl 3 rfl) ?_
        refine x_callVI CF hK hP hS hA hl (As := [.int (nI cam), .int (nI f)]) (rest := []) (c_lagsOn hI m J cam f (by omega) (by omega) hk) kw_X2_lagsOn wd2_195 (by decide) dX_13 rfl rfl ⟨Nat.le_of_ble_eq_true rfl, Nat.le_of_ble_eq_true rfl⟩ ⟨Nat.le_refl _, Nat.le_refl _⟩ (Nat.le_of_ble_eq_true rfl) dX5_isSeated_38 (fun H locs hP hS => ?_)
        refine x_ri (show (nI (lon m cam f f)) = nI (lgA m cam cams f) from (by rw [lgA, if_pos (by omega)])) ?_
        refine lv_goto (tgt := 45) hx hb dX5_isSeated_41 (by decide) ?_
        refine lv_istore (lv' := [(6, .int (nI (lgA m cam cams f))), (5, .int (nI cam)), (0, .ref (ad 13)), (1, .int (nI nf)), (2, .int (nI f)), (3, .int (nI cams)), (4, .int (nI most))]) hx hb dX5_isSeated_45 hl (by decide) rfl (fun ls hl => ?_)
        refine lv_iconst (v := nI 0) hx hb dX5_isSeated_47 (by decide) ?_
        refine lv_istore (lv' := [(7, .int (nI 0)), (6, .int (nI (lgA m cam cams f))), (5, .int (nI cam)), (0, .ref (ad 13)), (1, .int (nI nf)), (2, .int (nI f)), (3, .int (nI cams)), (4, .int (nI most))]) hx hb dX5_isSeated_48 hl (by decide) rfl (fun ls hl => ?_)
        have L50 : ∀ (d50 : Nat) (lag : Nat) (m2 : gMem), (lag + d50 = 12) → (lagL ((fun q9 z9 => seat most 3 (f + 1) (max cams (q9 + 1)) z9) cam) (lgA m cam cams f) f cam d50 lag m2 = lagL ((fun q9 z9 => seat most 3 (f + 1) (max cams (q9 + 1)) z9) cam) (lgA m cam cams f) f cam 12 0 m) → (seatOk f m2) → (∀ (H : Heap) (locs : List Loc) (ls : Array Slot), g_P g ad dsX 55 m2 J H → va_S (g_A ad 55) s9.heap H locs → lv_has ls 8 [(7, .int (nI lag)), (6, .int (nI (lgA m cam cams f))), (5, .int (nI cam)), (0, .ref (ad 13)), (1, .int (nI nf)), (2, .int (nI f)), (3, .int (nI cams)), (4, .int (nI most))] → W p9 l e9 (g_rm 8) s9 m9 args9 below9 meth9 c9 H locs 0 0 (MQ below9 (va_Qi (fun r' (_ : Unit) => r' = (nI (b2n (seat most 4 f cams M).1))) (fun _ t => g_P g ad dsX 55 ((seat most 4 f cams M).2) J t.heap) (g_A ad 55)) args9 s9 0 0 (g_A ad 55)) (F0 m9 50 ls [])) := by
          intro d50
          induction d50 with
          | zero =>
            intro lag m2 hl9 hR2 hk2 H locs ls hP hS hl
            have hR3 : (false, m2) = lagL ((fun q9 z9 => seat most 3 (f + 1) (max cams (q9 + 1)) z9) cam) (lgA m cam cams f) f cam 12 0 m := hR2
            refine lv_iload hx hb dX5_isSeated_50 (lv_at hl 0 rfl) ?_
            refine lv_bipush (v := nI 12) hx hb dX5_isSeated_52 (by decide) ?_
            refine x_zge (u := (lag : Nat)) (v := (12 : Int)) (tgt := 113) hx hb (nI_toInt (by omega)) (rfl) dX5_isSeated_54 (by decide) (fun h_12 => ?_) (fun h_12 => (by omega : False).elim)
            refine lv_iinc (v := nI (cam + 1)) (lv' := [(5, .int (nI (cam + 1))), (7, .int (nI lag)), (6, .int (nI (lgA m cam cams f))), (0, .ref (ad 13)), (1, .int (nI nf)), (2, .int (nI f)), (3, .int (nI cams)), (4, .int (nI most))]) hx hb dX5_isSeated_113 hl (k := 2) rfl (n_inc cam 1) (by decide) rfl (fun ls hl => ?_)
            refine lv_goto (tgt := 15) hx hb dX5_isSeated_116 (by decide) ?_
            have hl0 : lv_has ls 8 [(5, .int (nI (cam + 1))), (0, .ref (ad 13)), (1, .int (nI nf)), (2, .int (nI f)), (3, .int (nI cams)), (4, .int (nI most))] := lv_sub hl [0, 3, 4, 5, 6, 7] rfl
            exact ih15 (cam + 1) m2 (by omega) (by rw [← hR3] at hR; exact hR) (hk2) _ _ _ (hP) hS hl0
          | succ d50 ih50 =>
            intro lag m2 hl9 hR2 hk2 H locs ls hP hS hl
            rw [lagL_s] at hR2
            have bl := and1_lt ((lgA m cam cams f) >>> lag)
            refine lv_iload hx hb dX5_isSeated_50 (lv_at hl 0 rfl) ?_
            refine lv_bipush (v := nI 12) hx hb dX5_isSeated_52 (by decide) ?_
            refine x_zge (u := (lag : Nat)) (v := (12 : Int)) (tgt := 113) hx hb (nI_toInt (by omega)) (rfl) dX5_isSeated_54 (by decide) (fun h_13 => (by omega : False).elim) (fun h_13 => ?_)
            refine lv_iload hx hb dX5_isSeated_57 (lv_at hl 1 rfl) ?_
            refine lv_iload hx hb dX5_isSeated_59 (lv_at hl 0 rfl) ?_
            refine x_ishr hx hb (by omega) (by omega) dX5_isSeated_61 ?_
            refine lv_iconst (v := nI 1) hx hb dX5_isSeated_62 (by decide) ?_
            refine x_iand hx hb dX5_isSeated_63 ?_
            refine lv_iconst (v := nI 1) hx hb dX5_isSeated_64 (by decide) ?_
            refine x_zne (u := (((lgA m cam cams f) >>> lag) &&& 1 : Nat)) (v := (1 : Int)) (tgt := 107) hx hb (nI_toInt (by omega)) (rfl) dX5_isSeated_65 (by decide) (fun h_14 => ?_) (fun h_14 => ?_)
            · refine lv_iinc (v := nI (lag + 1)) (lv' := [(7, .int (nI (lag + 1))), (6, .int (nI (lgA m cam cams f))), (5, .int (nI cam)), (0, .ref (ad 13)), (1, .int (nI nf)), (2, .int (nI f)), (3, .int (nI cams)), (4, .int (nI most))]) hx hb dX5_isSeated_107 hl (k := 0) rfl (n_inc lag 1) (by decide) rfl (fun ls hl => ?_)
              refine lv_goto (tgt := 50) hx hb dX5_isSeated_110 (by decide) ?_
              have hl0 : lv_has ls 8 [(7, .int (nI (lag + 1))), (6, .int (nI (lgA m cam cams f))), (5, .int (nI cam)), (0, .ref (ad 13)), (1, .int (nI nf)), (2, .int (nI f)), (3, .int (nI cams)), (4, .int (nI most))] := lv_sub hl [0, 1, 2, 3, 4, 5, 6, 7] rfl
              exact ih50 (lag + 1) m2 (by omega) (by rw [if_neg (by omega)] at hR2; exact hR2) (hk2) _ _ _ (hP) hS hl0
            · refine lv_aload_n hx hb dX5_isSeated_68 rfl (lv_at hl 3 rfl) ?_
              refine x_getr CF hK hP 13 (by decide) dX_13 rfl uX2 0 (by decide) (j := 14) rfl wd1_153 rfl dX5_isSeated_69 ?_
              refine lv_iload_n hx hb dX5_isSeated_72 rfl (lv_at hl 5 rfl) ?_
              refine lv_iload hx hb dX5_isSeated_73 (lv_at hl 2 rfl) ?_
              refine x_iast CF hK hI hA hP hS 14 (by decide) dX_14 f (by omega) (by decide) cam dX5_isSeated_75 (fun H locs hP hS => ?_)
              refine lv_aload_n hx hb dX5_isSeated_76 rfl (lv_at hl 3 rfl) ?_
              refine x_getr CF hK hP 13 (by decide) dX_13 rfl uX2 1 (by decide) (j := 15) rfl wd1_155 rfl dX5_isSeated_77 ?_
              refine lv_iload_n hx hb dX5_isSeated_80 rfl (lv_at hl 5 rfl) ?_
              refine lv_iload hx hb dX5_isSeated_81 (lv_at hl 0 rfl) ?_
              refine x_iast CF hK hI hA hP hS 15 (by decide) dX_15 f (by omega) (by decide) lag dX5_isSeated_83 (fun H locs hP hS => ?_)
              refine lv_aload_n hx hb dX5_isSeated_84 rfl (lv_at hl 3 rfl) ?_
              refine lv_iload_n hx hb dX5_isSeated_85 rfl (lv_at hl 4 rfl) ?_
              refine lv_iload_n hx hb dX5_isSeated_86 rfl (lv_at hl 5 rfl) ?_
              refine lv_iconst (v := nI 1) hx hb dX5_isSeated_87 (by decide) ?_
              refine x_iadd hx hb dX5_isSeated_88 ?_
              refine lv_iload_n hx hb dX5_isSeated_89 rfl (lv_at hl 6 rfl) ?_
              refine lv_iload hx hb dX5_isSeated_90 (lv_at hl 2 rfl) ?_
              refine lv_iconst (v := nI 1) hx hb dX5_isSeated_92 (by decide) ?_
              refine x_iadd hx hb dX5_isSeated_93 ?_
              refine x_callSP CF hK hP hS hl (As := [.int (nI cams), .int (nI (cam + 1))]) (rest := [.int (nI (f + 1)), .int (nI nf), .ref (ad 13)]) (c_max (nI cams) (nI (cam + 1))) kw_J9_max_7cf53 wd2_199 rfl ⟨Nat.le_of_ble_eq_true rfl, Nat.le_of_ble_eq_true rfl⟩ ⟨Nat.le_refl _, Nat.le_refl _⟩ (Nat.le_of_ble_eq_true rfl) dX5_isSeated_94 (fun H locs hP hS => ?_)
              refine x_ri (show (if (nI cams).toInt < (nI (cam + 1)).toInt then nI (cam + 1) else nI cams) = nI (max cams (cam + 1)) from n_maxN (by omega) (by omega)) ?_
              refine lv_iload hx hb dX5_isSeated_97 (lv_at hl 7 rfl) ?_
              refine x_callSI CF hK hP hS hA hl (As := [.ref (ad 13), .int (nI nf), .int (nI (f + 1)), .int (nI (max cams (cam + 1))), .int (nI most)]) (rest := []) (c_seat_3 hI (u2 (u2 m2 14 f cam) 15 f lag) J nf (f + 1) (max cams (cam + 1)) most (by omega) (by omega) (by omega) (by omega) (hk2.st (by omega) (by omega))) kw_X5_isSeated wd2_192 rfl ⟨Nat.le_of_ble_eq_true rfl, Nat.le_of_ble_eq_true rfl⟩ ⟨Nat.le_refl _, Nat.le_refl _⟩ (Nat.le_of_ble_eq_true rfl) dX5_isSeated_99 (fun H locs hP hS => ?_)
              refine x_yeq (u := (b2n (seat most 3 (f + 1) (max cams (cam + 1)) (u2 (u2 m2 14 f cam) 15 f lag)).1 : Nat)) (tgt := 107) hx hb (nI_toInt (Nat.lt_of_le_of_lt (b2n_le _) (by decide))) dX5_isSeated_102 (by decide) (fun h_15 => ?_) (fun h_15 => ?_)
              · refine lv_iinc (v := nI (lag + 1)) (lv' := [(7, .int (nI (lag + 1))), (6, .int (nI (lgA m cam cams f))), (5, .int (nI cam)), (0, .ref (ad 13)), (1, .int (nI nf)), (2, .int (nI f)), (3, .int (nI cams)), (4, .int (nI most))]) hx hb dX5_isSeated_107 hl (k := 0) rfl (n_inc lag 1) (by decide) rfl (fun ls hl => ?_)
                refine lv_goto (tgt := 50) hx hb dX5_isSeated_110 (by decide) ?_
                have hl0 : lv_has ls 8 [(7, .int (nI (lag + 1))), (6, .int (nI (lgA m cam cams f))), (5, .int (nI cam)), (0, .ref (ad 13)), (1, .int (nI nf)), (2, .int (nI f)), (3, .int (nI cams)), (4, .int (nI most))] := lv_sub hl [0, 1, 2, 3, 4, 5, 6, 7] rfl
                exact ih50 (lag + 1) ((seat most 3 (f + 1) (max cams (cam + 1)) (u2 (u2 m2 14 f cam) 15 f lag)).2) (by omega) (by rw [if_pos (by omega), if_neg (by show ¬ (seat most 3 (f + 1) (max cams (cam + 1)) (u2 (u2 m2 14 f cam) 15 f lag)).1 = true; rw [b2n_0 h_15]; decide)] at hR2; exact hR2) ((hk2.keep (keeps.st.tr (seat_keeps _ _ _ _ _).up))) _ _ _ (hP) hS hl0
              · refine lv_iconst (v := nI 1) hx hb dX5_isSeated_105 (by decide) ?_
                exact x_retz hx hb hr9 hlk9 hS (by have hb1 : (seat most 3 (f + 1) (max cams (cam + 1)) (u2 (u2 m2 14 f cam) 15 f lag)).1 = true := b2n_1 h_15; rw [if_pos (by omega), if_pos hb1] at hR2; rw [← hR2, if_pos hb1] at hR; rw [← hR]; exact hP) (by have hb1 : (seat most 3 (f + 1) (max cams (cam + 1)) (u2 (u2 m2 14 f cam) 15 f lag)).1 = true := b2n_1 h_15; rw [if_pos (by omega), if_pos hb1] at hR2; rw [← hR2, if_pos hb1] at hR; rw [← hR]; show nI 1 = nI (b2n (seat most 3 (f + 1) (max cams (cam + 1)) (u2 (u2 m2 14 f cam) 15 f lag)).1); rw [hb1]; rfl) (rfl) dX5_isSeated_106
        have hl0 : lv_has ls 8 [(7, .int (nI 0)), (6, .int (nI (lgA m cam cams f))), (5, .int (nI cam)), (0, .ref (ad 13)), (1, .int (nI nf)), (2, .int (nI f)), (3, .int (nI cams)), (4, .int (nI most))] := lv_sub hl [0, 1, 2, 3, 4, 5, 6, 7] rfl
        exact L50 12 0 m (by omega) (rfl) (hk) _ _ _ (hP) hS hl0
  have hl0 : lv_has ls 8 [(5, .int (nI 0)), (0, .ref (ad 13)), (1, .int (nI nf)), (2, .int (nI f)), (3, .int (nI cams)), (4, .int (nI most))] := lv_sub hl [0, 1, 2, 3, 4, 5] rfl
  exact L15 (min (cams + 1) most) 0 M (by omega) (rfl) (hk9) _ _ _ (hP) hS hl0
set_option maxHeartbeats 4000000 in
set_option maxRecDepth 100000 in
theorem c_seat_5 {l : Launch} {g : gE} {ad : Nat → Nat} (hI : g_inj ad 55) (M : gMem) (J : gMeL) (nf f cams most : Nat) (hnf : nf ≤ 5) (hfd : f + 5 = nf) (hcm : cams ≤ f) (hms : most ≤ 5) (hk9 : seatOk f M) : CI l g ad dsX 55 yX5_isSeated cX5_isSeated 8 (some .boolean) 9 [.ref (ad 13), .int (nI nf), .int (nI f), .int (nI cams), .int (nI most)] M J (nI (b2n (seat most 5 f cams M).1)) ((seat most 5 f cams M).2) J := by
  refine CI.of (plainFor_of_name (by decide)) (Nat.le_of_ble_eq_true rfl) (fun p9 e9 s9 m9 args9 below9 meth9 c9 CF hK hr9 hlk9 hP hS ls hl => ?_)
  have hx := CF.1
  have hb := CF.2.1
  have hA : ∀ q, g_A ad 55 q → g_A ad 55 q := fun _ h => h
  have hl : lv_has ls 8 [(0, .ref (ad 13)), (1, .int (nI nf)), (2, .int (nI f)), (3, .int (nI cams)), (4, .int (nI most))] := hl
  refine lv_iload_n hx hb dX5_isSeated_0 rfl (lv_at hl 2 rfl) ?_
  refine lv_iload_n hx hb dX5_isSeated_1 rfl (lv_at hl 1 rfl) ?_
  refine x_zge (u := (f : Nat)) (v := (nf : Nat)) (tgt := 10) hx hb (nI_toInt (by omega)) (nI_toInt (by omega)) dX5_isSeated_2 (by decide) (fun h_1 => (by omega : False).elim) (fun h_1 => ?_)
  refine lv_iload_n hx hb dX5_isSeated_5 rfl (lv_at hl 2 rfl) ?_
  refine lv_iconst (v := nI 5) hx hb dX5_isSeated_6 (by decide) ?_
  refine x_zlt (u := (f : Nat)) (v := (5 : Int)) (tgt := 12) hx hb (nI_toInt (by omega)) (rfl) dX5_isSeated_7 (by decide) (fun h_2 => ?_) (fun h_2 => (by omega : False).elim)
  refine lv_iconst (v := nI 0) hx hb dX5_isSeated_12 (by decide) ?_
  refine lv_istore (lv' := [(5, .int (nI 0)), (0, .ref (ad 13)), (1, .int (nI nf)), (2, .int (nI f)), (3, .int (nI cams)), (4, .int (nI most))]) hx hb dX5_isSeated_13 hl (by decide) rfl (fun ls hl => ?_)
  have L15 : ∀ (d15 : Nat) (cam : Nat) (m : gMem), (cam + d15 = min (cams + 1) most) → (camL (fun q9 z9 => seat most 4 (f + 1) (max cams (q9 + 1)) z9) cams f d15 cam m = (seat most 5 f cams M)) → (seatOk f m) → (∀ (H : Heap) (locs : List Loc) (ls : Array Slot), g_P g ad dsX 55 m J H → va_S (g_A ad 55) s9.heap H locs → lv_has ls 8 [(5, .int (nI cam)), (0, .ref (ad 13)), (1, .int (nI nf)), (2, .int (nI f)), (3, .int (nI cams)), (4, .int (nI most))] → W p9 l e9 (g_rm 9) s9 m9 args9 below9 meth9 c9 H locs 0 0 (MQ below9 (va_Qi (fun r' (_ : Unit) => r' = (nI (b2n (seat most 5 f cams M).1))) (fun _ t => g_P g ad dsX 55 ((seat most 5 f cams M).2) J t.heap) (g_A ad 55)) args9 s9 0 0 (g_A ad 55)) (F0 m9 15 ls [])) := by
    intro d15
    induction d15 with
    | zero =>
      intro cam m hc hR hk H locs ls hP hS hl
      refine lv_iload hx hb dX5_isSeated_15 (lv_at hl 0 rfl) ?_
      refine lv_iload_n hx hb dX5_isSeated_17 rfl (lv_at hl 4 rfl) ?_
      refine x_zgt (u := (cam : Nat)) (v := (cams : Nat)) (tgt := 119) hx hb (nI_toInt (by omega)) (nI_toInt (by omega)) dX5_isSeated_18 (by decide) (fun h_3 => ?_) (fun h_3 => ?_)
      · refine lv_iconst (v := nI 0) hx hb dX5_isSeated_119 (by decide) ?_
        exact x_retz hx hb hr9 hlk9 hS (by rw [← hR]; exact hP) (by rw [← hR]; rfl) (rfl) dX5_isSeated_120
      · refine lv_iload hx hb dX5_isSeated_21 (lv_at hl 0 rfl) ?_
        refine lv_iload hx hb dX5_isSeated_23 (lv_at hl 5 rfl) ?_
        refine x_zge (u := (cam : Nat)) (v := (most : Nat)) (tgt := 119) hx hb (nI_toInt (by omega)) (nI_toInt (by omega)) dX5_isSeated_25 (by decide) (fun h_4 => ?_) (fun h_4 => (by omega : False).elim)
        refine lv_iconst (v := nI 0) hx hb dX5_isSeated_119 (by decide) ?_
        exact x_retz hx hb hr9 hlk9 hS (by rw [← hR]; exact hP) (by rw [← hR]; rfl) (rfl) dX5_isSeated_120
    | succ d15 ih15 =>
      intro cam m hc hR hk H locs ls hP hS hl
      rw [camL_s] at hR
      have ba := lgA_lt m cam cams f
      refine lv_iload hx hb dX5_isSeated_15 (lv_at hl 0 rfl) ?_
      refine lv_iload_n hx hb dX5_isSeated_17 rfl (lv_at hl 4 rfl) ?_
      refine x_zgt (u := (cam : Nat)) (v := (cams : Nat)) (tgt := 119) hx hb (nI_toInt (by omega)) (nI_toInt (by omega)) dX5_isSeated_18 (by decide) (fun h_5 => (by omega : False).elim) (fun h_5 => ?_)
      refine lv_iload hx hb dX5_isSeated_21 (lv_at hl 0 rfl) ?_
      refine lv_iload hx hb dX5_isSeated_23 (lv_at hl 5 rfl) ?_
      refine x_zge (u := (cam : Nat)) (v := (most : Nat)) (tgt := 119) hx hb (nI_toInt (by omega)) (nI_toInt (by omega)) dX5_isSeated_25 (by decide) (fun h_6 => (by omega : False).elim) (fun h_6 => ?_)
      refine lv_iload hx hb dX5_isSeated_28 (lv_at hl 0 rfl) ?_
      refine lv_iload_n hx hb dX5_isSeated_30 rfl (lv_at hl 4 rfl) ?_
      refine x_zge (u := (cam : Nat)) (v := (cams : Nat)) (tgt := 44) hx hb (nI_toInt (by omega)) (nI_toInt (by omega)) dX5_isSeated_31 (by decide) (fun h_7 => ?_) (fun h_7 => ?_)
      · refine lv_iconst (v := nI 1) hx hb dX5_isSeated_44 (by decide) ?_
        refine x_ri (show (nI 1) = nI (lgA m cam cams f) from (by rw [lgA, if_neg (by omega)])) ?_
        refine lv_istore (lv' := [(6, .int (nI (lgA m cam cams f))), (5, .int (nI cam)), (0, .ref (ad 13)), (1, .int (nI nf)), (2, .int (nI f)), (3, .int (nI cams)), (4, .int (nI most))]) hx hb dX5_isSeated_45 hl (by decide) rfl (fun ls hl => ?_)
        refine lv_iconst (v := nI 0) hx hb dX5_isSeated_47 (by decide) ?_
        refine lv_istore (lv' := [(7, .int (nI 0)), (6, .int (nI (lgA m cam cams f))), (5, .int (nI cam)), (0, .ref (ad 13)), (1, .int (nI nf)), (2, .int (nI f)), (3, .int (nI cams)), (4, .int (nI most))]) hx hb dX5_isSeated_48 hl (by decide) rfl (fun ls hl => ?_)
        have L50 : ∀ (d50 : Nat) (lag : Nat) (m2 : gMem), (lag + d50 = 12) → (lagL ((fun q9 z9 => seat most 4 (f + 1) (max cams (q9 + 1)) z9) cam) (lgA m cam cams f) f cam d50 lag m2 = lagL ((fun q9 z9 => seat most 4 (f + 1) (max cams (q9 + 1)) z9) cam) (lgA m cam cams f) f cam 12 0 m) → (seatOk f m2) → (∀ (H : Heap) (locs : List Loc) (ls : Array Slot), g_P g ad dsX 55 m2 J H → va_S (g_A ad 55) s9.heap H locs → lv_has ls 8 [(7, .int (nI lag)), (6, .int (nI (lgA m cam cams f))), (5, .int (nI cam)), (0, .ref (ad 13)), (1, .int (nI nf)), (2, .int (nI f)), (3, .int (nI cams)), (4, .int (nI most))] → W p9 l e9 (g_rm 9) s9 m9 args9 below9 meth9 c9 H locs 0 0 (MQ below9 (va_Qi (fun r' (_ : Unit) => r' = (nI (b2n (seat most 5 f cams M).1))) (fun _ t => g_P g ad dsX 55 ((seat most 5 f cams M).2) J t.heap) (g_A ad 55)) args9 s9 0 0 (g_A ad 55)) (F0 m9 50 ls [])) := by
          intro d50
          induction d50 with
          | zero =>
            intro lag m2 hl9 hR2 hk2 H locs ls hP hS hl
            have hR3 : (false, m2) = lagL ((fun q9 z9 => seat most 4 (f + 1) (max cams (q9 + 1)) z9) cam) (lgA m cam cams f) f cam 12 0 m := hR2
            refine lv_iload hx hb dX5_isSeated_50 (lv_at hl 0 rfl) ?_
            refine lv_bipush (v := nI 12) hx hb dX5_isSeated_52 (by decide) ?_
            refine x_zge (u := (lag : Nat)) (v := (12 : Int)) (tgt := 113) hx hb (nI_toInt (by omega)) (rfl) dX5_isSeated_54 (by decide) (fun h_8 => ?_) (fun h_8 => (by omega : False).elim)
            refine lv_iinc (v := nI (cam + 1)) (lv' := [(5, .int (nI (cam + 1))), (7, .int (nI lag)), (6, .int (nI (lgA m cam cams f))), (0, .ref (ad 13)), (1, .int (nI nf)), (2, .int (nI f)), (3, .int (nI cams)), (4, .int (nI most))]) hx hb dX5_isSeated_113 hl (k := 2) rfl (n_inc cam 1) (by decide) rfl (fun ls hl => ?_)
            refine lv_goto (tgt := 15) hx hb dX5_isSeated_116 (by decide) ?_
            have hl0 : lv_has ls 8 [(5, .int (nI (cam + 1))), (0, .ref (ad 13)), (1, .int (nI nf)), (2, .int (nI f)), (3, .int (nI cams)), (4, .int (nI most))] := lv_sub hl [0, 3, 4, 5, 6, 7] rfl
            exact ih15 (cam + 1) m2 (by omega) (by rw [← hR3] at hR; exact hR) (hk2) _ _ _ (hP) hS hl0
          | succ d50 ih50 =>
            intro lag m2 hl9 hR2 hk2 H locs ls hP hS hl
            rw [lagL_s] at hR2
            have bl := and1_lt ((lgA m cam cams f) >>> lag)
            refine lv_iload hx hb dX5_isSeated_50 (lv_at hl 0 rfl) ?_
            refine lv_bipush (v := nI 12) hx hb dX5_isSeated_52 (by decide) ?_
            refine x_zge (u := (lag : Nat)) (v := (12 : Int)) (tgt := 113) hx hb (nI_toInt (by omega)) (rfl) dX5_isSeated_54 (by decide) (fun h_9 => (by omega : False).elim) (fun h_9 => ?_)
            refine lv_iload hx hb dX5_isSeated_57 (lv_at hl 1 rfl) ?_
            refine lv_iload hx hb dX5_isSeated_59 (lv_at hl 0 rfl) ?_
            refine x_ishr hx hb (by omega) (by omega) dX5_isSeated_61 ?_
            refine lv_iconst (v := nI 1) hx hb dX5_isSeated_62 (by decide) ?_
            refine x_iand hx hb dX5_isSeated_63 ?_
            refine lv_iconst (v := nI 1) hx hb dX5_isSeated_64 (by decide) ?_
            refine x_zne (u := (((lgA m cam cams f) >>> lag) &&& 1 : Nat)) (v := (1 : Int)) (tgt := 107) hx hb (nI_toInt (by omega)) (rfl) dX5_isSeated_65 (by decide) (fun h_10 => ?_) (fun h_10 => ?_)
            · refine lv_iinc (v := nI (lag + 1)) (lv' := [(7, .int (nI (lag + 1))), (6, .int (nI (lgA m cam cams f))), (5, .int (nI cam)), (0, .ref (ad 13)), (1, .int (nI nf)), (2, .int (nI f)), (3, .int (nI cams)), (4, .int (nI most))]) hx hb dX5_isSeated_107 hl (k := 0) rfl (n_inc lag 1) (by decide) rfl (fun ls hl => ?_)
              refine lv_goto (tgt := 50) hx hb dX5_isSeated_110 (by decide) ?_
              have hl0 : lv_has ls 8 [(7, .int (nI (lag + 1))), (6, .int (nI (lgA m cam cams f))), (5, .int (nI cam)), (0, .ref (ad 13)), (1, .int (nI nf)), (2, .int (nI f)), (3, .int (nI cams)), (4, .int (nI most))] := lv_sub hl [0, 1, 2, 3, 4, 5, 6, 7] rfl
              exact ih50 (lag + 1) m2 (by omega) (by rw [if_neg (by omega)] at hR2; exact hR2) (hk2) _ _ _ (hP) hS hl0
            · refine lv_aload_n hx hb dX5_isSeated_68 rfl (lv_at hl 3 rfl) ?_
              refine x_getr CF hK hP 13 (by decide) dX_13 rfl uX2 0 (by decide) (j := 14) rfl wd1_153 rfl dX5_isSeated_69 ?_
              refine lv_iload_n hx hb dX5_isSeated_72 rfl (lv_at hl 5 rfl) ?_
              refine lv_iload hx hb dX5_isSeated_73 (lv_at hl 2 rfl) ?_
              refine x_iast CF hK hI hA hP hS 14 (by decide) dX_14 f (by omega) (by decide) cam dX5_isSeated_75 (fun H locs hP hS => ?_)
              refine lv_aload_n hx hb dX5_isSeated_76 rfl (lv_at hl 3 rfl) ?_
              refine x_getr CF hK hP 13 (by decide) dX_13 rfl uX2 1 (by decide) (j := 15) rfl wd1_155 rfl dX5_isSeated_77 ?_
              refine lv_iload_n hx hb dX5_isSeated_80 rfl (lv_at hl 5 rfl) ?_
              refine lv_iload hx hb dX5_isSeated_81 (lv_at hl 0 rfl) ?_
              refine x_iast CF hK hI hA hP hS 15 (by decide) dX_15 f (by omega) (by decide) lag dX5_isSeated_83 (fun H locs hP hS => ?_)
              refine lv_aload_n hx hb dX5_isSeated_84 rfl (lv_at hl 3 rfl) ?_
              refine lv_iload_n hx hb dX5_isSeated_85 rfl (lv_at hl 4 rfl) ?_
              refine lv_iload_n hx hb dX5_isSeated_86 rfl (lv_at hl 5 rfl) ?_
              refine lv_iconst (v := nI 1) hx hb dX5_isSeated_87 (by decide) ?_
              refine x_iadd hx hb dX5_isSeated_88 ?_
              refine lv_iload_n hx hb dX5_isSeated_89 rfl (lv_at hl 6 rfl) ?_
              refine lv_iload hx hb dX5_isSeated_90 (lv_at hl 2 rfl) ?_
              refine lv_iconst (v := nI 1) hx hb dX5_isSeated_92 (by decide) ?_
              refine x_iadd hx hb dX5_isSeated_93 ?_
              refine x_callSP CF hK hP hS hl (As := [.int (nI cams), .int (nI (cam + 1))]) (rest := [.int (nI (f + 1)), .int (nI nf), .ref (ad 13)]) (c_max (nI cams) (nI (cam + 1))) kw_J9_max_7cf53 wd2_199 rfl ⟨Nat.le_of_ble_eq_true rfl, Nat.le_of_ble_eq_true rfl⟩ ⟨Nat.le_refl _, Nat.le_refl _⟩ (Nat.le_of_ble_eq_true rfl) dX5_isSeated_94 (fun H locs hP hS => ?_)
              refine x_ri (show (if (nI cams).toInt < (nI (cam + 1)).toInt then nI (cam + 1) else nI cams) = nI (max cams (cam + 1)) from n_maxN (by omega) (by omega)) ?_
              refine lv_iload hx hb dX5_isSeated_97 (lv_at hl 7 rfl) ?_
              refine x_callSI CF hK hP hS hA hl (As := [.ref (ad 13), .int (nI nf), .int (nI (f + 1)), .int (nI (max cams (cam + 1))), .int (nI most)]) (rest := []) (c_seat_4 hI (u2 (u2 m2 14 f cam) 15 f lag) J nf (f + 1) (max cams (cam + 1)) most (by omega) (by omega) (by omega) (by omega) (hk2.st (by omega) (by omega))) kw_X5_isSeated wd2_192 rfl ⟨Nat.le_of_ble_eq_true rfl, Nat.le_of_ble_eq_true rfl⟩ ⟨Nat.le_refl _, Nat.le_refl _⟩ (Nat.le_of_ble_eq_true rfl) dX5_isSeated_99 (fun H locs hP hS => ?_)
              refine x_yeq (u := (b2n (seat most 4 (f + 1) (max cams (cam + 1)) (u2 (u2 m2 14 f cam) 15 f lag)).1 : Nat)) (tgt := 107) hx hb (nI_toInt (Nat.lt_of_le_of_lt (b2n_le _) (by decide))) dX5_isSeated_102 (by decide) (fun h_11 => ?_) (fun h_11 => ?_)
              · refine lv_iinc (v := nI (lag + 1)) (lv' := [(7, .int (nI (lag + 1))), (6, .int (nI (lgA m cam cams f))), (5, .int (nI cam)), (0, .ref (ad 13)), (1, .int (nI nf)), (2, .int (nI f)), (3, .int (nI cams)), (4, .int (nI most))]) hx hb dX5_isSeated_107 hl (k := 0) rfl (n_inc lag 1) (by decide) rfl (fun ls hl => ?_)
                refine lv_goto (tgt := 50) hx hb dX5_isSeated_110 (by decide) ?_
                have hl0 : lv_has ls 8 [(7, .int (nI (lag + 1))), (6, .int (nI (lgA m cam cams f))), (5, .int (nI cam)), (0, .ref (ad 13)), (1, .int (nI nf)), (2, .int (nI f)), (3, .int (nI cams)), (4, .int (nI most))] := lv_sub hl [0, 1, 2, 3, 4, 5, 6, 7] rfl
                exact ih50 (lag + 1) ((seat most 4 (f + 1) (max cams (cam + 1)) (u2 (u2 m2 14 f cam) 15 f lag)).2) (by omega) (by rw [if_pos (by omega), if_neg (by show ¬ (seat most 4 (f + 1) (max cams (cam + 1)) (u2 (u2 m2 14 f cam) 15 f lag)).1 = true; rw [b2n_0 h_11]; decide)] at hR2; exact hR2) ((hk2.keep (keeps.st.tr (seat_keeps _ _ _ _ _).up))) _ _ _ (hP) hS hl0
              · refine lv_iconst (v := nI 1) hx hb dX5_isSeated_105 (by decide) ?_
                exact x_retz hx hb hr9 hlk9 hS (by have hb1 : (seat most 4 (f + 1) (max cams (cam + 1)) (u2 (u2 m2 14 f cam) 15 f lag)).1 = true := b2n_1 h_11; rw [if_pos (by omega), if_pos hb1] at hR2; rw [← hR2, if_pos hb1] at hR; rw [← hR]; exact hP) (by have hb1 : (seat most 4 (f + 1) (max cams (cam + 1)) (u2 (u2 m2 14 f cam) 15 f lag)).1 = true := b2n_1 h_11; rw [if_pos (by omega), if_pos hb1] at hR2; rw [← hR2, if_pos hb1] at hR; rw [← hR]; show nI 1 = nI (b2n (seat most 4 (f + 1) (max cams (cam + 1)) (u2 (u2 m2 14 f cam) 15 f lag)).1); rw [hb1]; rfl) (rfl) dX5_isSeated_106
        have hl0 : lv_has ls 8 [(7, .int (nI 0)), (6, .int (nI (lgA m cam cams f))), (5, .int (nI cam)), (0, .ref (ad 13)), (1, .int (nI nf)), (2, .int (nI f)), (3, .int (nI cams)), (4, .int (nI most))] := lv_sub hl [0, 1, 2, 3, 4, 5, 6, 7] rfl
        exact L50 12 0 m (by omega) (rfl) (hk) _ _ _ (hP) hS hl0
      · refine lv_aload_n hx hb dX5_isSeated_34 rfl (lv_at hl 1 rfl) ?_
        refine lv_iload hx hb dX5_isSeated_35 (lv_at hl 0 rfl) ?_
        refine lv_iload_n hx hb dX5_isSeated_37 rfl (lv_at hl 3 rfl) ?_
        refine x_callVI CF hK hP hS hA hl (As := [.int (nI cam), .int (nI f)]) (rest := []) (c_lagsOn hI m J cam f (by omega) (by omega) hk) kw_X2_lagsOn wd2_195 (by decide) dX_13 rfl rfl ⟨Nat.le_of_ble_eq_true rfl, Nat.le_of_ble_eq_true rfl⟩ ⟨Nat.le_refl _, Nat.le_refl _⟩ (Nat.le_of_ble_eq_true rfl) dX5_isSeated_38 (fun H locs hP hS => ?_)
        refine x_ri (show (nI (lon m cam f f)) = nI (lgA m cam cams f) from (by rw [lgA, if_pos (by omega)])) ?_
        refine lv_goto (tgt := 45) hx hb dX5_isSeated_41 (by decide) ?_
        refine lv_istore (lv' := [(6, .int (nI (lgA m cam cams f))), (5, .int (nI cam)), (0, .ref (ad 13)), (1, .int (nI nf)), (2, .int (nI f)), (3, .int (nI cams)), (4, .int (nI most))]) hx hb dX5_isSeated_45 hl (by decide) rfl (fun ls hl => ?_)
        refine lv_iconst (v := nI 0) hx hb dX5_isSeated_47 (by decide) ?_
        refine lv_istore (lv' := [(7, .int (nI 0)), (6, .int (nI (lgA m cam cams f))), (5, .int (nI cam)), (0, .ref (ad 13)), (1, .int (nI nf)), (2, .int (nI f)), (3, .int (nI cams)), (4, .int (nI most))]) hx hb dX5_isSeated_48 hl (by decide) rfl (fun ls hl => ?_)
        have L50 : ∀ (d50 : Nat) (lag : Nat) (m2 : gMem), (lag + d50 = 12) → (lagL ((fun q9 z9 => seat most 4 (f + 1) (max cams (q9 + 1)) z9) cam) (lgA m cam cams f) f cam d50 lag m2 = lagL ((fun q9 z9 => seat most 4 (f + 1) (max cams (q9 + 1)) z9) cam) (lgA m cam cams f) f cam 12 0 m) → (seatOk f m2) → (∀ (H : Heap) (locs : List Loc) (ls : Array Slot), g_P g ad dsX 55 m2 J H → va_S (g_A ad 55) s9.heap H locs → lv_has ls 8 [(7, .int (nI lag)), (6, .int (nI (lgA m cam cams f))), (5, .int (nI cam)), (0, .ref (ad 13)), (1, .int (nI nf)), (2, .int (nI f)), (3, .int (nI cams)), (4, .int (nI most))] → W p9 l e9 (g_rm 9) s9 m9 args9 below9 meth9 c9 H locs 0 0 (MQ below9 (va_Qi (fun r' (_ : Unit) => r' = (nI (b2n (seat most 5 f cams M).1))) (fun _ t => g_P g ad dsX 55 ((seat most 5 f cams M).2) J t.heap) (g_A ad 55)) args9 s9 0 0 (g_A ad 55)) (F0 m9 50 ls [])) := by
          intro d50
          induction d50 with
          | zero =>
            intro lag m2 hl9 hR2 hk2 H locs ls hP hS hl
            have hR3 : (false, m2) = lagL ((fun q9 z9 => seat most 4 (f + 1) (max cams (q9 + 1)) z9) cam) (lgA m cam cams f) f cam 12 0 m := hR2
            refine lv_iload hx hb dX5_isSeated_50 (lv_at hl 0 rfl) ?_
            refine lv_bipush (v := nI 12) hx hb dX5_isSeated_52 (by decide) ?_
            refine x_zge (u := (lag : Nat)) (v := (12 : Int)) (tgt := 113) hx hb (nI_toInt (by omega)) (rfl) dX5_isSeated_54 (by decide) (fun h_12 => ?_) (fun h_12 => (by omega : False).elim)
            refine lv_iinc (v := nI (cam + 1)) (lv' := [(5, .int (nI (cam + 1))), (7, .int (nI lag)), (6, .int (nI (lgA m cam cams f))), (0, .ref (ad 13)), (1, .int (nI nf)), (2, .int (nI f)), (3, .int (nI cams)), (4, .int (nI most))]) hx hb dX5_isSeated_113 hl (k := 2) rfl (n_inc cam 1) (by decide) rfl (fun ls hl => ?_)
            refine lv_goto (tgt := 15) hx hb dX5_isSeated_116 (by decide) ?_
            have hl0 : lv_has ls 8 [(5, .int (nI (cam + 1))), (0, .ref (ad 13)), (1, .int (nI nf)), (2, .int (nI f)), (3, .int (nI cams)), (4, .int (nI most))] := lv_sub hl [0, 3, 4, 5, 6, 7] rfl
            exact ih15 (cam + 1) m2 (by omega) (by rw [← hR3] at hR; exact hR) (hk2) _ _ _ (hP) hS hl0
          | succ d50 ih50 =>
            intro lag m2 hl9 hR2 hk2 H locs ls hP hS hl
            rw [lagL_s] at hR2
            have bl := and1_lt ((lgA m cam cams f) >>> lag)
            refine lv_iload hx hb dX5_isSeated_50 (lv_at hl 0 rfl) ?_
            refine lv_bipush (v := nI 12) hx hb dX5_isSeated_52 (by decide) ?_
            refine x_zge (u := (lag : Nat)) (v := (12 : Int)) (tgt := 113) hx hb (nI_toInt (by omega)) (rfl) dX5_isSeated_54 (by decide) (fun h_13 => (by omega : False).elim) (fun h_13 => ?_)
            refine lv_iload hx hb dX5_isSeated_57 (lv_at hl 1 rfl) ?_
            refine lv_iload hx hb dX5_isSeated_59 (lv_at hl 0 rfl) ?_
            refine x_ishr hx hb (by omega) (by omega) dX5_isSeated_61 ?_
            refine lv_iconst (v := nI 1) hx hb dX5_isSeated_62 (by decide) ?_
            refine x_iand hx hb dX5_isSeated_63 ?_
            refine lv_iconst (v := nI 1) hx hb dX5_isSeated_64 (by decide) ?_
            refine x_zne (u := (((lgA m cam cams f) >>> lag) &&& 1 : Nat)) (v := (1 : Int)) (tgt := 107) hx hb (nI_toInt (by omega)) (rfl) dX5_isSeated_65 (by decide) (fun h_14 => ?_) (fun h_14 => ?_)
            · refine lv_iinc (v := nI (lag + 1)) (lv' := [(7, .int (nI (lag + 1))), (6, .int (nI (lgA m cam cams f))), (5, .int (nI cam)), (0, .ref (ad 13)), (1, .int (nI nf)), (2, .int (nI f)), (3, .int (nI cams)), (4, .int (nI most))]) hx hb dX5_isSeated_107 hl (k := 0) rfl (n_inc lag 1) (by decide) rfl (fun ls hl => ?_)
              refine lv_goto (tgt := 50) hx hb dX5_isSeated_110 (by decide) ?_
              have hl0 : lv_has ls 8 [(7, .int (nI (lag + 1))), (6, .int (nI (lgA m cam cams f))), (5, .int (nI cam)), (0, .ref (ad 13)), (1, .int (nI nf)), (2, .int (nI f)), (3, .int (nI cams)), (4, .int (nI most))] := lv_sub hl [0, 1, 2, 3, 4, 5, 6, 7] rfl
              exact ih50 (lag + 1) m2 (by omega) (by rw [if_neg (by omega)] at hR2; exact hR2) (hk2) _ _ _ (hP) hS hl0
            · refine lv_aload_n hx hb dX5_isSeated_68 rfl (lv_at hl 3 rfl) ?_
              refine x_getr CF hK hP 13 (by decide) dX_13 rfl uX2 0 (by decide) (j := 14) rfl wd1_153 rfl dX5_isSeated_69 ?_
              refine lv_iload_n hx hb dX5_isSeated_72 rfl (lv_at hl 5 rfl) ?_
              refine lv_iload hx hb dX5_isSeated_73 (lv_at hl 2 rfl) ?_
              refine x_iast CF hK hI hA hP hS 14 (by decide) dX_14 f (by omega) (by decide) cam dX5_isSeated_75 (fun H locs hP hS => ?_)
              refine lv_aload_n hx hb dX5_isSeated_76 rfl (lv_at hl 3 rfl) ?_
              refine x_getr CF hK hP 13 (by decide) dX_13 rfl uX2 1 (by decide) (j := 15) rfl wd1_155 rfl dX5_isSeated_77 ?_
              refine lv_iload_n hx hb dX5_isSeated_80 rfl (lv_at hl 5 rfl) ?_
              refine lv_iload hx hb dX5_isSeated_81 (lv_at hl 0 rfl) ?_
              refine x_iast CF hK hI hA hP hS 15 (by decide) dX_15 f (by omega) (by decide) lag dX5_isSeated_83 (fun H locs hP hS => ?_)
              refine lv_aload_n hx hb dX5_isSeated_84 rfl (lv_at hl 3 rfl) ?_
              refine lv_iload_n hx hb dX5_isSeated_85 rfl (lv_at hl 4 rfl) ?_
              refine lv_iload_n hx hb dX5_isSeated_86 rfl (lv_at hl 5 rfl) ?_
              refine lv_iconst (v := nI 1) hx hb dX5_isSeated_87 (by decide) ?_
              refine x_iadd hx hb dX5_isSeated_88 ?_
              refine lv_iload_n hx hb dX5_isSeated_89 rfl (lv_at hl 6 rfl) ?_
              refine lv_iload hx hb dX5_isSeated_90 (lv_at hl 2 rfl) ?_
              refine lv_iconst (v := nI 1) hx hb dX5_isSeated_92 (by decide) ?_
              refine x_iadd hx hb dX5_isSeated_93 ?_
              refine x_callSP CF hK hP hS hl (As := [.int (nI cams), .int (nI (cam + 1))]) (rest := [.int (nI (f + 1)), .int (nI nf), .ref (ad 13)]) (c_max (nI cams) (nI (cam + 1))) kw_J9_max_7cf53 wd2_199 rfl ⟨Nat.le_of_ble_eq_true rfl, Nat.le_of_ble_eq_true rfl⟩ ⟨Nat.le_refl _, Nat.le_refl _⟩ (Nat.le_of_ble_eq_true rfl) dX5_isSeated_94 (fun H locs hP hS => ?_)
              refine x_ri (show (if (nI cams).toInt < (nI (cam + 1)).toInt then nI (cam + 1) else nI cams) = nI (max cams (cam + 1)) from n_maxN (by omega) (by omega)) ?_
              refine lv_iload hx hb dX5_isSeated_97 (lv_at hl 7 rfl) ?_
              refine x_callSI CF hK hP hS hA hl (As := [.ref (ad 13), .int (nI nf), .int (nI (f + 1)), .int (nI (max cams (cam + 1))), .int (nI most)]) (rest := []) (c_seat_4 hI (u2 (u2 m2 14 f cam) 15 f lag) J nf (f + 1) (max cams (cam + 1)) most (by omega) (by omega) (by omega) (by omega) (hk2.st (by omega) (by omega))) kw_X5_isSeated wd2_192 rfl ⟨Nat.le_of_ble_eq_true rfl, Nat.le_of_ble_eq_true rfl⟩ ⟨Nat.le_refl _, Nat.le_refl _⟩ (Nat.le_of_ble_eq_true rfl) dX5_isSeated_99 (fun H locs hP hS => ?_)
              refine x_yeq (u := (b2n (seat most 4 (f + 1) (max cams (cam + 1)) (u2 (u2 m2 14 f cam) 15 f lag)).1 : Nat)) (tgt := 107) hx hb (nI_toInt (Nat.lt_of_le_of_lt (b2n_le _) (by decide))) dX5_isSeated_102 (by decide) (fun h_15 => ?_) (fun h_15 => ?_)
              · refine lv_iinc (v := nI (lag + 1)) (lv' := [(7, .int (nI (lag + 1))), (6, .int (nI (lgA m cam cams f))), (5, .int (nI cam)), (0, .ref (ad 13)), (1, .int (nI nf)), (2, .int (nI f)), (3, .int (nI cams)), (4, .int (nI most))]) hx hb dX5_isSeated_107 hl (k := 0) rfl (n_inc lag 1) (by decide) rfl (fun ls hl => ?_)
                refine lv_goto (tgt := 50) hx hb dX5_isSeated_110 (by decide) ?_
                have hl0 : lv_has ls 8 [(7, .int (nI (lag + 1))), (6, .int (nI (lgA m cam cams f))), (5, .int (nI cam)), (0, .ref (ad 13)), (1, .int (nI nf)), (2, .int (nI f)), (3, .int (nI cams)), (4, .int (nI most))] := lv_sub hl [0, 1, 2, 3, 4, 5, 6, 7] rfl
                exact ih50 (lag + 1) ((seat most 4 (f + 1) (max cams (cam + 1)) (u2 (u2 m2 14 f cam) 15 f lag)).2) (by omega) (by rw [if_pos (by omega), if_neg (by show ¬ (seat most 4 (f + 1) (max cams (cam + 1)) (u2 (u2 m2 14 f cam) 15 f lag)).1 = true; rw [b2n_0 h_15]; decide)] at hR2; exact hR2) ((hk2.keep (keeps.st.tr (seat_keeps _ _ _ _ _).up))) _ _ _ (hP) hS hl0
              · refine lv_iconst (v := nI 1) hx hb dX5_isSeated_105 (by decide) ?_
                exact x_retz hx hb hr9 hlk9 hS (by have hb1 : (seat most 4 (f + 1) (max cams (cam + 1)) (u2 (u2 m2 14 f cam) 15 f lag)).1 = true := b2n_1 h_15; rw [if_pos (by omega), if_pos hb1] at hR2; rw [← hR2, if_pos hb1] at hR; rw [← hR]; exact hP) (by have hb1 : (seat most 4 (f + 1) (max cams (cam + 1)) (u2 (u2 m2 14 f cam) 15 f lag)).1 = true := b2n_1 h_15; rw [if_pos (by omega), if_pos hb1] at hR2; rw [← hR2, if_pos hb1] at hR; rw [← hR]; show nI 1 = nI (b2n (seat most 4 (f + 1) (max cams (cam + 1)) (u2 (u2 m2 14 f cam) 15 f lag)).1); rw [hb1]; rfl) (rfl) dX5_isSeated_106
        have hl0 : lv_has ls 8 [(7, .int (nI 0)), (6, .int (nI (lgA m cam cams f))), (5, .int (nI cam)), (0, .ref (ad 13)), (1, .int (nI nf)), (2, .int (nI f)), (3, .int (nI cams)), (4, .int (nI most))] := lv_sub hl [0, 1, 2, 3, 4, 5, 6, 7] rfl
        exact L50 12 0 m (by omega) (rfl) (hk) _ _ _ (hP) hS hl0
  have hl0 : lv_has ls 8 [(5, .int (nI 0)), (0, .ref (ad 13)), (1, .int (nI nf)), (2, .int (nI f)), (3, .int (nI cams)), (4, .int (nI most))] := lv_sub hl [0, 1, 2, 3, 4, 5] rfl
  exact L15 (min (cams + 1) most) 0 M (by omega) (rfl) (hk9) _ _ _ (hP) hS hl0
set_option maxHeartbeats 4000000 in
set_option maxRecDepth 100000 in
theorem c_shareCams_0 {l : Launch} {g : gE} {ad : Nat → Nat} (hI : g_inj ad 55) (M : gMem) (J : gMeL) (hn : M 23 3 = 0) (hcs : seatOk 0 (cmpM M (M 23 3))) (hu : ∀ k, k < 5 → M (32 + k) 4 < 4096 ∧ M (32 + k) 5 < 4096) : CI l g ad dsX 55 yX5_shareCams cX5_shareCams 2 (some .int) 12 [.ref (ad 0)] M J (nI (shX M).1) ((shX M).2) J := by
  refine CI.of (plainFor_of_name (by decide)) (Nat.le_of_ble_eq_true rfl) (fun p9 e9 s9 m9 args9 below9 meth9 c9 CF hK hr9 hlk9 hP hS ls hl => ?_)
  have hx := CF.1
  have hb := CF.2.1
  have hA : ∀ q, g_A ad 55 q → g_A ad 55 q := fun _ h => h
  have hl : lv_has ls 2 [(0, .ref (ad 0))] := hl
  refine lv_aload_n hx hb dX5_shareCams_0 rfl (lv_at hl 0 rfl) ?_
  refine x_getr CF hK hP 0 (by decide) dX_0 rfl uX5 5 (by decide) (j := 13) rfl wd1_169 rfl dX5_shareCams_1 ?_
  refine lv_aload_n hx hb dX5_shareCams_4 rfl (lv_at hl 0 rfl) ?_
  refine x_getr CF hK hP 0 (by decide) dX_0 rfl uX5 0 (by decide) (j := 23) rfl wd1_164 rfl dX5_shareCams_5 ?_
  refine x_getr CF hK hP 23 (by decide) dX_23 rfl uX1 2 (by decide) (j := 31) rfl wd1_72 rfl dX5_shareCams_8 ?_
  refine lv_aload_n hx hb dX5_shareCams_11 rfl (lv_at hl 0 rfl) ?_
  refine x_getr CF hK hP 0 (by decide) dX_0 rfl uX5 0 (by decide) (j := 23) rfl wd1_164 rfl dX5_shareCams_12 ?_
  refine x_geti CF hK hP 23 (by decide) dX_23 rfl uX1 3 (by decide) rfl wd1_74 rfl dX5_shareCams_15 ?_
  refine x_callVV CF hK hP hS hA hl (As := [.ref (ad 31), .int (nI (M 23 3))]) (rest := []) (c_compare hI M J (M 23 3) (by omega) hu) kw_X2_compare wd2_184 (by decide) dX_13 rfl rfl ⟨Nat.le_of_ble_eq_true rfl, Nat.le_of_ble_eq_true rfl⟩ ⟨Nat.le_refl _, Nat.le_refl _⟩ (Nat.le_of_ble_eq_true rfl) dX5_shareCams_18 (fun H locs hP hS => ?_)
  refine lv_iconst (v := nI 0) hx hb dX5_shareCams_21 (by decide) ?_
  refine lv_istore_n (lv' := [(1, .int (nI 0)), (0, .ref (ad 0))]) hx hb dX5_shareCams_22 rfl hl (by decide) rfl (fun ls hl => ?_)
  have L23 : ∀ (d23 : Nat) (most : Nat) (m : gMem), (most + d23 = M 23 3) → (shL (M 23 3) d23 most m = shX M) → (keeps 0 (cmpM M (M 23 3)) m) → (∀ (H : Heap) (locs : List Loc) (ls : Array Slot), g_P g ad dsX 55 m J H → va_S (g_A ad 55) s9.heap H locs → lv_has ls 2 [(1, .int (nI most)), (0, .ref (ad 0))] → W p9 l e9 (g_rm 12) s9 m9 args9 below9 meth9 c9 H locs 0 0 (MQ below9 (va_Qi (fun r' (_ : Unit) => r' = (nI (shX M).1)) (fun _ t => g_P g ad dsX 55 ((shX M).2) J t.heap) (g_A ad 55)) args9 s9 0 0 (g_A ad 55)) (F0 m9 23 ls [])) := by
    intro d23
    induction d23 with
    | zero =>
      intro most m hm hR hk H locs ls hP hS hl
      have hs : seatOk 0 m := hcs.keep hk
      rw [shL, hn] at hR
      refine lv_iload_n hx hb dX5_shareCams_23 rfl (lv_at hl 0 rfl) ?_
      refine lv_aload_n hx hb dX5_shareCams_24 rfl (lv_at hl 1 rfl) ?_
      refine x_getr CF hK hP 0 (by decide) dX_0 rfl uX5 0 (by decide) (j := 23) rfl wd1_164 rfl dX5_shareCams_25 ?_
      refine x_geti CF hK hP 23 (by decide) dX_23 rfl uX1 3 (by decide) rfl wd1_74 rfl dX5_shareCams_28 ?_
      refine x_ri (show (nI (m 23 3)) = nI (M 23 3) from by rw [hk 23 3 (by omega), cmpM_out (by omega) (by omega)]) ?_
      refine x_zge (u := (most : Nat)) (v := (M 23 3 : Nat)) (tgt := 62) hx hb (nI_toInt (by omega)) (nI_toInt (by omega)) dX5_shareCams_31 (by decide) (fun h_1 => ?_) (fun h_1 => (by omega : False).elim)
      refine lv_aload_n hx hb dX5_shareCams_62 rfl (lv_at hl 1 rfl) ?_
      refine x_getr CF hK hP 0 (by decide) dX_0 rfl uX5 5 (by decide) (j := 13) rfl wd1_169 rfl dX5_shareCams_63 ?_
      refine lv_aload_n hx hb dX5_shareCams_66 rfl (lv_at hl 1 rfl) ?_
      refine x_getr CF hK hP 0 (by decide) dX_0 rfl uX5 0 (by decide) (j := 23) rfl wd1_164 rfl dX5_shareCams_67 ?_
      refine x_geti CF hK hP 23 (by decide) dX_23 rfl uX1 3 (by decide) rfl wd1_74 rfl dX5_shareCams_70 ?_
      refine x_ri (show (nI (m 23 3)) = nI (M 23 3) from by rw [hk 23 3 (by omega), cmpM_out (by omega) (by omega)]) ?_
      refine lv_iconst (v := nI 0) hx hb dX5_shareCams_73 (by decide) ?_
      refine lv_iconst (v := nI 0) hx hb dX5_shareCams_74 (by decide) ?_
      refine lv_aload_n hx hb dX5_shareCams_75 rfl (lv_at hl 1 rfl) ?_
      refine x_getr CF hK hP 0 (by decide) dX_0 rfl uX5 0 (by decide) (j := 23) rfl wd1_164 rfl dX5_shareCams_76 ?_
      refine x_geti CF hK hP 23 (by decide) dX_23 rfl uX1 3 (by decide) rfl wd1_74 rfl dX5_shareCams_79 ?_
      refine x_ri (show (nI (m 23 3)) = nI (M 23 3) from by rw [hk 23 3 (by omega), cmpM_out (by omega) (by omega)]) ?_
      refine x_callSI CF hK hP hS hA hl (As := [.ref (ad 13), .int (nI (M 23 3)), .int (nI 0), .int (nI 0), .int (nI (M 23 3))]) (rest := []) (c_seat_0 hI m J (M 23 3) 0 0 (M 23 3) (by omega) (by omega) (by omega) (by omega) hs) kw_X5_isSeated wd2_192 rfl ⟨Nat.le_of_ble_eq_true rfl, Nat.le_of_ble_eq_true rfl⟩ ⟨Nat.le_refl _, Nat.le_refl _⟩ (Nat.le_of_ble_eq_true rfl) dX5_shareCams_82 (fun H locs hP hS => ?_)
      refine lv_pop hx hb dX5_shareCams_85 rfl ?_
      refine lv_aload_n hx hb dX5_shareCams_86 rfl (lv_at hl 1 rfl) ?_
      refine x_getr CF hK hP 0 (by decide) dX_0 rfl uX5 0 (by decide) (j := 23) rfl wd1_164 rfl dX5_shareCams_87 ?_
      refine x_geti CF hK hP 23 (by decide) dX_23 rfl uX1 3 (by decide) rfl wd1_74 rfl dX5_shareCams_90 ?_
      refine x_ri (show (nI (((seat (M 23 3) 0 0 0 m).2) 23 3)) = nI (M 23 3) from by rw [(hk.tr (seat_keeps _ _ _ _ _)) 23 3 (by omega), cmpM_out (by omega) (by omega)]) ?_
      exact x_reti hx hb hr9 hlk9 hS (by rw [← hR]; rw [hn] at hP; exact hP) (by rw [← hR]; show nI (M 23 3) = nI 0; rw [hn]) dX5_shareCams_93
    | succ d23 ih23 =>
      intro most m hm hR hk H locs ls hP hS hl
      have hs : seatOk 0 m := hcs.keep hk
      rw [shL, hn] at hR
      refine lv_iload_n hx hb dX5_shareCams_23 rfl (lv_at hl 0 rfl) ?_
      refine lv_aload_n hx hb dX5_shareCams_24 rfl (lv_at hl 1 rfl) ?_
      refine x_getr CF hK hP 0 (by decide) dX_0 rfl uX5 0 (by decide) (j := 23) rfl wd1_164 rfl dX5_shareCams_25 ?_
      refine x_geti CF hK hP 23 (by decide) dX_23 rfl uX1 3 (by decide) rfl wd1_74 rfl dX5_shareCams_28 ?_
      refine x_ri (show (nI (m 23 3)) = nI (M 23 3) from by rw [hk 23 3 (by omega), cmpM_out (by omega) (by omega)]) ?_
      refine x_zge (u := (most : Nat)) (v := (M 23 3 : Nat)) (tgt := 62) hx hb (nI_toInt (by omega)) (nI_toInt (by omega)) dX5_shareCams_31 (by decide) (fun h_2 => (by omega : False).elim) (fun h_2 => ?_)
      refine lv_aload_n hx hb dX5_shareCams_34 rfl (lv_at hl 1 rfl) ?_
      refine x_getr CF hK hP 0 (by decide) dX_0 rfl uX5 5 (by decide) (j := 13) rfl wd1_169 rfl dX5_shareCams_35 ?_
      refine lv_aload_n hx hb dX5_shareCams_38 rfl (lv_at hl 1 rfl) ?_
      refine x_getr CF hK hP 0 (by decide) dX_0 rfl uX5 0 (by decide) (j := 23) rfl wd1_164 rfl dX5_shareCams_39 ?_
      refine x_geti CF hK hP 23 (by decide) dX_23 rfl uX1 3 (by decide) rfl wd1_74 rfl dX5_shareCams_42 ?_
      refine x_ri (show (nI (m 23 3)) = nI (M 23 3) from by rw [hk 23 3 (by omega), cmpM_out (by omega) (by omega)]) ?_
      refine lv_iconst (v := nI 0) hx hb dX5_shareCams_45 (by decide) ?_
      refine lv_iconst (v := nI 0) hx hb dX5_shareCams_46 (by decide) ?_
      refine lv_iload_n hx hb dX5_shareCams_47 rfl (lv_at hl 0 rfl) ?_
      refine x_callSI CF hK hP hS hA hl (As := [.ref (ad 13), .int (nI (M 23 3)), .int (nI 0), .int (nI 0), .int (nI most)]) (rest := []) (c_seat_0 hI m J (M 23 3) 0 0 most (by omega) (by omega) (by omega) (by omega) hs) kw_X5_isSeated wd2_192 rfl ⟨Nat.le_of_ble_eq_true rfl, Nat.le_of_ble_eq_true rfl⟩ ⟨Nat.le_refl _, Nat.le_refl _⟩ (Nat.le_of_ble_eq_true rfl) dX5_shareCams_48 (fun H locs hP hS => ?_)
      refine x_yeq (u := (b2n (seat most 0 0 0 m).1 : Nat)) (tgt := 56) hx hb (nI_toInt (Nat.lt_of_le_of_lt (b2n_le _) (by decide))) dX5_shareCams_51 (by decide) (fun h_3 => ?_) (fun h_3 => ?_)
      · refine lv_iinc (v := nI (most + 1)) (lv' := [(1, .int (nI (most + 1))), (0, .ref (ad 0))]) hx hb dX5_shareCams_56 hl (k := 0) rfl (n_inc most 1) (by decide) rfl (fun ls hl => ?_)
        refine lv_goto (tgt := 23) hx hb dX5_shareCams_59 (by decide) ?_
        have hl0 : lv_has ls 2 [(1, .int (nI (most + 1))), (0, .ref (ad 0))] := lv_sub hl [0, 1] rfl
        exact ih23 (most + 1) _ (by omega) (by rw [if_neg (by rw [b2n_0 h_3]; decide)] at hR; rw [hn]; exact hR) ((hk.tr (seat_keeps _ _ _ _ _))) _ _ _ (hP) hS hl0
      · refine lv_iload_n hx hb dX5_shareCams_54 rfl (lv_at hl 0 rfl) ?_
        exact x_reti hx hb hr9 hlk9 hS (by rw [if_pos (b2n_1 h_3)] at hR; rw [← hR]; exact hP) (by rw [if_pos (b2n_1 h_3)] at hR; rw [← hR]) dX5_shareCams_55
  have hl0 : lv_has ls 2 [(1, .int (nI 0)), (0, .ref (ad 0))] := lv_sub hl [0, 1] rfl
  exact L23 (M 23 3) 0 (cmpM M (M 23 3)) (by omega) (rfl) (keeps.rf) _ _ _ (hP) hS hl0
set_option maxHeartbeats 4000000 in
set_option maxRecDepth 100000 in
theorem c_shareCams_1 {l : Launch} {g : gE} {ad : Nat → Nat} (hI : g_inj ad 55) (M : gMem) (J : gMeL) (hn : M 23 3 = 1) (hcs : seatOk 0 (cmpM M (M 23 3))) (hu : ∀ k, k < 5 → M (32 + k) 4 < 4096 ∧ M (32 + k) 5 < 4096) : CI l g ad dsX 55 yX5_shareCams cX5_shareCams 2 (some .int) 12 [.ref (ad 0)] M J (nI (shX M).1) ((shX M).2) J := by
  refine CI.of (plainFor_of_name (by decide)) (Nat.le_of_ble_eq_true rfl) (fun p9 e9 s9 m9 args9 below9 meth9 c9 CF hK hr9 hlk9 hP hS ls hl => ?_)
  have hx := CF.1
  have hb := CF.2.1
  have hA : ∀ q, g_A ad 55 q → g_A ad 55 q := fun _ h => h
  have hl : lv_has ls 2 [(0, .ref (ad 0))] := hl
  refine lv_aload_n hx hb dX5_shareCams_0 rfl (lv_at hl 0 rfl) ?_
  refine x_getr CF hK hP 0 (by decide) dX_0 rfl uX5 5 (by decide) (j := 13) rfl wd1_169 rfl dX5_shareCams_1 ?_
  refine lv_aload_n hx hb dX5_shareCams_4 rfl (lv_at hl 0 rfl) ?_
  refine x_getr CF hK hP 0 (by decide) dX_0 rfl uX5 0 (by decide) (j := 23) rfl wd1_164 rfl dX5_shareCams_5 ?_
  refine x_getr CF hK hP 23 (by decide) dX_23 rfl uX1 2 (by decide) (j := 31) rfl wd1_72 rfl dX5_shareCams_8 ?_
  refine lv_aload_n hx hb dX5_shareCams_11 rfl (lv_at hl 0 rfl) ?_
  refine x_getr CF hK hP 0 (by decide) dX_0 rfl uX5 0 (by decide) (j := 23) rfl wd1_164 rfl dX5_shareCams_12 ?_
  refine x_geti CF hK hP 23 (by decide) dX_23 rfl uX1 3 (by decide) rfl wd1_74 rfl dX5_shareCams_15 ?_
  refine x_callVV CF hK hP hS hA hl (As := [.ref (ad 31), .int (nI (M 23 3))]) (rest := []) (c_compare hI M J (M 23 3) (by omega) hu) kw_X2_compare wd2_184 (by decide) dX_13 rfl rfl ⟨Nat.le_of_ble_eq_true rfl, Nat.le_of_ble_eq_true rfl⟩ ⟨Nat.le_refl _, Nat.le_refl _⟩ (Nat.le_of_ble_eq_true rfl) dX5_shareCams_18 (fun H locs hP hS => ?_)
  refine lv_iconst (v := nI 0) hx hb dX5_shareCams_21 (by decide) ?_
  refine lv_istore_n (lv' := [(1, .int (nI 0)), (0, .ref (ad 0))]) hx hb dX5_shareCams_22 rfl hl (by decide) rfl (fun ls hl => ?_)
  have L23 : ∀ (d23 : Nat) (most : Nat) (m : gMem), (most + d23 = M 23 3) → (shL (M 23 3) d23 most m = shX M) → (keeps 0 (cmpM M (M 23 3)) m) → (∀ (H : Heap) (locs : List Loc) (ls : Array Slot), g_P g ad dsX 55 m J H → va_S (g_A ad 55) s9.heap H locs → lv_has ls 2 [(1, .int (nI most)), (0, .ref (ad 0))] → W p9 l e9 (g_rm 12) s9 m9 args9 below9 meth9 c9 H locs 0 0 (MQ below9 (va_Qi (fun r' (_ : Unit) => r' = (nI (shX M).1)) (fun _ t => g_P g ad dsX 55 ((shX M).2) J t.heap) (g_A ad 55)) args9 s9 0 0 (g_A ad 55)) (F0 m9 23 ls [])) := by
    intro d23
    induction d23 with
    | zero =>
      intro most m hm hR hk H locs ls hP hS hl
      have hs : seatOk 0 m := hcs.keep hk
      rw [shL, hn] at hR
      refine lv_iload_n hx hb dX5_shareCams_23 rfl (lv_at hl 0 rfl) ?_
      refine lv_aload_n hx hb dX5_shareCams_24 rfl (lv_at hl 1 rfl) ?_
      refine x_getr CF hK hP 0 (by decide) dX_0 rfl uX5 0 (by decide) (j := 23) rfl wd1_164 rfl dX5_shareCams_25 ?_
      refine x_geti CF hK hP 23 (by decide) dX_23 rfl uX1 3 (by decide) rfl wd1_74 rfl dX5_shareCams_28 ?_
      refine x_ri (show (nI (m 23 3)) = nI (M 23 3) from by rw [hk 23 3 (by omega), cmpM_out (by omega) (by omega)]) ?_
      refine x_zge (u := (most : Nat)) (v := (M 23 3 : Nat)) (tgt := 62) hx hb (nI_toInt (by omega)) (nI_toInt (by omega)) dX5_shareCams_31 (by decide) (fun h_1 => ?_) (fun h_1 => (by omega : False).elim)
      refine lv_aload_n hx hb dX5_shareCams_62 rfl (lv_at hl 1 rfl) ?_
      refine x_getr CF hK hP 0 (by decide) dX_0 rfl uX5 5 (by decide) (j := 13) rfl wd1_169 rfl dX5_shareCams_63 ?_
      refine lv_aload_n hx hb dX5_shareCams_66 rfl (lv_at hl 1 rfl) ?_
      refine x_getr CF hK hP 0 (by decide) dX_0 rfl uX5 0 (by decide) (j := 23) rfl wd1_164 rfl dX5_shareCams_67 ?_
      refine x_geti CF hK hP 23 (by decide) dX_23 rfl uX1 3 (by decide) rfl wd1_74 rfl dX5_shareCams_70 ?_
      refine x_ri (show (nI (m 23 3)) = nI (M 23 3) from by rw [hk 23 3 (by omega), cmpM_out (by omega) (by omega)]) ?_
      refine lv_iconst (v := nI 0) hx hb dX5_shareCams_73 (by decide) ?_
      refine lv_iconst (v := nI 0) hx hb dX5_shareCams_74 (by decide) ?_
      refine lv_aload_n hx hb dX5_shareCams_75 rfl (lv_at hl 1 rfl) ?_
      refine x_getr CF hK hP 0 (by decide) dX_0 rfl uX5 0 (by decide) (j := 23) rfl wd1_164 rfl dX5_shareCams_76 ?_
      refine x_geti CF hK hP 23 (by decide) dX_23 rfl uX1 3 (by decide) rfl wd1_74 rfl dX5_shareCams_79 ?_
      refine x_ri (show (nI (m 23 3)) = nI (M 23 3) from by rw [hk 23 3 (by omega), cmpM_out (by omega) (by omega)]) ?_
      refine x_callSI CF hK hP hS hA hl (As := [.ref (ad 13), .int (nI (M 23 3)), .int (nI 0), .int (nI 0), .int (nI (M 23 3))]) (rest := []) (c_seat_1 hI m J (M 23 3) 0 0 (M 23 3) (by omega) (by omega) (by omega) (by omega) hs) kw_X5_isSeated wd2_192 rfl ⟨Nat.le_of_ble_eq_true rfl, Nat.le_of_ble_eq_true rfl⟩ ⟨Nat.le_refl _, Nat.le_refl _⟩ (Nat.le_of_ble_eq_true rfl) dX5_shareCams_82 (fun H locs hP hS => ?_)
      refine lv_pop hx hb dX5_shareCams_85 rfl ?_
      refine lv_aload_n hx hb dX5_shareCams_86 rfl (lv_at hl 1 rfl) ?_
      refine x_getr CF hK hP 0 (by decide) dX_0 rfl uX5 0 (by decide) (j := 23) rfl wd1_164 rfl dX5_shareCams_87 ?_
      refine x_geti CF hK hP 23 (by decide) dX_23 rfl uX1 3 (by decide) rfl wd1_74 rfl dX5_shareCams_90 ?_
      refine x_ri (show (nI (((seat (M 23 3) 1 0 0 m).2) 23 3)) = nI (M 23 3) from by rw [(hk.tr (seat_keeps _ _ _ _ _)) 23 3 (by omega), cmpM_out (by omega) (by omega)]) ?_
      exact x_reti hx hb hr9 hlk9 hS (by rw [← hR]; rw [hn] at hP; exact hP) (by rw [← hR]; show nI (M 23 3) = nI 1; rw [hn]) dX5_shareCams_93
    | succ d23 ih23 =>
      intro most m hm hR hk H locs ls hP hS hl
      have hs : seatOk 0 m := hcs.keep hk
      rw [shL, hn] at hR
      refine lv_iload_n hx hb dX5_shareCams_23 rfl (lv_at hl 0 rfl) ?_
      refine lv_aload_n hx hb dX5_shareCams_24 rfl (lv_at hl 1 rfl) ?_
      refine x_getr CF hK hP 0 (by decide) dX_0 rfl uX5 0 (by decide) (j := 23) rfl wd1_164 rfl dX5_shareCams_25 ?_
      refine x_geti CF hK hP 23 (by decide) dX_23 rfl uX1 3 (by decide) rfl wd1_74 rfl dX5_shareCams_28 ?_
      refine x_ri (show (nI (m 23 3)) = nI (M 23 3) from by rw [hk 23 3 (by omega), cmpM_out (by omega) (by omega)]) ?_
      refine x_zge (u := (most : Nat)) (v := (M 23 3 : Nat)) (tgt := 62) hx hb (nI_toInt (by omega)) (nI_toInt (by omega)) dX5_shareCams_31 (by decide) (fun h_2 => (by omega : False).elim) (fun h_2 => ?_)
      refine lv_aload_n hx hb dX5_shareCams_34 rfl (lv_at hl 1 rfl) ?_
      refine x_getr CF hK hP 0 (by decide) dX_0 rfl uX5 5 (by decide) (j := 13) rfl wd1_169 rfl dX5_shareCams_35 ?_
      refine lv_aload_n hx hb dX5_shareCams_38 rfl (lv_at hl 1 rfl) ?_
      refine x_getr CF hK hP 0 (by decide) dX_0 rfl uX5 0 (by decide) (j := 23) rfl wd1_164 rfl dX5_shareCams_39 ?_
      refine x_geti CF hK hP 23 (by decide) dX_23 rfl uX1 3 (by decide) rfl wd1_74 rfl dX5_shareCams_42 ?_
      refine x_ri (show (nI (m 23 3)) = nI (M 23 3) from by rw [hk 23 3 (by omega), cmpM_out (by omega) (by omega)]) ?_
      refine lv_iconst (v := nI 0) hx hb dX5_shareCams_45 (by decide) ?_
      refine lv_iconst (v := nI 0) hx hb dX5_shareCams_46 (by decide) ?_
      refine lv_iload_n hx hb dX5_shareCams_47 rfl (lv_at hl 0 rfl) ?_
      refine x_callSI CF hK hP hS hA hl (As := [.ref (ad 13), .int (nI (M 23 3)), .int (nI 0), .int (nI 0), .int (nI most)]) (rest := []) (c_seat_1 hI m J (M 23 3) 0 0 most (by omega) (by omega) (by omega) (by omega) hs) kw_X5_isSeated wd2_192 rfl ⟨Nat.le_of_ble_eq_true rfl, Nat.le_of_ble_eq_true rfl⟩ ⟨Nat.le_refl _, Nat.le_refl _⟩ (Nat.le_of_ble_eq_true rfl) dX5_shareCams_48 (fun H locs hP hS => ?_)
      refine x_yeq (u := (b2n (seat most 1 0 0 m).1 : Nat)) (tgt := 56) hx hb (nI_toInt (Nat.lt_of_le_of_lt (b2n_le _) (by decide))) dX5_shareCams_51 (by decide) (fun h_3 => ?_) (fun h_3 => ?_)
      · refine lv_iinc (v := nI (most + 1)) (lv' := [(1, .int (nI (most + 1))), (0, .ref (ad 0))]) hx hb dX5_shareCams_56 hl (k := 0) rfl (n_inc most 1) (by decide) rfl (fun ls hl => ?_)
        refine lv_goto (tgt := 23) hx hb dX5_shareCams_59 (by decide) ?_
        have hl0 : lv_has ls 2 [(1, .int (nI (most + 1))), (0, .ref (ad 0))] := lv_sub hl [0, 1] rfl
        exact ih23 (most + 1) _ (by omega) (by rw [if_neg (by rw [b2n_0 h_3]; decide)] at hR; rw [hn]; exact hR) ((hk.tr (seat_keeps _ _ _ _ _))) _ _ _ (hP) hS hl0
      · refine lv_iload_n hx hb dX5_shareCams_54 rfl (lv_at hl 0 rfl) ?_
        exact x_reti hx hb hr9 hlk9 hS (by rw [if_pos (b2n_1 h_3)] at hR; rw [← hR]; exact hP) (by rw [if_pos (b2n_1 h_3)] at hR; rw [← hR]) dX5_shareCams_55
  have hl0 : lv_has ls 2 [(1, .int (nI 0)), (0, .ref (ad 0))] := lv_sub hl [0, 1] rfl
  exact L23 (M 23 3) 0 (cmpM M (M 23 3)) (by omega) (rfl) (keeps.rf) _ _ _ (hP) hS hl0
set_option maxHeartbeats 4000000 in
set_option maxRecDepth 100000 in
theorem c_shareCams_2 {l : Launch} {g : gE} {ad : Nat → Nat} (hI : g_inj ad 55) (M : gMem) (J : gMeL) (hn : M 23 3 = 2) (hcs : seatOk 0 (cmpM M (M 23 3))) (hu : ∀ k, k < 5 → M (32 + k) 4 < 4096 ∧ M (32 + k) 5 < 4096) : CI l g ad dsX 55 yX5_shareCams cX5_shareCams 2 (some .int) 12 [.ref (ad 0)] M J (nI (shX M).1) ((shX M).2) J := by
  refine CI.of (plainFor_of_name (by decide)) (Nat.le_of_ble_eq_true rfl) (fun p9 e9 s9 m9 args9 below9 meth9 c9 CF hK hr9 hlk9 hP hS ls hl => ?_)
  have hx := CF.1
  have hb := CF.2.1
  have hA : ∀ q, g_A ad 55 q → g_A ad 55 q := fun _ h => h
  have hl : lv_has ls 2 [(0, .ref (ad 0))] := hl
  refine lv_aload_n hx hb dX5_shareCams_0 rfl (lv_at hl 0 rfl) ?_
  refine x_getr CF hK hP 0 (by decide) dX_0 rfl uX5 5 (by decide) (j := 13) rfl wd1_169 rfl dX5_shareCams_1 ?_
  refine lv_aload_n hx hb dX5_shareCams_4 rfl (lv_at hl 0 rfl) ?_
  refine x_getr CF hK hP 0 (by decide) dX_0 rfl uX5 0 (by decide) (j := 23) rfl wd1_164 rfl dX5_shareCams_5 ?_
  refine x_getr CF hK hP 23 (by decide) dX_23 rfl uX1 2 (by decide) (j := 31) rfl wd1_72 rfl dX5_shareCams_8 ?_
  refine lv_aload_n hx hb dX5_shareCams_11 rfl (lv_at hl 0 rfl) ?_
  refine x_getr CF hK hP 0 (by decide) dX_0 rfl uX5 0 (by decide) (j := 23) rfl wd1_164 rfl dX5_shareCams_12 ?_
  refine x_geti CF hK hP 23 (by decide) dX_23 rfl uX1 3 (by decide) rfl wd1_74 rfl dX5_shareCams_15 ?_
  refine x_callVV CF hK hP hS hA hl (As := [.ref (ad 31), .int (nI (M 23 3))]) (rest := []) (c_compare hI M J (M 23 3) (by omega) hu) kw_X2_compare wd2_184 (by decide) dX_13 rfl rfl ⟨Nat.le_of_ble_eq_true rfl, Nat.le_of_ble_eq_true rfl⟩ ⟨Nat.le_refl _, Nat.le_refl _⟩ (Nat.le_of_ble_eq_true rfl) dX5_shareCams_18 (fun H locs hP hS => ?_)
  refine lv_iconst (v := nI 0) hx hb dX5_shareCams_21 (by decide) ?_
  refine lv_istore_n (lv' := [(1, .int (nI 0)), (0, .ref (ad 0))]) hx hb dX5_shareCams_22 rfl hl (by decide) rfl (fun ls hl => ?_)
  have L23 : ∀ (d23 : Nat) (most : Nat) (m : gMem), (most + d23 = M 23 3) → (shL (M 23 3) d23 most m = shX M) → (keeps 0 (cmpM M (M 23 3)) m) → (∀ (H : Heap) (locs : List Loc) (ls : Array Slot), g_P g ad dsX 55 m J H → va_S (g_A ad 55) s9.heap H locs → lv_has ls 2 [(1, .int (nI most)), (0, .ref (ad 0))] → W p9 l e9 (g_rm 12) s9 m9 args9 below9 meth9 c9 H locs 0 0 (MQ below9 (va_Qi (fun r' (_ : Unit) => r' = (nI (shX M).1)) (fun _ t => g_P g ad dsX 55 ((shX M).2) J t.heap) (g_A ad 55)) args9 s9 0 0 (g_A ad 55)) (F0 m9 23 ls [])) := by
    intro d23
    induction d23 with
    | zero =>
      intro most m hm hR hk H locs ls hP hS hl
      have hs : seatOk 0 m := hcs.keep hk
      rw [shL, hn] at hR
      refine lv_iload_n hx hb dX5_shareCams_23 rfl (lv_at hl 0 rfl) ?_
      refine lv_aload_n hx hb dX5_shareCams_24 rfl (lv_at hl 1 rfl) ?_
      refine x_getr CF hK hP 0 (by decide) dX_0 rfl uX5 0 (by decide) (j := 23) rfl wd1_164 rfl dX5_shareCams_25 ?_
      refine x_geti CF hK hP 23 (by decide) dX_23 rfl uX1 3 (by decide) rfl wd1_74 rfl dX5_shareCams_28 ?_
      refine x_ri (show (nI (m 23 3)) = nI (M 23 3) from by rw [hk 23 3 (by omega), cmpM_out (by omega) (by omega)]) ?_
      refine x_zge (u := (most : Nat)) (v := (M 23 3 : Nat)) (tgt := 62) hx hb (nI_toInt (by omega)) (nI_toInt (by omega)) dX5_shareCams_31 (by decide) (fun h_1 => ?_) (fun h_1 => (by omega : False).elim)
      refine lv_aload_n hx hb dX5_shareCams_62 rfl (lv_at hl 1 rfl) ?_
      refine x_getr CF hK hP 0 (by decide) dX_0 rfl uX5 5 (by decide) (j := 13) rfl wd1_169 rfl dX5_shareCams_63 ?_
      refine lv_aload_n hx hb dX5_shareCams_66 rfl (lv_at hl 1 rfl) ?_
      refine x_getr CF hK hP 0 (by decide) dX_0 rfl uX5 0 (by decide) (j := 23) rfl wd1_164 rfl dX5_shareCams_67 ?_
      refine x_geti CF hK hP 23 (by decide) dX_23 rfl uX1 3 (by decide) rfl wd1_74 rfl dX5_shareCams_70 ?_
      refine x_ri (show (nI (m 23 3)) = nI (M 23 3) from by rw [hk 23 3 (by omega), cmpM_out (by omega) (by omega)]) ?_
      refine lv_iconst (v := nI 0) hx hb dX5_shareCams_73 (by decide) ?_
      refine lv_iconst (v := nI 0) hx hb dX5_shareCams_74 (by decide) ?_
      refine lv_aload_n hx hb dX5_shareCams_75 rfl (lv_at hl 1 rfl) ?_
      refine x_getr CF hK hP 0 (by decide) dX_0 rfl uX5 0 (by decide) (j := 23) rfl wd1_164 rfl dX5_shareCams_76 ?_
      refine x_geti CF hK hP 23 (by decide) dX_23 rfl uX1 3 (by decide) rfl wd1_74 rfl dX5_shareCams_79 ?_
      refine x_ri (show (nI (m 23 3)) = nI (M 23 3) from by rw [hk 23 3 (by omega), cmpM_out (by omega) (by omega)]) ?_
      refine x_callSI CF hK hP hS hA hl (As := [.ref (ad 13), .int (nI (M 23 3)), .int (nI 0), .int (nI 0), .int (nI (M 23 3))]) (rest := []) (c_seat_2 hI m J (M 23 3) 0 0 (M 23 3) (by omega) (by omega) (by omega) (by omega) hs) kw_X5_isSeated wd2_192 rfl ⟨Nat.le_of_ble_eq_true rfl, Nat.le_of_ble_eq_true rfl⟩ ⟨Nat.le_refl _, Nat.le_refl _⟩ (Nat.le_of_ble_eq_true rfl) dX5_shareCams_82 (fun H locs hP hS => ?_)
      refine lv_pop hx hb dX5_shareCams_85 rfl ?_
      refine lv_aload_n hx hb dX5_shareCams_86 rfl (lv_at hl 1 rfl) ?_
      refine x_getr CF hK hP 0 (by decide) dX_0 rfl uX5 0 (by decide) (j := 23) rfl wd1_164 rfl dX5_shareCams_87 ?_
      refine x_geti CF hK hP 23 (by decide) dX_23 rfl uX1 3 (by decide) rfl wd1_74 rfl dX5_shareCams_90 ?_
      refine x_ri (show (nI (((seat (M 23 3) 2 0 0 m).2) 23 3)) = nI (M 23 3) from by rw [(hk.tr (seat_keeps _ _ _ _ _)) 23 3 (by omega), cmpM_out (by omega) (by omega)]) ?_
      exact x_reti hx hb hr9 hlk9 hS (by rw [← hR]; rw [hn] at hP; exact hP) (by rw [← hR]; show nI (M 23 3) = nI 2; rw [hn]) dX5_shareCams_93
    | succ d23 ih23 =>
      intro most m hm hR hk H locs ls hP hS hl
      have hs : seatOk 0 m := hcs.keep hk
      rw [shL, hn] at hR
      refine lv_iload_n hx hb dX5_shareCams_23 rfl (lv_at hl 0 rfl) ?_
      refine lv_aload_n hx hb dX5_shareCams_24 rfl (lv_at hl 1 rfl) ?_
      refine x_getr CF hK hP 0 (by decide) dX_0 rfl uX5 0 (by decide) (j := 23) rfl wd1_164 rfl dX5_shareCams_25 ?_
      refine x_geti CF hK hP 23 (by decide) dX_23 rfl uX1 3 (by decide) rfl wd1_74 rfl dX5_shareCams_28 ?_
      refine x_ri (show (nI (m 23 3)) = nI (M 23 3) from by rw [hk 23 3 (by omega), cmpM_out (by omega) (by omega)]) ?_
      refine x_zge (u := (most : Nat)) (v := (M 23 3 : Nat)) (tgt := 62) hx hb (nI_toInt (by omega)) (nI_toInt (by omega)) dX5_shareCams_31 (by decide) (fun h_2 => (by omega : False).elim) (fun h_2 => ?_)
      refine lv_aload_n hx hb dX5_shareCams_34 rfl (lv_at hl 1 rfl) ?_
      refine x_getr CF hK hP 0 (by decide) dX_0 rfl uX5 5 (by decide) (j := 13) rfl wd1_169 rfl dX5_shareCams_35 ?_
      refine lv_aload_n hx hb dX5_shareCams_38 rfl (lv_at hl 1 rfl) ?_
      refine x_getr CF hK hP 0 (by decide) dX_0 rfl uX5 0 (by decide) (j := 23) rfl wd1_164 rfl dX5_shareCams_39 ?_
      refine x_geti CF hK hP 23 (by decide) dX_23 rfl uX1 3 (by decide) rfl wd1_74 rfl dX5_shareCams_42 ?_
      refine x_ri (show (nI (m 23 3)) = nI (M 23 3) from by rw [hk 23 3 (by omega), cmpM_out (by omega) (by omega)]) ?_
      refine lv_iconst (v := nI 0) hx hb dX5_shareCams_45 (by decide) ?_
      refine lv_iconst (v := nI 0) hx hb dX5_shareCams_46 (by decide) ?_
      refine lv_iload_n hx hb dX5_shareCams_47 rfl (lv_at hl 0 rfl) ?_
      refine x_callSI CF hK hP hS hA hl (As := [.ref (ad 13), .int (nI (M 23 3)), .int (nI 0), .int (nI 0), .int (nI most)]) (rest := []) (c_seat_2 hI m J (M 23 3) 0 0 most (by omega) (by omega) (by omega) (by omega) hs) kw_X5_isSeated wd2_192 rfl ⟨Nat.le_of_ble_eq_true rfl, Nat.le_of_ble_eq_true rfl⟩ ⟨Nat.le_refl _, Nat.le_refl _⟩ (Nat.le_of_ble_eq_true rfl) dX5_shareCams_48 (fun H locs hP hS => ?_)
      refine x_yeq (u := (b2n (seat most 2 0 0 m).1 : Nat)) (tgt := 56) hx hb (nI_toInt (Nat.lt_of_le_of_lt (b2n_le _) (by decide))) dX5_shareCams_51 (by decide) (fun h_3 => ?_) (fun h_3 => ?_)
      · refine lv_iinc (v := nI (most + 1)) (lv' := [(1, .int (nI (most + 1))), (0, .ref (ad 0))]) hx hb dX5_shareCams_56 hl (k := 0) rfl (n_inc most 1) (by decide) rfl (fun ls hl => ?_)
        refine lv_goto (tgt := 23) hx hb dX5_shareCams_59 (by decide) ?_
        have hl0 : lv_has ls 2 [(1, .int (nI (most + 1))), (0, .ref (ad 0))] := lv_sub hl [0, 1] rfl
        exact ih23 (most + 1) _ (by omega) (by rw [if_neg (by rw [b2n_0 h_3]; decide)] at hR; rw [hn]; exact hR) ((hk.tr (seat_keeps _ _ _ _ _))) _ _ _ (hP) hS hl0
      · refine lv_iload_n hx hb dX5_shareCams_54 rfl (lv_at hl 0 rfl) ?_
        exact x_reti hx hb hr9 hlk9 hS (by rw [if_pos (b2n_1 h_3)] at hR; rw [← hR]; exact hP) (by rw [if_pos (b2n_1 h_3)] at hR; rw [← hR]) dX5_shareCams_55
  have hl0 : lv_has ls 2 [(1, .int (nI 0)), (0, .ref (ad 0))] := lv_sub hl [0, 1] rfl
  exact L23 (M 23 3) 0 (cmpM M (M 23 3)) (by omega) (rfl) (keeps.rf) _ _ _ (hP) hS hl0
set_option maxHeartbeats 4000000 in
set_option maxRecDepth 100000 in
theorem c_shareCams_3 {l : Launch} {g : gE} {ad : Nat → Nat} (hI : g_inj ad 55) (M : gMem) (J : gMeL) (hn : M 23 3 = 3) (hcs : seatOk 0 (cmpM M (M 23 3))) (hu : ∀ k, k < 5 → M (32 + k) 4 < 4096 ∧ M (32 + k) 5 < 4096) : CI l g ad dsX 55 yX5_shareCams cX5_shareCams 2 (some .int) 12 [.ref (ad 0)] M J (nI (shX M).1) ((shX M).2) J := by
  refine CI.of (plainFor_of_name (by decide)) (Nat.le_of_ble_eq_true rfl) (fun p9 e9 s9 m9 args9 below9 meth9 c9 CF hK hr9 hlk9 hP hS ls hl => ?_)
  have hx := CF.1
  have hb := CF.2.1
  have hA : ∀ q, g_A ad 55 q → g_A ad 55 q := fun _ h => h
  have hl : lv_has ls 2 [(0, .ref (ad 0))] := hl
  refine lv_aload_n hx hb dX5_shareCams_0 rfl (lv_at hl 0 rfl) ?_
  refine x_getr CF hK hP 0 (by decide) dX_0 rfl uX5 5 (by decide) (j := 13) rfl wd1_169 rfl dX5_shareCams_1 ?_
  refine lv_aload_n hx hb dX5_shareCams_4 rfl (lv_at hl 0 rfl) ?_
  refine x_getr CF hK hP 0 (by decide) dX_0 rfl uX5 0 (by decide) (j := 23) rfl wd1_164 rfl dX5_shareCams_5 ?_
  refine x_getr CF hK hP 23 (by decide) dX_23 rfl uX1 2 (by decide) (j := 31) rfl wd1_72 rfl dX5_shareCams_8 ?_
  refine lv_aload_n hx hb dX5_shareCams_11 rfl (lv_at hl 0 rfl) ?_
  refine x_getr CF hK hP 0 (by decide) dX_0 rfl uX5 0 (by decide) (j := 23) rfl wd1_164 rfl dX5_shareCams_12 ?_
  refine x_geti CF hK hP 23 (by decide) dX_23 rfl uX1 3 (by decide) rfl wd1_74 rfl dX5_shareCams_15 ?_
  refine x_callVV CF hK hP hS hA hl (As := [.ref (ad 31), .int (nI (M 23 3))]) (rest := []) (c_compare hI M J (M 23 3) (by omega) hu) kw_X2_compare wd2_184 (by decide) dX_13 rfl rfl ⟨Nat.le_of_ble_eq_true rfl, Nat.le_of_ble_eq_true rfl⟩ ⟨Nat.le_refl _, Nat.le_refl _⟩ (Nat.le_of_ble_eq_true rfl) dX5_shareCams_18 (fun H locs hP hS => ?_)
  refine lv_iconst (v := nI 0) hx hb dX5_shareCams_21 (by decide) ?_
  refine lv_istore_n (lv' := [(1, .int (nI 0)), (0, .ref (ad 0))]) hx hb dX5_shareCams_22 rfl hl (by decide) rfl (fun ls hl => ?_)
  have L23 : ∀ (d23 : Nat) (most : Nat) (m : gMem), (most + d23 = M 23 3) → (shL (M 23 3) d23 most m = shX M) → (keeps 0 (cmpM M (M 23 3)) m) → (∀ (H : Heap) (locs : List Loc) (ls : Array Slot), g_P g ad dsX 55 m J H → va_S (g_A ad 55) s9.heap H locs → lv_has ls 2 [(1, .int (nI most)), (0, .ref (ad 0))] → W p9 l e9 (g_rm 12) s9 m9 args9 below9 meth9 c9 H locs 0 0 (MQ below9 (va_Qi (fun r' (_ : Unit) => r' = (nI (shX M).1)) (fun _ t => g_P g ad dsX 55 ((shX M).2) J t.heap) (g_A ad 55)) args9 s9 0 0 (g_A ad 55)) (F0 m9 23 ls [])) := by
    intro d23
    induction d23 with
    | zero =>
      intro most m hm hR hk H locs ls hP hS hl
      have hs : seatOk 0 m := hcs.keep hk
      rw [shL, hn] at hR
      refine lv_iload_n hx hb dX5_shareCams_23 rfl (lv_at hl 0 rfl) ?_
      refine lv_aload_n hx hb dX5_shareCams_24 rfl (lv_at hl 1 rfl) ?_
      refine x_getr CF hK hP 0 (by decide) dX_0 rfl uX5 0 (by decide) (j := 23) rfl wd1_164 rfl dX5_shareCams_25 ?_
      refine x_geti CF hK hP 23 (by decide) dX_23 rfl uX1 3 (by decide) rfl wd1_74 rfl dX5_shareCams_28 ?_
      refine x_ri (show (nI (m 23 3)) = nI (M 23 3) from by rw [hk 23 3 (by omega), cmpM_out (by omega) (by omega)]) ?_
      refine x_zge (u := (most : Nat)) (v := (M 23 3 : Nat)) (tgt := 62) hx hb (nI_toInt (by omega)) (nI_toInt (by omega)) dX5_shareCams_31 (by decide) (fun h_1 => ?_) (fun h_1 => (by omega : False).elim)
      refine lv_aload_n hx hb dX5_shareCams_62 rfl (lv_at hl 1 rfl) ?_
      refine x_getr CF hK hP 0 (by decide) dX_0 rfl uX5 5 (by decide) (j := 13) rfl wd1_169 rfl dX5_shareCams_63 ?_
      refine lv_aload_n hx hb dX5_shareCams_66 rfl (lv_at hl 1 rfl) ?_
      refine x_getr CF hK hP 0 (by decide) dX_0 rfl uX5 0 (by decide) (j := 23) rfl wd1_164 rfl dX5_shareCams_67 ?_
      refine x_geti CF hK hP 23 (by decide) dX_23 rfl uX1 3 (by decide) rfl wd1_74 rfl dX5_shareCams_70 ?_
      refine x_ri (show (nI (m 23 3)) = nI (M 23 3) from by rw [hk 23 3 (by omega), cmpM_out (by omega) (by omega)]) ?_
      refine lv_iconst (v := nI 0) hx hb dX5_shareCams_73 (by decide) ?_
      refine lv_iconst (v := nI 0) hx hb dX5_shareCams_74 (by decide) ?_
      refine lv_aload_n hx hb dX5_shareCams_75 rfl (lv_at hl 1 rfl) ?_
      refine x_getr CF hK hP 0 (by decide) dX_0 rfl uX5 0 (by decide) (j := 23) rfl wd1_164 rfl dX5_shareCams_76 ?_
      refine x_geti CF hK hP 23 (by decide) dX_23 rfl uX1 3 (by decide) rfl wd1_74 rfl dX5_shareCams_79 ?_
      refine x_ri (show (nI (m 23 3)) = nI (M 23 3) from by rw [hk 23 3 (by omega), cmpM_out (by omega) (by omega)]) ?_
      refine x_callSI CF hK hP hS hA hl (As := [.ref (ad 13), .int (nI (M 23 3)), .int (nI 0), .int (nI 0), .int (nI (M 23 3))]) (rest := []) (c_seat_3 hI m J (M 23 3) 0 0 (M 23 3) (by omega) (by omega) (by omega) (by omega) hs) kw_X5_isSeated wd2_192 rfl ⟨Nat.le_of_ble_eq_true rfl, Nat.le_of_ble_eq_true rfl⟩ ⟨Nat.le_refl _, Nat.le_refl _⟩ (Nat.le_of_ble_eq_true rfl) dX5_shareCams_82 (fun H locs hP hS => ?_)
      refine lv_pop hx hb dX5_shareCams_85 rfl ?_
      refine lv_aload_n hx hb dX5_shareCams_86 rfl (lv_at hl 1 rfl) ?_
      refine x_getr CF hK hP 0 (by decide) dX_0 rfl uX5 0 (by decide) (j := 23) rfl wd1_164 rfl dX5_shareCams_87 ?_
      refine x_geti CF hK hP 23 (by decide) dX_23 rfl uX1 3 (by decide) rfl wd1_74 rfl dX5_shareCams_90 ?_
      refine x_ri (show (nI (((seat (M 23 3) 3 0 0 m).2) 23 3)) = nI (M 23 3) from by rw [(hk.tr (seat_keeps _ _ _ _ _)) 23 3 (by omega), cmpM_out (by omega) (by omega)]) ?_
      exact x_reti hx hb hr9 hlk9 hS (by rw [← hR]; rw [hn] at hP; exact hP) (by rw [← hR]; show nI (M 23 3) = nI 3; rw [hn]) dX5_shareCams_93
    | succ d23 ih23 =>
      intro most m hm hR hk H locs ls hP hS hl
      have hs : seatOk 0 m := hcs.keep hk
      rw [shL, hn] at hR
      refine lv_iload_n hx hb dX5_shareCams_23 rfl (lv_at hl 0 rfl) ?_
      refine lv_aload_n hx hb dX5_shareCams_24 rfl (lv_at hl 1 rfl) ?_
      refine x_getr CF hK hP 0 (by decide) dX_0 rfl uX5 0 (by decide) (j := 23) rfl wd1_164 rfl dX5_shareCams_25 ?_
      refine x_geti CF hK hP 23 (by decide) dX_23 rfl uX1 3 (by decide) rfl wd1_74 rfl dX5_shareCams_28 ?_
      refine x_ri (show (nI (m 23 3)) = nI (M 23 3) from by rw [hk 23 3 (by omega), cmpM_out (by omega) (by omega)]) ?_
      refine x_zge (u := (most : Nat)) (v := (M 23 3 : Nat)) (tgt := 62) hx hb (nI_toInt (by omega)) (nI_toInt (by omega)) dX5_shareCams_31 (by decide) (fun h_2 => (by omega : False).elim) (fun h_2 => ?_)
      refine lv_aload_n hx hb dX5_shareCams_34 rfl (lv_at hl 1 rfl) ?_
      refine x_getr CF hK hP 0 (by decide) dX_0 rfl uX5 5 (by decide) (j := 13) rfl wd1_169 rfl dX5_shareCams_35 ?_
      refine lv_aload_n hx hb dX5_shareCams_38 rfl (lv_at hl 1 rfl) ?_
      refine x_getr CF hK hP 0 (by decide) dX_0 rfl uX5 0 (by decide) (j := 23) rfl wd1_164 rfl dX5_shareCams_39 ?_
      refine x_geti CF hK hP 23 (by decide) dX_23 rfl uX1 3 (by decide) rfl wd1_74 rfl dX5_shareCams_42 ?_
      refine x_ri (show (nI (m 23 3)) = nI (M 23 3) from by rw [hk 23 3 (by omega), cmpM_out (by omega) (by omega)]) ?_
      refine lv_iconst (v := nI 0) hx hb dX5_shareCams_45 (by decide) ?_
      refine lv_iconst (v := nI 0) hx hb dX5_shareCams_46 (by decide) ?_
      refine lv_iload_n hx hb dX5_shareCams_47 rfl (lv_at hl 0 rfl) ?_
      refine x_callSI CF hK hP hS hA hl (As := [.ref (ad 13), .int (nI (M 23 3)), .int (nI 0), .int (nI 0), .int (nI most)]) (rest := []) (c_seat_3 hI m J (M 23 3) 0 0 most (by omega) (by omega) (by omega) (by omega) hs) kw_X5_isSeated wd2_192 rfl ⟨Nat.le_of_ble_eq_true rfl, Nat.le_of_ble_eq_true rfl⟩ ⟨Nat.le_refl _, Nat.le_refl _⟩ (Nat.le_of_ble_eq_true rfl) dX5_shareCams_48 (fun H locs hP hS => ?_)
      refine x_yeq (u := (b2n (seat most 3 0 0 m).1 : Nat)) (tgt := 56) hx hb (nI_toInt (Nat.lt_of_le_of_lt (b2n_le _) (by decide))) dX5_shareCams_51 (by decide) (fun h_3 => ?_) (fun h_3 => ?_)
      · refine lv_iinc (v := nI (most + 1)) (lv' := [(1, .int (nI (most + 1))), (0, .ref (ad 0))]) hx hb dX5_shareCams_56 hl (k := 0) rfl (n_inc most 1) (by decide) rfl (fun ls hl => ?_)
        refine lv_goto (tgt := 23) hx hb dX5_shareCams_59 (by decide) ?_
        have hl0 : lv_has ls 2 [(1, .int (nI (most + 1))), (0, .ref (ad 0))] := lv_sub hl [0, 1] rfl
        exact ih23 (most + 1) _ (by omega) (by rw [if_neg (by rw [b2n_0 h_3]; decide)] at hR; rw [hn]; exact hR) ((hk.tr (seat_keeps _ _ _ _ _))) _ _ _ (hP) hS hl0
      · refine lv_iload_n hx hb dX5_shareCams_54 rfl (lv_at hl 0 rfl) ?_
        exact x_reti hx hb hr9 hlk9 hS (by rw [if_pos (b2n_1 h_3)] at hR; rw [← hR]; exact hP) (by rw [if_pos (b2n_1 h_3)] at hR; rw [← hR]) dX5_shareCams_55
  have hl0 : lv_has ls 2 [(1, .int (nI 0)), (0, .ref (ad 0))] := lv_sub hl [0, 1] rfl
  exact L23 (M 23 3) 0 (cmpM M (M 23 3)) (by omega) (rfl) (keeps.rf) _ _ _ (hP) hS hl0
set_option maxHeartbeats 4000000 in
set_option maxRecDepth 100000 in
theorem c_shareCams_4 {l : Launch} {g : gE} {ad : Nat → Nat} (hI : g_inj ad 55) (M : gMem) (J : gMeL) (hn : M 23 3 = 4) (hcs : seatOk 0 (cmpM M (M 23 3))) (hu : ∀ k, k < 5 → M (32 + k) 4 < 4096 ∧ M (32 + k) 5 < 4096) : CI l g ad dsX 55 yX5_shareCams cX5_shareCams 2 (some .int) 12 [.ref (ad 0)] M J (nI (shX M).1) ((shX M).2) J := by
  refine CI.of (plainFor_of_name (by decide)) (Nat.le_of_ble_eq_true rfl) (fun p9 e9 s9 m9 args9 below9 meth9 c9 CF hK hr9 hlk9 hP hS ls hl => ?_)
  have hx := CF.1
  have hb := CF.2.1
  have hA : ∀ q, g_A ad 55 q → g_A ad 55 q := fun _ h => h
  have hl : lv_has ls 2 [(0, .ref (ad 0))] := hl
  refine lv_aload_n hx hb dX5_shareCams_0 rfl (lv_at hl 0 rfl) ?_
  refine x_getr CF hK hP 0 (by decide) dX_0 rfl uX5 5 (by decide) (j := 13) rfl wd1_169 rfl dX5_shareCams_1 ?_
  refine lv_aload_n hx hb dX5_shareCams_4 rfl (lv_at hl 0 rfl) ?_
  refine x_getr CF hK hP 0 (by decide) dX_0 rfl uX5 0 (by decide) (j := 23) rfl wd1_164 rfl dX5_shareCams_5 ?_
  refine x_getr CF hK hP 23 (by decide) dX_23 rfl uX1 2 (by decide) (j := 31) rfl wd1_72 rfl dX5_shareCams_8 ?_
  refine lv_aload_n hx hb dX5_shareCams_11 rfl (lv_at hl 0 rfl) ?_
  refine x_getr CF hK hP 0 (by decide) dX_0 rfl uX5 0 (by decide) (j := 23) rfl wd1_164 rfl dX5_shareCams_12 ?_
  refine x_geti CF hK hP 23 (by decide) dX_23 rfl uX1 3 (by decide) rfl wd1_74 rfl dX5_shareCams_15 ?_
  refine x_callVV CF hK hP hS hA hl (As := [.ref (ad 31), .int (nI (M 23 3))]) (rest := []) (c_compare hI M J (M 23 3) (by omega) hu) kw_X2_compare wd2_184 (by decide) dX_13 rfl rfl ⟨Nat.le_of_ble_eq_true rfl, Nat.le_of_ble_eq_true rfl⟩ ⟨Nat.le_refl _, Nat.le_refl _⟩ (Nat.le_of_ble_eq_true rfl) dX5_shareCams_18 (fun H locs hP hS => ?_)
  refine lv_iconst (v := nI 0) hx hb dX5_shareCams_21 (by decide) ?_
  refine lv_istore_n (lv' := [(1, .int (nI 0)), (0, .ref (ad 0))]) hx hb dX5_shareCams_22 rfl hl (by decide) rfl (fun ls hl => ?_)
  have L23 : ∀ (d23 : Nat) (most : Nat) (m : gMem), (most + d23 = M 23 3) → (shL (M 23 3) d23 most m = shX M) → (keeps 0 (cmpM M (M 23 3)) m) → (∀ (H : Heap) (locs : List Loc) (ls : Array Slot), g_P g ad dsX 55 m J H → va_S (g_A ad 55) s9.heap H locs → lv_has ls 2 [(1, .int (nI most)), (0, .ref (ad 0))] → W p9 l e9 (g_rm 12) s9 m9 args9 below9 meth9 c9 H locs 0 0 (MQ below9 (va_Qi (fun r' (_ : Unit) => r' = (nI (shX M).1)) (fun _ t => g_P g ad dsX 55 ((shX M).2) J t.heap) (g_A ad 55)) args9 s9 0 0 (g_A ad 55)) (F0 m9 23 ls [])) := by
    intro d23
    induction d23 with
    | zero =>
      intro most m hm hR hk H locs ls hP hS hl
      have hs : seatOk 0 m := hcs.keep hk
      rw [shL, hn] at hR
      refine lv_iload_n hx hb dX5_shareCams_23 rfl (lv_at hl 0 rfl) ?_
      refine lv_aload_n hx hb dX5_shareCams_24 rfl (lv_at hl 1 rfl) ?_
      refine x_getr CF hK hP 0 (by decide) dX_0 rfl uX5 0 (by decide) (j := 23) rfl wd1_164 rfl dX5_shareCams_25 ?_
      refine x_geti CF hK hP 23 (by decide) dX_23 rfl uX1 3 (by decide) rfl wd1_74 rfl dX5_shareCams_28 ?_
      refine x_ri (show (nI (m 23 3)) = nI (M 23 3) from by rw [hk 23 3 (by omega), cmpM_out (by omega) (by omega)]) ?_
      refine x_zge (u := (most : Nat)) (v := (M 23 3 : Nat)) (tgt := 62) hx hb (nI_toInt (by omega)) (nI_toInt (by omega)) dX5_shareCams_31 (by decide) (fun h_1 => ?_) (fun h_1 => (by omega : False).elim)
      refine lv_aload_n hx hb dX5_shareCams_62 rfl (lv_at hl 1 rfl) ?_
      refine x_getr CF hK hP 0 (by decide) dX_0 rfl uX5 5 (by decide) (j := 13) rfl wd1_169 rfl dX5_shareCams_63 ?_
      refine lv_aload_n hx hb dX5_shareCams_66 rfl (lv_at hl 1 rfl) ?_
      refine x_getr CF hK hP 0 (by decide) dX_0 rfl uX5 0 (by decide) (j := 23) rfl wd1_164 rfl dX5_shareCams_67 ?_
      refine x_geti CF hK hP 23 (by decide) dX_23 rfl uX1 3 (by decide) rfl wd1_74 rfl dX5_shareCams_70 ?_
      refine x_ri (show (nI (m 23 3)) = nI (M 23 3) from by rw [hk 23 3 (by omega), cmpM_out (by omega) (by omega)]) ?_
      refine lv_iconst (v := nI 0) hx hb dX5_shareCams_73 (by decide) ?_
      refine lv_iconst (v := nI 0) hx hb dX5_shareCams_74 (by decide) ?_
      refine lv_aload_n hx hb dX5_shareCams_75 rfl (lv_at hl 1 rfl) ?_
      refine x_getr CF hK hP 0 (by decide) dX_0 rfl uX5 0 (by decide) (j := 23) rfl wd1_164 rfl dX5_shareCams_76 ?_
      refine x_geti CF hK hP 23 (by decide) dX_23 rfl uX1 3 (by decide) rfl wd1_74 rfl dX5_shareCams_79 ?_
      refine x_ri (show (nI (m 23 3)) = nI (M 23 3) from by rw [hk 23 3 (by omega), cmpM_out (by omega) (by omega)]) ?_
      refine x_callSI CF hK hP hS hA hl (As := [.ref (ad 13), .int (nI (M 23 3)), .int (nI 0), .int (nI 0), .int (nI (M 23 3))]) (rest := []) (c_seat_4 hI m J (M 23 3) 0 0 (M 23 3) (by omega) (by omega) (by omega) (by omega) hs) kw_X5_isSeated wd2_192 rfl ⟨Nat.le_of_ble_eq_true rfl, Nat.le_of_ble_eq_true rfl⟩ ⟨Nat.le_refl _, Nat.le_refl _⟩ (Nat.le_of_ble_eq_true rfl) dX5_shareCams_82 (fun H locs hP hS => ?_)
      refine lv_pop hx hb dX5_shareCams_85 rfl ?_
      refine lv_aload_n hx hb dX5_shareCams_86 rfl (lv_at hl 1 rfl) ?_
      refine x_getr CF hK hP 0 (by decide) dX_0 rfl uX5 0 (by decide) (j := 23) rfl wd1_164 rfl dX5_shareCams_87 ?_
      refine x_geti CF hK hP 23 (by decide) dX_23 rfl uX1 3 (by decide) rfl wd1_74 rfl dX5_shareCams_90 ?_
      refine x_ri (show (nI (((seat (M 23 3) 4 0 0 m).2) 23 3)) = nI (M 23 3) from by rw [(hk.tr (seat_keeps _ _ _ _ _)) 23 3 (by omega), cmpM_out (by omega) (by omega)]) ?_
      exact x_reti hx hb hr9 hlk9 hS (by rw [← hR]; rw [hn] at hP; exact hP) (by rw [← hR]; show nI (M 23 3) = nI 4; rw [hn]) dX5_shareCams_93
    | succ d23 ih23 =>
      intro most m hm hR hk H locs ls hP hS hl
      have hs : seatOk 0 m := hcs.keep hk
      rw [shL, hn] at hR
      refine lv_iload_n hx hb dX5_shareCams_23 rfl (lv_at hl 0 rfl) ?_
      refine lv_aload_n hx hb dX5_shareCams_24 rfl (lv_at hl 1 rfl) ?_
      refine x_getr CF hK hP 0 (by decide) dX_0 rfl uX5 0 (by decide) (j := 23) rfl wd1_164 rfl dX5_shareCams_25 ?_
      refine x_geti CF hK hP 23 (by decide) dX_23 rfl uX1 3 (by decide) rfl wd1_74 rfl dX5_shareCams_28 ?_
      refine x_ri (show (nI (m 23 3)) = nI (M 23 3) from by rw [hk 23 3 (by omega), cmpM_out (by omega) (by omega)]) ?_
      refine x_zge (u := (most : Nat)) (v := (M 23 3 : Nat)) (tgt := 62) hx hb (nI_toInt (by omega)) (nI_toInt (by omega)) dX5_shareCams_31 (by decide) (fun h_2 => (by omega : False).elim) (fun h_2 => ?_)
      refine lv_aload_n hx hb dX5_shareCams_34 rfl (lv_at hl 1 rfl) ?_
      refine x_getr CF hK hP 0 (by decide) dX_0 rfl uX5 5 (by decide) (j := 13) rfl wd1_169 rfl dX5_shareCams_35 ?_
      refine lv_aload_n hx hb dX5_shareCams_38 rfl (lv_at hl 1 rfl) ?_
      refine x_getr CF hK hP 0 (by decide) dX_0 rfl uX5 0 (by decide) (j := 23) rfl wd1_164 rfl dX5_shareCams_39 ?_
      refine x_geti CF hK hP 23 (by decide) dX_23 rfl uX1 3 (by decide) rfl wd1_74 rfl dX5_shareCams_42 ?_
      refine x_ri (show (nI (m 23 3)) = nI (M 23 3) from by rw [hk 23 3 (by omega), cmpM_out (by omega) (by omega)]) ?_
      refine lv_iconst (v := nI 0) hx hb dX5_shareCams_45 (by decide) ?_
      refine lv_iconst (v := nI 0) hx hb dX5_shareCams_46 (by decide) ?_
      refine lv_iload_n hx hb dX5_shareCams_47 rfl (lv_at hl 0 rfl) ?_
      refine x_callSI CF hK hP hS hA hl (As := [.ref (ad 13), .int (nI (M 23 3)), .int (nI 0), .int (nI 0), .int (nI most)]) (rest := []) (c_seat_4 hI m J (M 23 3) 0 0 most (by omega) (by omega) (by omega) (by omega) hs) kw_X5_isSeated wd2_192 rfl ⟨Nat.le_of_ble_eq_true rfl, Nat.le_of_ble_eq_true rfl⟩ ⟨Nat.le_refl _, Nat.le_refl _⟩ (Nat.le_of_ble_eq_true rfl) dX5_shareCams_48 (fun H locs hP hS => ?_)
      refine x_yeq (u := (b2n (seat most 4 0 0 m).1 : Nat)) (tgt := 56) hx hb (nI_toInt (Nat.lt_of_le_of_lt (b2n_le _) (by decide))) dX5_shareCams_51 (by decide) (fun h_3 => ?_) (fun h_3 => ?_)
      · refine lv_iinc (v := nI (most + 1)) (lv' := [(1, .int (nI (most + 1))), (0, .ref (ad 0))]) hx hb dX5_shareCams_56 hl (k := 0) rfl (n_inc most 1) (by decide) rfl (fun ls hl => ?_)
        refine lv_goto (tgt := 23) hx hb dX5_shareCams_59 (by decide) ?_
        have hl0 : lv_has ls 2 [(1, .int (nI (most + 1))), (0, .ref (ad 0))] := lv_sub hl [0, 1] rfl
        exact ih23 (most + 1) _ (by omega) (by rw [if_neg (by rw [b2n_0 h_3]; decide)] at hR; rw [hn]; exact hR) ((hk.tr (seat_keeps _ _ _ _ _))) _ _ _ (hP) hS hl0
      · refine lv_iload_n hx hb dX5_shareCams_54 rfl (lv_at hl 0 rfl) ?_
        exact x_reti hx hb hr9 hlk9 hS (by rw [if_pos (b2n_1 h_3)] at hR; rw [← hR]; exact hP) (by rw [if_pos (b2n_1 h_3)] at hR; rw [← hR]) dX5_shareCams_55
  have hl0 : lv_has ls 2 [(1, .int (nI 0)), (0, .ref (ad 0))] := lv_sub hl [0, 1] rfl
  exact L23 (M 23 3) 0 (cmpM M (M 23 3)) (by omega) (rfl) (keeps.rf) _ _ _ (hP) hS hl0
set_option maxHeartbeats 4000000 in
set_option maxRecDepth 100000 in
theorem c_shareCams_5 {l : Launch} {g : gE} {ad : Nat → Nat} (hI : g_inj ad 55) (M : gMem) (J : gMeL) (hn : M 23 3 = 5) (hcs : seatOk 0 (cmpM M (M 23 3))) (hu : ∀ k, k < 5 → M (32 + k) 4 < 4096 ∧ M (32 + k) 5 < 4096) : CI l g ad dsX 55 yX5_shareCams cX5_shareCams 2 (some .int) 12 [.ref (ad 0)] M J (nI (shX M).1) ((shX M).2) J := by
  refine CI.of (plainFor_of_name (by decide)) (Nat.le_of_ble_eq_true rfl) (fun p9 e9 s9 m9 args9 below9 meth9 c9 CF hK hr9 hlk9 hP hS ls hl => ?_)
  have hx := CF.1
  have hb := CF.2.1
  have hA : ∀ q, g_A ad 55 q → g_A ad 55 q := fun _ h => h
  have hl : lv_has ls 2 [(0, .ref (ad 0))] := hl
  refine lv_aload_n hx hb dX5_shareCams_0 rfl (lv_at hl 0 rfl) ?_
  refine x_getr CF hK hP 0 (by decide) dX_0 rfl uX5 5 (by decide) (j := 13) rfl wd1_169 rfl dX5_shareCams_1 ?_
  refine lv_aload_n hx hb dX5_shareCams_4 rfl (lv_at hl 0 rfl) ?_
  refine x_getr CF hK hP 0 (by decide) dX_0 rfl uX5 0 (by decide) (j := 23) rfl wd1_164 rfl dX5_shareCams_5 ?_
  refine x_getr CF hK hP 23 (by decide) dX_23 rfl uX1 2 (by decide) (j := 31) rfl wd1_72 rfl dX5_shareCams_8 ?_
  refine lv_aload_n hx hb dX5_shareCams_11 rfl (lv_at hl 0 rfl) ?_
  refine x_getr CF hK hP 0 (by decide) dX_0 rfl uX5 0 (by decide) (j := 23) rfl wd1_164 rfl dX5_shareCams_12 ?_
  refine x_geti CF hK hP 23 (by decide) dX_23 rfl uX1 3 (by decide) rfl wd1_74 rfl dX5_shareCams_15 ?_
  refine x_callVV CF hK hP hS hA hl (As := [.ref (ad 31), .int (nI (M 23 3))]) (rest := []) (c_compare hI M J (M 23 3) (by omega) hu) kw_X2_compare wd2_184 (by decide) dX_13 rfl rfl ⟨Nat.le_of_ble_eq_true rfl, Nat.le_of_ble_eq_true rfl⟩ ⟨Nat.le_refl _, Nat.le_refl _⟩ (Nat.le_of_ble_eq_true rfl) dX5_shareCams_18 (fun H locs hP hS => ?_)
  refine lv_iconst (v := nI 0) hx hb dX5_shareCams_21 (by decide) ?_
  refine lv_istore_n (lv' := [(1, .int (nI 0)), (0, .ref (ad 0))]) hx hb dX5_shareCams_22 rfl hl (by decide) rfl (fun ls hl => ?_)
  have L23 : ∀ (d23 : Nat) (most : Nat) (m : gMem), (most + d23 = M 23 3) → (shL (M 23 3) d23 most m = shX M) → (keeps 0 (cmpM M (M 23 3)) m) → (∀ (H : Heap) (locs : List Loc) (ls : Array Slot), g_P g ad dsX 55 m J H → va_S (g_A ad 55) s9.heap H locs → lv_has ls 2 [(1, .int (nI most)), (0, .ref (ad 0))] → W p9 l e9 (g_rm 12) s9 m9 args9 below9 meth9 c9 H locs 0 0 (MQ below9 (va_Qi (fun r' (_ : Unit) => r' = (nI (shX M).1)) (fun _ t => g_P g ad dsX 55 ((shX M).2) J t.heap) (g_A ad 55)) args9 s9 0 0 (g_A ad 55)) (F0 m9 23 ls [])) := by
    intro d23
    induction d23 with
    | zero =>
      intro most m hm hR hk H locs ls hP hS hl
      have hs : seatOk 0 m := hcs.keep hk
      rw [shL, hn] at hR
      refine lv_iload_n hx hb dX5_shareCams_23 rfl (lv_at hl 0 rfl) ?_
      refine lv_aload_n hx hb dX5_shareCams_24 rfl (lv_at hl 1 rfl) ?_
      refine x_getr CF hK hP 0 (by decide) dX_0 rfl uX5 0 (by decide) (j := 23) rfl wd1_164 rfl dX5_shareCams_25 ?_
      refine x_geti CF hK hP 23 (by decide) dX_23 rfl uX1 3 (by decide) rfl wd1_74 rfl dX5_shareCams_28 ?_
      refine x_ri (show (nI (m 23 3)) = nI (M 23 3) from by rw [hk 23 3 (by omega), cmpM_out (by omega) (by omega)]) ?_
      refine x_zge (u := (most : Nat)) (v := (M 23 3 : Nat)) (tgt := 62) hx hb (nI_toInt (by omega)) (nI_toInt (by omega)) dX5_shareCams_31 (by decide) (fun h_1 => ?_) (fun h_1 => (by omega : False).elim)
      refine lv_aload_n hx hb dX5_shareCams_62 rfl (lv_at hl 1 rfl) ?_
      refine x_getr CF hK hP 0 (by decide) dX_0 rfl uX5 5 (by decide) (j := 13) rfl wd1_169 rfl dX5_shareCams_63 ?_
      refine lv_aload_n hx hb dX5_shareCams_66 rfl (lv_at hl 1 rfl) ?_
      refine x_getr CF hK hP 0 (by decide) dX_0 rfl uX5 0 (by decide) (j := 23) rfl wd1_164 rfl dX5_shareCams_67 ?_
      refine x_geti CF hK hP 23 (by decide) dX_23 rfl uX1 3 (by decide) rfl wd1_74 rfl dX5_shareCams_70 ?_
      refine x_ri (show (nI (m 23 3)) = nI (M 23 3) from by rw [hk 23 3 (by omega), cmpM_out (by omega) (by omega)]) ?_
      refine lv_iconst (v := nI 0) hx hb dX5_shareCams_73 (by decide) ?_
      refine lv_iconst (v := nI 0) hx hb dX5_shareCams_74 (by decide) ?_
      refine lv_aload_n hx hb dX5_shareCams_75 rfl (lv_at hl 1 rfl) ?_
      refine x_getr CF hK hP 0 (by decide) dX_0 rfl uX5 0 (by decide) (j := 23) rfl wd1_164 rfl dX5_shareCams_76 ?_
      refine x_geti CF hK hP 23 (by decide) dX_23 rfl uX1 3 (by decide) rfl wd1_74 rfl dX5_shareCams_79 ?_
      refine x_ri (show (nI (m 23 3)) = nI (M 23 3) from by rw [hk 23 3 (by omega), cmpM_out (by omega) (by omega)]) ?_
      refine x_callSI CF hK hP hS hA hl (As := [.ref (ad 13), .int (nI (M 23 3)), .int (nI 0), .int (nI 0), .int (nI (M 23 3))]) (rest := []) (c_seat_5 hI m J (M 23 3) 0 0 (M 23 3) (by omega) (by omega) (by omega) (by omega) hs) kw_X5_isSeated wd2_192 rfl ⟨Nat.le_of_ble_eq_true rfl, Nat.le_of_ble_eq_true rfl⟩ ⟨Nat.le_refl _, Nat.le_refl _⟩ (Nat.le_of_ble_eq_true rfl) dX5_shareCams_82 (fun H locs hP hS => ?_)
      refine lv_pop hx hb dX5_shareCams_85 rfl ?_
      refine lv_aload_n hx hb dX5_shareCams_86 rfl (lv_at hl 1 rfl) ?_
      refine x_getr CF hK hP 0 (by decide) dX_0 rfl uX5 0 (by decide) (j := 23) rfl wd1_164 rfl dX5_shareCams_87 ?_
      refine x_geti CF hK hP 23 (by decide) dX_23 rfl uX1 3 (by decide) rfl wd1_74 rfl dX5_shareCams_90 ?_
      refine x_ri (show (nI (((seat (M 23 3) 5 0 0 m).2) 23 3)) = nI (M 23 3) from by rw [(hk.tr (seat_keeps _ _ _ _ _)) 23 3 (by omega), cmpM_out (by omega) (by omega)]) ?_
      exact x_reti hx hb hr9 hlk9 hS (by rw [← hR]; rw [hn] at hP; exact hP) (by rw [← hR]; show nI (M 23 3) = nI 5; rw [hn]) dX5_shareCams_93
    | succ d23 ih23 =>
      intro most m hm hR hk H locs ls hP hS hl
      have hs : seatOk 0 m := hcs.keep hk
      rw [shL, hn] at hR
      refine lv_iload_n hx hb dX5_shareCams_23 rfl (lv_at hl 0 rfl) ?_
      refine lv_aload_n hx hb dX5_shareCams_24 rfl (lv_at hl 1 rfl) ?_
      refine x_getr CF hK hP 0 (by decide) dX_0 rfl uX5 0 (by decide) (j := 23) rfl wd1_164 rfl dX5_shareCams_25 ?_
      refine x_geti CF hK hP 23 (by decide) dX_23 rfl uX1 3 (by decide) rfl wd1_74 rfl dX5_shareCams_28 ?_
      refine x_ri (show (nI (m 23 3)) = nI (M 23 3) from by rw [hk 23 3 (by omega), cmpM_out (by omega) (by omega)]) ?_
      refine x_zge (u := (most : Nat)) (v := (M 23 3 : Nat)) (tgt := 62) hx hb (nI_toInt (by omega)) (nI_toInt (by omega)) dX5_shareCams_31 (by decide) (fun h_2 => (by omega : False).elim) (fun h_2 => ?_)
      refine lv_aload_n hx hb dX5_shareCams_34 rfl (lv_at hl 1 rfl) ?_
      refine x_getr CF hK hP 0 (by decide) dX_0 rfl uX5 5 (by decide) (j := 13) rfl wd1_169 rfl dX5_shareCams_35 ?_
      refine lv_aload_n hx hb dX5_shareCams_38 rfl (lv_at hl 1 rfl) ?_
      refine x_getr CF hK hP 0 (by decide) dX_0 rfl uX5 0 (by decide) (j := 23) rfl wd1_164 rfl dX5_shareCams_39 ?_
      refine x_geti CF hK hP 23 (by decide) dX_23 rfl uX1 3 (by decide) rfl wd1_74 rfl dX5_shareCams_42 ?_
      refine x_ri (show (nI (m 23 3)) = nI (M 23 3) from by rw [hk 23 3 (by omega), cmpM_out (by omega) (by omega)]) ?_
      refine lv_iconst (v := nI 0) hx hb dX5_shareCams_45 (by decide) ?_
      refine lv_iconst (v := nI 0) hx hb dX5_shareCams_46 (by decide) ?_
      refine lv_iload_n hx hb dX5_shareCams_47 rfl (lv_at hl 0 rfl) ?_
      refine x_callSI CF hK hP hS hA hl (As := [.ref (ad 13), .int (nI (M 23 3)), .int (nI 0), .int (nI 0), .int (nI most)]) (rest := []) (c_seat_5 hI m J (M 23 3) 0 0 most (by omega) (by omega) (by omega) (by omega) hs) kw_X5_isSeated wd2_192 rfl ⟨Nat.le_of_ble_eq_true rfl, Nat.le_of_ble_eq_true rfl⟩ ⟨Nat.le_refl _, Nat.le_refl _⟩ (Nat.le_of_ble_eq_true rfl) dX5_shareCams_48 (fun H locs hP hS => ?_)
      refine x_yeq (u := (b2n (seat most 5 0 0 m).1 : Nat)) (tgt := 56) hx hb (nI_toInt (Nat.lt_of_le_of_lt (b2n_le _) (by decide))) dX5_shareCams_51 (by decide) (fun h_3 => ?_) (fun h_3 => ?_)
      · refine lv_iinc (v := nI (most + 1)) (lv' := [(1, .int (nI (most + 1))), (0, .ref (ad 0))]) hx hb dX5_shareCams_56 hl (k := 0) rfl (n_inc most 1) (by decide) rfl (fun ls hl => ?_)
        refine lv_goto (tgt := 23) hx hb dX5_shareCams_59 (by decide) ?_
        have hl0 : lv_has ls 2 [(1, .int (nI (most + 1))), (0, .ref (ad 0))] := lv_sub hl [0, 1] rfl
        exact ih23 (most + 1) _ (by omega) (by rw [if_neg (by rw [b2n_0 h_3]; decide)] at hR; rw [hn]; exact hR) ((hk.tr (seat_keeps _ _ _ _ _))) _ _ _ (hP) hS hl0
      · refine lv_iload_n hx hb dX5_shareCams_54 rfl (lv_at hl 0 rfl) ?_
        exact x_reti hx hb hr9 hlk9 hS (by rw [if_pos (b2n_1 h_3)] at hR; rw [← hR]; exact hP) (by rw [if_pos (b2n_1 h_3)] at hR; rw [← hR]) dX5_shareCams_55
  have hl0 : lv_has ls 2 [(1, .int (nI 0)), (0, .ref (ad 0))] := lv_sub hl [0, 1] rfl
  exact L23 (M 23 3) 0 (cmpM M (M 23 3)) (by omega) (rfl) (keeps.rf) _ _ _ (hP) hS hl0
