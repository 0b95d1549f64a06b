set_option maxHeartbeats 4000000 in
set_option maxRecDepth 100000 in
theorem c_oneBehind {l : Launch} {g : gE} {ad : Nat → Nat} (hI : g_inj ad 55) (M : gMem) (J : gMeL) (hw : wfX M) (a : Nat) (ha : a < 12) : CI l g ad dsX 55 yX1_oneBehind cX1_oneBehind 2 (some .int) 2 [.ref (ad 23), .int (nI a)] M J (nI (bhd (M 23 5) a)) M J := by
  refine CI.of (plainFor_of_name (by decide)) (Nat.le_of_ble_eq_true rfl) (fun p9 e9 s9 m9 args9 below9 meth9 c9 CF hK hr9 hlk9 hP hS ls hl => ?_)
  have hx := CF.1
  have hb := CF.2.1
  have hA : ∀ q, g_A ad 55 q → g_A ad 55 q := fun _ h => h
  have hl : lv_has ls 2 [(0, .ref (ad 23)), (1, .int (nI a))] := hl
  have h5 := hw.way
  refine lv_aload_n hx hb dX1_oneBehind_0 rfl (lv_at hl 0 rfl) ?_
  refine x_geti CF hK hP 23 (by decide) dX_23 rfl uX1 5 (by decide) rfl wd1_77 rfl dX1_oneBehind_1 ?_
  refine x_yne (u := (M 23 5 : Nat)) (tgt := 13) hx hb (nI_toInt (by omega)) dX1_oneBehind_4 (by decide) (fun h_1 => ?_) (fun h_1 => ?_)
  · refine lv_iload_n hx hb dX1_oneBehind_13 rfl (lv_at hl 1 rfl) ?_
    refine lv_iconst (v := nI 1) hx hb dX1_oneBehind_14 (by decide) ?_
    refine lv_isub hx hb dX1_oneBehind_15 ?_
    refine x_callNP CF hK hP hS hl (As := [.int (nI a - nI 1)]) (rest := []) (c_angleOf_s a 1 (by omega) (by omega)) kw_X5_angleOf hK.2.1 rfl ⟨Nat.le_of_ble_eq_true rfl, Nat.le_of_ble_eq_true rfl⟩ ⟨Nat.le_refl _, Nat.le_refl _⟩ (Nat.le_of_ble_eq_true rfl) dX1_oneBehind_16 (fun H locs hP hS => ?_)
    exact x_reti hx hb hr9 hlk9 hS hP (by rw [bhd, if_neg (by omega)]) dX1_oneBehind_19
  · refine lv_iload_n hx hb dX1_oneBehind_7 rfl (lv_at hl 1 rfl) ?_
    refine lv_iconst (v := nI 1) hx hb dX1_oneBehind_8 (by decide) ?_
    refine x_iadd hx hb dX1_oneBehind_9 ?_
    refine lv_goto (tgt := 16) hx hb dX1_oneBehind_10 (by decide) ?_
    refine x_callNP CF hK hP hS hl (As := [.int (nI (a + 1))]) (rest := []) (c_angleOf_n (a + 1) (by omega)) kw_X5_angleOf hK.2.1 rfl ⟨Nat.le_of_ble_eq_true rfl, Nat.le_of_ble_eq_true rfl⟩ ⟨Nat.le_refl _, Nat.le_refl _⟩ (Nat.le_of_ble_eq_true rfl) dX1_oneBehind_16 (fun H locs hP hS => ?_)
    exact x_reti hx hb hr9 hlk9 hS hP (by rw [bhd, if_pos (by omega)]) dX1_oneBehind_19
set_option maxHeartbeats 4000000 in
set_option maxRecDepth 100000 in
theorem c_someAhead {l : Launch} {g : gE} {ad : Nat → Nat} (hI : g_inj ad 55) (M : gMem) (J : gMeL) (hw : wfX M) (a n : Nat) (ha : a < 12) (hn : n ≤ 12) : CI l g ad dsX 55 yX1_someAhead cX1_someAhead 3 (some .int) 2 [.ref (ad 23), .int (nI a), .int (nI n)] M J (nI (ahd (M 23 5) a n)) M J := by
  refine CI.of (plainFor_of_name (by decide)) (Nat.le_of_ble_eq_true rfl) (fun p9 e9 s9 m9 args9 below9 meth9 c9 CF hK hr9 hlk9 hP hS ls hl => ?_)
  have hx := CF.1
  have hb := CF.2.1
  have hA : ∀ q, g_A ad 55 q → g_A ad 55 q := fun _ h => h
  have hl : lv_has ls 3 [(0, .ref (ad 23)), (1, .int (nI a)), (2, .int (nI n))] := hl
  have h5 := hw.way
  refine lv_aload_n hx hb dX1_someAhead_0 rfl (lv_at hl 0 rfl) ?_
  refine x_geti CF hK hP 23 (by decide) dX_23 rfl uX1 5 (by decide) rfl wd1_77 rfl dX1_someAhead_1 ?_
  refine x_yne (u := (M 23 5 : Nat)) (tgt := 13) hx hb (nI_toInt (by omega)) dX1_someAhead_4 (by decide) (fun h_1 => ?_) (fun h_1 => ?_)
  · refine lv_iload_n hx hb dX1_someAhead_13 rfl (lv_at hl 1 rfl) ?_
    refine lv_iload_n hx hb dX1_someAhead_14 rfl (lv_at hl 2 rfl) ?_
    refine x_iadd hx hb dX1_someAhead_15 ?_
    refine lv_bipush (v := nI 12) hx hb dX1_someAhead_16 (by decide) ?_
    refine x_callSP CF hK hP hS hl (As := [.int (nI (a + n)), .int (nI 12)]) (rest := []) (c_floorMod (nI (a + n)) 12 (by omega) (by omega)) kw_J9_floorMod_7cf53 wd2_84 rfl ⟨Nat.le_of_ble_eq_true rfl, Nat.le_of_ble_eq_true rfl⟩ ⟨Nat.le_refl _, Nat.le_refl _⟩ (Nat.le_of_ble_eq_true rfl) dX1_someAhead_18 (fun H locs hP hS => ?_)
    refine x_ri (show (nI (fmd (nI (a + n)).toInt 12)) = nI ((a + n) % 12) from congrArg nI (fmd_n (by omega))) ?_
    exact x_reti hx hb hr9 hlk9 hS hP (by rw [ahd, if_neg (by omega)]) dX1_someAhead_21
  · refine lv_iload_n hx hb dX1_someAhead_7 rfl (lv_at hl 1 rfl) ?_
    refine lv_iload_n hx hb dX1_someAhead_8 rfl (lv_at hl 2 rfl) ?_
    refine lv_isub hx hb dX1_someAhead_9 ?_
    refine lv_goto (tgt := 16) hx hb dX1_someAhead_10 (by decide) ?_
    refine lv_bipush (v := nI 12) hx hb dX1_someAhead_16 (by decide) ?_
    refine x_callSP CF hK hP hS hl (As := [.int (nI a - nI n), .int (nI 12)]) (rest := []) (c_floorMod (nI a - nI n) 12 (by omega) (by omega)) kw_J9_floorMod_7cf53 wd2_84 rfl ⟨Nat.le_of_ble_eq_true rfl, Nat.le_of_ble_eq_true rfl⟩ ⟨Nat.le_refl _, Nat.le_refl _⟩ (Nat.le_of_ble_eq_true rfl) dX1_someAhead_18 (fun H locs hP hS => ?_)
    refine x_ri (show (nI (fmd (nI a - nI n).toInt 12)) = nI ((a + 11 * n) % 12) from congrArg nI (fmd_s (by omega) (by omega))) ?_
    exact x_reti hx hb hr9 hlk9 hS hP (by rw [ahd, if_pos (by omega)]) dX1_someAhead_21
set_option maxHeartbeats 4000000 in
set_option maxRecDepth 100000 in
theorem c_hairOf_h {l : Launch} {g : gE} {ad : Nat → Nat} (hI : g_inj ad 55) (M : gMem) (J : gMeL) (hw : wfX M) (c : Nat) (hc : c < 6) (k : Nat) (hk : k < 5) (a : Nat) (ha : a < 12) : CI l g ad dsX 55 yX1_hairOf cX1_hairOf 3 (some .int) 3 [.ref (ad (25 + c)), .ref (ad (32 + k)), .int (nI a)] M J (nI (hr (M (25 + c)) (M (32 + k) 2) a)) M J := by
  refine CI.of (plainFor_of_name (by decide)) (Nat.le_of_ble_eq_true rfl) (fun p9 e9 s9 m9 args9 below9 meth9 c9 CF hK hr9 hlk9 hP hS ls hl => ?_)
  have hx := CF.1
  have hb := CF.2.1
  have hA : ∀ q, g_A ad 55 q → g_A ad 55 q := fun _ h => h
  have hl : lv_has ls 3 [(0, .ref (ad (25 + c))), (1, .ref (ad (32 + k))), (2, .int (nI a))] := hl
  have hf := hw.fig hk
  have hB : ∀ a, a < 12 → (M (25 + c)) a ≤ 9 := fun a ha => hw.hair hc ha
  refine lv_aload_n hx hb dX1_hairOf_0 rfl (lv_at hl 0 rfl) ?_
  refine lv_iload_n hx hb dX1_hairOf_1 rfl (lv_at hl 2 rfl) ?_
  refine lv_aload_n hx hb dX1_hairOf_2 rfl (lv_at hl 1 rfl) ?_
  refine x_geti CF hK hP (32 + k) (by omega) (dX_fig k (by omega)) rfl uX0 2 (by decide) rfl wd1_41 rfl dX1_hairOf_3 ?_
  refine x_iadd hx hb dX1_hairOf_6 ?_
  refine lv_bipush (v := nI 12) hx hb dX1_hairOf_7 (by decide) ?_
  refine x_callSP CF hK hP hS hl (As := [.int (nI (a + (M (32 + k) 2))), .int (nI 12)]) (rest := [.ref (ad (25 + c))]) (c_floorMod (nI (a + (M (32 + k) 2))) 12 (by omega) (by omega)) kw_J9_floorMod_7cf53 wd2_84 rfl ⟨Nat.le_of_ble_eq_true rfl, Nat.le_of_ble_eq_true rfl⟩ ⟨Nat.le_refl _, Nat.le_refl _⟩ (Nat.le_of_ble_eq_true rfl) dX1_hairOf_9 (fun H locs hP hS => ?_)
  refine x_ri (show (nI (fmd (nI (a + (M (32 + k) 2))).toInt 12)) = nI ((a + (M (32 + k) 2)) % 12) from congrArg nI (fmd_n (by omega))) ?_
  refine x_iald CF hK hP (25 + c) (by omega) (dX_hair c (by omega)) ((a + (M (32 + k) 2)) % 12) (by omega) (by decide) dX1_hairOf_12 ?_
  exact x_reti hx hb hr9 hlk9 hS hP (by first | rfl | (show nI (M (25 + c) ((a + (M (32 + k) 2)) % 12)) = nI (hr (M (25 + c)) (M (32 + k) 2) a); first | rfl | omega)) dX1_hairOf_13
set_option maxHeartbeats 4000000 in
set_option maxRecDepth 100000 in
theorem c_slow_h {l : Launch} {g : gE} {ad : Nat → Nat} (hI : g_inj ad 55) (M : gMem) (J : gMeL) (hw : wfX M) (c : Nat) (hc : c < 6) (k : Nat) (hk : k < 5) (a : Nat) (ha : a < 12) : CI l g ad dsX 55 yX1_slowHeight cX1_slowHeight 6 (some .int) 4 [.ref (ad 23), .ref (ad (25 + c)), .ref (ad (32 + k)), .int (nI a)] M J (nI (slw (M (25 + c)) (M (32 + k) 2) (M 23 5) a 12)) M J := by
  refine CI.of (plainFor_of_name (by decide)) (Nat.le_of_ble_eq_true rfl) (fun p9 e9 s9 m9 args9 below9 meth9 c9 CF hK hr9 hlk9 hP hS ls hl => ?_)
  have hx := CF.1
  have hb := CF.2.1
  have hA : ∀ q, g_A ad 55 q → g_A ad 55 q := fun _ h => h
  have hl : lv_has ls 6 [(0, .ref (ad 23)), (1, .ref (ad (25 + c))), (2, .ref (ad (32 + k))), (3, .int (nI a))] := hl
  have hf := hw.fig hk
  have hB : ∀ a, a < 12 → (M (25 + c)) a ≤ 9 := fun a ha => hw.hair hc ha
  refine lv_iconst (v := nI 0) hx hb dX1_slowHeight_0 (by decide) ?_
  refine lv_istore (lv' := [(4, .int (nI 0)), (0, .ref (ad 23)), (1, .ref (ad (25 + c))), (2, .ref (ad (32 + k))), (3, .int (nI a))]) hx hb dX1_slowHeight_1 hl (by decide) rfl (fun ls hl => ?_)
  refine lv_iconst (v := nI 0) hx hb dX1_slowHeight_3 (by decide) ?_
  refine lv_istore (lv' := [(5, .int (nI 0)), (4, .int (nI 0)), (0, .ref (ad 23)), (1, .ref (ad (25 + c))), (2, .ref (ad (32 + k))), (3, .int (nI a))]) hx hb dX1_slowHeight_4 hl (by decide) rfl (fun ls hl => ?_)
  have L6 : ∀ (d6 : Nat) (n : Nat), (n + d6 = 12) → (∀ (H : Heap) (locs : List Loc) (ls : Array Slot), g_P g ad dsX 55 M J H → va_S (g_A ad 55) s9.heap H locs → lv_has ls 6 [(5, .int (nI n)), (4, .int (nI (slw (M (25 + c)) (M (32 + k) 2) (M 23 5) a n))), (0, .ref (ad 23)), (1, .ref (ad (25 + c))), (2, .ref (ad (32 + k))), (3, .int (nI a))] → W p9 l e9 (g_rm 4) s9 m9 args9 below9 meth9 c9 H locs 0 0 (MQ below9 (va_Qi (fun r' (_ : Unit) => r' = (nI (slw (M (25 + c)) (M (32 + k) 2) (M 23 5) a 12))) (fun _ t => g_P g ad dsX 55 M J t.heap) (g_A ad 55)) args9 s9 0 0 (g_A ad 55)) (F0 m9 6 ls [])) := by
    intro d6
    induction d6 with
    | zero =>
      intro n h_n H locs ls hP hS hl
      refine lv_iload hx hb dX1_slowHeight_6 (lv_at hl 0 rfl) ?_
      refine lv_bipush (v := nI 12) hx hb dX1_slowHeight_8 (by decide) ?_
      refine x_zge (u := (n : Nat)) (v := (12 : Int)) (tgt := 41) hx hb (nI_toInt (by omega)) (rfl) dX1_slowHeight_10 (by decide) (fun h_1 => ?_) (fun h_1 => (by omega : False).elim)
      refine lv_iload hx hb dX1_slowHeight_41 (lv_at hl 1 rfl) ?_
      exact x_reti hx hb hr9 hlk9 hS hP (by rw [show n = 12 by omega]) dX1_slowHeight_43
    | succ d6 ih6 =>
      intro n h_n H locs ls hP hS hl
      have b1 := ahd_lt (M 23 5) a n
      refine lv_iload hx hb dX1_slowHeight_6 (lv_at hl 0 rfl) ?_
      refine lv_bipush (v := nI 12) hx hb dX1_slowHeight_8 (by decide) ?_
      refine x_zge (u := (n : Nat)) (v := (12 : Int)) (tgt := 41) hx hb (nI_toInt (by omega)) (rfl) dX1_slowHeight_10 (by decide) (fun h_2 => (by omega : False).elim) (fun h_2 => ?_)
      refine lv_iload hx hb dX1_slowHeight_13 (lv_at hl 1 rfl) ?_
      refine lv_aload_n hx hb dX1_slowHeight_15 rfl (lv_at hl 3 rfl) ?_
      refine lv_aload_n hx hb dX1_slowHeight_16 rfl (lv_at hl 4 rfl) ?_
      refine lv_aload_n hx hb dX1_slowHeight_17 rfl (lv_at hl 2 rfl) ?_
      refine lv_iload_n hx hb dX1_slowHeight_18 rfl (lv_at hl 5 rfl) ?_
      refine lv_iload hx hb dX1_slowHeight_19 (lv_at hl 0 rfl) ?_
      refine x_callVI CF hK hP hS hA hl (As := [.int (nI a), .int (nI n)]) (rest := [.ref (ad (32 + k)), .ref (ad (25 + c)), .int (nI (slw (M (25 + c)) (M (32 + k) 2) (M 23 5) a n))]) (c_someAhead hI M J hw a n (by omega) (by omega)) kw_X1_someAhead wd2_91 (by decide) dX_23 rfl rfl ⟨Nat.le_of_ble_eq_true rfl, Nat.le_of_ble_eq_true rfl⟩ ⟨Nat.le_refl _, Nat.le_refl _⟩ (Nat.le_of_ble_eq_true rfl) dX1_slowHeight_21 (fun H locs hP hS => ?_)
      refine x_callSI CF hK hP hS hA hl (As := [.ref (ad (25 + c)), .ref (ad (32 + k)), .int (nI (ahd (M 23 5) a n))]) (rest := [.int (nI (slw (M (25 + c)) (M (32 + k) 2) (M 23 5) a n))]) (c_hairOf_h hI M J hw c (by omega) k (by omega) (ahd (M 23 5) a n) (by omega)) kw_X1_hairOf wd2_81 rfl ⟨Nat.le_of_ble_eq_true rfl, Nat.le_of_ble_eq_true rfl⟩ ⟨Nat.le_refl _, Nat.le_refl _⟩ (Nat.le_of_ble_eq_true rfl) dX1_slowHeight_24 (fun H locs hP hS => ?_)
      refine lv_iload hx hb dX1_slowHeight_27 (lv_at hl 0 rfl) ?_
      refine lv_isub hx hb dX1_slowHeight_29 ?_
      refine x_callSP CF hK hP hS hl (As := [.int (nI (slw (M (25 + c)) (M (32 + k) 2) (M 23 5) a n)), .int (nI (hr (M (25 + c)) (M (32 + k) 2) (ahd (M 23 5) a n)) - nI n)]) (rest := []) (c_max (nI (slw (M (25 + c)) (M (32 + k) 2) (M 23 5) a n)) (nI (hr (M (25 + c)) (M (32 + k) 2) (ahd (M 23 5) a n)) - nI n)) kw_J9_max_7cf53 wd2_95 rfl ⟨Nat.le_of_ble_eq_true rfl, Nat.le_of_ble_eq_true rfl⟩ ⟨Nat.le_refl _, Nat.le_refl _⟩ (Nat.le_of_ble_eq_true rfl) dX1_slowHeight_30 (fun H locs hP hS => ?_)
      refine x_ri (show (if (nI (slw (M (25 + c)) (M (32 + k) 2) (M 23 5) a n)).toInt < (nI (hr (M (25 + c)) (M (32 + k) 2) (ahd (M 23 5) a n)) - nI n).toInt then nI (hr (M (25 + c)) (M (32 + k) 2) (ahd (M 23 5) a n)) - nI n else nI (slw (M (25 + c)) (M (32 + k) 2) (M 23 5) a n)) = nI (max (slw (M (25 + c)) (M (32 + k) 2) (M 23 5) a n) (hr (M (25 + c)) (M (32 + k) 2) (ahd (M 23 5) a n) - n)) from n_max (by have := slw_le hB (M (32 + k) 2) (M 23 5) a n; omega) (by have := hr_le hB (M (32 + k) 2) (ahd (M 23 5) a n); omega) (by omega)) ?_
      refine lv_istore (lv' := [(4, .int (nI (max (slw (M (25 + c)) (M (32 + k) 2) (M 23 5) a n) (hr (M (25 + c)) (M (32 + k) 2) (ahd (M 23 5) a n) - n)))), (5, .int (nI n)), (0, .ref (ad 23)), (1, .ref (ad (25 + c))), (2, .ref (ad (32 + k))), (3, .int (nI a))]) hx hb dX1_slowHeight_33 hl (by decide) rfl (fun ls hl => ?_)
      refine lv_iinc (v := nI (n + 1)) (lv' := [(5, .int (nI (n + 1))), (4, .int (nI (max (slw (M (25 + c)) (M (32 + k) 2) (M 23 5) a n) (hr (M (25 + c)) (M (32 + k) 2) (ahd (M 23 5) a n) - n)))), (0, .ref (ad 23)), (1, .ref (ad (25 + c))), (2, .ref (ad (32 + k))), (3, .int (nI a))]) hx hb dX1_slowHeight_35 hl (k := 1) rfl (n_inc n 1) (by decide) rfl (fun ls hl => ?_)
      refine lv_goto (tgt := 6) hx hb dX1_slowHeight_38 (by decide) ?_
      have hl0 : lv_has ls 6 [(5, .int (nI (n + 1))), (4, .int (nI (slw (M (25 + c)) (M (32 + k) 2) (M 23 5) a (n + 1)))), (0, .ref (ad 23)), (1, .ref (ad (25 + c))), (2, .ref (ad (32 + k))), (3, .int (nI a))] := by rw [(show nI (slw (M (25 + c)) (M (32 + k) 2) (M 23 5) a (n + 1)) = nI (max (slw (M (25 + c)) (M (32 + k) 2) (M 23 5) a n) (hr (M (25 + c)) (M (32 + k) 2) (ahd (M 23 5) a n) - n)) from rfl)]; exact lv_sub hl [0, 1, 2, 3, 4, 5] rfl
      exact ih6 (n + 1) (by omega) _ _ _ (hP) hS hl0
  have hl0 : lv_has ls 6 [(5, .int (nI 0)), (4, .int (nI (slw (M (25 + c)) (M (32 + k) 2) (M 23 5) a 0))), (0, .ref (ad 23)), (1, .ref (ad (25 + c))), (2, .ref (ad (32 + k))), (3, .int (nI a))] := by rw [(show nI (slw (M (25 + c)) (M (32 + k) 2) (M 23 5) a 0) = nI 0 from rfl)]; exact lv_sub hl [0, 1, 2, 3, 4, 5] rfl
  exact L6 12 0 (by omega) _ _ _ (hP) hS hl0
set_option maxHeartbeats 4000000 in
set_option maxRecDepth 100000 in
theorem c_heightOn_h {l : Launch} {g : gE} {ad : Nat → Nat} (hI : g_inj ad 55) (M : gMem) (J : gMeL) (hw : wfX M) (c : Nat) (hc : c < 6) (k : Nat) (hk : k < 5) (a : Nat) (ha : a < 12) : CI l g ad dsX 55 yX1_heightOn cX1_heightOn 5 (some .int) 5 [.ref (ad 23), .ref (ad (25 + c)), .ref (ad (32 + k)), .int (nI a)] M J (nI (hgt (M (25 + c)) (M (32 + k) 2) (M 23 5) (M (32 + k) 0) a)) M J := by
  refine CI.of (plainFor_of_name (by decide)) (Nat.le_of_ble_eq_true rfl) (fun p9 e9 s9 m9 args9 below9 meth9 c9 CF hK hr9 hlk9 hP hS ls hl => ?_)
  have hx := CF.1
  have hb := CF.2.1
  have hA : ∀ q, g_A ad 55 q → g_A ad 55 q := fun _ h => h
  have hl : lv_has ls 5 [(0, .ref (ad 23)), (1, .ref (ad (25 + c))), (2, .ref (ad (32 + k))), (3, .int (nI a))] := hl
  have hf := hw.fig hk
  have hB : ∀ a, a < 12 → (M (25 + c)) a ≤ 9 := fun a ha => hw.hair hc ha
  have b1 := hr_le hB (M (32 + k) 2) a
  have b2 := hr_le hB (M (32 + k) 2) (ahd (M 23 5) a 1)
  have b3 := ahd_lt (M 23 5) a 1
  refine lv_aload_n hx hb dX1_heightOn_0 rfl (lv_at hl 1 rfl) ?_
  refine lv_aload_n hx hb dX1_heightOn_1 rfl (lv_at hl 2 rfl) ?_
  refine lv_iload_n hx hb dX1_heightOn_2 rfl (lv_at hl 3 rfl) ?_
  refine x_callSI CF hK hP hS hA hl (As := [.ref (ad (25 + c)), .ref (ad (32 + k)), .int (nI a)]) (rest := []) (c_hairOf_h hI M J hw c (by omega) k (by omega) a (by omega)) kw_X1_hairOf wd2_81 rfl ⟨Nat.le_of_ble_eq_true rfl, Nat.le_of_ble_eq_true rfl⟩ ⟨Nat.le_refl _, Nat.le_refl _⟩ (Nat.le_of_ble_eq_true rfl) dX1_heightOn_3 (fun H locs hP hS => ?_)
  refine lv_istore (lv' := [(4, .int (nI (hr (M (25 + c)) (M (32 + k) 2) a))), (0, .ref (ad 23)), (1, .ref (ad (25 + c))), (2, .ref (ad (32 + k))), (3, .int (nI a))]) hx hb dX1_heightOn_6 hl (by decide) rfl (fun ls hl => ?_)
  refine lv_aload_n hx hb dX1_heightOn_8 rfl (lv_at hl 3 rfl) ?_
  refine x_geti CF hK hP (32 + k) (by omega) (dX_fig k (by omega)) rfl uX0 0 (by decide) rfl wd1_36 rfl dX1_heightOn_9 ?_
  rcases (show M (32 + k) 0 = 1 ∨ M (32 + k) 0 = 2 ∨ M (32 + k) 0 = 3 ∨ (M (32 + k) 0 < 1 ∨ 3 < M (32 + k) 0) by omega) with sw_1 | sw_1 | sw_1 | sw_1
  · refine lv_tableIn (tgt := 40) hx hb dX1_heightOn_12 (by rw [sw_1]; decide) (by rw [sw_1]; decide) (off := 28) (by rw [sw_1]; rfl) (by decide) ?_
    refine lv_iconst (v := nI 2) hx hb dX1_heightOn_40 (by decide) ?_
    refine lv_iload hx hb dX1_heightOn_41 (lv_at hl 0 rfl) ?_
    refine x_imul hx hb dX1_heightOn_43 ?_
    exact x_reti hx hb hr9 hlk9 hS hP (by rw [hgt, if_pos sw_1]) dX1_heightOn_44
  · refine lv_tableIn (tgt := 45) hx hb dX1_heightOn_12 (by rw [sw_1]; decide) (by rw [sw_1]; decide) (off := 33) (by rw [sw_1]; rfl) (by decide) ?_
    refine lv_aload_n hx hb dX1_heightOn_45 rfl (lv_at hl 1 rfl) ?_
    refine lv_aload_n hx hb dX1_heightOn_46 rfl (lv_at hl 2 rfl) ?_
    refine lv_aload_n hx hb dX1_heightOn_47 rfl (lv_at hl 3 rfl) ?_
    refine lv_iload_n hx hb dX1_heightOn_48 rfl (lv_at hl 4 rfl) ?_
    refine x_callVI CF hK hP hS hA hl (As := [.ref (ad (25 + c)), .ref (ad (32 + k)), .int (nI a)]) (rest := []) (c_slow_h hI M J hw c (by omega) k (by omega) a (by omega)) kw_X1_slowHeight wd2_87 (by decide) dX_23 rfl rfl ⟨Nat.le_of_ble_eq_true rfl, Nat.le_of_ble_eq_true rfl⟩ ⟨Nat.le_refl _, Nat.le_refl _⟩ (Nat.le_of_ble_eq_true rfl) dX1_heightOn_49 (fun H locs hP hS => ?_)
    exact x_reti hx hb hr9 hlk9 hS hP (by rw [hgt, if_neg (by omega), if_pos sw_1]) dX1_heightOn_52
  · refine lv_tableIn (tgt := 53) hx hb dX1_heightOn_12 (by rw [sw_1]; decide) (by rw [sw_1]; decide) (off := 41) (by rw [sw_1]; rfl) (by decide) ?_
    refine lv_iload hx hb dX1_heightOn_53 (lv_at hl 0 rfl) ?_
    refine lv_aload_n hx hb dX1_heightOn_55 rfl (lv_at hl 2 rfl) ?_
    refine lv_aload_n hx hb dX1_heightOn_56 rfl (lv_at hl 3 rfl) ?_
    refine lv_aload_n hx hb dX1_heightOn_57 rfl (lv_at hl 1 rfl) ?_
    refine lv_iload_n hx hb dX1_heightOn_58 rfl (lv_at hl 4 rfl) ?_
    refine lv_iconst (v := nI 1) hx hb dX1_heightOn_59 (by decide) ?_
    refine x_callVI CF hK hP hS hA hl (As := [.int (nI a), .int (nI 1)]) (rest := [.ref (ad (32 + k)), .ref (ad (25 + c)), .int (nI (hr (M (25 + c)) (M (32 + k) 2) a))]) (c_someAhead hI M J hw a 1 (by omega) (by omega)) kw_X1_someAhead wd2_91 (by decide) dX_23 rfl rfl ⟨Nat.le_of_ble_eq_true rfl, Nat.le_of_ble_eq_true rfl⟩ ⟨Nat.le_refl _, Nat.le_refl _⟩ (Nat.le_of_ble_eq_true rfl) dX1_heightOn_60 (fun H locs hP hS => ?_)
    refine x_callSI CF hK hP hS hA hl (As := [.ref (ad (25 + c)), .ref (ad (32 + k)), .int (nI (ahd (M 23 5) a 1))]) (rest := [.int (nI (hr (M (25 + c)) (M (32 + k) 2) a))]) (c_hairOf_h hI M J hw c (by omega) k (by omega) (ahd (M 23 5) a 1) (by omega)) kw_X1_hairOf wd2_81 rfl ⟨Nat.le_of_ble_eq_true rfl, Nat.le_of_ble_eq_true rfl⟩ ⟨Nat.le_refl _, Nat.le_refl _⟩ (Nat.le_of_ble_eq_true rfl) dX1_heightOn_63 (fun H locs hP hS => ?_)
    refine x_zle (u := (hr (M (25 + c)) (M (32 + k) 2) a : Nat)) (v := (hr (M (25 + c)) (M (32 + k) 2) (ahd (M 23 5) a 1) : Nat)) (tgt := 78) hx hb (nI_toInt (by omega)) (nI_toInt (by omega)) dX1_heightOn_66 (by decide) (fun h_2 => ?_) (fun h_2 => ?_)
    · refine lv_iconst (v := nI 2) hx hb dX1_heightOn_78 (by decide) ?_
      refine lv_iload hx hb dX1_heightOn_79 (lv_at hl 0 rfl) ?_
      refine x_imul hx hb dX1_heightOn_81 ?_
      exact x_reti hx hb hr9 hlk9 hS hP (by rw [hgt, if_neg (by omega), if_neg (by omega), if_pos sw_1, if_neg (by omega)]) dX1_heightOn_82
    · refine lv_iconst (v := nI 2) hx hb dX1_heightOn_69 (by decide) ?_
      refine lv_iload hx hb dX1_heightOn_70 (lv_at hl 0 rfl) ?_
      refine x_imul hx hb dX1_heightOn_72 ?_
      refine lv_iconst (v := nI 1) hx hb dX1_heightOn_73 (by decide) ?_
      refine x_iadd hx hb dX1_heightOn_74 ?_
      refine lv_goto (tgt := 82) hx hb dX1_heightOn_75 (by decide) ?_
      exact x_reti hx hb hr9 hlk9 hS hP (by rw [hgt, if_neg (by omega), if_neg (by omega), if_pos sw_1, if_pos (by omega)]) dX1_heightOn_82
  · refine lv_tableOut (tgt := 83) hx hb dX1_heightOn_12 (by rw [tz (by omega)]; omega) (by decide) ?_
    refine lv_iload hx hb dX1_heightOn_83 (lv_at hl 0 rfl) ?_
    exact x_reti hx hb hr9 hlk9 hS hP (by rw [hgt, if_neg (by omega), if_neg (by omega), if_neg (by omega)]) dX1_heightOn_85
set_option maxHeartbeats 4000000 in
set_option maxRecDepth 100000 in
theorem c_upsOn_h {l : Launch} {g : gE} {ad : Nat → Nat} (hI : g_inj ad 55) (M : gMem) (J : gMeL) (hw : wfX M) (c : Nat) (hc : c < 6) (k : Nat) (hk : k < 5)  : CI l g ad dsX 55 yX1_upsOn cX1_upsOn 5 (some .int) 6 [.ref (ad 23), .ref (ad (25 + c)), .ref (ad (32 + k))] M J (nI (ups (M (25 + c)) (M (32 + k) 2) (M 23 5) (M (32 + k) 0) (M 23 4))) M J := by
  refine CI.of (plainFor_of_name (by decide)) (Nat.le_of_ble_eq_true rfl) (fun p9 e9 s9 m9 args9 below9 meth9 c9 CF hK hr9 hlk9 hP hS ls hl => ?_)
  have hx := CF.1
  have hb := CF.2.1
  have hA : ∀ q, g_A ad 55 q → g_A ad 55 q := fun _ h => h
  have hl : lv_has ls 5 [(0, .ref (ad 23)), (1, .ref (ad (25 + c))), (2, .ref (ad (32 + k)))] := hl
  have hf := hw.fig hk
  have hB : ∀ a, a < 12 → (M (25 + c)) a ≤ 9 := fun a ha => hw.hair hc ha
  have hln := hw.line
  refine lv_iconst (v := nI 0) hx hb dX1_upsOn_0 (by decide) ?_
  refine lv_istore_n (lv' := [(3, .int (nI 0)), (0, .ref (ad 23)), (1, .ref (ad (25 + c))), (2, .ref (ad (32 + k)))]) hx hb dX1_upsOn_1 rfl hl (by decide) rfl (fun ls hl => ?_)
  refine lv_iconst (v := nI 0) hx hb dX1_upsOn_2 (by decide) ?_
  refine lv_istore (lv' := [(4, .int (nI 0)), (3, .int (nI 0)), (0, .ref (ad 23)), (1, .ref (ad (25 + c))), (2, .ref (ad (32 + k)))]) hx hb dX1_upsOn_3 hl (by decide) rfl (fun ls hl => ?_)
  have L5 : ∀ (d5 : Nat) (a : Nat), (a + d5 = 12) → (∀ (H : Heap) (locs : List Loc) (ls : Array Slot), g_P g ad dsX 55 M J H → va_S (g_A ad 55) s9.heap H locs → lv_has ls 5 [(4, .int (nI a)), (3, .int (nI (setN (fun q => decide (M 23 4 ≤ hgt (M (25 + c)) (M (32 + k) 2) (M 23 5) (M (32 + k) 0) q)) a))), (0, .ref (ad 23)), (1, .ref (ad (25 + c))), (2, .ref (ad (32 + k)))] → W p9 l e9 (g_rm 6) s9 m9 args9 below9 meth9 c9 H locs 0 0 (MQ below9 (va_Qi (fun r' (_ : Unit) => r' = (nI (ups (M (25 + c)) (M (32 + k) 2) (M 23 5) (M (32 + k) 0) (M 23 4)))) (fun _ t => g_P g ad dsX 55 M J t.heap) (g_A ad 55)) args9 s9 0 0 (g_A ad 55)) (F0 m9 5 ls [])) := by
    intro d5
    induction d5 with
    | zero =>
      intro a h_a H locs ls hP hS hl
      refine lv_iload hx hb dX1_upsOn_5 (lv_at hl 0 rfl) ?_
      refine lv_bipush (v := nI 12) hx hb dX1_upsOn_7 (by decide) ?_
      refine x_zge (u := (a : Nat)) (v := (12 : Int)) (tgt := 40) hx hb (nI_toInt (by omega)) (rfl) dX1_upsOn_9 (by decide) (fun h_1 => ?_) (fun h_1 => (by omega : False).elim)
      refine lv_iload_n hx hb dX1_upsOn_40 rfl (lv_at hl 1 rfl) ?_
      exact x_reti hx hb hr9 hlk9 hS hP (by rw [show a = 12 by omega]; rfl) dX1_upsOn_41
    | succ d5 ih5 =>
      intro a h_a H locs ls hP hS hl
      have b1 := hgt_le hB (M (32 + k) 2) (M 23 5) (M (32 + k) 0) a
      refine lv_iload hx hb dX1_upsOn_5 (lv_at hl 0 rfl) ?_
      refine lv_bipush (v := nI 12) hx hb dX1_upsOn_7 (by decide) ?_
      refine x_zge (u := (a : Nat)) (v := (12 : Int)) (tgt := 40) hx hb (nI_toInt (by omega)) (rfl) dX1_upsOn_9 (by decide) (fun h_2 => (by omega : False).elim) (fun h_2 => ?_)
      refine lv_aload_n hx hb dX1_upsOn_12 rfl (lv_at hl 2 rfl) ?_
      refine lv_aload_n hx hb dX1_upsOn_13 rfl (lv_at hl 3 rfl) ?_
      refine lv_aload_n hx hb dX1_upsOn_14 rfl (lv_at hl 4 rfl) ?_
      refine lv_iload hx hb dX1_upsOn_15 (lv_at hl 0 rfl) ?_
      refine x_callVI CF hK hP hS hA hl (As := [.ref (ad (25 + c)), .ref (ad (32 + k)), .int (nI a)]) (rest := []) (c_heightOn_h hI M J hw c (by omega) k (by omega) a (by omega)) kw_X1_heightOn wd2_77 (by decide) dX_23 rfl rfl ⟨Nat.le_of_ble_eq_true rfl, Nat.le_of_ble_eq_true rfl⟩ ⟨Nat.le_refl _, Nat.le_refl _⟩ (Nat.le_of_ble_eq_true rfl) dX1_upsOn_17 (fun H locs hP hS => ?_)
      refine lv_aload_n hx hb dX1_upsOn_20 rfl (lv_at hl 2 rfl) ?_
      refine x_geti CF hK hP 23 (by decide) dX_23 rfl uX1 4 (by decide) rfl wd1_75 rfl dX1_upsOn_21 ?_
      refine x_zlt (u := (hgt (M (25 + c)) (M (32 + k) 2) (M 23 5) (M (32 + k) 0) a : Nat)) (v := (M 23 4 : Nat)) (tgt := 34) hx hb (nI_toInt (by omega)) (nI_toInt (by omega)) dX1_upsOn_24 (by decide) (fun h_3 => ?_) (fun h_3 => ?_)
      · refine lv_iinc (v := nI (a + 1)) (lv' := [(4, .int (nI (a + 1))), (3, .int (nI (setN (fun q => decide (M 23 4 ≤ hgt (M (25 + c)) (M (32 + k) 2) (M 23 5) (M (32 + k) 0) q)) a))), (0, .ref (ad 23)), (1, .ref (ad (25 + c))), (2, .ref (ad (32 + k)))]) hx hb dX1_upsOn_34 hl (k := 0) rfl (n_inc a 1) (by decide) rfl (fun ls hl => ?_)
        refine lv_goto (tgt := 5) hx hb dX1_upsOn_37 (by decide) ?_
        have hl0 : lv_has ls 5 [(4, .int (nI (a + 1))), (3, .int (nI (setN (fun q => decide (M 23 4 ≤ hgt (M (25 + c)) (M (32 + k) 2) (M 23 5) (M (32 + k) 0) q)) (a + 1)))), (0, .ref (ad 23)), (1, .ref (ad (25 + c))), (2, .ref (ad (32 + k)))] := by rw [(show nI (setN (fun q => decide (M 23 4 ≤ hgt (M (25 + c)) (M (32 + k) 2) (M 23 5) (M (32 + k) 0) q)) (a + 1)) = nI (setN (fun q => decide (M 23 4 ≤ hgt (M (25 + c)) (M (32 + k) 2) (M 23 5) (M (32 + k) 0) q)) a) from by first | rfl | (congr 1; omega) | (refine congrArg nI ?_; first | rfl | (exact (setN_t (decide_eq_true (by omega)))) | (exact (setN_f (decide_eq_false (by omega)))) | (rw [Nat.or_zero]; exact (setN_f (decide_eq_false (by omega))))))]; exact lv_sub hl [0, 1, 2, 3, 4] rfl
        exact ih5 (a + 1) (by omega) _ _ _ (hP) hS hl0
      · refine lv_iload_n hx hb dX1_upsOn_27 rfl (lv_at hl 1 rfl) ?_
        refine lv_iconst (v := nI 1) hx hb dX1_upsOn_28 (by decide) ?_
        refine lv_iload hx hb dX1_upsOn_29 (lv_at hl 0 rfl) ?_
        refine x_ishl hx hb (by omega) dX1_upsOn_31 ?_
        refine x_ior hx hb dX1_upsOn_32 ?_
        refine lv_istore_n (lv' := [(3, .int (nI ((setN (fun q => decide (M 23 4 ≤ hgt (M (25 + c)) (M (32 + k) 2) (M 23 5) (M (32 + k) 0) q)) a) ||| (1 <<< a)))), (4, .int (nI a)), (0, .ref (ad 23)), (1, .ref (ad (25 + c))), (2, .ref (ad (32 + k)))]) hx hb dX1_upsOn_33 rfl hl (by decide) rfl (fun ls hl => ?_)
        refine lv_iinc (v := nI (a + 1)) (lv' := [(4, .int (nI (a + 1))), (3, .int (nI ((setN (fun q => decide (M 23 4 ≤ hgt (M (25 + c)) (M (32 + k) 2) (M 23 5) (M (32 + k) 0) q)) a) ||| (1 <<< a)))), (0, .ref (ad 23)), (1, .ref (ad (25 + c))), (2, .ref (ad (32 + k)))]) hx hb dX1_upsOn_34 hl (k := 1) rfl (n_inc a 1) (by decide) rfl (fun ls hl => ?_)
        refine lv_goto (tgt := 5) hx hb dX1_upsOn_37 (by decide) ?_
        have hl0 : lv_has ls 5 [(4, .int (nI (a + 1))), (3, .int (nI (setN (fun q => decide (M 23 4 ≤ hgt (M (25 + c)) (M (32 + k) 2) (M 23 5) (M (32 + k) 0) q)) (a + 1)))), (0, .ref (ad 23)), (1, .ref (ad (25 + c))), (2, .ref (ad (32 + k)))] := by rw [(show nI (setN (fun q => decide (M 23 4 ≤ hgt (M (25 + c)) (M (32 + k) 2) (M 23 5) (M (32 + k) 0) q)) (a + 1)) = nI ((setN (fun q => decide (M 23 4 ≤ hgt (M (25 + c)) (M (32 + k) 2) (M 23 5) (M (32 + k) 0) q)) a) ||| (1 <<< a)) from by first | rfl | (congr 1; omega) | (refine congrArg nI ?_; first | rfl | (exact (setN_t (decide_eq_true (by omega)))) | (exact (setN_f (decide_eq_false (by omega)))) | (rw [Nat.or_zero]; exact (setN_f (decide_eq_false (by omega))))))]; exact lv_sub hl [0, 1, 2, 3, 4] rfl
        exact ih5 (a + 1) (by omega) _ _ _ (hP) hS hl0
  have hl0 : lv_has ls 5 [(4, .int (nI 0)), (3, .int (nI (setN (fun q => decide (M 23 4 ≤ hgt (M (25 + c)) (M (32 + k) 2) (M 23 5) (M (32 + k) 0) q)) 0))), (0, .ref (ad 23)), (1, .ref (ad (25 + c))), (2, .ref (ad (32 + k)))] := by rw [(show nI (setN (fun q => decide (M 23 4 ≤ hgt (M (25 + c)) (M (32 + k) 2) (M 23 5) (M (32 + k) 0) q)) 0) = nI 0 from rfl)]; exact lv_sub hl [0, 1, 2, 3, 4] rfl
  exact L5 12 0 (by omega) _ _ _ (hP) hS hl0
set_option maxHeartbeats 4000000 in
set_option maxRecDepth 100000 in
theorem c_hairOf_w {l : Launch} {g : gE} {ad : Nat → Nat} (hI : g_inj ad 55) (M : gMem) (J : gMeL) (hw : wfX M) (hq : ∀ a, a < 12 → M 22 a ≤ 9) (k : Nat) (hk : k < 5) (a : Nat) (ha : a < 12) : CI l g ad dsX 55 yX1_hairOf cX1_hairOf 3 (some .int) 3 [.ref (ad 22), .ref (ad (32 + k)), .int (nI a)] M J (nI (hr (M 22) (M (32 + k) 2) a)) M J := by
  refine CI.of (plainFor_of_name (by decide)) (Nat.le_of_ble_eq_true rfl) (fun p9 e9 s9 m9 args9 below9 meth9 c9 CF hK hr9 hlk9 hP hS ls hl => ?_)
  have hx := CF.1
  have hb := CF.2.1
  have hA : ∀ q, g_A ad 55 q → g_A ad 55 q := fun _ h => h
  have hl : lv_has ls 3 [(0, .ref (ad 22)), (1, .ref (ad (32 + k))), (2, .int (nI a))] := hl
  have hf := hw.fig hk
  have hB : ∀ a, a < 12 → (M 22) a ≤ 9 := hq
  refine lv_aload_n hx hb dX1_hairOf_0 rfl (lv_at hl 0 rfl) ?_
  refine lv_iload_n hx hb dX1_hairOf_1 rfl (lv_at hl 2 rfl) ?_
  refine lv_aload_n hx hb dX1_hairOf_2 rfl (lv_at hl 1 rfl) ?_
  refine x_geti CF hK hP (32 + k) (by omega) (dX_fig k (by omega)) rfl uX0 2 (by decide) rfl wd1_41 rfl dX1_hairOf_3 ?_
  refine x_iadd hx hb dX1_hairOf_6 ?_
  refine lv_bipush (v := nI 12) hx hb dX1_hairOf_7 (by decide) ?_
  refine x_callSP CF hK hP hS hl (As := [.int (nI (a + (M (32 + k) 2))), .int (nI 12)]) (rest := [.ref (ad 22)]) (c_floorMod (nI (a + (M (32 + k) 2))) 12 (by omega) (by omega)) kw_J9_floorMod_7cf53 wd2_84 rfl ⟨Nat.le_of_ble_eq_true rfl, Nat.le_of_ble_eq_true rfl⟩ ⟨Nat.le_refl _, Nat.le_refl _⟩ (Nat.le_of_ble_eq_true rfl) dX1_hairOf_9 (fun H locs hP hS => ?_)
  refine x_ri (show (nI (fmd (nI (a + (M (32 + k) 2))).toInt 12)) = nI ((a + (M (32 + k) 2)) % 12) from congrArg nI (fmd_n (by omega))) ?_
  refine x_iald CF hK hP 22 (by decide) dX_22 ((a + (M (32 + k) 2)) % 12) (by omega) (by decide) dX1_hairOf_12 ?_
  exact x_reti hx hb hr9 hlk9 hS hP (by first | rfl | (show nI (M 22 ((a + (M (32 + k) 2)) % 12)) = nI (hr (M 22) (M (32 + k) 2) a); first | rfl | omega)) dX1_hairOf_13
set_option maxHeartbeats 4000000 in
set_option maxRecDepth 100000 in
theorem c_slow_w {l : Launch} {g : gE} {ad : Nat → Nat} (hI : g_inj ad 55) (M : gMem) (J : gMeL) (hw : wfX M) (hq : ∀ a, a < 12 → M 22 a ≤ 9) (k : Nat) (hk : k < 5) (a : Nat) (ha : a < 12) : CI l g ad dsX 55 yX1_slowHeight cX1_slowHeight 6 (some .int) 4 [.ref (ad 23), .ref (ad 22), .ref (ad (32 + k)), .int (nI a)] M J (nI (slw (M 22) (M (32 + k) 2) (M 23 5) a 12)) M J := by
  refine CI.of (plainFor_of_name (by decide)) (Nat.le_of_ble_eq_true rfl) (fun p9 e9 s9 m9 args9 below9 meth9 c9 CF hK hr9 hlk9 hP hS ls hl => ?_)
  have hx := CF.1
  have hb := CF.2.1
  have hA : ∀ q, g_A ad 55 q → g_A ad 55 q := fun _ h => h
  have hl : lv_has ls 6 [(0, .ref (ad 23)), (1, .ref (ad 22)), (2, .ref (ad (32 + k))), (3, .int (nI a))] := hl
  have hf := hw.fig hk
  have hB : ∀ a, a < 12 → (M 22) a ≤ 9 := hq
  refine lv_iconst (v := nI 0) hx hb dX1_slowHeight_0 (by decide) ?_
  refine lv_istore (lv' := [(4, .int (nI 0)), (0, .ref (ad 23)), (1, .ref (ad 22)), (2, .ref (ad (32 + k))), (3, .int (nI a))]) hx hb dX1_slowHeight_1 hl (by decide) rfl (fun ls hl => ?_)
  refine lv_iconst (v := nI 0) hx hb dX1_slowHeight_3 (by decide) ?_
  refine lv_istore (lv' := [(5, .int (nI 0)), (4, .int (nI 0)), (0, .ref (ad 23)), (1, .ref (ad 22)), (2, .ref (ad (32 + k))), (3, .int (nI a))]) hx hb dX1_slowHeight_4 hl (by decide) rfl (fun ls hl => ?_)
  have L6 : ∀ (d6 : Nat) (n : Nat), (n + d6 = 12) → (∀ (H : Heap) (locs : List Loc) (ls : Array Slot), g_P g ad dsX 55 M J H → va_S (g_A ad 55) s9.heap H locs → lv_has ls 6 [(5, .int (nI n)), (4, .int (nI (slw (M 22) (M (32 + k) 2) (M 23 5) a n))), (0, .ref (ad 23)), (1, .ref (ad 22)), (2, .ref (ad (32 + k))), (3, .int (nI a))] → W p9 l e9 (g_rm 4) s9 m9 args9 below9 meth9 c9 H locs 0 0 (MQ below9 (va_Qi (fun r' (_ : Unit) => r' = (nI (slw (M 22) (M (32 + k) 2) (M 23 5) a 12))) (fun _ t => g_P g ad dsX 55 M J t.heap) (g_A ad 55)) args9 s9 0 0 (g_A ad 55)) (F0 m9 6 ls [])) := by
    intro d6
    induction d6 with
    | zero =>
      intro n h_n H locs ls hP hS hl
      refine lv_iload hx hb dX1_slowHeight_6 (lv_at hl 0 rfl) ?_
      refine lv_bipush (v := nI 12) hx hb dX1_slowHeight_8 (by decide) ?_
      refine x_zge (u := (n : Nat)) (v := (12 : Int)) (tgt := 41) hx hb (nI_toInt (by omega)) (rfl) dX1_slowHeight_10 (by decide) (fun h_1 => ?_) (fun h_1 => (by omega : False).elim)
      refine lv_iload hx hb dX1_slowHeight_41 (lv_at hl 1 rfl) ?_
      exact x_reti hx hb hr9 hlk9 hS hP (by rw [show n = 12 by omega]) dX1_slowHeight_43
    | succ d6 ih6 =>
      intro n h_n H locs ls hP hS hl
      have b1 := ahd_lt (M 23 5) a n
      refine lv_iload hx hb dX1_slowHeight_6 (lv_at hl 0 rfl) ?_
      refine lv_bipush (v := nI 12) hx hb dX1_slowHeight_8 (by decide) ?_
      refine x_zge (u := (n : Nat)) (v := (12 : Int)) (tgt := 41) hx hb (nI_toInt (by omega)) (rfl) dX1_slowHeight_10 (by decide) (fun h_2 => (by omega : False).elim) (fun h_2 => ?_)
      refine lv_iload hx hb dX1_slowHeight_13 (lv_at hl 1 rfl) ?_
      refine lv_aload_n hx hb dX1_slowHeight_15 rfl (lv_at hl 3 rfl) ?_
      refine lv_aload_n hx hb dX1_slowHeight_16 rfl (lv_at hl 4 rfl) ?_
      refine lv_aload_n hx hb dX1_slowHeight_17 rfl (lv_at hl 2 rfl) ?_
      refine lv_iload_n hx hb dX1_slowHeight_18 rfl (lv_at hl 5 rfl) ?_
      refine lv_iload hx hb dX1_slowHeight_19 (lv_at hl 0 rfl) ?_
      refine x_callVI CF hK hP hS hA hl (As := [.int (nI a), .int (nI n)]) (rest := [.ref (ad (32 + k)), .ref (ad 22), .int (nI (slw (M 22) (M (32 + k) 2) (M 23 5) a n))]) (c_someAhead hI M J hw a n (by omega) (by omega)) kw_X1_someAhead wd2_91 (by decide) dX_23 rfl rfl ⟨Nat.le_of_ble_eq_true rfl, Nat.le_of_ble_eq_true rfl⟩ ⟨Nat.le_refl _, Nat.le_refl _⟩ (Nat.le_of_ble_eq_true rfl) dX1_slowHeight_21 (fun H locs hP hS => ?_)
      refine x_callSI CF hK hP hS hA hl (As := [.ref (ad 22), .ref (ad (32 + k)), .int (nI (ahd (M 23 5) a n))]) (rest := [.int (nI (slw (M 22) (M (32 + k) 2) (M 23 5) a n))]) (c_hairOf_w hI M J hw hq k (by omega) (ahd (M 23 5) a n) (by omega)) kw_X1_hairOf wd2_81 rfl ⟨Nat.le_of_ble_eq_true rfl, Nat.le_of_ble_eq_true rfl⟩ ⟨Nat.le_refl _, Nat.le_refl _⟩ (Nat.le_of_ble_eq_true rfl) dX1_slowHeight_24 (fun H locs hP hS => ?_)
      refine lv_iload hx hb dX1_slowHeight_27 (lv_at hl 0 rfl) ?_
      refine lv_isub hx hb dX1_slowHeight_29 ?_
      refine x_callSP CF hK hP hS hl (As := [.int (nI (slw (M 22) (M (32 + k) 2) (M 23 5) a n)), .int (nI (hr (M 22) (M (32 + k) 2) (ahd (M 23 5) a n)) - nI n)]) (rest := []) (c_max (nI (slw (M 22) (M (32 + k) 2) (M 23 5) a n)) (nI (hr (M 22) (M (32 + k) 2) (ahd (M 23 5) a n)) - nI n)) kw_J9_max_7cf53 wd2_95 rfl ⟨Nat.le_of_ble_eq_true rfl, Nat.le_of_ble_eq_true rfl⟩ ⟨Nat.le_refl _, Nat.le_refl _⟩ (Nat.le_of_ble_eq_true rfl) dX1_slowHeight_30 (fun H locs hP hS => ?_)
      refine x_ri (show (if (nI (slw (M 22) (M (32 + k) 2) (M 23 5) a n)).toInt < (nI (hr (M 22) (M (32 + k) 2) (ahd (M 23 5) a n)) - nI n).toInt then nI (hr (M 22) (M (32 + k) 2) (ahd (M 23 5) a n)) - nI n else nI (slw (M 22) (M (32 + k) 2) (M 23 5) a n)) = nI (max (slw (M 22) (M (32 + k) 2) (M 23 5) a n) (hr (M 22) (M (32 + k) 2) (ahd (M 23 5) a n) - n)) from n_max (by have := slw_le hB (M (32 + k) 2) (M 23 5) a n; omega) (by have := hr_le hB (M (32 + k) 2) (ahd (M 23 5) a n); omega) (by omega)) ?_
      refine lv_istore (lv' := [(4, .int (nI (max (slw (M 22) (M (32 + k) 2) (M 23 5) a n) (hr (M 22) (M (32 + k) 2) (ahd (M 23 5) a n) - n)))), (5, .int (nI n)), (0, .ref (ad 23)), (1, .ref (ad 22)), (2, .ref (ad (32 + k))), (3, .int (nI a))]) hx hb dX1_slowHeight_33 hl (by decide) rfl (fun ls hl => ?_)
      refine lv_iinc (v := nI (n + 1)) (lv' := [(5, .int (nI (n + 1))), (4, .int (nI (max (slw (M 22) (M (32 + k) 2) (M 23 5) a n) (hr (M 22) (M (32 + k) 2) (ahd (M 23 5) a n) - n)))), (0, .ref (ad 23)), (1, .ref (ad 22)), (2, .ref (ad (32 + k))), (3, .int (nI a))]) hx hb dX1_slowHeight_35 hl (k := 1) rfl (n_inc n 1) (by decide) rfl (fun ls hl => ?_)
      refine lv_goto (tgt := 6) hx hb dX1_slowHeight_38 (by decide) ?_
      have hl0 : lv_has ls 6 [(5, .int (nI (n + 1))), (4, .int (nI (slw (M 22) (M (32 + k) 2) (M 23 5) a (n + 1)))), (0, .ref (ad 23)), (1, .ref (ad 22)), (2, .ref (ad (32 + k))), (3, .int (nI a))] := by rw [(show nI (slw (M 22) (M (32 + k) 2) (M 23 5) a (n + 1)) = nI (max (slw (M 22) (M (32 + k) 2) (M 23 5) a n) (hr (M 22) (M (32 + k) 2) (ahd (M 23 5) a n) - n)) from rfl)]; exact lv_sub hl [0, 1, 2, 3, 4, 5] rfl
      exact ih6 (n + 1) (by omega) _ _ _ (hP) hS hl0
  have hl0 : lv_has ls 6 [(5, .int (nI 0)), (4, .int (nI (slw (M 22) (M (32 + k) 2) (M 23 5) a 0))), (0, .ref (ad 23)), (1, .ref (ad 22)), (2, .ref (ad (32 + k))), (3, .int (nI a))] := by rw [(show nI (slw (M 22) (M (32 + k) 2) (M 23 5) a 0) = nI 0 from rfl)]; exact lv_sub hl [0, 1, 2, 3, 4, 5] rfl
  exact L6 12 0 (by omega) _ _ _ (hP) hS hl0
set_option maxHeartbeats 4000000 in
set_option maxRecDepth 100000 in
theorem c_heightOn_w {l : Launch} {g : gE} {ad : Nat → Nat} (hI : g_inj ad 55) (M : gMem) (J : gMeL) (hw : wfX M) (hq : ∀ a, a < 12 → M 22 a ≤ 9) (k : Nat) (hk : k < 5) (a : Nat) (ha : a < 12) : CI l g ad dsX 55 yX1_heightOn cX1_heightOn 5 (some .int) 5 [.ref (ad 23), .ref (ad 22), .ref (ad (32 + k)), .int (nI a)] M J (nI (hgt (M 22) (M (32 + k) 2) (M 23 5) (M (32 + k) 0) a)) M J := by
  refine CI.of (plainFor_of_name (by decide)) (Nat.le_of_ble_eq_true rfl) (fun p9 e9 s9 m9 args9 below9 meth9 c9 CF hK hr9 hlk9 hP hS ls hl => ?_)
  have hx := CF.1
  have hb := CF.2.1
  have hA : ∀ q, g_A ad 55 q → g_A ad 55 q := fun _ h => h
  have hl : lv_has ls 5 [(0, .ref (ad 23)), (1, .ref (ad 22)), (2, .ref (ad (32 + k))), (3, .int (nI a))] := hl
  have hf := hw.fig hk
  have hB : ∀ a, a < 12 → (M 22) a ≤ 9 := hq
  have b1 := hr_le hB (M (32 + k) 2) a
  have b2 := hr_le hB (M (32 + k) 2) (ahd (M 23 5) a 1)
  have b3 := ahd_lt (M 23 5) a 1
  refine lv_aload_n hx hb dX1_heightOn_0 rfl (lv_at hl 1 rfl) ?_
  refine lv_aload_n hx hb dX1_heightOn_1 rfl (lv_at hl 2 rfl) ?_
  refine lv_iload_n hx hb dX1_heightOn_2 rfl (lv_at hl 3 rfl) ?_
  refine x_callSI CF hK hP hS hA hl (As := [.ref (ad 22), .ref (ad (32 + k)), .int (nI a)]) (rest := []) (c_hairOf_w hI M J hw hq k (by omega) a (by omega)) kw_X1_hairOf wd2_81 rfl ⟨Nat.le_of_ble_eq_true rfl, Nat.le_of_ble_eq_true rfl⟩ ⟨Nat.le_refl _, Nat.le_refl _⟩ (Nat.le_of_ble_eq_true rfl) dX1_heightOn_3 (fun H locs hP hS => ?_)
  refine lv_istore (lv' := [(4, .int (nI (hr (M 22) (M (32 + k) 2) a))), (0, .ref (ad 23)), (1, .ref (ad 22)), (2, .ref (ad (32 + k))), (3, .int (nI a))]) hx hb dX1_heightOn_6 hl (by decide) rfl (fun ls hl => ?_)
  refine lv_aload_n hx hb dX1_heightOn_8 rfl (lv_at hl 3 rfl) ?_
  refine x_geti CF hK hP (32 + k) (by omega) (dX_fig k (by omega)) rfl uX0 0 (by decide) rfl wd1_36 rfl dX1_heightOn_9 ?_
  rcases (show M (32 + k) 0 = 1 ∨ M (32 + k) 0 = 2 ∨ M (32 + k) 0 = 3 ∨ (M (32 + k) 0 < 1 ∨ 3 < M (32 + k) 0) by omega) with sw_1 | sw_1 | sw_1 | sw_1
  · refine lv_tableIn (tgt := 40) hx hb dX1_heightOn_12 (by rw [sw_1]; decide) (by rw [sw_1]; decide) (off := 28) (by rw [sw_1]; rfl) (by decide) ?_
    refine lv_iconst (v := nI 2) hx hb dX1_heightOn_40 (by decide) ?_
    refine lv_iload hx hb dX1_heightOn_41 (lv_at hl 0 rfl) ?_
    refine x_imul hx hb dX1_heightOn_43 ?_
    exact x_reti hx hb hr9 hlk9 hS hP (by rw [hgt, if_pos sw_1]) dX1_heightOn_44
  · refine lv_tableIn (tgt := 45) hx hb dX1_heightOn_12 (by rw [sw_1]; decide) (by rw [sw_1]; decide) (off := 33) (by rw [sw_1]; rfl) (by decide) ?_
    refine lv_aload_n hx hb dX1_heightOn_45 rfl (lv_at hl 1 rfl) ?_
    refine lv_aload_n hx hb dX1_heightOn_46 rfl (lv_at hl 2 rfl) ?_
    refine lv_aload_n hx hb dX1_heightOn_47 rfl (lv_at hl 3 rfl) ?_
    refine lv_iload_n hx hb dX1_heightOn_48 rfl (lv_at hl 4 rfl) ?_
    refine x_callVI CF hK hP hS hA hl (As := [.ref (ad 22), .ref (ad (32 + k)), .int (nI a)]) (rest := []) (c_slow_w hI M J hw hq k (by omega) a (by omega)) kw_X1_slowHeight wd2_87 (by decide) dX_23 rfl rfl ⟨Nat.le_of_ble_eq_true rfl, Nat.le_of_ble_eq_true rfl⟩ ⟨Nat.le_refl _, Nat.le_refl _⟩ (Nat.le_of_ble_eq_true rfl) dX1_heightOn_49 (fun H locs hP hS => ?_)
    exact x_reti hx hb hr9 hlk9 hS hP (by rw [hgt, if_neg (by omega), if_pos sw_1]) dX1_heightOn_52
  · refine lv_tableIn (tgt := 53) hx hb dX1_heightOn_12 (by rw [sw_1]; decide) (by rw [sw_1]; decide) (off := 41) (by rw [sw_1]; rfl) (by decide) ?_
    refine lv_iload hx hb dX1_heightOn_53 (lv_at hl 0 rfl) ?_
    refine lv_aload_n hx hb dX1_heightOn_55 rfl (lv_at hl 2 rfl) ?_
    refine lv_aload_n hx hb dX1_heightOn_56 rfl (lv_at hl 3 rfl) ?_
    refine lv_aload_n hx hb dX1_heightOn_57 rfl (lv_at hl 1 rfl) ?_
    refine lv_iload_n hx hb dX1_heightOn_58 rfl (lv_at hl 4 rfl) ?_
    refine lv_iconst (v := nI 1) hx hb dX1_heightOn_59 (by decide) ?_
    refine x_callVI CF hK hP hS hA hl (As := [.int (nI a), .int (nI 1)]) (rest := [.ref (ad (32 + k)), .ref (ad 22), .int (nI (hr (M 22) (M (32 + k) 2) a))]) (c_someAhead hI M J hw a 1 (by omega) (by omega)) kw_X1_someAhead wd2_91 (by decide) dX_23 rfl rfl ⟨Nat.le_of_ble_eq_true rfl, Nat.le_of_ble_eq_true rfl⟩ ⟨Nat.le_refl _, Nat.le_refl _⟩ (Nat.le_of_ble_eq_true rfl) dX1_heightOn_60 (fun H locs hP hS => ?_)
    refine x_callSI CF hK hP hS hA hl (As := [.ref (ad 22), .ref (ad (32 + k)), .int (nI (ahd (M 23 5) a 1))]) (rest := [.int (nI (hr (M 22) (M (32 + k) 2) a))]) (c_hairOf_w hI M J hw hq k (by omega) (ahd (M 23 5) a 1) (by omega)) kw_X1_hairOf wd2_81 rfl ⟨Nat.le_of_ble_eq_true rfl, Nat.le_of_ble_eq_true rfl⟩ ⟨Nat.le_refl _, Nat.le_refl _⟩ (Nat.le_of_ble_eq_true rfl) dX1_heightOn_63 (fun H locs hP hS => ?_)
    refine x_zle (u := (hr (M 22) (M (32 + k) 2) a : Nat)) (v := (hr (M 22) (M (32 + k) 2) (ahd (M 23 5) a 1) : Nat)) (tgt := 78) hx hb (nI_toInt (by omega)) (nI_toInt (by omega)) dX1_heightOn_66 (by decide) (fun h_2 => ?_) (fun h_2 => ?_)
    · refine lv_iconst (v := nI 2) hx hb dX1_heightOn_78 (by decide) ?_
      refine lv_iload hx hb dX1_heightOn_79 (lv_at hl 0 rfl) ?_
      refine x_imul hx hb dX1_heightOn_81 ?_
      exact x_reti hx hb hr9 hlk9 hS hP (by rw [hgt, if_neg (by omega), if_neg (by omega), if_pos sw_1, if_neg (by omega)]) dX1_heightOn_82
    · refine lv_iconst (v := nI 2) hx hb dX1_heightOn_69 (by decide) ?_
      refine lv_iload hx hb dX1_heightOn_70 (lv_at hl 0 rfl) ?_
      refine x_imul hx hb dX1_heightOn_72 ?_
      refine lv_iconst (v := nI 1) hx hb dX1_heightOn_73 (by decide) ?_
      refine x_iadd hx hb dX1_heightOn_74 ?_
      refine lv_goto (tgt := 82) hx hb dX1_heightOn_75 (by decide) ?_
      exact x_reti hx hb hr9 hlk9 hS hP (by rw [hgt, if_neg (by omega), if_neg (by omega), if_pos sw_1, if_pos (by omega)]) dX1_heightOn_82
  · refine lv_tableOut (tgt := 83) hx hb dX1_heightOn_12 (by rw [tz (by omega)]; omega) (by decide) ?_
    refine lv_iload hx hb dX1_heightOn_83 (lv_at hl 0 rfl) ?_
    exact x_reti hx hb hr9 hlk9 hS hP (by rw [hgt, if_neg (by omega), if_neg (by omega), if_neg (by omega)]) dX1_heightOn_85
set_option maxHeartbeats 4000000 in
set_option maxRecDepth 100000 in
theorem c_upsOn_w {l : Launch} {g : gE} {ad : Nat → Nat} (hI : g_inj ad 55) (M : gMem) (J : gMeL) (hw : wfX M) (hq : ∀ a, a < 12 → M 22 a ≤ 9) (k : Nat) (hk : k < 5)  : CI l g ad dsX 55 yX1_upsOn cX1_upsOn 5 (some .int) 6 [.ref (ad 23), .ref (ad 22), .ref (ad (32 + k))] M J (nI (ups (M 22) (M (32 + k) 2) (M 23 5) (M (32 + k) 0) (M 23 4))) M J := by
  refine CI.of (plainFor_of_name (by decide)) (Nat.le_of_ble_eq_true rfl) (fun p9 e9 s9 m9 args9 below9 meth9 c9 CF hK hr9 hlk9 hP hS ls hl => ?_)
  have hx := CF.1
  have hb := CF.2.1
  have hA : ∀ q, g_A ad 55 q → g_A ad 55 q := fun _ h => h
  have hl : lv_has ls 5 [(0, .ref (ad 23)), (1, .ref (ad 22)), (2, .ref (ad (32 + k)))] := hl
  have hf := hw.fig hk
  have hB : ∀ a, a < 12 → (M 22) a ≤ 9 := hq
  have hln := hw.line
  refine lv_iconst (v := nI 0) hx hb dX1_upsOn_0 (by decide) ?_
  refine lv_istore_n (lv' := [(3, .int (nI 0)), (0, .ref (ad 23)), (1, .ref (ad 22)), (2, .ref (ad (32 + k)))]) hx hb dX1_upsOn_1 rfl hl (by decide) rfl (fun ls hl => ?_)
  refine lv_iconst (v := nI 0) hx hb dX1_upsOn_2 (by decide) ?_
  refine lv_istore (lv' := [(4, .int (nI 0)), (3, .int (nI 0)), (0, .ref (ad 23)), (1, .ref (ad 22)), (2, .ref (ad (32 + k)))]) hx hb dX1_upsOn_3 hl (by decide) rfl (fun ls hl => ?_)
  have L5 : ∀ (d5 : Nat) (a : Nat), (a + d5 = 12) → (∀ (H : Heap) (locs : List Loc) (ls : Array Slot), g_P g ad dsX 55 M J H → va_S (g_A ad 55) s9.heap H locs → lv_has ls 5 [(4, .int (nI a)), (3, .int (nI (setN (fun q => decide (M 23 4 ≤ hgt (M 22) (M (32 + k) 2) (M 23 5) (M (32 + k) 0) q)) a))), (0, .ref (ad 23)), (1, .ref (ad 22)), (2, .ref (ad (32 + k)))] → W p9 l e9 (g_rm 6) s9 m9 args9 below9 meth9 c9 H locs 0 0 (MQ below9 (va_Qi (fun r' (_ : Unit) => r' = (nI (ups (M 22) (M (32 + k) 2) (M 23 5) (M (32 + k) 0) (M 23 4)))) (fun _ t => g_P g ad dsX 55 M J t.heap) (g_A ad 55)) args9 s9 0 0 (g_A ad 55)) (F0 m9 5 ls [])) := by
    intro d5
    induction d5 with
    | zero =>
      intro a h_a H locs ls hP hS hl
      refine lv_iload hx hb dX1_upsOn_5 (lv_at hl 0 rfl) ?_
      refine lv_bipush (v := nI 12) hx hb dX1_upsOn_7 (by decide) ?_
      refine x_zge (u := (a : Nat)) (v := (12 : Int)) (tgt := 40) hx hb (nI_toInt (by omega)) (rfl) dX1_upsOn_9 (by decide) (fun h_1 => ?_) (fun h_1 => (by omega : False).elim)
      refine lv_iload_n hx hb dX1_upsOn_40 rfl (lv_at hl 1 rfl) ?_
      exact x_reti hx hb hr9 hlk9 hS hP (by rw [show a = 12 by omega]; rfl) dX1_upsOn_41
    | succ d5 ih5 =>
      intro a h_a H locs ls hP hS hl
      have b1 := hgt_le hB (M (32 + k) 2) (M 23 5) (M (32 + k) 0) a
      refine lv_iload hx hb dX1_upsOn_5 (lv_at hl 0 rfl) ?_
      refine lv_bipush (v := nI 12) hx hb dX1_upsOn_7 (by decide) ?_
      refine x_zge (u := (a : Nat)) (v := (12 : Int)) (tgt := 40) hx hb (nI_toInt (by omega)) (rfl) dX1_upsOn_9 (by decide) (fun h_2 => (by omega : False).elim) (fun h_2 => ?_)
      refine lv_aload_n hx hb dX1_upsOn_12 rfl (lv_at hl 2 rfl) ?_
      refine lv_aload_n hx hb dX1_upsOn_13 rfl (lv_at hl 3 rfl) ?_
      refine lv_aload_n hx hb dX1_upsOn_14 rfl (lv_at hl 4 rfl) ?_
      refine lv_iload hx hb dX1_upsOn_15 (lv_at hl 0 rfl) ?_
      refine x_callVI CF hK hP hS hA hl (As := [.ref (ad 22), .ref (ad (32 + k)), .int (nI a)]) (rest := []) (c_heightOn_w hI M J hw hq k (by omega) a (by omega)) kw_X1_heightOn wd2_77 (by decide) dX_23 rfl rfl ⟨Nat.le_of_ble_eq_true rfl, Nat.le_of_ble_eq_true rfl⟩ ⟨Nat.le_refl _, Nat.le_refl _⟩ (Nat.le_of_ble_eq_true rfl) dX1_upsOn_17 (fun H locs hP hS => ?_)
      refine lv_aload_n hx hb dX1_upsOn_20 rfl (lv_at hl 2 rfl) ?_
      refine x_geti CF hK hP 23 (by decide) dX_23 rfl uX1 4 (by decide) rfl wd1_75 rfl dX1_upsOn_21 ?_
      refine x_zlt (u := (hgt (M 22) (M (32 + k) 2) (M 23 5) (M (32 + k) 0) a : Nat)) (v := (M 23 4 : Nat)) (tgt := 34) hx hb (nI_toInt (by omega)) (nI_toInt (by omega)) dX1_upsOn_24 (by decide) (fun h_3 => ?_) (fun h_3 => ?_)
      · refine lv_iinc (v := nI (a + 1)) (lv' := [(4, .int (nI (a + 1))), (3, .int (nI (setN (fun q => decide (M 23 4 ≤ hgt (M 22) (M (32 + k) 2) (M 23 5) (M (32 + k) 0) q)) a))), (0, .ref (ad 23)), (1, .ref (ad 22)), (2, .ref (ad (32 + k)))]) hx hb dX1_upsOn_34 hl (k := 0) rfl (n_inc a 1) (by decide) rfl (fun ls hl => ?_)
        refine lv_goto (tgt := 5) hx hb dX1_upsOn_37 (by decide) ?_
        have hl0 : lv_has ls 5 [(4, .int (nI (a + 1))), (3, .int (nI (setN (fun q => decide (M 23 4 ≤ hgt (M 22) (M (32 + k) 2) (M 23 5) (M (32 + k) 0) q)) (a + 1)))), (0, .ref (ad 23)), (1, .ref (ad 22)), (2, .ref (ad (32 + k)))] := by rw [(show nI (setN (fun q => decide (M 23 4 ≤ hgt (M 22) (M (32 + k) 2) (M 23 5) (M (32 + k) 0) q)) (a + 1)) = nI (setN (fun q => decide (M 23 4 ≤ hgt (M 22) (M (32 + k) 2) (M 23 5) (M (32 + k) 0) q)) a) from by first | rfl | (congr 1; omega) | (refine congrArg nI ?_; first | rfl | (exact (setN_t (decide_eq_true (by omega)))) | (exact (setN_f (decide_eq_false (by omega)))) | (rw [Nat.or_zero]; exact (setN_f (decide_eq_false (by omega))))))]; exact lv_sub hl [0, 1, 2, 3, 4] rfl
        exact ih5 (a + 1) (by omega) _ _ _ (hP) hS hl0
      · refine lv_iload_n hx hb dX1_upsOn_27 rfl (lv_at hl 1 rfl) ?_
        refine lv_iconst (v := nI 1) hx hb dX1_upsOn_28 (by decide) ?_
        refine lv_iload hx hb dX1_upsOn_29 (lv_at hl 0 rfl) ?_
        refine x_ishl hx hb (by omega) dX1_upsOn_31 ?_
        refine x_ior hx hb dX1_upsOn_32 ?_
        refine lv_istore_n (lv' := [(3, .int (nI ((setN (fun q => decide (M 23 4 ≤ hgt (M 22) (M (32 + k) 2) (M 23 5) (M (32 + k) 0) q)) a) ||| (1 <<< a)))), (4, .int (nI a)), (0, .ref (ad 23)), (1, .ref (ad 22)), (2, .ref (ad (32 + k)))]) hx hb dX1_upsOn_33 rfl hl (by decide) rfl (fun ls hl => ?_)
        refine lv_iinc (v := nI (a + 1)) (lv' := [(4, .int (nI (a + 1))), (3, .int (nI ((setN (fun q => decide (M 23 4 ≤ hgt (M 22) (M (32 + k) 2) (M 23 5) (M (32 + k) 0) q)) a) ||| (1 <<< a)))), (0, .ref (ad 23)), (1, .ref (ad 22)), (2, .ref (ad (32 + k)))]) hx hb dX1_upsOn_34 hl (k := 1) rfl (n_inc a 1) (by decide) rfl (fun ls hl => ?_)
        refine lv_goto (tgt := 5) hx hb dX1_upsOn_37 (by decide) ?_
        have hl0 : lv_has ls 5 [(4, .int (nI (a + 1))), (3, .int (nI (setN (fun q => decide (M 23 4 ≤ hgt (M 22) (M (32 + k) 2) (M 23 5) (M (32 + k) 0) q)) (a + 1)))), (0, .ref (ad 23)), (1, .ref (ad 22)), (2, .ref (ad (32 + k)))] := by rw [(show nI (setN (fun q => decide (M 23 4 ≤ hgt (M 22) (M (32 + k) 2) (M 23 5) (M (32 + k) 0) q)) (a + 1)) = nI ((setN (fun q => decide (M 23 4 ≤ hgt (M 22) (M (32 + k) 2) (M 23 5) (M (32 + k) 0) q)) a) ||| (1 <<< a)) from by first | rfl | (congr 1; omega) | (refine congrArg nI ?_; first | rfl | (exact (setN_t (decide_eq_true (by omega)))) | (exact (setN_f (decide_eq_false (by omega)))) | (rw [Nat.or_zero]; exact (setN_f (decide_eq_false (by omega))))))]; exact lv_sub hl [0, 1, 2, 3, 4] rfl
        exact ih5 (a + 1) (by omega) _ _ _ (hP) hS hl0
  have hl0 : lv_has ls 5 [(4, .int (nI 0)), (3, .int (nI (setN (fun q => decide (M 23 4 ≤ hgt (M 22) (M (32 + k) 2) (M 23 5) (M (32 + k) 0) q)) 0))), (0, .ref (ad 23)), (1, .ref (ad 22)), (2, .ref (ad (32 + k)))] := by rw [(show nI (setN (fun q => decide (M 23 4 ≤ hgt (M 22) (M (32 + k) 2) (M 23 5) (M (32 + k) 0) q)) 0) = nI 0 from rfl)]; exact lv_sub hl [0, 1, 2, 3, 4] rfl
  exact L5 12 0 (by omega) _ _ _ (hP) hS hl0
