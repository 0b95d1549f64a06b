set_option maxHeartbeats 4000000 in
set_option maxRecDepth 100000 in
theorem c_upsOf {l : Launch} {g : gE} {ad : Nat → Nat} (hI : g_inj ad 55) (M : gMem) (J : gMeL) (hw : wfX M) (k : Nat) (hk : k < 5) : CI l g ad dsX 55 yX1_upsOf cX1_upsOf 2 (some .int) 7 [.ref (ad 23), .ref (ad (32 + k))] M J (nI (upsX M k)) M J := by
  refine CI.of (plainFor_of_name (by decide)) (Nat.le_of_ble_eq_true rfl) (fun p9 e9 s9 m9 args9 below9 meth9 c9 CF hK hr9 hlk9 hP hS ls hl => ?_)
  have hx := CF.1
  have hb := CF.2.1
  have hA : ∀ q, g_A ad 55 q → g_A ad 55 q := fun _ h => h
  have hl : lv_has ls 2 [(0, .ref (ad 23)), (1, .ref (ad (32 + k)))] := hl
  have hf := hw.fig hk
  refine lv_aload_n hx hb dX1_upsOf_0 rfl (lv_at hl 0 rfl) ?_
  refine lv_aload_n hx hb dX1_upsOf_1 rfl (lv_at hl 0 rfl) ?_
  refine x_getr CF hK hP 23 (by decide) dX_23 rfl uX1 0 (by decide) (j := 24) rfl wd1_67 rfl dX1_upsOf_2 ?_
  refine lv_aload_n hx hb dX1_upsOf_5 rfl (lv_at hl 1 rfl) ?_
  refine x_geti CF hK hP (32 + k) (by omega) (dX_fig k (by omega)) rfl uX0 1 (by decide) rfl wd1_38 rfl dX1_upsOf_6 ?_
  refine x_aald CF hK hP 24 (by decide) (t := 2) dX_24 (by decide) (M (32 + k) 1) (by omega) (by decide) (j := (25 + (M (32 + k) 1))) (oX_hair (M (32 + k) 1) (by omega)) dX1_upsOf_9 ?_
  refine lv_aload_n hx hb dX1_upsOf_10 rfl (lv_at hl 1 rfl) ?_
  refine x_callVI CF hK hP hS hA hl (As := [.ref (ad (25 + (M (32 + k) 1))), .ref (ad (32 + k))]) (rest := []) (c_upsOn_h hI M J hw (M (32 + k) 1) (by omega) k (by omega)) kw_X1_upsOn wd2_111 (by decide) dX_23 rfl rfl ⟨Nat.le_of_ble_eq_true rfl, Nat.le_of_ble_eq_true rfl⟩ ⟨Nat.le_refl _, Nat.le_refl _⟩ (Nat.le_of_ble_eq_true rfl) dX1_upsOf_11 (fun H locs hP hS => ?_)
  exact x_reti hx hb hr9 hlk9 hS hP (by first | rfl | (show nI (ups (M (25 + (M (32 + k) 1))) (M (32 + k) 2) (M 23 5) (M (32 + k) 0) (M 23 4)) = nI (upsX M k); first | rfl | omega)) dX1_upsOf_14
set_option maxHeartbeats 4000000 in
set_option maxRecDepth 100000 in
theorem c_upNow {l : Launch} {g : gE} {ad : Nat → Nat} (hI : g_inj ad 55) (M : gMem) (J : gMeL) (hw : wfX M) : CI l g ad dsX 55 yX1_figuresUpNow cX1_figuresUpNow 4 (some .int) 7 [.ref (ad 23)] M J (nI (setN (fun q => decide (M 23 4 ≤ hgtX M q (M 23 6))) (M 23 3))) M J := by
  refine CI.of (plainFor_of_name (by decide)) (Nat.le_of_ble_eq_true rfl) (fun p9 e9 s9 m9 args9 below9 meth9 c9 CF hK hr9 hlk9 hP hS ls hl => ?_)
  have hx := CF.1
  have hb := CF.2.1
  have hA : ∀ q, g_A ad 55 q → g_A ad 55 q := fun _ h => h
  have hl : lv_has ls 4 [(0, .ref (ad 23))] := hl
  have hnf := hw.nf
  have hat := hw.at
  have hln := hw.line
  refine lv_iconst (v := nI 0) hx hb dX1_figuresUpNow_0 (by decide) ?_
  refine lv_istore_n (lv' := [(1, .int (nI 0)), (0, .ref (ad 23))]) hx hb dX1_figuresUpNow_1 rfl hl (by decide) rfl (fun ls hl => ?_)
  refine lv_iconst (v := nI 0) hx hb dX1_figuresUpNow_2 (by decide) ?_
  refine lv_istore_n (lv' := [(2, .int (nI 0)), (1, .int (nI 0)), (0, .ref (ad 23))]) hx hb dX1_figuresUpNow_3 rfl hl (by decide) rfl (fun ls hl => ?_)
  have L4 : ∀ (d4 : Nat) (k : Nat), (k + d4 = (M 23 3)) → (∀ (H : Heap) (locs : List Loc) (ls : Array Slot), g_P g ad dsX 55 M J H → va_S (g_A ad 55) s9.heap H locs → lv_has ls 4 [(2, .int (nI k)), (1, .int (nI (setN (fun q => decide (M 23 4 ≤ hgtX M q (M 23 6))) k))), (0, .ref (ad 23))] → W p9 l e9 (g_rm 7) s9 m9 args9 below9 meth9 c9 H locs 0 0 (MQ below9 (va_Qi (fun r' (_ : Unit) => r' = (nI (setN (fun q => decide (M 23 4 ≤ hgtX M q (M 23 6))) (M 23 3)))) (fun _ t => g_P g ad dsX 55 M J t.heap) (g_A ad 55)) args9 s9 0 0 (g_A ad 55)) (F0 m9 4 ls [])) := by
    intro d4
    induction d4 with
    | zero =>
      intro k h_k H locs ls hP hS hl
      refine lv_iload_n hx hb dX1_figuresUpNow_4 rfl (lv_at hl 0 rfl) ?_
      refine lv_aload_n hx hb dX1_figuresUpNow_5 rfl (lv_at hl 2 rfl) ?_
      refine x_geti CF hK hP 23 (by decide) dX_23 rfl uX1 3 (by decide) rfl wd1_73 rfl dX1_figuresUpNow_6 ?_
      refine x_zge (u := (k : Nat)) (v := (M 23 3 : Nat)) (tgt := 56) hx hb (nI_toInt (by omega)) (nI_toInt (by omega)) dX1_figuresUpNow_9 (by decide) (fun h_1 => ?_) (fun h_1 => (by omega : False).elim)
      refine lv_iload_n hx hb dX1_figuresUpNow_56 rfl (lv_at hl 1 rfl) ?_
      exact x_reti hx hb hr9 hlk9 hS hP (by rw [show k = M 23 3 by omega]) dX1_figuresUpNow_57
    | succ d4 ih4 =>
      intro k h_k H locs ls hP hS hl
      have hf := hw.fig (show k < 5 by omega)
      have b1 : hgtX M k (M 23 6) ≤ 19 := hgt_le (fun a ha => hw.hair (by omega) ha) _ _ _ _
      refine lv_iload_n hx hb dX1_figuresUpNow_4 rfl (lv_at hl 0 rfl) ?_
      refine lv_aload_n hx hb dX1_figuresUpNow_5 rfl (lv_at hl 2 rfl) ?_
      refine x_geti CF hK hP 23 (by decide) dX_23 rfl uX1 3 (by decide) rfl wd1_73 rfl dX1_figuresUpNow_6 ?_
      refine x_zge (u := (k : Nat)) (v := (M 23 3 : Nat)) (tgt := 56) hx hb (nI_toInt (by omega)) (nI_toInt (by omega)) dX1_figuresUpNow_9 (by decide) (fun h_2 => (by omega : False).elim) (fun h_2 => ?_)
      refine lv_aload_n hx hb dX1_figuresUpNow_12 rfl (lv_at hl 2 rfl) ?_
      refine x_getr CF hK hP 23 (by decide) dX_23 rfl uX1 2 (by decide) (j := 31) rfl wd1_71 rfl dX1_figuresUpNow_13 ?_
      refine lv_iload_n hx hb dX1_figuresUpNow_16 rfl (lv_at hl 0 rfl) ?_
      refine x_aald CF hK hP 31 (by decide) (t := 0) dX_31 (by decide) k (by omega) (by decide) (j := (32 + k)) (oX_fig k (by omega)) dX1_figuresUpNow_17 ?_
      refine lv_astore_n (lv' := [(3, .ref (ad (32 + k))), (2, .int (nI k)), (1, .int (nI (setN (fun q => decide (M 23 4 ≤ hgtX M q (M 23 6))) k))), (0, .ref (ad 23))]) hx hb dX1_figuresUpNow_18 rfl hl (by decide) rfl (fun ls hl => ?_)
      refine lv_aload_n hx hb dX1_figuresUpNow_19 rfl (lv_at hl 3 rfl) ?_
      refine lv_aload_n hx hb dX1_figuresUpNow_20 rfl (lv_at hl 3 rfl) ?_
      refine x_getr CF hK hP 23 (by decide) dX_23 rfl uX1 0 (by decide) (j := 24) rfl wd1_67 rfl dX1_figuresUpNow_21 ?_
      refine lv_aload_n hx hb dX1_figuresUpNow_24 rfl (lv_at hl 0 rfl) ?_
      refine x_geti CF hK hP (32 + k) (by omega) (dX_fig k (by omega)) rfl uX0 1 (by decide) rfl wd1_38 rfl dX1_figuresUpNow_25 ?_
      refine x_aald CF hK hP 24 (by decide) (t := 2) dX_24 (by decide) (M (32 + k) 1) (by omega) (by decide) (j := (25 + (M (32 + k) 1))) (oX_hair (M (32 + k) 1) (by omega)) dX1_figuresUpNow_28 ?_
      refine lv_aload_n hx hb dX1_figuresUpNow_29 rfl (lv_at hl 0 rfl) ?_
      refine lv_aload_n hx hb dX1_figuresUpNow_30 rfl (lv_at hl 3 rfl) ?_
      refine x_geti CF hK hP 23 (by decide) dX_23 rfl uX1 6 (by decide) rfl wd1_79 rfl dX1_figuresUpNow_31 ?_
      refine x_callVI CF hK hP hS hA hl (As := [.ref (ad (25 + (M (32 + k) 1))), .ref (ad (32 + k)), .int (nI (M 23 6))]) (rest := []) (c_heightOn_h hI M J hw (M (32 + k) 1) (by omega) k (by omega) (M 23 6) (by omega)) kw_X1_heightOn wd2_77 (by decide) dX_23 rfl rfl ⟨Nat.le_of_ble_eq_true rfl, Nat.le_of_ble_eq_true rfl⟩ ⟨Nat.le_refl _, Nat.le_refl _⟩ (Nat.le_of_ble_eq_true rfl) dX1_figuresUpNow_34 (fun H locs hP hS => ?_)
      refine x_ri (show (nI (hgt (M (25 + (M (32 + k) 1))) (M (32 + k) 2) (M 23 5) (M (32 + k) 0) (M 23 6))) = nI (hgtX M k (M 23 6)) from rfl) ?_
      refine lv_aload_n hx hb dX1_figuresUpNow_37 rfl (lv_at hl 3 rfl) ?_
      refine x_geti CF hK hP 23 (by decide) dX_23 rfl uX1 4 (by decide) rfl wd1_75 rfl dX1_figuresUpNow_38 ?_
      refine x_zlt (u := (hgtX M k (M 23 6) : Nat)) (v := (M 23 4 : Nat)) (tgt := 50) hx hb (nI_toInt (by omega)) (nI_toInt (by omega)) dX1_figuresUpNow_41 (by decide) (fun h_3 => ?_) (fun h_3 => ?_)
      · refine lv_iinc (v := nI (k + 1)) (lv' := [(2, .int (nI (k + 1))), (3, .ref (ad (32 + k))), (1, .int (nI (setN (fun q => decide (M 23 4 ≤ hgtX M q (M 23 6))) k))), (0, .ref (ad 23))]) hx hb dX1_figuresUpNow_50 hl (k := 1) rfl (n_inc k 1) (by decide) rfl (fun ls hl => ?_)
        refine lv_goto (tgt := 4) hx hb dX1_figuresUpNow_53 (by decide) ?_
        have hl0 : lv_has ls 4 [(2, .int (nI (k + 1))), (1, .int (nI (setN (fun q => decide (M 23 4 ≤ hgtX M q (M 23 6))) (k + 1)))), (0, .ref (ad 23))] := by rw [(show nI (setN (fun q => decide (M 23 4 ≤ hgtX M q (M 23 6))) (k + 1)) = nI (setN (fun q => decide (M 23 4 ≤ hgtX M q (M 23 6))) k) from by first | rfl | (congr 1; omega) | (refine congrArg nI ?_; first | rfl | (exact (setN_t (decide_eq_true (by omega)))) | (exact (setN_f (decide_eq_false (by omega)))) | (rw [Nat.or_zero]; exact (setN_f (decide_eq_false (by omega))))))]; exact lv_sub hl [0, 2, 3] rfl
        exact ih4 (k + 1) (by omega) _ _ _ (hP) hS hl0
      · refine lv_iload_n hx hb dX1_figuresUpNow_44 rfl (lv_at hl 2 rfl) ?_
        refine lv_iconst (v := nI 1) hx hb dX1_figuresUpNow_45 (by decide) ?_
        refine lv_iload_n hx hb dX1_figuresUpNow_46 rfl (lv_at hl 1 rfl) ?_
        refine x_ishl hx hb (by omega) dX1_figuresUpNow_47 ?_
        refine x_ior hx hb dX1_figuresUpNow_48 ?_
        refine lv_istore_n (lv' := [(1, .int (nI ((setN (fun q => decide (M 23 4 ≤ hgtX M q (M 23 6))) k) ||| (1 <<< k)))), (3, .ref (ad (32 + k))), (2, .int (nI k)), (0, .ref (ad 23))]) hx hb dX1_figuresUpNow_49 rfl hl (by decide) rfl (fun ls hl => ?_)
        refine lv_iinc (v := nI (k + 1)) (lv' := [(2, .int (nI (k + 1))), (1, .int (nI ((setN (fun q => decide (M 23 4 ≤ hgtX M q (M 23 6))) k) ||| (1 <<< k)))), (3, .ref (ad (32 + k))), (0, .ref (ad 23))]) hx hb dX1_figuresUpNow_50 hl (k := 2) rfl (n_inc k 1) (by decide) rfl (fun ls hl => ?_)
        refine lv_goto (tgt := 4) hx hb dX1_figuresUpNow_53 (by decide) ?_
        have hl0 : lv_has ls 4 [(2, .int (nI (k + 1))), (1, .int (nI (setN (fun q => decide (M 23 4 ≤ hgtX M q (M 23 6))) (k + 1)))), (0, .ref (ad 23))] := by rw [(show nI (setN (fun q => decide (M 23 4 ≤ hgtX M q (M 23 6))) (k + 1)) = nI ((setN (fun q => decide (M 23 4 ≤ hgtX M q (M 23 6))) k) ||| (1 <<< k)) from by first | rfl | (congr 1; omega) | (refine congrArg nI ?_; first | rfl | (exact (setN_t (decide_eq_true (by omega)))) | (exact (setN_f (decide_eq_false (by omega)))) | (rw [Nat.or_zero]; exact (setN_f (decide_eq_false (by omega))))))]; exact lv_sub hl [0, 1, 3] rfl
        exact ih4 (k + 1) (by omega) _ _ _ (hP) hS hl0
  have hl0 : lv_has ls 4 [(2, .int (nI 0)), (1, .int (nI (setN (fun q => decide (M 23 4 ≤ hgtX M q (M 23 6))) 0))), (0, .ref (ad 23))] := by rw [(show nI (setN (fun q => decide (M 23 4 ≤ hgtX M q (M 23 6))) 0) = nI 0 from rfl)]; exact lv_sub hl [0, 1, 2] rfl
  exact L4 (M 23 3) 0 (by omega) _ _ _ (hP) hS hl0
set_option maxHeartbeats 4000000 in
set_option maxRecDepth 100000 in
theorem c_strikesOf {l : Launch} {g : gE} {ad : Nat → Nat} (hI : g_inj ad 55) (M : gMem) (J : gMeL) (hw : wfX M) (a b : Nat) (ha : a < 5) (hb5 : b < 5) : CI l g ad dsX 55 yX1_strikesOf cX1_strikesOf 5 (some .int) 8 [.ref (ad 23), .ref (ad (32 + a)), .ref (ad (32 + b))] M J (nI (strX M a b)) M J := by
  refine CI.of (plainFor_of_name (by decide)) (Nat.le_of_ble_eq_true rfl) (fun p9 e9 s9 m9 args9 below9 meth9 c9 CF hK hr9 hlk9 hP hS ls hl => ?_)
  have hx := CF.1
  have hb := CF.2.1
  have hA : ∀ q, g_A ad 55 q → g_A ad 55 q := fun _ h => h
  have hl : lv_has ls 5 [(0, .ref (ad 23)), (1, .ref (ad (32 + a))), (2, .ref (ad (32 + b)))] := hl
  have hf := hw.fig ha
  have hf2 := hw.fig hb5
  have hwy := hw.way
  have b1 : (upsX M a &&& upsX M b) < 4096 := and_lt _ (upsX_lt M a)
  refine lv_aload_n hx hb dX1_strikesOf_0 rfl (lv_at hl 1 rfl) ?_
  refine x_geti CF hK hP (32 + a) (by omega) (dX_fig a (by omega)) rfl uX0 3 (by decide) rfl wd1_42 rfl dX1_strikesOf_1 ?_
  refine lv_aload_n hx hb dX1_strikesOf_4 rfl (lv_at hl 2 rfl) ?_
  refine x_geti CF hK hP (32 + b) (by omega) (dX_fig b (by omega)) rfl uX0 3 (by decide) rfl wd1_42 rfl dX1_strikesOf_5 ?_
  refine x_zeq (u := (M (32 + a) 3 : Nat)) (v := (M (32 + b) 3 : Nat)) (tgt := 13) hx hb (nI_toInt (by omega)) (nI_toInt (by omega)) dX1_strikesOf_8 (by decide) (fun h_1 => ?_) (fun h_1 => ?_)
  · refine lv_aload_n hx hb dX1_strikesOf_13 rfl (lv_at hl 0 rfl) ?_
    refine lv_aload_n hx hb dX1_strikesOf_14 rfl (lv_at hl 0 rfl) ?_
    refine x_getr CF hK hP 23 (by decide) dX_23 rfl uX1 0 (by decide) (j := 24) rfl wd1_67 rfl dX1_strikesOf_15 ?_
    refine lv_aload_n hx hb dX1_strikesOf_18 rfl (lv_at hl 1 rfl) ?_
    refine x_geti CF hK hP (32 + a) (by omega) (dX_fig a (by omega)) rfl uX0 1 (by decide) rfl wd1_38 rfl dX1_strikesOf_19 ?_
    refine x_aald CF hK hP 24 (by decide) (t := 2) dX_24 (by decide) (M (32 + a) 1) (by omega) (by decide) (j := (25 + (M (32 + a) 1))) (oX_hair (M (32 + a) 1) (by omega)) dX1_strikesOf_22 ?_
    refine lv_aload_n hx hb dX1_strikesOf_23 rfl (lv_at hl 1 rfl) ?_
    refine x_callVI CF hK hP hS hA hl (As := [.ref (ad (25 + (M (32 + a) 1))), .ref (ad (32 + a))]) (rest := []) (c_upsOn_h hI M J hw (M (32 + a) 1) (by omega) a (by omega)) kw_X1_upsOn wd2_111 (by decide) dX_23 rfl rfl ⟨Nat.le_of_ble_eq_true rfl, Nat.le_of_ble_eq_true rfl⟩ ⟨Nat.le_refl _, Nat.le_refl _⟩ (Nat.le_of_ble_eq_true rfl) dX1_strikesOf_24 (fun H locs hP hS => ?_)
    refine x_ri (show (nI (ups (M (25 + (M (32 + a) 1))) (M (32 + a) 2) (M 23 5) (M (32 + a) 0) (M 23 4))) = nI (upsX M a) from rfl) ?_
    refine lv_aload_n hx hb dX1_strikesOf_27 rfl (lv_at hl 0 rfl) ?_
    refine lv_aload_n hx hb dX1_strikesOf_28 rfl (lv_at hl 0 rfl) ?_
    refine x_getr CF hK hP 23 (by decide) dX_23 rfl uX1 0 (by decide) (j := 24) rfl wd1_67 rfl dX1_strikesOf_29 ?_
    refine lv_aload_n hx hb dX1_strikesOf_32 rfl (lv_at hl 2 rfl) ?_
    refine x_geti CF hK hP (32 + b) (by omega) (dX_fig b (by omega)) rfl uX0 1 (by decide) rfl wd1_38 rfl dX1_strikesOf_33 ?_
    refine x_aald CF hK hP 24 (by decide) (t := 2) dX_24 (by decide) (M (32 + b) 1) (by omega) (by decide) (j := (25 + (M (32 + b) 1))) (oX_hair (M (32 + b) 1) (by omega)) dX1_strikesOf_36 ?_
    refine lv_aload_n hx hb dX1_strikesOf_37 rfl (lv_at hl 2 rfl) ?_
    refine x_callVI CF hK hP hS hA hl (As := [.ref (ad (25 + (M (32 + b) 1))), .ref (ad (32 + b))]) (rest := [.int (nI (upsX M a))]) (c_upsOn_h hI M J hw (M (32 + b) 1) (by omega) b (by omega)) kw_X1_upsOn wd2_111 (by decide) dX_23 rfl rfl ⟨Nat.le_of_ble_eq_true rfl, Nat.le_of_ble_eq_true rfl⟩ ⟨Nat.le_refl _, Nat.le_refl _⟩ (Nat.le_of_ble_eq_true rfl) dX1_strikesOf_38 (fun H locs hP hS => ?_)
    refine x_ri (show (nI (ups (M (25 + (M (32 + b) 1))) (M (32 + b) 2) (M 23 5) (M (32 + b) 0) (M 23 4))) = nI (upsX M b) from rfl) ?_
    refine x_iand hx hb dX1_strikesOf_41 ?_
    refine lv_istore_n (lv' := [(3, .int (nI ((upsX M a) &&& (upsX M b)))), (0, .ref (ad 23)), (1, .ref (ad (32 + a))), (2, .ref (ad (32 + b)))]) hx hb dX1_strikesOf_42 rfl hl (by decide) rfl (fun ls hl => ?_)
    refine lv_iload_n hx hb dX1_strikesOf_43 rfl (lv_at hl 0 rfl) ?_
    refine lv_aload_n hx hb dX1_strikesOf_44 rfl (lv_at hl 1 rfl) ?_
    refine x_geti CF hK hP 23 (by decide) dX_23 rfl uX1 5 (by decide) rfl wd1_77 rfl dX1_strikesOf_45 ?_
    refine x_yne (u := (M 23 5 : Nat)) (tgt := 55) hx hb (nI_toInt (by omega)) dX1_strikesOf_48 (by decide) (fun h_2 => ?_) (fun h_2 => ?_)
    · refine lv_iconst (v := nI 4294967295) hx hb dX1_strikesOf_55 (by decide) ?_
      refine x_callNP CF hK hP hS hl (As := [.int (nI ((upsX M a) &&& (upsX M b))), .int (nI 4294967295)]) (rest := []) (c_movedOn_m ((upsX M a) &&& (upsX M b)) (by omega)) kw_X5_movedOn hK.2.2.1 rfl ⟨Nat.le_of_ble_eq_true rfl, Nat.le_of_ble_eq_true rfl⟩ ⟨Nat.le_refl _, Nat.le_refl _⟩ (Nat.le_of_ble_eq_true rfl) dX1_strikesOf_56 (fun H locs hP hS => ?_)
      refine lv_istore (lv' := [(4, .int (nI (rot ((upsX M a) &&& (upsX M b)) 11))), (3, .int (nI ((upsX M a) &&& (upsX M b)))), (0, .ref (ad 23)), (1, .ref (ad (32 + a))), (2, .ref (ad (32 + b)))]) hx hb dX1_strikesOf_59 hl (by decide) rfl (fun ls hl => ?_)
      refine lv_iload_n hx hb dX1_strikesOf_61 rfl (lv_at hl 1 rfl) ?_
      refine lv_iload hx hb dX1_strikesOf_62 (lv_at hl 0 rfl) ?_
      refine lv_iconst (v := nI 4294967295) hx hb dX1_strikesOf_64 (by decide) ?_
      refine x_ixor hx hb dX1_strikesOf_65 ?_
      refine x_iand hx hb dX1_strikesOf_66 ?_
      exact x_reti hx hb hr9 hlk9 hS hP (by rw [strX, if_pos (by omega), if_neg (by omega)]; rfl) dX1_strikesOf_67
    · refine lv_iconst (v := nI 1) hx hb dX1_strikesOf_51 (by decide) ?_
      refine lv_goto (tgt := 56) hx hb dX1_strikesOf_52 (by decide) ?_
      refine x_callNP CF hK hP hS hl (As := [.int (nI ((upsX M a) &&& (upsX M b))), .int (nI 1)]) (rest := []) (c_movedOn_n ((upsX M a) &&& (upsX M b)) 1 (by omega) (by omega)) kw_X5_movedOn hK.2.2.1 rfl ⟨Nat.le_of_ble_eq_true rfl, Nat.le_of_ble_eq_true rfl⟩ ⟨Nat.le_refl _, Nat.le_refl _⟩ (Nat.le_of_ble_eq_true rfl) dX1_strikesOf_56 (fun H locs hP hS => ?_)
      refine lv_istore (lv' := [(4, .int (nI (rot ((upsX M a) &&& (upsX M b)) 1))), (3, .int (nI ((upsX M a) &&& (upsX M b)))), (0, .ref (ad 23)), (1, .ref (ad (32 + a))), (2, .ref (ad (32 + b)))]) hx hb dX1_strikesOf_59 hl (by decide) rfl (fun ls hl => ?_)
      refine lv_iload_n hx hb dX1_strikesOf_61 rfl (lv_at hl 1 rfl) ?_
      refine lv_iload hx hb dX1_strikesOf_62 (lv_at hl 0 rfl) ?_
      refine lv_iconst (v := nI 4294967295) hx hb dX1_strikesOf_64 (by decide) ?_
      refine x_ixor hx hb dX1_strikesOf_65 ?_
      refine x_iand hx hb dX1_strikesOf_66 ?_
      exact x_reti hx hb hr9 hlk9 hS hP (by rw [strX, if_pos (by omega), if_pos (by omega)]; rfl) dX1_strikesOf_67
  · refine lv_iconst (v := nI 0) hx hb dX1_strikesOf_11 (by decide) ?_
    exact x_reti hx hb hr9 hlk9 hS hP (by rw [strX, if_neg (by omega)]) dX1_strikesOf_12
set_option maxHeartbeats 4000000 in
set_option maxRecDepth 100000 in
theorem c_toCome {l : Launch} {g : gE} {ad : Nat → Nat} (hI : g_inj ad 55) (M : gMem) (J : gMeL) (hw : wfX M) (n : Nat) (hn : n ≤ 600) : CI l g ad dsX 55 yX1_anglesToCome cX1_anglesToCome 5 (some .int) 3 [.ref (ad 23), .int (nI n)] M J (nI (acs (M 23 5) (M 23 6) n)) M J := by
  refine CI.of (plainFor_of_name (by decide)) (Nat.le_of_ble_eq_true rfl) (fun p9 e9 s9 m9 args9 below9 meth9 c9 CF hK hr9 hlk9 hP hS ls hl => ?_)
  have hx := CF.1
  have hb := CF.2.1
  have hA : ∀ q, g_A ad 55 q → g_A ad 55 q := fun _ h => h
  have hl : lv_has ls 5 [(0, .ref (ad 23)), (1, .int (nI n))] := hl
  have hat := hw.at
  refine lv_iconst (v := nI 0) hx hb dX1_anglesToCome_0 (by decide) ?_
  refine lv_istore_n (lv' := [(2, .int (nI 0)), (0, .ref (ad 23)), (1, .int (nI n))]) hx hb dX1_anglesToCome_1 rfl hl (by decide) rfl (fun ls hl => ?_)
  refine lv_aload_n hx hb dX1_anglesToCome_2 rfl (lv_at hl 1 rfl) ?_
  refine x_geti CF hK hP 23 (by decide) dX_23 rfl uX1 6 (by decide) rfl wd1_79 rfl dX1_anglesToCome_3 ?_
  refine lv_istore_n (lv' := [(3, .int (nI (M 23 6))), (2, .int (nI 0)), (0, .ref (ad 23)), (1, .int (nI n))]) hx hb dX1_anglesToCome_6 rfl hl (by decide) rfl (fun ls hl => ?_)
  refine lv_iconst (v := nI 0) hx hb dX1_anglesToCome_7 (by decide) ?_
  refine lv_istore (lv' := [(4, .int (nI 0)), (3, .int (nI (M 23 6))), (2, .int (nI 0)), (0, .ref (ad 23)), (1, .int (nI n))]) hx hb dX1_anglesToCome_8 hl (by decide) rfl (fun ls hl => ?_)
  have L10 : ∀ (d10 : Nat) (k : Nat), (k + d10 = n) → (∀ (H : Heap) (locs : List Loc) (ls : Array Slot), g_P g ad dsX 55 M J H → va_S (g_A ad 55) s9.heap H locs → lv_has ls 5 [(4, .int (nI k)), (3, .int (nI (itb (M 23 5) (M 23 6) k))), (2, .int (nI (acs (M 23 5) (M 23 6) k))), (0, .ref (ad 23)), (1, .int (nI n))] → W p9 l e9 (g_rm 3) s9 m9 args9 below9 meth9 c9 H locs 0 0 (MQ below9 (va_Qi (fun r' (_ : Unit) => r' = (nI (acs (M 23 5) (M 23 6) n))) (fun _ t => g_P g ad dsX 55 M J t.heap) (g_A ad 55)) args9 s9 0 0 (g_A ad 55)) (F0 m9 10 ls [])) := by
    intro d10
    induction d10 with
    | zero =>
      intro k h_k H locs ls hP hS hl
      refine lv_iload hx hb dX1_anglesToCome_10 (lv_at hl 0 rfl) ?_
      refine lv_iload_n hx hb dX1_anglesToCome_12 rfl (lv_at hl 4 rfl) ?_
      refine x_zge (u := (k : Nat)) (v := (n : Nat)) (tgt := 34) hx hb (nI_toInt (by omega)) (nI_toInt (by omega)) dX1_anglesToCome_13 (by decide) (fun h_1 => ?_) (fun h_1 => (by omega : False).elim)
      refine lv_iload_n hx hb dX1_anglesToCome_34 rfl (lv_at hl 2 rfl) ?_
      exact x_reti hx hb hr9 hlk9 hS hP (by rw [show k = n by omega]) dX1_anglesToCome_35
    | succ d10 ih10 =>
      intro k h_k H locs ls hP hS hl
      have b2 : (itb (M 23 5) (M 23 6) k) < 12 := itb_lt (by omega) k
      have b1 := bhd_lt (M 23 5) (itb (M 23 5) (M 23 6) k)
      refine lv_iload hx hb dX1_anglesToCome_10 (lv_at hl 0 rfl) ?_
      refine lv_iload_n hx hb dX1_anglesToCome_12 rfl (lv_at hl 4 rfl) ?_
      refine x_zge (u := (k : Nat)) (v := (n : Nat)) (tgt := 34) hx hb (nI_toInt (by omega)) (nI_toInt (by omega)) dX1_anglesToCome_13 (by decide) (fun h_2 => (by omega : False).elim) (fun h_2 => ?_)
      refine lv_aload_n hx hb dX1_anglesToCome_16 rfl (lv_at hl 3 rfl) ?_
      refine lv_iload_n hx hb dX1_anglesToCome_17 rfl (lv_at hl 1 rfl) ?_
      refine x_callVI CF hK hP hS hA hl (As := [.int (nI (itb (M 23 5) (M 23 6) k))]) (rest := []) (c_oneBehind hI M J hw (itb (M 23 5) (M 23 6) k) (by omega)) kw_X1_oneBehind wd2_127 (by decide) dX_23 rfl rfl ⟨Nat.le_of_ble_eq_true rfl, Nat.le_of_ble_eq_true rfl⟩ ⟨Nat.le_refl _, Nat.le_refl _⟩ (Nat.le_of_ble_eq_true rfl) dX1_anglesToCome_18 (fun H locs hP hS => ?_)
      refine lv_istore_n (lv' := [(3, .int (nI (bhd (M 23 5) (itb (M 23 5) (M 23 6) k)))), (4, .int (nI k)), (2, .int (nI (acs (M 23 5) (M 23 6) k))), (0, .ref (ad 23)), (1, .int (nI n))]) hx hb dX1_anglesToCome_21 rfl hl (by decide) rfl (fun ls hl => ?_)
      refine lv_iload_n hx hb dX1_anglesToCome_22 rfl (lv_at hl 2 rfl) ?_
      refine lv_iconst (v := nI 1) hx hb dX1_anglesToCome_23 (by decide) ?_
      refine lv_iload_n hx hb dX1_anglesToCome_24 rfl (lv_at hl 0 rfl) ?_
      refine x_ishl hx hb (by omega) dX1_anglesToCome_25 ?_
      refine x_ior hx hb dX1_anglesToCome_26 ?_
      refine lv_istore_n (lv' := [(2, .int (nI ((acs (M 23 5) (M 23 6) k) ||| (1 <<< (bhd (M 23 5) (itb (M 23 5) (M 23 6) k)))))), (3, .int (nI (bhd (M 23 5) (itb (M 23 5) (M 23 6) k)))), (4, .int (nI k)), (0, .ref (ad 23)), (1, .int (nI n))]) hx hb dX1_anglesToCome_27 rfl hl (by decide) rfl (fun ls hl => ?_)
      refine lv_iinc (v := nI (k + 1)) (lv' := [(4, .int (nI (k + 1))), (2, .int (nI ((acs (M 23 5) (M 23 6) k) ||| (1 <<< (bhd (M 23 5) (itb (M 23 5) (M 23 6) k)))))), (3, .int (nI (bhd (M 23 5) (itb (M 23 5) (M 23 6) k)))), (0, .ref (ad 23)), (1, .int (nI n))]) hx hb dX1_anglesToCome_28 hl (k := 2) rfl (n_inc k 1) (by decide) rfl (fun ls hl => ?_)
      refine lv_goto (tgt := 10) hx hb dX1_anglesToCome_31 (by decide) ?_
      have hl0 : lv_has ls 5 [(4, .int (nI (k + 1))), (3, .int (nI (itb (M 23 5) (M 23 6) (k + 1)))), (2, .int (nI (acs (M 23 5) (M 23 6) (k + 1)))), (0, .ref (ad 23)), (1, .int (nI n))] := by rw [(show nI (itb (M 23 5) (M 23 6) (k + 1)) = nI (bhd (M 23 5) (itb (M 23 5) (M 23 6) k)) from rfl), (show nI (acs (M 23 5) (M 23 6) (k + 1)) = nI ((acs (M 23 5) (M 23 6) k) ||| (1 <<< (bhd (M 23 5) (itb (M 23 5) (M 23 6) k)))) from rfl)]; exact lv_sub hl [0, 2, 1, 3, 4] rfl
      exact ih10 (k + 1) (by omega) _ _ _ (hP) hS hl0
  have hl0 : lv_has ls 5 [(4, .int (nI 0)), (3, .int (nI (itb (M 23 5) (M 23 6) 0))), (2, .int (nI (acs (M 23 5) (M 23 6) 0))), (0, .ref (ad 23)), (1, .int (nI n))] := by rw [(show nI (itb (M 23 5) (M 23 6) 0) = nI (M 23 6) from rfl), (show nI (acs (M 23 5) (M 23 6) 0) = nI 0 from rfl)]; exact lv_sub hl [0, 1, 2, 3, 4] rfl
  exact L10 n 0 (by omega) _ _ _ (hP) hS hl0
set_option maxHeartbeats 4000000 in
set_option maxRecDepth 100000 in
theorem c_turning {l : Launch} {g : gE} {ad : Nat → Nat} (hI : g_inj ad 55) (M : gMem) (J : gMeL) (hw : wfX M) (n : Nat) (hn : n ≤ 600) : CI l g ad dsX 55 yX1_strikesInTurning cX1_strikesInTurning 8 (some .int) 9 [.ref (ad 23), .int (nI n)] M J (nI (sitX M n)) M J := by
  refine CI.of (plainFor_of_name (by decide)) (Nat.le_of_ble_eq_true rfl) (fun p9 e9 s9 m9 args9 below9 meth9 c9 CF hK hr9 hlk9 hP hS ls hl => ?_)
  have hx := CF.1
  have hb := CF.2.1
  have hA : ∀ q, g_A ad 55 q → g_A ad 55 q := fun _ h => h
  have hl : lv_has ls 8 [(0, .ref (ad 23)), (1, .int (nI n))] := hl
  have hnf := hw.nf
  refine lv_iload_n hx hb dX1_strikesInTurning_0 rfl (lv_at hl 1 rfl) ?_
  refine lv_bipush (v := nI 12) hx hb dX1_strikesInTurning_1 (by decide) ?_
  refine x_idiv hx hb (by omega) (by omega) (by omega) dX1_strikesInTurning_3 ?_
  refine lv_istore_n (lv' := [(2, .int (nI (n / 12))), (0, .ref (ad 23)), (1, .int (nI n))]) hx hb dX1_strikesInTurning_4 rfl hl (by decide) rfl (fun ls hl => ?_)
  refine lv_aload_n hx hb dX1_strikesInTurning_5 rfl (lv_at hl 1 rfl) ?_
  refine lv_iload_n hx hb dX1_strikesInTurning_6 rfl (lv_at hl 2 rfl) ?_
  refine lv_bipush (v := nI 12) hx hb dX1_strikesInTurning_7 (by decide) ?_
  refine x_irem hx hb (by omega) (by omega) (by omega) dX1_strikesInTurning_9 ?_
  refine x_callVI CF hK hP hS hA hl (As := [.int (nI (n % 12))]) (rest := []) (c_toCome hI M J hw (n % 12) (by omega)) kw_X1_anglesToCome wd2_123 (by decide) dX_23 rfl rfl ⟨Nat.le_of_ble_eq_true rfl, Nat.le_of_ble_eq_true rfl⟩ ⟨Nat.le_refl _, Nat.le_refl _⟩ (Nat.le_of_ble_eq_true rfl) dX1_strikesInTurning_10 (fun H locs hP hS => ?_)
  refine lv_istore_n (lv' := [(3, .int (nI (acs (M 23 5) (M 23 6) (n % 12)))), (2, .int (nI (n / 12))), (0, .ref (ad 23)), (1, .int (nI n))]) hx hb dX1_strikesInTurning_13 rfl hl (by decide) rfl (fun ls hl => ?_)
  refine lv_iconst (v := nI 0) hx hb dX1_strikesInTurning_14 (by decide) ?_
  refine lv_istore (lv' := [(4, .int (nI 0)), (3, .int (nI (acs (M 23 5) (M 23 6) (n % 12)))), (2, .int (nI (n / 12))), (0, .ref (ad 23)), (1, .int (nI n))]) hx hb dX1_strikesInTurning_15 hl (by decide) rfl (fun ls hl => ?_)
  refine lv_iconst (v := nI 0) hx hb dX1_strikesInTurning_17 (by decide) ?_
  refine lv_istore (lv' := [(5, .int (nI 0)), (4, .int (nI 0)), (3, .int (nI (acs (M 23 5) (M 23 6) (n % 12)))), (2, .int (nI (n / 12))), (0, .ref (ad 23)), (1, .int (nI n))]) hx hb dX1_strikesInTurning_18 hl (by decide) rfl (fun ls hl => ?_)
  have L20 : ∀ (d20 : Nat) (a : Nat), (a + d20 = (M 23 3)) → (∀ (H : Heap) (locs : List Loc) (ls : Array Slot), g_P g ad dsX 55 M J H → va_S (g_A ad 55) s9.heap H locs → lv_has ls 8 [(5, .int (nI a)), (4, .int (nI (sumN (fun q => sumN (fun i => sitT M n q (q + 1 + i)) (M 23 3 - (q + 1))) a))), (3, .int (nI (acs (M 23 5) (M 23 6) (n % 12)))), (2, .int (nI (n / 12))), (0, .ref (ad 23)), (1, .int (nI n))] → W p9 l e9 (g_rm 9) s9 m9 args9 below9 meth9 c9 H locs 0 0 (MQ below9 (va_Qi (fun r' (_ : Unit) => r' = (nI (sitX M n))) (fun _ t => g_P g ad dsX 55 M J t.heap) (g_A ad 55)) args9 s9 0 0 (g_A ad 55)) (F0 m9 20 ls [])) := by
    intro d20
    induction d20 with
    | zero =>
      intro a h_a H locs ls hP hS hl
      refine lv_iload hx hb dX1_strikesInTurning_20 (lv_at hl 0 rfl) ?_
      refine lv_aload_n hx hb dX1_strikesInTurning_22 rfl (lv_at hl 4 rfl) ?_
      refine x_geti CF hK hP 23 (by decide) dX_23 rfl uX1 3 (by decide) rfl wd1_73 rfl dX1_strikesInTurning_23 ?_
      refine x_zge (u := (a : Nat)) (v := (M 23 3 : Nat)) (tgt := 96) hx hb (nI_toInt (by omega)) (nI_toInt (by omega)) dX1_strikesInTurning_26 (by decide) (fun h_1 => ?_) (fun h_1 => (by omega : False).elim)
      refine lv_iload hx hb dX1_strikesInTurning_96 (lv_at hl 1 rfl) ?_
      exact x_reti hx hb hr9 hlk9 hS hP (by rw [show a = M 23 3 by omega]; rfl) dX1_strikesInTurning_98
    | succ d20 ih20 =>
      intro a h_a H locs ls hP hS hl
      refine lv_iload hx hb dX1_strikesInTurning_20 (lv_at hl 0 rfl) ?_
      refine lv_aload_n hx hb dX1_strikesInTurning_22 rfl (lv_at hl 4 rfl) ?_
      refine x_geti CF hK hP 23 (by decide) dX_23 rfl uX1 3 (by decide) rfl wd1_73 rfl dX1_strikesInTurning_23 ?_
      refine x_zge (u := (a : Nat)) (v := (M 23 3 : Nat)) (tgt := 96) hx hb (nI_toInt (by omega)) (nI_toInt (by omega)) dX1_strikesInTurning_26 (by decide) (fun h_2 => (by omega : False).elim) (fun h_2 => ?_)
      refine lv_iload hx hb dX1_strikesInTurning_29 (lv_at hl 0 rfl) ?_
      refine lv_iconst (v := nI 1) hx hb dX1_strikesInTurning_31 (by decide) ?_
      refine x_iadd hx hb dX1_strikesInTurning_32 ?_
      refine lv_istore (lv' := [(6, .int (nI (a + 1))), (5, .int (nI a)), (4, .int (nI (sumN (fun q => sumN (fun i => sitT M n q (q + 1 + i)) (M 23 3 - (q + 1))) a))), (3, .int (nI (acs (M 23 5) (M 23 6) (n % 12)))), (2, .int (nI (n / 12))), (0, .ref (ad 23)), (1, .int (nI n))]) hx hb dX1_strikesInTurning_33 hl (by decide) rfl (fun ls hl => ?_)
      have L35 : ∀ (d35 : Nat) (j : Nat), (j + d35 = (M 23 3 - (a + 1))) → (∀ (H : Heap) (locs : List Loc) (ls : Array Slot), g_P g ad dsX 55 M J H → va_S (g_A ad 55) s9.heap H locs → lv_has ls 8 [(6, .int (nI (a + 1 + j))), (5, .int (nI a)), (4, .int (nI (sumN (fun q => sumN (fun i => sitT M n q (q + 1 + i)) (M 23 3 - (q + 1))) a + sumN (fun i => sitT M n a (a + 1 + i)) j))), (3, .int (nI (acs (M 23 5) (M 23 6) (n % 12)))), (2, .int (nI (n / 12))), (0, .ref (ad 23)), (1, .int (nI n))] → W p9 l e9 (g_rm 9) s9 m9 args9 below9 meth9 c9 H locs 0 0 (MQ below9 (va_Qi (fun r' (_ : Unit) => r' = (nI (sitX M n))) (fun _ t => g_P g ad dsX 55 M J t.heap) (g_A ad 55)) args9 s9 0 0 (g_A ad 55)) (F0 m9 35 ls [])) := by
        intro d35
        induction d35 with
        | zero =>
          intro j h_j H locs ls hP hS hl
          refine lv_iload hx hb dX1_strikesInTurning_35 (lv_at hl 0 rfl) ?_
          refine lv_aload_n hx hb dX1_strikesInTurning_37 rfl (lv_at hl 5 rfl) ?_
          refine x_geti CF hK hP 23 (by decide) dX_23 rfl uX1 3 (by decide) rfl wd1_73 rfl dX1_strikesInTurning_38 ?_
          refine x_zge (u := (a + 1 + j : Nat)) (v := (M 23 3 : Nat)) (tgt := 90) hx hb (nI_toInt (by omega)) (nI_toInt (by omega)) dX1_strikesInTurning_41 (by decide) (fun h_3 => ?_) (fun h_3 => (by omega : False).elim)
          refine lv_iinc (v := nI (a + 1)) (lv' := [(5, .int (nI (a + 1))), (6, .int (nI (a + 1 + j))), (4, .int (nI (sumN (fun q => sumN (fun i => sitT M n q (q + 1 + i)) (M 23 3 - (q + 1))) a + sumN (fun i => sitT M n a (a + 1 + i)) j))), (3, .int (nI (acs (M 23 5) (M 23 6) (n % 12)))), (2, .int (nI (n / 12))), (0, .ref (ad 23)), (1, .int (nI n))]) hx hb dX1_strikesInTurning_90 hl (k := 1) rfl (n_inc a 1) (by decide) rfl (fun ls hl => ?_)
          refine lv_goto (tgt := 20) hx hb dX1_strikesInTurning_93 (by decide) ?_
          have hl0 : lv_has ls 8 [(5, .int (nI (a + 1))), (4, .int (nI (sumN (fun q => sumN (fun i => sitT M n q (q + 1 + i)) (M 23 3 - (q + 1))) (a + 1)))), (3, .int (nI (acs (M 23 5) (M 23 6) (n % 12)))), (2, .int (nI (n / 12))), (0, .ref (ad 23)), (1, .int (nI n))] := by rw [(show nI (sumN (fun q => sumN (fun i => sitT M n q (q + 1 + i)) (M 23 3 - (q + 1))) (a + 1)) = nI (sumN (fun q => sumN (fun i => sitT M n q (q + 1 + i)) (M 23 3 - (q + 1))) a + sumN (fun i => sitT M n a (a + 1 + i)) j) from by refine congrArg nI ?_; simp only [sumN]; rw [show j = M 23 3 - (a + 1) by omega])]; exact lv_sub hl [0, 2, 3, 4, 5, 6] rfl
          exact ih20 (a + 1) (by omega) _ _ _ (hP) hS hl0
        | succ d35 ih35 =>
          intro j h_j H locs ls hP hS hl
          have b1 := strX_lt M a (a + 1 + j)
          have b2 : strX M a (a + 1 + j) &&& acs (M 23 5) (M 23 6) (n % 12) < 4096 := and_lt _ b1
          refine lv_iload hx hb dX1_strikesInTurning_35 (lv_at hl 0 rfl) ?_
          refine lv_aload_n hx hb dX1_strikesInTurning_37 rfl (lv_at hl 5 rfl) ?_
          refine x_geti CF hK hP 23 (by decide) dX_23 rfl uX1 3 (by decide) rfl wd1_73 rfl dX1_strikesInTurning_38 ?_
          refine x_zge (u := (a + 1 + j : Nat)) (v := (M 23 3 : Nat)) (tgt := 90) hx hb (nI_toInt (by omega)) (nI_toInt (by omega)) dX1_strikesInTurning_41 (by decide) (fun h_4 => (by omega : False).elim) (fun h_4 => ?_)
          refine lv_aload_n hx hb dX1_strikesInTurning_44 rfl (lv_at hl 5 rfl) ?_
          refine lv_aload_n hx hb dX1_strikesInTurning_45 rfl (lv_at hl 5 rfl) ?_
          refine x_getr CF hK hP 23 (by decide) dX_23 rfl uX1 2 (by decide) (j := 31) rfl wd1_71 rfl dX1_strikesInTurning_46 ?_
          refine lv_iload hx hb dX1_strikesInTurning_49 (lv_at hl 1 rfl) ?_
          refine x_aald CF hK hP 31 (by decide) (t := 0) dX_31 (by decide) a (by omega) (by decide) (j := (32 + a)) (oX_fig a (by omega)) dX1_strikesInTurning_51 ?_
          refine lv_aload_n hx hb dX1_strikesInTurning_52 rfl (lv_at hl 5 rfl) ?_
          refine x_getr CF hK hP 23 (by decide) dX_23 rfl uX1 2 (by decide) (j := 31) rfl wd1_71 rfl dX1_strikesInTurning_53 ?_
          refine lv_iload hx hb dX1_strikesInTurning_56 (lv_at hl 0 rfl) ?_
          refine x_aald CF hK hP 31 (by decide) (t := 0) dX_31 (by decide) (a + 1 + j) (by omega) (by decide) (j := (32 + (a + 1 + j))) (oX_fig (a + 1 + j) (by omega)) dX1_strikesInTurning_58 ?_
          refine x_callVI CF hK hP hS hA hl (As := [.ref (ad (32 + a)), .ref (ad (32 + (a + 1 + j)))]) (rest := []) (c_strikesOf hI M J hw a (a + 1 + j) (by omega) (by omega)) kw_X1_strikesOf wd2_135 (by decide) dX_23 rfl rfl ⟨Nat.le_of_ble_eq_true rfl, Nat.le_of_ble_eq_true rfl⟩ ⟨Nat.le_refl _, Nat.le_refl _⟩ (Nat.le_of_ble_eq_true rfl) dX1_strikesInTurning_59 (fun H locs hP hS => ?_)
          refine lv_istore (lv' := [(7, .int (nI (strX M a (a + 1 + j)))), (6, .int (nI (a + 1 + j))), (5, .int (nI a)), (4, .int (nI (sumN (fun q => sumN (fun i => sitT M n q (q + 1 + i)) (M 23 3 - (q + 1))) a + sumN (fun i => sitT M n a (a + 1 + i)) j))), (3, .int (nI (acs (M 23 5) (M 23 6) (n % 12)))), (2, .int (nI (n / 12))), (0, .ref (ad 23)), (1, .int (nI n))]) hx hb dX1_strikesInTurning_62 hl (by decide) rfl (fun ls hl => ?_)
          refine lv_iload hx hb dX1_strikesInTurning_64 (lv_at hl 3 rfl) ?_
          refine lv_iload_n hx hb dX1_strikesInTurning_66 rfl (lv_at hl 5 rfl) ?_
          refine lv_iload hx hb dX1_strikesInTurning_67 (lv_at hl 0 rfl) ?_
          refine x_callSP CF hK hP hS hl (As := [.int (nI (strX M a (a + 1 + j)))]) (rest := [.int (nI (n / 12)), .int (nI (sumN (fun q => sumN (fun i => sitT M n q (q + 1 + i)) (M 23 3 - (q + 1))) a + sumN (fun i => sitT M n a (a + 1 + i)) j))]) (c_bitCount (strX M a (a + 1 + j)) (by omega)) kw_J6_bitCount_0f7a4 wd2_143 rfl ⟨Nat.le_of_ble_eq_true rfl, Nat.le_of_ble_eq_true rfl⟩ ⟨Nat.le_refl _, Nat.le_refl _⟩ (Nat.le_of_ble_eq_true rfl) dX1_strikesInTurning_69 (fun H locs hP hS => ?_)
          refine x_imul hx hb dX1_strikesInTurning_72 ?_
          refine lv_iload hx hb dX1_strikesInTurning_73 (lv_at hl 0 rfl) ?_
          refine lv_iload_n hx hb dX1_strikesInTurning_75 rfl (lv_at hl 4 rfl) ?_
          refine x_iand hx hb dX1_strikesInTurning_76 ?_
          refine x_callSP CF hK hP hS hl (As := [.int (nI ((strX M a (a + 1 + j)) &&& (acs (M 23 5) (M 23 6) (n % 12))))]) (rest := [.int (nI ((n / 12) * (pop (strX M a (a + 1 + j))))), .int (nI (sumN (fun q => sumN (fun i => sitT M n q (q + 1 + i)) (M 23 3 - (q + 1))) a + sumN (fun i => sitT M n a (a + 1 + i)) j))]) (c_bitCount ((strX M a (a + 1 + j)) &&& (acs (M 23 5) (M 23 6) (n % 12))) (by omega)) kw_J6_bitCount_0f7a4 wd2_143 rfl ⟨Nat.le_of_ble_eq_true rfl, Nat.le_of_ble_eq_true rfl⟩ ⟨Nat.le_refl _, Nat.le_refl _⟩ (Nat.le_of_ble_eq_true rfl) dX1_strikesInTurning_77 (fun H locs hP hS => ?_)
          refine x_iadd hx hb dX1_strikesInTurning_80 ?_
          refine x_iadd hx hb dX1_strikesInTurning_81 ?_
          refine lv_istore (lv' := [(4, .int (nI ((sumN (fun q => sumN (fun i => sitT M n q (q + 1 + i)) (M 23 3 - (q + 1))) a + sumN (fun i => sitT M n a (a + 1 + i)) j) + (((n / 12) * (pop (strX M a (a + 1 + j)))) + (pop ((strX M a (a + 1 + j)) &&& (acs (M 23 5) (M 23 6) (n % 12)))))))), (7, .int (nI (strX M a (a + 1 + j)))), (6, .int (nI (a + 1 + j))), (5, .int (nI a)), (3, .int (nI (acs (M 23 5) (M 23 6) (n % 12)))), (2, .int (nI (n / 12))), (0, .ref (ad 23)), (1, .int (nI n))]) hx hb dX1_strikesInTurning_82 hl (by decide) rfl (fun ls hl => ?_)
          refine lv_iinc (v := nI (a + 1 + j + 1)) (lv' := [(6, .int (nI (a + 1 + j + 1))), (4, .int (nI ((sumN (fun q => sumN (fun i => sitT M n q (q + 1 + i)) (M 23 3 - (q + 1))) a + sumN (fun i => sitT M n a (a + 1 + i)) j) + (((n / 12) * (pop (strX M a (a + 1 + j)))) + (pop ((strX M a (a + 1 + j)) &&& (acs (M 23 5) (M 23 6) (n % 12)))))))), (7, .int (nI (strX M a (a + 1 + j)))), (5, .int (nI a)), (3, .int (nI (acs (M 23 5) (M 23 6) (n % 12)))), (2, .int (nI (n / 12))), (0, .ref (ad 23)), (1, .int (nI n))]) hx hb dX1_strikesInTurning_84 hl (k := 2) rfl (n_inc (a + 1 + j) 1) (by decide) rfl (fun ls hl => ?_)
          refine lv_goto (tgt := 35) hx hb dX1_strikesInTurning_87 (by decide) ?_
          have hl0 : lv_has ls 8 [(6, .int (nI (a + 1 + (j + 1)))), (5, .int (nI a)), (4, .int (nI (sumN (fun q => sumN (fun i => sitT M n q (q + 1 + i)) (M 23 3 - (q + 1))) a + sumN (fun i => sitT M n a (a + 1 + i)) (j + 1)))), (3, .int (nI (acs (M 23 5) (M 23 6) (n % 12)))), (2, .int (nI (n / 12))), (0, .ref (ad 23)), (1, .int (nI n))] := by rw [(show nI (a + 1 + (j + 1)) = nI (a + 1 + j + 1) from rfl), (show nI (sumN (fun q => sumN (fun i => sitT M n q (q + 1 + i)) (M 23 3 - (q + 1))) a + sumN (fun i => sitT M n a (a + 1 + i)) (j + 1)) = nI ((sumN (fun q => sumN (fun i => sitT M n q (q + 1 + i)) (M 23 3 - (q + 1))) a + sumN (fun i => sitT M n a (a + 1 + i)) j) + (((n / 12) * (pop (strX M a (a + 1 + j)))) + (pop ((strX M a (a + 1 + j)) &&& (acs (M 23 5) (M 23 6) (n % 12)))))) from by refine congrArg nI ?_; simp only [sumN, Nat.add_assoc]; rfl)]; exact lv_sub hl [0, 3, 1, 4, 5, 6, 7] rfl
          exact ih35 (j + 1) (by omega) _ _ _ (hP) hS hl0
      have hl0 : lv_has ls 8 [(6, .int (nI (a + 1 + 0))), (5, .int (nI a)), (4, .int (nI (sumN (fun q => sumN (fun i => sitT M n q (q + 1 + i)) (M 23 3 - (q + 1))) a + sumN (fun i => sitT M n a (a + 1 + i)) 0))), (3, .int (nI (acs (M 23 5) (M 23 6) (n % 12)))), (2, .int (nI (n / 12))), (0, .ref (ad 23)), (1, .int (nI n))] := by rw [(show nI (a + 1 + 0) = nI (a + 1) from rfl), (show nI (sumN (fun q => sumN (fun i => sitT M n q (q + 1 + i)) (M 23 3 - (q + 1))) a + sumN (fun i => sitT M n a (a + 1 + i)) 0) = nI (sumN (fun q => sumN (fun i => sitT M n q (q + 1 + i)) (M 23 3 - (q + 1))) a) from rfl)]; exact lv_sub hl [0, 1, 2, 3, 4, 5, 6] rfl
      exact L35 (M 23 3 - (a + 1)) 0 (by omega) _ _ _ (hP) hS hl0
  have hl0 : lv_has ls 8 [(5, .int (nI 0)), (4, .int (nI (sumN (fun q => sumN (fun i => sitT M n q (q + 1 + i)) (M 23 3 - (q + 1))) 0))), (3, .int (nI (acs (M 23 5) (M 23 6) (n % 12)))), (2, .int (nI (n / 12))), (0, .ref (ad 23)), (1, .int (nI n))] := by rw [(show nI (sumN (fun q => sumN (fun i => sitT M n q (q + 1 + i)) (M 23 3 - (q + 1))) 0) = nI 0 from rfl)]; exact lv_sub hl [0, 1, 2, 3, 4, 5] rfl
  exact L20 (M 23 3) 0 (by omega) _ _ _ (hP) hS hl0
set_option maxHeartbeats 4000000 in
set_option maxRecDepth 100000 in
theorem c_goOn {l : Launch} {g : gE} {ad : Nat → Nat} (hI : g_inj ad 55) (M : gMem) (J : gMeL) (hw : wfX M) (n : Nat) (hn : n ≤ 600) : CV l g ad dsX 55 yX1_goOn cX1_goOn 2 2 [.ref (ad 23), .int (nI n)] M J (goX M n) J := by
  refine CV.of (plainFor_of_name (by decide)) (Nat.le_of_ble_eq_true rfl) (fun p9 e9 s9 m9 args9 below9 meth9 c9 CF hK hr9 hlk9 hP hS ls hl => ?_)
  have hx := CF.1
  have hb := CF.2.1
  have hA : ∀ q, g_A ad 55 q → g_A ad 55 q := fun _ h => h
  have hl : lv_has ls 2 [(0, .ref (ad 23)), (1, .int (nI n))] := hl
  have hat := hw.at
  have hps := hw.passed
  have hwy := hw.way
  refine lv_aload_n hx hb dX1_goOn_0 rfl (lv_at hl 0 rfl) ?_
  refine lv_aload_n hx hb dX1_goOn_1 rfl (lv_at hl 0 rfl) ?_
  refine x_geti CF hK hP 23 (by decide) dX_23 rfl uX1 5 (by decide) rfl wd1_77 rfl dX1_goOn_2 ?_
  refine x_yne (u := (M 23 5 : Nat)) (tgt := 17) hx hb (nI_toInt (by omega)) dX1_goOn_5 (by decide) (fun h_1 => ?_) (fun h_1 => ?_)
  · refine lv_aload_n hx hb dX1_goOn_17 rfl (lv_at hl 0 rfl) ?_
    refine x_geti CF hK hP 23 (by decide) dX_23 rfl uX1 6 (by decide) rfl wd1_79 rfl dX1_goOn_18 ?_
    refine lv_iload_n hx hb dX1_goOn_21 rfl (lv_at hl 1 rfl) ?_
    refine lv_isub hx hb dX1_goOn_22 ?_
    refine x_callNP CF hK hP hS hl (As := [.int (nI (M 23 6) - nI n)]) (rest := [.ref (ad 23)]) (c_angleOf_s (M 23 6) n (by omega) (by omega)) kw_X5_angleOf hK.2.1 rfl ⟨Nat.le_of_ble_eq_true rfl, Nat.le_of_ble_eq_true rfl⟩ ⟨Nat.le_refl _, Nat.le_refl _⟩ (Nat.le_of_ble_eq_true rfl) dX1_goOn_23 (fun H locs hP hS => ?_)
    refine x_puti CF hK hI hA hP hS 23 (by decide) dX_23 rfl uX1 tyX1 tyX1_ok nmX1 6 (by decide) rfl wd1_79 rfl rfl (((M 23 6) + 11 * n) % 12) (ty := .int) rfl rfl rfl dX1_goOn_26 (fun H locs hP hS => ?_)
    have hP : g_P g ad dsX 55 (u2 M 23 6 (adv (M 23 5) (M 23 6) n)) J H := (by rw [adv, if_neg (by omega)]; exact hP)
    refine lv_aload_n hx hb dX1_goOn_29 rfl (lv_at hl 0 rfl) ?_
    refine lv_aload_n hx hb dX1_goOn_30 rfl (lv_at hl 0 rfl) ?_
    refine x_geti CF hK hP 23 (by decide) dX_23 rfl uX1 7 (by decide) rfl wd1_81 rfl dX1_goOn_31 ?_
    refine x_ri (show (nI ((u2 M 23 6 (adv (M 23 5) (M 23 6) n)) 23 7)) = nI (M 23 7) from by simp [u2]) ?_
    refine lv_iload_n hx hb dX1_goOn_34 rfl (lv_at hl 1 rfl) ?_
    refine x_iadd hx hb dX1_goOn_35 ?_
    refine lv_ldc (v := nI 1000000000) hx hb CF.2.2.2.1 (CF.2.2.2.2 _ (List.mem_cons_of_mem _ wd2_148)) dX1_goOn_36 ?_
    refine x_callSP CF hK hP hS hl (As := [.int (nI ((M 23 7) + n)), .int (nI 1000000000)]) (rest := [.ref (ad 23)]) (c_min ((M 23 7) + n) 1000000000 (by omega) (by omega)) kw_J9_min_7cf53 wd2_149 rfl ⟨Nat.le_of_ble_eq_true rfl, Nat.le_of_ble_eq_true rfl⟩ ⟨Nat.le_refl _, Nat.le_refl _⟩ (Nat.le_of_ble_eq_true rfl) dX1_goOn_38 (fun H locs hP hS => ?_)
    refine x_puti CF hK hI hA hP hS 23 (by decide) dX_23 rfl uX1 tyX1 tyX1_ok nmX1 7 (by decide) rfl wd1_81 rfl rfl (min ((M 23 7) + n) 1000000000) (ty := .int) rfl rfl rfl dX1_goOn_41 (fun H locs hP hS => ?_)
    exact x_retv hx hb hr9 hlk9 hS (by exact hP) dX1_goOn_44
  · refine lv_aload_n hx hb dX1_goOn_8 rfl (lv_at hl 0 rfl) ?_
    refine x_geti CF hK hP 23 (by decide) dX_23 rfl uX1 6 (by decide) rfl wd1_79 rfl dX1_goOn_9 ?_
    refine lv_iload_n hx hb dX1_goOn_12 rfl (lv_at hl 1 rfl) ?_
    refine x_iadd hx hb dX1_goOn_13 ?_
    refine lv_goto (tgt := 23) hx hb dX1_goOn_14 (by decide) ?_
    refine x_callNP CF hK hP hS hl (As := [.int (nI ((M 23 6) + n))]) (rest := [.ref (ad 23)]) (c_angleOf_n ((M 23 6) + n) (by omega)) kw_X5_angleOf hK.2.1 rfl ⟨Nat.le_of_ble_eq_true rfl, Nat.le_of_ble_eq_true rfl⟩ ⟨Nat.le_refl _, Nat.le_refl _⟩ (Nat.le_of_ble_eq_true rfl) dX1_goOn_23 (fun H locs hP hS => ?_)
    refine x_puti CF hK hI hA hP hS 23 (by decide) dX_23 rfl uX1 tyX1 tyX1_ok nmX1 6 (by decide) rfl wd1_79 rfl rfl (((M 23 6) + n) % 12) (ty := .int) rfl rfl rfl dX1_goOn_26 (fun H locs hP hS => ?_)
    have hP : g_P g ad dsX 55 (u2 M 23 6 (adv (M 23 5) (M 23 6) n)) J H := (by rw [adv, if_pos (by omega)]; exact hP)
    refine lv_aload_n hx hb dX1_goOn_29 rfl (lv_at hl 0 rfl) ?_
    refine lv_aload_n hx hb dX1_goOn_30 rfl (lv_at hl 0 rfl) ?_
    refine x_geti CF hK hP 23 (by decide) dX_23 rfl uX1 7 (by decide) rfl wd1_81 rfl dX1_goOn_31 ?_
    refine x_ri (show (nI ((u2 M 23 6 (adv (M 23 5) (M 23 6) n)) 23 7)) = nI (M 23 7) from by simp [u2]) ?_
    refine lv_iload_n hx hb dX1_goOn_34 rfl (lv_at hl 1 rfl) ?_
    refine x_iadd hx hb dX1_goOn_35 ?_
    refine lv_ldc (v := nI 1000000000) hx hb CF.2.2.2.1 (CF.2.2.2.2 _ (List.mem_cons_of_mem _ wd2_148)) dX1_goOn_36 ?_
    refine x_callSP CF hK hP hS hl (As := [.int (nI ((M 23 7) + n)), .int (nI 1000000000)]) (rest := [.ref (ad 23)]) (c_min ((M 23 7) + n) 1000000000 (by omega) (by omega)) kw_J9_min_7cf53 wd2_149 rfl ⟨Nat.le_of_ble_eq_true rfl, Nat.le_of_ble_eq_true rfl⟩ ⟨Nat.le_refl _, Nat.le_refl _⟩ (Nat.le_of_ble_eq_true rfl) dX1_goOn_38 (fun H locs hP hS => ?_)
    refine x_puti CF hK hI hA hP hS 23 (by decide) dX_23 rfl uX1 tyX1 tyX1_ok nmX1 7 (by decide) rfl wd1_81 rfl rfl (min ((M 23 7) + n) 1000000000) (ty := .int) rfl rfl rfl dX1_goOn_41 (fun H locs hP hS => ?_)
    exact x_retv hx hb hr9 hlk9 hS (by exact hP) dX1_goOn_44
set_option maxHeartbeats 4000000 in
set_option maxRecDepth 100000 in
theorem c_missedWith {l : Launch} {g : gE} {ad : Nat → Nat} (hI : g_inj ad 55) (M : gMem) (J : gMeL) (k : Nat) (hk : k < 5) (x : Nat) : CI l g ad dsX 55 yX0_missedWith cX0_missedWith 2 (some .int) 0 [.ref (ad (32 + k)), .int (nI x)] M J (nI (misd (M (32 + k) 4) (M (32 + k) 5) x)) M J := by
  refine CI.of (plainFor_of_name (by decide)) (Nat.le_of_ble_eq_true rfl) (fun p9 e9 s9 m9 args9 below9 meth9 c9 CF hK hr9 hlk9 hP hS ls hl => ?_)
  have hx := CF.1
  have hb := CF.2.1
  have hA : ∀ q, g_A ad 55 q → g_A ad 55 q := fun _ h => h
  have hl : lv_has ls 2 [(0, .ref (ad (32 + k))), (1, .int (nI x))] := hl
  refine lv_aload_n hx hb dX0_missedWith_0 rfl (lv_at hl 0 rfl) ?_
  refine x_geti CF hK hP (32 + k) (by omega) (dX_fig k (by omega)) rfl uX0 4 (by decide) rfl wd1_46 rfl dX0_missedWith_1 ?_
  refine lv_iload_n hx hb dX0_missedWith_4 rfl (lv_at hl 1 rfl) ?_
  refine lv_iconst (v := nI 4294967295) hx hb dX0_missedWith_5 (by decide) ?_
  refine x_ixor hx hb dX0_missedWith_6 ?_
  refine x_iand hx hb dX0_missedWith_7 ?_
  refine lv_aload_n hx hb dX0_missedWith_8 rfl (lv_at hl 0 rfl) ?_
  refine x_geti CF hK hP (32 + k) (by omega) (dX_fig k (by omega)) rfl uX0 5 (by decide) rfl wd1_49 rfl dX0_missedWith_9 ?_
  refine lv_iload_n hx hb dX0_missedWith_12 rfl (lv_at hl 1 rfl) ?_
  refine x_iand hx hb dX0_missedWith_13 ?_
  refine x_ior hx hb dX0_missedWith_14 ?_
  exact x_reti hx hb hr9 hlk9 hS hP (by first | rfl | (show nI (((M (32 + k) 4) &&& (x ^^^ 4294967295)) ||| ((M (32 + k) 5) &&& x)) = nI (misd (M (32 + k) 4) (M (32 + k) 5) x); first | rfl | omega)) dX0_missedWith_15
set_option maxHeartbeats 4000000 in
set_option maxRecDepth 100000 in
theorem c_pegsBy {l : Launch} {g : gE} {ad : Nat → Nat} (hI : g_inj ad 55) (M : gMem) (J : gMeL) (hw : wfX M) (k : Nat) (hk : k < 5) (lag : Nat) (hl9 : lag < 12) : CI l g ad dsX 55 yX1_pegsBy cX1_pegsBy 5 (some .int) 2 [.ref (ad 23), .ref (ad (32 + k)), .int (nI lag)] M J (nI (pegX M k lag)) M J := by
  refine CI.of (plainFor_of_name (by decide)) (Nat.le_of_ble_eq_true rfl) (fun p9 e9 s9 m9 args9 below9 meth9 c9 CF hK hr9 hlk9 hP hS ls hl => ?_)
  have hx := CF.1
  have hb := CF.2.1
  have hA : ∀ q, g_A ad 55 q → g_A ad 55 q := fun _ h => h
  have hl : lv_has ls 5 [(0, .ref (ad 23)), (1, .ref (ad (32 + k))), (2, .int (nI lag))] := hl
  have hf := hw.fig hk
  have hln := hw.line
  refine lv_iconst (v := nI 0) hx hb dX1_pegsBy_0 (by decide) ?_
  refine lv_istore_n (lv' := [(3, .int (nI 0)), (0, .ref (ad 23)), (1, .ref (ad (32 + k))), (2, .int (nI lag))]) hx hb dX1_pegsBy_1 rfl hl (by decide) rfl (fun ls hl => ?_)
  refine lv_iconst (v := nI 0) hx hb dX1_pegsBy_2 (by decide) ?_
  refine lv_istore (lv' := [(4, .int (nI 0)), (3, .int (nI 0)), (0, .ref (ad 23)), (1, .ref (ad (32 + k))), (2, .int (nI lag))]) hx hb dX1_pegsBy_3 hl (by decide) rfl (fun ls hl => ?_)
  have L5 : ∀ (d5 : Nat) (a : Nat), (a + d5 = 12) → (∀ (H : Heap) (locs : List Loc) (ls : Array Slot), g_P g ad dsX 55 M J H → va_S (g_A ad 55) s9.heap H locs → lv_has ls 5 [(4, .int (nI a)), (3, .int (nI (setN (fun q => decide (M 23 4 ≤ M (25 + M (32 + k) 1) ((q + lag) % 12))) a))), (0, .ref (ad 23)), (1, .ref (ad (32 + k))), (2, .int (nI lag))] → W p9 l e9 (g_rm 2) s9 m9 args9 below9 meth9 c9 H locs 0 0 (MQ below9 (va_Qi (fun r' (_ : Unit) => r' = (nI (pegX M k lag))) (fun _ t => g_P g ad dsX 55 M J t.heap) (g_A ad 55)) args9 s9 0 0 (g_A ad 55)) (F0 m9 5 ls [])) := by
    intro d5
    induction d5 with
    | zero =>
      intro a h_a H locs ls hP hS hl
      have b2 : misd (M (32 + k) 4) (M (32 + k) 5) (setN (fun q => decide (M 23 4 ≤ M (25 + M (32 + k) 1) ((q + lag) % 12))) a) < 4096 := misd_lt _ (by omega) (by omega)
      refine lv_iload hx hb dX1_pegsBy_5 (lv_at hl 0 rfl) ?_
      refine lv_bipush (v := nI 12) hx hb dX1_pegsBy_7 (by decide) ?_
      refine x_zge (u := (a : Nat)) (v := (12 : Int)) (tgt := 49) hx hb (nI_toInt (by omega)) (rfl) dX1_pegsBy_9 (by decide) (fun h_1 => ?_) (fun h_1 => (by omega : False).elim)
      refine lv_aload_n hx hb dX1_pegsBy_49 rfl (lv_at hl 3 rfl) ?_
      refine lv_iload_n hx hb dX1_pegsBy_50 rfl (lv_at hl 1 rfl) ?_
      refine x_callVI CF hK hP hS hA hl (As := [.int (nI (setN (fun q => decide (M 23 4 ≤ M (25 + M (32 + k) 1) ((q + lag) % 12))) a))]) (rest := []) (c_missedWith hI M J k (by omega) (setN (fun q => decide (M 23 4 ≤ M (25 + M (32 + k) 1) ((q + lag) % 12))) a)) kw_X0_missedWith wd2_212 (by omega) (dX_fig k (by omega)) rfl rfl ⟨Nat.le_of_ble_eq_true rfl, Nat.le_of_ble_eq_true rfl⟩ ⟨Nat.le_refl _, Nat.le_refl _⟩ (Nat.le_of_ble_eq_true rfl) dX1_pegsBy_51 (fun H locs hP hS => ?_)
      refine x_callSP CF hK hP hS hl (As := [.int (nI (misd (M (32 + k) 4) (M (32 + k) 5) (setN (fun q => decide (M 23 4 ≤ M (25 + M (32 + k) 1) ((q + lag) % 12))) a)))]) (rest := []) (c_bitCount (misd (M (32 + k) 4) (M (32 + k) 5) (setN (fun q => decide (M 23 4 ≤ M (25 + M (32 + k) 1) ((q + lag) % 12))) a)) (by omega)) kw_J6_bitCount_0f7a4 wd2_143 rfl ⟨Nat.le_of_ble_eq_true rfl, Nat.le_of_ble_eq_true rfl⟩ ⟨Nat.le_refl _, Nat.le_refl _⟩ (Nat.le_of_ble_eq_true rfl) dX1_pegsBy_54 (fun H locs hP hS => ?_)
      exact x_reti hx hb hr9 hlk9 hS hP (by rw [show a = 12 by omega]; rfl) dX1_pegsBy_57
    | succ d5 ih5 =>
      intro a h_a H locs ls hP hS hl
      have b1 : M (25 + M (32 + k) 1) ((a + lag) % 12) ≤ 9 := hw.hair (by omega) (by omega)
      refine lv_iload hx hb dX1_pegsBy_5 (lv_at hl 0 rfl) ?_
      refine lv_bipush (v := nI 12) hx hb dX1_pegsBy_7 (by decide) ?_
      refine x_zge (u := (a : Nat)) (v := (12 : Int)) (tgt := 49) hx hb (nI_toInt (by omega)) (rfl) dX1_pegsBy_9 (by decide) (fun h_2 => (by omega : False).elim) (fun h_2 => ?_)
      refine lv_aload_n hx hb dX1_pegsBy_12 rfl (lv_at hl 2 rfl) ?_
      refine x_getr CF hK hP 23 (by decide) dX_23 rfl uX1 0 (by decide) (j := 24) rfl wd1_67 rfl dX1_pegsBy_13 ?_
      refine lv_aload_n hx hb dX1_pegsBy_16 rfl (lv_at hl 3 rfl) ?_
      refine x_geti CF hK hP (32 + k) (by omega) (dX_fig k (by omega)) rfl uX0 1 (by decide) rfl wd1_38 rfl dX1_pegsBy_17 ?_
      refine x_aald CF hK hP 24 (by decide) (t := 2) dX_24 (by decide) (M (32 + k) 1) (by omega) (by decide) (j := (25 + (M (32 + k) 1))) (oX_hair (M (32 + k) 1) (by omega)) dX1_pegsBy_20 ?_
      refine lv_iload hx hb dX1_pegsBy_21 (lv_at hl 0 rfl) ?_
      refine lv_iload_n hx hb dX1_pegsBy_23 rfl (lv_at hl 4 rfl) ?_
      refine x_iadd hx hb dX1_pegsBy_24 ?_
      refine x_callNP CF hK hP hS hl (As := [.int (nI (a + lag))]) (rest := [.ref (ad (25 + (M (32 + k) 1)))]) (c_angleOf_n (a + lag) (by omega)) kw_X5_angleOf hK.2.1 rfl ⟨Nat.le_of_ble_eq_true rfl, Nat.le_of_ble_eq_true rfl⟩ ⟨Nat.le_refl _, Nat.le_refl _⟩ (Nat.le_of_ble_eq_true rfl) dX1_pegsBy_25 (fun H locs hP hS => ?_)
      refine x_iald CF hK hP (25 + (M (32 + k) 1)) (by omega) (dX_hair (M (32 + k) 1) (by omega)) ((a + lag) % 12) (by omega) (by decide) dX1_pegsBy_28 ?_
      refine lv_aload_n hx hb dX1_pegsBy_29 rfl (lv_at hl 2 rfl) ?_
      refine x_geti CF hK hP 23 (by decide) dX_23 rfl uX1 4 (by decide) rfl wd1_75 rfl dX1_pegsBy_30 ?_
      refine x_zlt (u := (M (25 + (M (32 + k) 1)) ((a + lag) % 12) : Nat)) (v := (M 23 4 : Nat)) (tgt := 43) hx hb (nI_toInt (by omega)) (nI_toInt (by omega)) dX1_pegsBy_33 (by decide) (fun h_3 => ?_) (fun h_3 => ?_)
      · refine lv_iinc (v := nI (a + 1)) (lv' := [(4, .int (nI (a + 1))), (3, .int (nI (setN (fun q => decide (M 23 4 ≤ M (25 + M (32 + k) 1) ((q + lag) % 12))) a))), (0, .ref (ad 23)), (1, .ref (ad (32 + k))), (2, .int (nI lag))]) hx hb dX1_pegsBy_43 hl (k := 0) rfl (n_inc a 1) (by decide) rfl (fun ls hl => ?_)
        refine lv_goto (tgt := 5) hx hb dX1_pegsBy_46 (by decide) ?_
        have hl0 : lv_has ls 5 [(4, .int (nI (a + 1))), (3, .int (nI (setN (fun q => decide (M 23 4 ≤ M (25 + M (32 + k) 1) ((q + lag) % 12))) (a + 1)))), (0, .ref (ad 23)), (1, .ref (ad (32 + k))), (2, .int (nI lag))] := by rw [(show nI (setN (fun q => decide (M 23 4 ≤ M (25 + M (32 + k) 1) ((q + lag) % 12))) (a + 1)) = nI (setN (fun q => decide (M 23 4 ≤ M (25 + M (32 + k) 1) ((q + lag) % 12))) a) from by first | rfl | (congr 1; omega) | (refine congrArg nI ?_; first | rfl | (exact (setN_t (decide_eq_true (by omega)))) | (exact (setN_f (decide_eq_false (by omega)))) | (rw [Nat.or_zero]; exact (setN_f (decide_eq_false (by omega))))))]; exact lv_sub hl [0, 1, 2, 3, 4] rfl
        exact ih5 (a + 1) (by omega) _ _ _ (hP) hS hl0
      · refine lv_iload_n hx hb dX1_pegsBy_36 rfl (lv_at hl 1 rfl) ?_
        refine lv_iconst (v := nI 1) hx hb dX1_pegsBy_37 (by decide) ?_
        refine lv_iload hx hb dX1_pegsBy_38 (lv_at hl 0 rfl) ?_
        refine x_ishl hx hb (by omega) dX1_pegsBy_40 ?_
        refine x_ior hx hb dX1_pegsBy_41 ?_
        refine lv_istore_n (lv' := [(3, .int (nI ((setN (fun q => decide (M 23 4 ≤ M (25 + M (32 + k) 1) ((q + lag) % 12))) a) ||| (1 <<< a)))), (4, .int (nI a)), (0, .ref (ad 23)), (1, .ref (ad (32 + k))), (2, .int (nI lag))]) hx hb dX1_pegsBy_42 rfl hl (by decide) rfl (fun ls hl => ?_)
        refine lv_iinc (v := nI (a + 1)) (lv' := [(4, .int (nI (a + 1))), (3, .int (nI ((setN (fun q => decide (M 23 4 ≤ M (25 + M (32 + k) 1) ((q + lag) % 12))) a) ||| (1 <<< a)))), (0, .ref (ad 23)), (1, .ref (ad (32 + k))), (2, .int (nI lag))]) hx hb dX1_pegsBy_43 hl (k := 1) rfl (n_inc a 1) (by decide) rfl (fun ls hl => ?_)
        refine lv_goto (tgt := 5) hx hb dX1_pegsBy_46 (by decide) ?_
        have hl0 : lv_has ls 5 [(4, .int (nI (a + 1))), (3, .int (nI (setN (fun q => decide (M 23 4 ≤ M (25 + M (32 + k) 1) ((q + lag) % 12))) (a + 1)))), (0, .ref (ad 23)), (1, .ref (ad (32 + k))), (2, .int (nI lag))] := by rw [(show nI (setN (fun q => decide (M 23 4 ≤ M (25 + M (32 + k) 1) ((q + lag) % 12))) (a + 1)) = nI ((setN (fun q => decide (M 23 4 ≤ M (25 + M (32 + k) 1) ((q + lag) % 12))) a) ||| (1 <<< a)) from by first | rfl | (congr 1; omega) | (refine congrArg nI ?_; first | rfl | (exact (setN_t (decide_eq_true (by omega)))) | (exact (setN_f (decide_eq_false (by omega)))) | (rw [Nat.or_zero]; exact (setN_f (decide_eq_false (by omega))))))]; exact lv_sub hl [0, 1, 2, 3, 4] rfl
        exact ih5 (a + 1) (by omega) _ _ _ (hP) hS hl0
  have hl0 : lv_has ls 5 [(4, .int (nI 0)), (3, .int (nI (setN (fun q => decide (M 23 4 ≤ M (25 + M (32 + k) 1) ((q + lag) % 12))) 0))), (0, .ref (ad 23)), (1, .ref (ad (32 + k))), (2, .int (nI lag))] := by rw [(show nI (setN (fun q => decide (M 23 4 ≤ M (25 + M (32 + k) 1) ((q + lag) % 12))) 0) = nI 0 from rfl)]; exact lv_sub hl [0, 1, 2, 3, 4] rfl
  exact L5 12 0 (by omega) _ _ _ (hP) hS hl0
set_option maxHeartbeats 4000000 in
set_option maxRecDepth 100000 in
theorem c_beatsTill {l : Launch} {g : gE} {ad : Nat → Nat} (hI : g_inj ad 55) (M : gMem) (J : gMeL) (hw : wfX M) (t : Nat) (ht : t < 12) : CI l g ad dsX 55 yX1_beatsTill cX1_beatsTill 5 (some .int) 3 [.ref (ad 23), .int (nI t)] M J (nI (bts (M 37) (M 23 5) t (M 23 6) 12)) M J := by
  refine CI.of (plainFor_of_name (by decide)) (Nat.le_of_ble_eq_true rfl) (fun p9 e9 s9 m9 args9 below9 meth9 c9 CF hK hr9 hlk9 hP hS ls hl => ?_)
  have hx := CF.1
  have hb := CF.2.1
  have hA : ∀ q, g_A ad 55 q → g_A ad 55 q := fun _ h => h
  have hl : lv_has ls 5 [(0, .ref (ad 23)), (1, .int (nI t))] := hl
  have hat := hw.at
  refine lv_iconst (v := nI 0) hx hb dX1_beatsTill_0 (by decide) ?_
  refine lv_istore_n (lv' := [(2, .int (nI 0)), (0, .ref (ad 23)), (1, .int (nI t))]) hx hb dX1_beatsTill_1 rfl hl (by decide) rfl (fun ls hl => ?_)
  refine lv_aload_n hx hb dX1_beatsTill_2 rfl (lv_at hl 1 rfl) ?_
  refine x_geti CF hK hP 23 (by decide) dX_23 rfl uX1 6 (by decide) rfl wd1_79 rfl dX1_beatsTill_3 ?_
  refine lv_istore_n (lv' := [(3, .int (nI (M 23 6))), (2, .int (nI 0)), (0, .ref (ad 23)), (1, .int (nI t))]) hx hb dX1_beatsTill_6 rfl hl (by decide) rfl (fun ls hl => ?_)
  refine lv_iconst (v := nI 0) hx hb dX1_beatsTill_7 (by decide) ?_
  refine lv_istore (lv' := [(4, .int (nI 0)), (3, .int (nI (M 23 6))), (2, .int (nI 0)), (0, .ref (ad 23)), (1, .int (nI t))]) hx hb dX1_beatsTill_8 hl (by decide) rfl (fun ls hl => ?_)
  have L10 : ∀ (d10 : Nat) (k : Nat) (a : Nat) (w : Nat), (k + d10 = 12) → (a < 12) → (w + bts (M 37) (M 23 5) t a d10 = bts (M 37) (M 23 5) t (M 23 6) 12) → (∀ (H : Heap) (locs : List Loc) (ls : Array Slot), g_P g ad dsX 55 M J H → va_S (g_A ad 55) s9.heap H locs → lv_has ls 5 [(4, .int (nI k)), (3, .int (nI a)), (2, .int (nI w)), (0, .ref (ad 23)), (1, .int (nI t))] → W p9 l e9 (g_rm 3) s9 m9 args9 below9 meth9 c9 H locs 0 0 (MQ below9 (va_Qi (fun r' (_ : Unit) => r' = (nI (bts (M 37) (M 23 5) t (M 23 6) 12))) (fun _ t => g_P g ad dsX 55 M J t.heap) (g_A ad 55)) args9 s9 0 0 (g_A ad 55)) (F0 m9 10 ls [])) := by
    intro d10
    induction d10 with
    | zero =>
      intro k a w hk ha hR H locs ls hP hS hl
      refine lv_iload hx hb dX1_beatsTill_10 (lv_at hl 0 rfl) ?_
      refine lv_bipush (v := nI 12) hx hb dX1_beatsTill_12 (by decide) ?_
      refine x_zge (u := (k : Nat)) (v := (12 : Int)) (tgt := 43) hx hb (nI_toInt (by omega)) (rfl) dX1_beatsTill_14 (by decide) (fun h_1 => ?_) (fun h_1 => (by omega : False).elim)
      refine lv_iload_n hx hb dX1_beatsTill_43 rfl (lv_at hl 2 rfl) ?_
      exact x_reti hx hb hr9 hlk9 hS hP (congrArg nI (by simpa [bts] using hR)) dX1_beatsTill_44
    | succ d10 ih10 =>
      intro k a w hk ha hR H locs ls hP hS hl
      have b1 := bhd_lt (M 23 5) a
      have b2 := hw.beat ha
      rw [show bts (M 37) (M 23 5) t a (d10 + 1) = if a = t then 0 else M 37 a + bts (M 37) (M 23 5) t (bhd (M 23 5) a) d10 from rfl] at hR
      refine lv_iload hx hb dX1_beatsTill_10 (lv_at hl 0 rfl) ?_
      refine lv_bipush (v := nI 12) hx hb dX1_beatsTill_12 (by decide) ?_
      refine x_zge (u := (k : Nat)) (v := (12 : Int)) (tgt := 43) hx hb (nI_toInt (by omega)) (rfl) dX1_beatsTill_14 (by decide) (fun h_2 => (by omega : False).elim) (fun h_2 => ?_)
      refine lv_iload_n hx hb dX1_beatsTill_17 rfl (lv_at hl 1 rfl) ?_
      refine lv_iload_n hx hb dX1_beatsTill_18 rfl (lv_at hl 4 rfl) ?_
      refine x_zeq (u := (a : Nat)) (v := (t : Nat)) (tgt := 43) hx hb (nI_toInt (by omega)) (nI_toInt (by omega)) dX1_beatsTill_19 (by decide) (fun h_3 => ?_) (fun h_3 => ?_)
      · refine lv_iload_n hx hb dX1_beatsTill_43 rfl (lv_at hl 2 rfl) ?_
        exact x_reti hx hb hr9 hlk9 hS hP (congrArg nI (by rw [if_pos (by omega)] at hR; omega)) dX1_beatsTill_44
      · refine lv_iload_n hx hb dX1_beatsTill_22 rfl (lv_at hl 2 rfl) ?_
        refine lv_aload_n hx hb dX1_beatsTill_23 rfl (lv_at hl 3 rfl) ?_
        refine x_getr CF hK hP 23 (by decide) dX_23 rfl uX1 8 (by decide) (j := 37) rfl wd1_83 rfl dX1_beatsTill_24 ?_
        refine lv_iload_n hx hb dX1_beatsTill_27 rfl (lv_at hl 1 rfl) ?_
        refine x_iald CF hK hP 37 (by decide) dX_37 a (by omega) (by decide) dX1_beatsTill_28 ?_
        refine x_iadd hx hb dX1_beatsTill_29 ?_
        refine lv_istore_n (lv' := [(2, .int (nI (w + (M 37 a)))), (4, .int (nI k)), (3, .int (nI a)), (0, .ref (ad 23)), (1, .int (nI t))]) hx hb dX1_beatsTill_30 rfl hl (by decide) rfl (fun ls hl => ?_)
        refine lv_aload_n hx hb dX1_beatsTill_31 rfl (lv_at hl 3 rfl) ?_
        refine lv_iload_n hx hb dX1_beatsTill_32 rfl (lv_at hl 2 rfl) ?_
        refine x_callVI CF hK hP hS hA hl (As := [.int (nI a)]) (rest := []) (c_oneBehind hI M J hw a (by omega)) kw_X1_oneBehind wd2_127 (by decide) dX_23 rfl rfl ⟨Nat.le_of_ble_eq_true rfl, Nat.le_of_ble_eq_true rfl⟩ ⟨Nat.le_refl _, Nat.le_refl _⟩ (Nat.le_of_ble_eq_true rfl) dX1_beatsTill_33 (fun H locs hP hS => ?_)
        refine lv_istore_n (lv' := [(3, .int (nI (bhd (M 23 5) a))), (2, .int (nI (w + (M 37 a)))), (4, .int (nI k)), (0, .ref (ad 23)), (1, .int (nI t))]) hx hb dX1_beatsTill_36 rfl hl (by decide) rfl (fun ls hl => ?_)
        refine lv_iinc (v := nI (k + 1)) (lv' := [(4, .int (nI (k + 1))), (3, .int (nI (bhd (M 23 5) a))), (2, .int (nI (w + (M 37 a)))), (0, .ref (ad 23)), (1, .int (nI t))]) hx hb dX1_beatsTill_37 hl (k := 2) rfl (n_inc k 1) (by decide) rfl (fun ls hl => ?_)
        refine lv_goto (tgt := 10) hx hb dX1_beatsTill_40 (by decide) ?_
        have hl0 : lv_has ls 5 [(4, .int (nI (k + 1))), (3, .int (nI (bhd (M 23 5) a))), (2, .int (nI (w + M 37 a))), (0, .ref (ad 23)), (1, .int (nI t))] := by rw [(show nI (w + M 37 a) = nI (w + (M 37 a)) from by first | rfl | (congr 1; omega) | (refine congrArg nI ?_; first | rfl | (exact (setN_t (decide_eq_true (by omega)))) | (exact (setN_f (decide_eq_false (by omega)))) | (rw [Nat.or_zero]; exact (setN_f (decide_eq_false (by omega))))))]; exact lv_sub hl [0, 1, 2, 3, 4] rfl
        exact ih10 (k + 1) (bhd (M 23 5) a) (w + M 37 a) (by omega) (b1) (by rw [if_neg (by omega)] at hR; omega) _ _ _ (hP) hS hl0
  have hl0 : lv_has ls 5 [(4, .int (nI 0)), (3, .int (nI (M 23 6))), (2, .int (nI 0)), (0, .ref (ad 23)), (1, .int (nI t))] := lv_sub hl [0, 1, 2, 3, 4] rfl
  exact L10 12 0 (M 23 6) 0 (by omega) (by omega) (by omega) _ _ _ (hP) hS hl0
set_option maxHeartbeats 4000000 in
set_option maxRecDepth 100000 in
theorem c_angleAfter {l : Launch} {g : gE} {ad : Nat → Nat} (hI : g_inj ad 55) (M : gMem) (J : gMeL) (hw : wfX M) (b : Nat) (hb9 : b ≤ 99999) : CI l g ad dsX 55 yX1_angleAfter cX1_angleAfter 6 (some .int) 3 [.ref (ad 23), .int (nI b)] M J (nI (aftX M b)) M J := by
  refine CI.of (plainFor_of_name (by decide)) (Nat.le_of_ble_eq_true rfl) (fun p9 e9 s9 m9 args9 below9 meth9 c9 CF hK hr9 hlk9 hP hS ls hl => ?_)
  have hx := CF.1
  have hb := CF.2.1
  have hA : ∀ q, g_A ad 55 q → g_A ad 55 q := fun _ h => h
  have hl : lv_has ls 6 [(0, .ref (ad 23)), (1, .int (nI b))] := hl
  have hat := hw.at
  refine lv_iconst (v := nI 0) hx hb dX1_angleAfter_0 (by decide) ?_
  refine lv_istore_n (lv' := [(2, .int (nI 0)), (0, .ref (ad 23)), (1, .int (nI b))]) hx hb dX1_angleAfter_1 rfl hl (by decide) rfl (fun ls hl => ?_)
  refine lv_iconst (v := nI 0) hx hb dX1_angleAfter_2 (by decide) ?_
  refine lv_istore_n (lv' := [(3, .int (nI 0)), (2, .int (nI 0)), (0, .ref (ad 23)), (1, .int (nI b))]) hx hb dX1_angleAfter_3 rfl hl (by decide) rfl (fun ls hl => ?_)
  have L4 : ∀ (d4 : Nat) (i : Nat), (i + d4 = 12) → (∀ (H : Heap) (locs : List Loc) (ls : Array Slot), g_P g ad dsX 55 M J H → va_S (g_A ad 55) s9.heap H locs → lv_has ls 6 [(3, .int (nI i)), (2, .int (nI (sumN (M 37) i))), (0, .ref (ad 23)), (1, .int (nI b))] → W p9 l e9 (g_rm 3) s9 m9 args9 below9 meth9 c9 H locs 0 0 (MQ below9 (va_Qi (fun r' (_ : Unit) => r' = (nI (aftX M b))) (fun _ t => g_P g ad dsX 55 M J t.heap) (g_A ad 55)) args9 s9 0 0 (g_A ad 55)) (F0 m9 4 ls [])) := by
    intro d4
    induction d4 with
    | zero =>
      intro i h_i H locs ls hP hS hl
      have e12 : i = 12 := by omega
      have s1 := sumN_ge (f := M 37) (n := i) (fun k hk => (hw.beat (show k < 12 by omega)).1)
      have s2 := sumN_le (f := M 37) (n := i) (B := 99) (fun k hk => (hw.beat (show k < 12 by omega)).2)
      refine lv_iload_n hx hb dX1_angleAfter_4 rfl (lv_at hl 0 rfl) ?_
      refine lv_bipush (v := nI 12) hx hb dX1_angleAfter_5 (by decide) ?_
      refine x_zge (u := (i : Nat)) (v := (12 : Int)) (tgt := 25) hx hb (nI_toInt (by omega)) (rfl) dX1_angleAfter_7 (by decide) (fun h_1 => ?_) (fun h_1 => (by omega : False).elim)
      refine lv_iload_n hx hb dX1_angleAfter_25 rfl (lv_at hl 1 rfl) ?_
      refine x_yle (u := (sumN (M 37) i : Nat)) (tgt := 35) hx hb (nI_toInt (by omega)) dX1_angleAfter_26 (by decide) (fun h_2 => (by omega : False).elim) (fun h_2 => ?_)
      refine lv_iload_n hx hb dX1_angleAfter_29 rfl (lv_at hl 3 rfl) ?_
      refine lv_iload_n hx hb dX1_angleAfter_30 rfl (lv_at hl 1 rfl) ?_
      refine x_irem hx hb (by omega) (by omega) (by omega) dX1_angleAfter_31 ?_
      refine lv_goto (tgt := 36) hx hb dX1_angleAfter_32 (by decide) ?_
      refine lv_istore_n (lv' := [(3, .int (nI (b % (sumN (M 37) i)))), (2, .int (nI (sumN (M 37) i))), (0, .ref (ad 23)), (1, .int (nI b))]) hx hb dX1_angleAfter_36 rfl hl (by decide) rfl (fun ls hl => ?_)
      refine lv_aload_n hx hb dX1_angleAfter_37 rfl (lv_at hl 2 rfl) ?_
      refine x_geti CF hK hP 23 (by decide) dX_23 rfl uX1 6 (by decide) rfl wd1_79 rfl dX1_angleAfter_38 ?_
      refine lv_istore (lv' := [(4, .int (nI (M 23 6))), (3, .int (nI (b % (sumN (M 37) i)))), (2, .int (nI (sumN (M 37) i))), (0, .ref (ad 23)), (1, .int (nI b))]) hx hb dX1_angleAfter_41 hl (by decide) rfl (fun ls hl => ?_)
      refine lv_iconst (v := nI 0) hx hb dX1_angleAfter_43 (by decide) ?_
      refine lv_istore (lv' := [(5, .int (nI 0)), (4, .int (nI (M 23 6))), (3, .int (nI (b % (sumN (M 37) i)))), (2, .int (nI (sumN (M 37) i))), (0, .ref (ad 23)), (1, .int (nI b))]) hx hb dX1_angleAfter_44 hl (by decide) rfl (fun ls hl => ?_)
      have L46 : ∀ (d46 : Nat) (k : Nat) (a : Nat) (w : Nat), (k + d46 = 12) → (a < 12) → (w < 100000) → (aft (M 37) (M 23 5) w a d46 = aft (M 37) (M 23 5) (b % sumN (M 37) 12) (M 23 6) 12) → (∀ (H : Heap) (locs : List Loc) (ls : Array Slot), g_P g ad dsX 55 M J H → va_S (g_A ad 55) s9.heap H locs → lv_has ls 6 [(5, .int (nI k)), (4, .int (nI a)), (3, .int (nI w)), (0, .ref (ad 23)), (1, .int (nI b))] → W p9 l e9 (g_rm 3) s9 m9 args9 below9 meth9 c9 H locs 0 0 (MQ below9 (va_Qi (fun r' (_ : Unit) => r' = (nI (aftX M b))) (fun _ t => g_P g ad dsX 55 M J t.heap) (g_A ad 55)) args9 s9 0 0 (g_A ad 55)) (F0 m9 46 ls [])) := by
        intro d46
        induction d46 with
        | zero =>
          intro k a w hk ha hw2 hR H locs ls hP hS hl
          refine lv_iload hx hb dX1_angleAfter_46 (lv_at hl 0 rfl) ?_
          refine lv_bipush (v := nI 12) hx hb dX1_angleAfter_48 (by decide) ?_
          refine x_zge (u := (k : Nat)) (v := (12 : Int)) (tgt := 88) hx hb (nI_toInt (by omega)) (rfl) dX1_angleAfter_50 (by decide) (fun h_3 => ?_) (fun h_3 => (by omega : False).elim)
          refine lv_iload hx hb dX1_angleAfter_88 (lv_at hl 1 rfl) ?_
          exact x_reti hx hb hr9 hlk9 hS hP (congrArg nI hR) dX1_angleAfter_90
        | succ d46 ih46 =>
          intro k a w hk ha hw2 hR H locs ls hP hS hl
          have b1 := bhd_lt (M 23 5) a
          have b2 := hw.beat ha
          simp only [aft] at hR
          refine lv_iload hx hb dX1_angleAfter_46 (lv_at hl 0 rfl) ?_
          refine lv_bipush (v := nI 12) hx hb dX1_angleAfter_48 (by decide) ?_
          refine x_zge (u := (k : Nat)) (v := (12 : Int)) (tgt := 88) hx hb (nI_toInt (by omega)) (rfl) dX1_angleAfter_50 (by decide) (fun h_4 => (by omega : False).elim) (fun h_4 => ?_)
          refine lv_iload_n hx hb dX1_angleAfter_53 rfl (lv_at hl 2 rfl) ?_
          refine lv_aload_n hx hb dX1_angleAfter_54 rfl (lv_at hl 3 rfl) ?_
          refine x_getr CF hK hP 23 (by decide) dX_23 rfl uX1 8 (by decide) (j := 37) rfl wd1_83 rfl dX1_angleAfter_55 ?_
          refine lv_iload hx hb dX1_angleAfter_58 (lv_at hl 1 rfl) ?_
          refine x_iald CF hK hP 37 (by decide) dX_37 a (by omega) (by decide) dX1_angleAfter_60 ?_
          refine x_zlt (u := (w : Nat)) (v := (M 37 a : Nat)) (tgt := 88) hx hb (nI_toInt (by omega)) (nI_toInt (by omega)) dX1_angleAfter_61 (by decide) (fun h_5 => ?_) (fun h_5 => ?_)
          · refine lv_iload hx hb dX1_angleAfter_88 (lv_at hl 1 rfl) ?_
            exact x_reti hx hb hr9 hlk9 hS hP (congrArg nI (by rw [if_pos (by omega)] at hR; exact hR)) dX1_angleAfter_90
          · refine lv_iload_n hx hb dX1_angleAfter_64 rfl (lv_at hl 2 rfl) ?_
            refine lv_aload_n hx hb dX1_angleAfter_65 rfl (lv_at hl 3 rfl) ?_
            refine x_getr CF hK hP 23 (by decide) dX_23 rfl uX1 8 (by decide) (j := 37) rfl wd1_83 rfl dX1_angleAfter_66 ?_
            refine lv_iload hx hb dX1_angleAfter_69 (lv_at hl 1 rfl) ?_
            refine x_iald CF hK hP 37 (by decide) dX_37 a (by omega) (by decide) dX1_angleAfter_71 ?_
            refine x_isub hx hb (by omega) dX1_angleAfter_72 ?_
            refine lv_istore_n (lv' := [(3, .int (nI (w - (M 37 a)))), (5, .int (nI k)), (4, .int (nI a)), (0, .ref (ad 23)), (1, .int (nI b))]) hx hb dX1_angleAfter_73 rfl hl (by decide) rfl (fun ls hl => ?_)
            refine lv_aload_n hx hb dX1_angleAfter_74 rfl (lv_at hl 3 rfl) ?_
            refine lv_iload hx hb dX1_angleAfter_75 (lv_at hl 2 rfl) ?_
            refine x_callVI CF hK hP hS hA hl (As := [.int (nI a)]) (rest := []) (c_oneBehind hI M J hw a (by omega)) kw_X1_oneBehind wd2_127 (by decide) dX_23 rfl rfl ⟨Nat.le_of_ble_eq_true rfl, Nat.le_of_ble_eq_true rfl⟩ ⟨Nat.le_refl _, Nat.le_refl _⟩ (Nat.le_of_ble_eq_true rfl) dX1_angleAfter_77 (fun H locs hP hS => ?_)
            refine lv_istore (lv' := [(4, .int (nI (bhd (M 23 5) a))), (3, .int (nI (w - (M 37 a)))), (5, .int (nI k)), (0, .ref (ad 23)), (1, .int (nI b))]) hx hb dX1_angleAfter_80 hl (by decide) rfl (fun ls hl => ?_)
            refine lv_iinc (v := nI (k + 1)) (lv' := [(5, .int (nI (k + 1))), (4, .int (nI (bhd (M 23 5) a))), (3, .int (nI (w - (M 37 a)))), (0, .ref (ad 23)), (1, .int (nI b))]) hx hb dX1_angleAfter_82 hl (k := 2) rfl (n_inc k 1) (by decide) rfl (fun ls hl => ?_)
            refine lv_goto (tgt := 46) hx hb dX1_angleAfter_85 (by decide) ?_
            have hl0 : lv_has ls 6 [(5, .int (nI (k + 1))), (4, .int (nI (bhd (M 23 5) a))), (3, .int (nI (w - M 37 a))), (0, .ref (ad 23)), (1, .int (nI b))] := by rw [(show nI (w - M 37 a) = nI (w - (M 37 a)) from by first | rfl | (congr 1; omega) | (refine congrArg nI ?_; first | rfl | (exact (setN_t (decide_eq_true (by omega)))) | (exact (setN_f (decide_eq_false (by omega)))) | (rw [Nat.or_zero]; exact (setN_f (decide_eq_false (by omega))))))]; exact lv_sub hl [0, 1, 2, 3, 4] rfl
            exact ih46 (k + 1) (bhd (M 23 5) a) (w - M 37 a) (by omega) (b1) (by omega) (by rw [if_neg (by omega)] at hR; exact hR) _ _ _ (hP) hS hl0
      have hl0 : lv_has ls 6 [(5, .int (nI 0)), (4, .int (nI (M 23 6))), (3, .int (nI (b % sumN (M 37) i))), (0, .ref (ad 23)), (1, .int (nI b))] := by rw [(show nI (b % sumN (M 37) i) = nI (b % (sumN (M 37) i)) from by first | rfl | (congr 1; omega) | (refine congrArg nI ?_; first | rfl | (exact (setN_t (decide_eq_true (by omega)))) | (exact (setN_f (decide_eq_false (by omega)))) | (rw [Nat.or_zero]; exact (setN_f (decide_eq_false (by omega))))))]; exact lv_sub hl [0, 1, 2, 4, 5] rfl
      exact L46 12 0 (M 23 6) (b % sumN (M 37) i) (by omega) (by omega) (Nat.lt_of_le_of_lt (Nat.mod_le _ _) (by omega)) (by rw [e12]) _ _ _ (hP) hS hl0
    | succ d4 ih4 =>
      intro i h_i H locs ls hP hS hl
      refine lv_iload_n hx hb dX1_angleAfter_4 rfl (lv_at hl 0 rfl) ?_
      refine lv_bipush (v := nI 12) hx hb dX1_angleAfter_5 (by decide) ?_
      refine x_zge (u := (i : Nat)) (v := (12 : Int)) (tgt := 25) hx hb (nI_toInt (by omega)) (rfl) dX1_angleAfter_7 (by decide) (fun h_6 => (by omega : False).elim) (fun h_6 => ?_)
      refine lv_iload_n hx hb dX1_angleAfter_10 rfl (lv_at hl 1 rfl) ?_
      refine lv_aload_n hx hb dX1_angleAfter_11 rfl (lv_at hl 2 rfl) ?_
      refine x_getr CF hK hP 23 (by decide) dX_23 rfl uX1 8 (by decide) (j := 37) rfl wd1_83 rfl dX1_angleAfter_12 ?_
      refine lv_iload_n hx hb dX1_angleAfter_15 rfl (lv_at hl 0 rfl) ?_
      refine x_iald CF hK hP 37 (by decide) dX_37 i (by omega) (by decide) dX1_angleAfter_16 ?_
      refine x_iadd hx hb dX1_angleAfter_17 ?_
      refine lv_istore_n (lv' := [(2, .int (nI ((sumN (M 37) i) + (M 37 i)))), (3, .int (nI i)), (0, .ref (ad 23)), (1, .int (nI b))]) hx hb dX1_angleAfter_18 rfl hl (by decide) rfl (fun ls hl => ?_)
      refine lv_iinc (v := nI (i + 1)) (lv' := [(3, .int (nI (i + 1))), (2, .int (nI ((sumN (M 37) i) + (M 37 i)))), (0, .ref (ad 23)), (1, .int (nI b))]) hx hb dX1_angleAfter_19 hl (k := 1) rfl (n_inc i 1) (by decide) rfl (fun ls hl => ?_)
      refine lv_goto (tgt := 4) hx hb dX1_angleAfter_22 (by decide) ?_
      have hl0 : lv_has ls 6 [(3, .int (nI (i + 1))), (2, .int (nI (sumN (M 37) (i + 1)))), (0, .ref (ad 23)), (1, .int (nI b))] := by rw [(show nI (sumN (M 37) (i + 1)) = nI ((sumN (M 37) i) + (M 37 i)) from rfl)]; exact lv_sub hl [0, 1, 2, 3] rfl
      exact ih4 (i + 1) (by omega) _ _ _ (hP) hS hl0
  have hl0 : lv_has ls 6 [(3, .int (nI 0)), (2, .int (nI (sumN (M 37) 0))), (0, .ref (ad 23)), (1, .int (nI b))] := by rw [(show nI (sumN (M 37) 0) = nI 0 from rfl)]; exact lv_sub hl [0, 1, 2, 3] rfl
  exact L4 12 0 (by omega) _ _ _ (hP) hS hl0
