set_option maxHeartbeats 4000000 in
set_option maxRecDepth 100000 in
theorem r_bars_null {l : Launch} {g : gE} {ad : Nat → Nat} (hI : g_inj ad 14) (M : gMem) (J : gMeL) (s : Nat) (hs : s < 4) (ln i n : Int32) (h : M 10 s = 4294967295) : CI l g ad dsR 14 yX6_bars cX6_bars 5 (some .int) 0 [.ref (ad 0), .int (nI s), .int ln, .int i, .int n] M J (nI 4294967285) M J := by
  refine CI.of (plainFor_of_name (by decide)) (Nat.le_of_ble_eq_true rfl) (fun p9 e9 s9 m9 args9 below9 meth9 c9 CF hK hr9 hlk9 hP hS ls hl => ?_)
  have hx := CF.1
  have hb := CF.2.1
  have hA : ∀ q, g_A ad 14 q → g_A ad 14 q := fun _ h => h
  have hl : lv_has ls 5 [(0, .ref (ad 0)), (1, .int (nI s)), (2, .int ln), (3, .int i), (4, .int n)] := hl
  refine lv_aload_n hx hb dX6_bars_0 rfl (lv_at hl 0 rfl) ?_
  refine x_getr CF hK hP 0 (by decide) dR_0 rfl uX6 11 (by decide) (j := 10) rfl wd3_107 rfl dX6_bars_1 ?_
  refine lv_iload_n hx hb dX6_bars_4 rfl (lv_at hl 1 rfl) ?_
  refine x_iald CF hK hP 10 (by decide) dR_10 s (by omega) (by decide) dX6_bars_5 ?_
  refine x_ri (show (nI (M 10 s)) = nI 4294967295 from congrArg nI h) ?_
  refine x_yge (u := (-1 : Int)) (tgt := 14) hx hb (rfl) dX6_bars_6 (by decide) (fun h_1 => (by omega : False).elim) (fun h_1 => ?_)
  refine lv_bipush (v := nI 4294967285) hx hb dX6_bars_9 (by decide) ?_
  refine lv_goto (tgt := 61) hx hb dX6_bars_11 (by decide) ?_
  exact x_reti hx hb hr9 hlk9 hS hP (by first | rfl | (show nI 4294967285 = nI 4294967285; first | rfl | omega)) dX6_bars_61
set_option maxHeartbeats 4000000 in
set_option maxRecDepth 100000 in
theorem r_bars_cast {l : Launch} {g : gE} {ad : Nat → Nat} (hI : g_inj ad 14) (M : gMem) (J : gMeL) (s ln : Nat) (hs : s < 4) (hln : ln ≤ 2) (i n : Int32) (h : M 10 s ≤ 2) (h2 : ¬ M 10 s = ln) : CI l g ad dsR 14 yX6_bars cX6_bars 5 (some .int) 0 [.ref (ad 0), .int (nI s), .int (nI ln), .int i, .int n] M J (nI 4294967284) M J := by
  refine CI.of (plainFor_of_name (by decide)) (Nat.le_of_ble_eq_true rfl) (fun p9 e9 s9 m9 args9 below9 meth9 c9 CF hK hr9 hlk9 hP hS ls hl => ?_)
  have hx := CF.1
  have hb := CF.2.1
  have hA : ∀ q, g_A ad 14 q → g_A ad 14 q := fun _ h => h
  have hl : lv_has ls 5 [(0, .ref (ad 0)), (1, .int (nI s)), (2, .int (nI ln)), (3, .int i), (4, .int n)] := hl
  refine lv_aload_n hx hb dX6_bars_0 rfl (lv_at hl 0 rfl) ?_
  refine x_getr CF hK hP 0 (by decide) dR_0 rfl uX6 11 (by decide) (j := 10) rfl wd3_107 rfl dX6_bars_1 ?_
  refine lv_iload_n hx hb dX6_bars_4 rfl (lv_at hl 1 rfl) ?_
  refine x_iald CF hK hP 10 (by decide) dR_10 s (by omega) (by decide) dX6_bars_5 ?_
  refine x_yge (u := (M 10 s : Nat)) (tgt := 14) hx hb (nI_toInt (by omega)) dX6_bars_6 (by decide) (fun h_1 => ?_) (fun h_1 => (by omega : False).elim)
  refine lv_aload_n hx hb dX6_bars_14 rfl (lv_at hl 0 rfl) ?_
  refine x_getr CF hK hP 0 (by decide) dR_0 rfl uX6 11 (by decide) (j := 10) rfl wd3_107 rfl dX6_bars_15 ?_
  refine lv_iload_n hx hb dX6_bars_18 rfl (lv_at hl 1 rfl) ?_
  refine x_iald CF hK hP 10 (by decide) dR_10 s (by omega) (by decide) dX6_bars_19 ?_
  refine lv_iload_n hx hb dX6_bars_20 rfl (lv_at hl 2 rfl) ?_
  refine x_zeq (u := (M 10 s : Nat)) (v := (ln : Nat)) (tgt := 29) hx hb (nI_toInt (by omega)) (nI_toInt (by omega)) dX6_bars_21 (by decide) (fun h_2 => (by omega : False).elim) (fun h_2 => ?_)
  refine lv_bipush (v := nI 4294967284) hx hb dX6_bars_24 (by decide) ?_
  refine lv_goto (tgt := 61) hx hb dX6_bars_26 (by decide) ?_
  exact x_reti hx hb hr9 hlk9 hS hP (by first | rfl | (show nI 4294967284 = nI 4294967284; first | rfl | omega)) dX6_bars_61
set_option maxHeartbeats 4000000 in
set_option maxRecDepth 100000 in
theorem r_bars_index {l : Launch} {g : gE} {ad : Nat → Nat} (hI : g_inj ad 14) (M : gMem) (J : gMeL) (s ln : Nat) (hs : s < 4) (i n : Int32) (h : M 10 s ≤ 2) (h2 : M 10 s = ln) (h3 : ¬ (0 ≤ i.toInt ∧ 0 ≤ n.toInt ∧ i.toInt + n.toInt ≤ M 11 s)) (h4 : M 11 s ≤ 24) : CI l g ad dsR 14 yX6_bars cX6_bars 5 (some .int) 0 [.ref (ad 0), .int (nI s), .int (nI ln), .int i, .int n] M J (nI 4294967283) M J := by
  refine CI.of (plainFor_of_name (by decide)) (Nat.le_of_ble_eq_true rfl) (fun p9 e9 s9 m9 args9 below9 meth9 c9 CF hK hr9 hlk9 hP hS ls hl => ?_)
  have hx := CF.1
  have hb := CF.2.1
  have hA : ∀ q, g_A ad 14 q → g_A ad 14 q := fun _ h => h
  have hl : lv_has ls 5 [(0, .ref (ad 0)), (1, .int (nI s)), (2, .int (nI ln)), (3, .int i), (4, .int n)] := hl
  refine lv_aload_n hx hb dX6_bars_0 rfl (lv_at hl 0 rfl) ?_
  refine x_getr CF hK hP 0 (by decide) dR_0 rfl uX6 11 (by decide) (j := 10) rfl wd3_107 rfl dX6_bars_1 ?_
  refine lv_iload_n hx hb dX6_bars_4 rfl (lv_at hl 1 rfl) ?_
  refine x_iald CF hK hP 10 (by decide) dR_10 s (by omega) (by decide) dX6_bars_5 ?_
  refine x_yge (u := (M 10 s : Nat)) (tgt := 14) hx hb (nI_toInt (by omega)) dX6_bars_6 (by decide) (fun h_1 => ?_) (fun h_1 => (by omega : False).elim)
  refine lv_aload_n hx hb dX6_bars_14 rfl (lv_at hl 0 rfl) ?_
  refine x_getr CF hK hP 0 (by decide) dR_0 rfl uX6 11 (by decide) (j := 10) rfl wd3_107 rfl dX6_bars_15 ?_
  refine lv_iload_n hx hb dX6_bars_18 rfl (lv_at hl 1 rfl) ?_
  refine x_iald CF hK hP 10 (by decide) dR_10 s (by omega) (by decide) dX6_bars_19 ?_
  refine lv_iload_n hx hb dX6_bars_20 rfl (lv_at hl 2 rfl) ?_
  refine x_zeq (u := (M 10 s : Nat)) (v := (ln : Nat)) (tgt := 29) hx hb (nI_toInt (by omega)) (nI_toInt (by omega)) dX6_bars_21 (by decide) (fun h_2 => ?_) (fun h_2 => (by omega : False).elim)
  refine lv_iload_n hx hb dX6_bars_29 rfl (lv_at hl 3 rfl) ?_
  refine x_ylt (u := _) (tgt := 55) hx hb (rfl) dX6_bars_30 (by decide) (fun h_3 => ?_) (fun h_3 => ?_)
  · refine lv_bipush (v := nI 4294967283) hx hb dX6_bars_55 (by decide) ?_
    refine lv_goto (tgt := 61) hx hb dX6_bars_57 (by decide) ?_
    exact x_reti hx hb hr9 hlk9 hS hP (by first | rfl | (show nI 4294967283 = nI 4294967283; first | rfl | omega)) dX6_bars_61
  · refine lv_iload hx hb dX6_bars_33 (lv_at hl 4 rfl) ?_
    refine x_ylt (u := _) (tgt := 55) hx hb (rfl) dX6_bars_35 (by decide) (fun h_4 => ?_) (fun h_4 => ?_)
    · refine lv_bipush (v := nI 4294967283) hx hb dX6_bars_55 (by decide) ?_
      refine lv_goto (tgt := 61) hx hb dX6_bars_57 (by decide) ?_
      exact x_reti hx hb hr9 hlk9 hS hP (by first | rfl | (show nI 4294967283 = nI 4294967283; first | rfl | omega)) dX6_bars_61
    · refine lv_iload_n hx hb dX6_bars_38 rfl (lv_at hl 3 rfl) ?_
      refine lv_i2l hx hb dX6_bars_39 rfl ?_
      refine lv_iload hx hb dX6_bars_40 (lv_at hl 4 rfl) ?_
      refine lv_i2l hx hb dX6_bars_42 rfl ?_
      refine lv_ladd hx hb dX6_bars_43 ?_
      refine lv_aload_n hx hb dX6_bars_44 rfl (lv_at hl 0 rfl) ?_
      refine x_getr CF hK hP 0 (by decide) dR_0 rfl uX6 12 (by decide) (j := 11) rfl wd3_108 rfl dX6_bars_45 ?_
      refine lv_iload_n hx hb dX6_bars_48 rfl (lv_at hl 1 rfl) ?_
      refine x_iald CF hK hP 11 (by decide) dR_11 s (by omega) (by decide) dX6_bars_49 ?_
      refine lv_i2l hx hb dX6_bars_50 (nI_l (by omega)) ?_
      refine W.lcmp hx hb dX6_bars_51 ?_
      have hc := l_sumc i n (n := M 11 s) (by omega)
      refine x_yle (u := _) (tgt := 60) hx hb (rfl) dX6_bars_52 (by decide) (fun h_5 => (by omega : False).elim) (fun h_5 => ?_)
      refine lv_bipush (v := nI 4294967283) hx hb dX6_bars_55 (by decide) ?_
      refine lv_goto (tgt := 61) hx hb dX6_bars_57 (by decide) ?_
      exact x_reti hx hb hr9 hlk9 hS hP (by first | rfl | (show nI 4294967283 = nI 4294967283; first | rfl | omega)) dX6_bars_61
set_option maxHeartbeats 4000000 in
set_option maxRecDepth 100000 in
theorem r_bars_ok {l : Launch} {g : gE} {ad : Nat → Nat} (hI : g_inj ad 14) (M : gMem) (J : gMeL) (s ln : Nat) (hs : s < 4) (i n : Int32) (h : M 10 s ≤ 2) (h2 : M 10 s = ln) (h3 : (0 ≤ i.toInt ∧ 0 ≤ n.toInt ∧ i.toInt + n.toInt ≤ M 11 s)) (h4 : M 11 s ≤ 24) : CI l g ad dsR 14 yX6_bars cX6_bars 5 (some .int) 0 [.ref (ad 0), .int (nI s), .int (nI ln), .int i, .int n] M J (nI 0) M J := by
  refine CI.of (plainFor_of_name (by decide)) (Nat.le_of_ble_eq_true rfl) (fun p9 e9 s9 m9 args9 below9 meth9 c9 CF hK hr9 hlk9 hP hS ls hl => ?_)
  have hx := CF.1
  have hb := CF.2.1
  have hA : ∀ q, g_A ad 14 q → g_A ad 14 q := fun _ h => h
  have hl : lv_has ls 5 [(0, .ref (ad 0)), (1, .int (nI s)), (2, .int (nI ln)), (3, .int i), (4, .int n)] := hl
  refine lv_aload_n hx hb dX6_bars_0 rfl (lv_at hl 0 rfl) ?_
  refine x_getr CF hK hP 0 (by decide) dR_0 rfl uX6 11 (by decide) (j := 10) rfl wd3_107 rfl dX6_bars_1 ?_
  refine lv_iload_n hx hb dX6_bars_4 rfl (lv_at hl 1 rfl) ?_
  refine x_iald CF hK hP 10 (by decide) dR_10 s (by omega) (by decide) dX6_bars_5 ?_
  refine x_yge (u := (M 10 s : Nat)) (tgt := 14) hx hb (nI_toInt (by omega)) dX6_bars_6 (by decide) (fun h_1 => ?_) (fun h_1 => (by omega : False).elim)
  refine lv_aload_n hx hb dX6_bars_14 rfl (lv_at hl 0 rfl) ?_
  refine x_getr CF hK hP 0 (by decide) dR_0 rfl uX6 11 (by decide) (j := 10) rfl wd3_107 rfl dX6_bars_15 ?_
  refine lv_iload_n hx hb dX6_bars_18 rfl (lv_at hl 1 rfl) ?_
  refine x_iald CF hK hP 10 (by decide) dR_10 s (by omega) (by decide) dX6_bars_19 ?_
  refine lv_iload_n hx hb dX6_bars_20 rfl (lv_at hl 2 rfl) ?_
  refine x_zeq (u := (M 10 s : Nat)) (v := (ln : Nat)) (tgt := 29) hx hb (nI_toInt (by omega)) (nI_toInt (by omega)) dX6_bars_21 (by decide) (fun h_2 => ?_) (fun h_2 => (by omega : False).elim)
  refine lv_iload_n hx hb dX6_bars_29 rfl (lv_at hl 3 rfl) ?_
  refine x_ylt (u := _) (tgt := 55) hx hb (rfl) dX6_bars_30 (by decide) (fun h_3 => (by omega : False).elim) (fun h_3 => ?_)
  refine lv_iload hx hb dX6_bars_33 (lv_at hl 4 rfl) ?_
  refine x_ylt (u := _) (tgt := 55) hx hb (rfl) dX6_bars_35 (by decide) (fun h_4 => (by omega : False).elim) (fun h_4 => ?_)
  refine lv_iload_n hx hb dX6_bars_38 rfl (lv_at hl 3 rfl) ?_
  refine lv_i2l hx hb dX6_bars_39 rfl ?_
  refine lv_iload hx hb dX6_bars_40 (lv_at hl 4 rfl) ?_
  refine lv_i2l hx hb dX6_bars_42 rfl ?_
  refine lv_ladd hx hb dX6_bars_43 ?_
  refine lv_aload_n hx hb dX6_bars_44 rfl (lv_at hl 0 rfl) ?_
  refine x_getr CF hK hP 0 (by decide) dR_0 rfl uX6 12 (by decide) (j := 11) rfl wd3_108 rfl dX6_bars_45 ?_
  refine lv_iload_n hx hb dX6_bars_48 rfl (lv_at hl 1 rfl) ?_
  refine x_iald CF hK hP 11 (by decide) dR_11 s (by omega) (by decide) dX6_bars_49 ?_
  refine lv_i2l hx hb dX6_bars_50 (nI_l (by omega)) ?_
  refine W.lcmp hx hb dX6_bars_51 ?_
  have hc := l_sumc i n (n := M 11 s) (by omega)
  refine x_yle (u := _) (tgt := 60) hx hb (rfl) dX6_bars_52 (by decide) (fun h_5 => ?_) (fun h_5 => (by omega : False).elim)
  refine lv_iconst (v := nI 0) hx hb dX6_bars_60 (by decide) ?_
  exact x_reti hx hb hr9 hlk9 hS hP (by first | rfl | (show nI 0 = nI 0; first | rfl | omega)) dX6_bars_61
set_option maxHeartbeats 4000000 in
set_option maxRecDepth 100000 in
theorem r_cutTo {l : Launch} {g : gE} (ln : Nat) (hln : ln ≤ 2) (v : Int64) : CPL l g yX6_cutTo cX6_cutTo 3 0 [.int (nI ln), .long v] (cutv ln v) := by
  refine CPL.of (plainFor_of_name (by decide)) (Nat.le_of_ble_eq_true rfl) (fun p9 e9 s9 m9 args9 below9 meth9 c9 CF hK hr9 hlk9 hS ls hl => ?_)
  have hx := CF.1
  have hb := CF.2.1
  have hl : lv_has ls 3 [(0, .int (nI ln)), (1, .long v)] := hl
  refine lv_iload_n hx hb dX6_cutTo_0 rfl (lv_at hl 0 rfl) ?_
  refine x_yne (u := (ln : Nat)) (tgt := 11) hx hb (nI_toInt (by omega)) dX6_cutTo_1 (by decide) (fun h_1 => ?_) (fun h_1 => ?_)
  · refine lv_iload_n hx hb dX6_cutTo_11 rfl (lv_at hl 0 rfl) ?_
    refine lv_iconst (v := nI 1) hx hb dX6_cutTo_12 (by decide) ?_
    refine x_zne (u := (ln : Nat)) (v := (1 : Int)) (tgt := 22) hx hb (nI_toInt (by omega)) (rfl) dX6_cutTo_13 (by decide) (fun h_2 => ?_) (fun h_2 => ?_)
    · refine lv_lload_n hx hb dX6_cutTo_22 rfl (lv_at hl 1 rfl) ?_
      exact x_retpl hx hb hr9 hlk9 hS (by rw [cutv, if_neg (by omega), if_neg (by omega)]) dX6_cutTo_23
    · refine lv_lload_n hx hb dX6_cutTo_16 rfl (lv_at hl 1 rfl) ?_
      refine lv_l2i hx hb dX6_cutTo_17 rfl ?_
      refine lv_i2l hx hb dX6_cutTo_18 rfl ?_
      refine lv_goto (tgt := 23) hx hb dX6_cutTo_19 (by decide) ?_
      exact x_retpl hx hb hr9 hlk9 hS (by rw [cutv, if_neg (by omega), if_pos (by omega)]) dX6_cutTo_23
  · refine lv_lload_n hx hb dX6_cutTo_4 rfl (lv_at hl 1 rfl) ?_
    refine lv_l2i hx hb dX6_cutTo_5 rfl ?_
    refine lv_i2s hx hb dX6_cutTo_6 rfl ?_
    refine lv_i2l hx hb dX6_cutTo_7 rfl ?_
    refine lv_goto (tgt := 23) hx hb dX6_cutTo_8 (by decide) ?_
    exact x_retpl hx hb hr9 hlk9 hS (by rw [cutv, if_pos (by omega)]) dX6_cutTo_23
set_option maxHeartbeats 4000000 in
set_option maxRecDepth 100000 in
theorem r_isSo {l : Launch} {g : gE} {ad : Nat → Nat} (hI : g_inj ad 14) (M : gMem) (J : gMeL) (hw : wfR M) (o : Nat) (ho : o + M 1 73 ≤ 96) : CI l g ad dsR 14 yX6_isSo cX6_isSo 4 (some .boolean) 3 [.ref (ad 0), .int (nI o)] M J (nI (b2n (soR M J o))) M J := by
  refine CI.of (plainFor_of_name (by decide)) (Nat.le_of_ble_eq_true rfl) (fun p9 e9 s9 m9 args9 below9 meth9 c9 CF hK hr9 hlk9 hP hS ls hl => ?_)
  have hx := CF.1
  have hb := CF.2.1
  have hA : ∀ q, g_A ad 14 q → g_A ad 14 q := fun _ h => h
  have hl : lv_has ls 4 [(0, .ref (ad 0)), (1, .int (nI o))] := hl
  have hnc := hw.nc
  have hnf := hw.nf
  have hwy := hw.way
  refine lv_iconst (v := nI 1) hx hb dX6_isSo_0 (by decide) ?_
  refine lv_istore_n (lv' := [(2, .int (nI 1)), (0, .ref (ad 0)), (1, .int (nI o))]) hx hb dX6_isSo_1 rfl hl (by decide) rfl (fun ls hl => ?_)
  refine lv_iconst (v := nI 0) hx hb dX6_isSo_2 (by decide) ?_
  refine lv_istore_n (lv' := [(3, .int (nI 0)), (2, .int (nI 1)), (0, .ref (ad 0)), (1, .int (nI o))]) hx hb dX6_isSo_3 rfl hl (by decide) rfl (fun ls hl => ?_)
  have L4 : ∀ (d4 : Nat) (k : Nat), (k + d4 = (M 1 73)) → (∀ (H : Heap) (locs : List Loc) (ls : Array Slot), g_P g ad dsR 14 M J H → va_S (g_A ad 14) s9.heap H locs → lv_has ls 4 [(3, .int (nI k)), (2, .int (nI (b2n (allP (fun f => decide (J 12 (o + f) = lN (upsR M f))) k)))), (0, .ref (ad 0)), (1, .int (nI o))] → W p9 l e9 (g_rm 3) s9 m9 args9 below9 meth9 c9 H locs 0 0 (MQ below9 (va_Qi (fun r' (_ : Unit) => r' = (nI (b2n (soR M J o)))) (fun _ t => g_P g ad dsR 14 M J t.heap) (g_A ad 14)) args9 s9 0 0 (g_A ad 14)) (F0 m9 4 ls [])) := by
    intro d4
    induction d4 with
    | zero =>
      intro k h_k H locs ls hP hS hl
      refine lv_iload_n hx hb dX6_isSo_4 rfl (lv_at hl 0 rfl) ?_
      refine lv_aload_n hx hb dX6_isSo_5 rfl (lv_at hl 2 rfl) ?_
      refine x_getr CF hK hP 0 (by decide) dR_0 rfl uX6 0 (by decide) (j := 1) rfl wd3_96 rfl dX6_isSo_6 ?_
      refine lv_bipush (v := nI 73) hx hb dX6_isSo_9 (by decide) ?_
      refine x_iald CF hK hP 1 (by decide) dR_1 73 (by omega) (by decide) dX6_isSo_11 ?_
      refine x_zge (u := (k : Nat)) (v := (M 1 73 : Nat)) (tgt := 49) hx hb (nI_toInt (by omega)) (nI_toInt (by omega)) dX6_isSo_12 (by decide) (fun h_1 => ?_) (fun h_1 => (by omega : False).elim)
      refine lv_iload_n hx hb dX6_isSo_49 rfl (lv_at hl 1 rfl) ?_
      exact x_retz hx hb hr9 hlk9 hS hP (by rw [show k = M 1 73 by omega]; rfl) (nar_b2n _) dX6_isSo_50
    | succ d4 ih4 =>
      intro k h_k H locs ls hP hS hl
      refine lv_iload_n hx hb dX6_isSo_4 rfl (lv_at hl 0 rfl) ?_
      refine lv_aload_n hx hb dX6_isSo_5 rfl (lv_at hl 2 rfl) ?_
      refine x_getr CF hK hP 0 (by decide) dR_0 rfl uX6 0 (by decide) (j := 1) rfl wd3_96 rfl dX6_isSo_6 ?_
      refine lv_bipush (v := nI 73) hx hb dX6_isSo_9 (by decide) ?_
      refine x_iald CF hK hP 1 (by decide) dR_1 73 (by omega) (by decide) dX6_isSo_11 ?_
      refine x_zge (u := (k : Nat)) (v := (M 1 73 : Nat)) (tgt := 49) hx hb (nI_toInt (by omega)) (nI_toInt (by omega)) dX6_isSo_12 (by decide) (fun h_2 => (by omega : False).elim) (fun h_2 => ?_)
      refine lv_iload_n hx hb dX6_isSo_15 rfl (lv_at hl 1 rfl) ?_
      refine x_yeq (u := (b2n (allP (fun f => decide (J 12 (o + f) = lN (upsR M f))) k) : Nat)) (tgt := 41) hx hb (nI_toInt (Nat.lt_of_le_of_lt (b2n_le _) (by decide))) dX6_isSo_16 (by decide) (fun h_3 => ?_) (fun h_3 => ?_)
      · refine lv_iconst (v := nI 0) hx hb dX6_isSo_41 (by decide) ?_
        refine lv_istore_n (lv' := [(2, .int (nI 0)), (3, .int (nI k)), (0, .ref (ad 0)), (1, .int (nI o))]) hx hb dX6_isSo_42 rfl hl (by decide) rfl (fun ls hl => ?_)
        refine lv_iinc (v := nI (k + 1)) (lv' := [(3, .int (nI (k + 1))), (2, .int (nI 0)), (0, .ref (ad 0)), (1, .int (nI o))]) hx hb dX6_isSo_43 hl (k := 1) rfl (n_inc k 1) (by decide) rfl (fun ls hl => ?_)
        refine lv_goto (tgt := 4) hx hb dX6_isSo_46 (by decide) ?_
        have hl0 : lv_has ls 4 [(3, .int (nI (k + 1))), (2, .int (nI (b2n (allP (fun f => decide (J 12 (o + f) = lN (upsR M f))) (k + 1))))), (0, .ref (ad 0)), (1, .int (nI o))] := by rw [(show nI (b2n (allP (fun f => decide (J 12 (o + f) = lN (upsR M f))) (k + 1))) = nI 0 from by rw [show allP (fun f => decide (J 12 (o + f) = lN (upsR M f))) (k + 1) = (allP (fun f => decide (J 12 (o + f) = lN (upsR M f))) k && (fun f => decide (J 12 (o + f) = lN (upsR M f))) k) from rfl, b2n_0 h_3]; rfl)]; exact lv_sub hl [0, 1, 2, 3] rfl
        exact ih4 (k + 1) (by omega) _ _ _ (hP) hS hl0
      · refine lv_aload_n hx hb dX6_isSo_19 rfl (lv_at hl 2 rfl) ?_
        refine lv_iload_n hx hb dX6_isSo_20 rfl (lv_at hl 0 rfl) ?_
        refine x_callVI CF hK hP hS hA hl (As := [.int (nI k)]) (rest := []) (r_upsOf hI M J hw k (by omega)) kw_X6_upsOf wd3_235 (by decide) dR_0 rfl rfl ⟨Nat.le_of_ble_eq_true rfl, Nat.le_of_ble_eq_true rfl⟩ ⟨Nat.le_refl _, Nat.le_refl _⟩ (Nat.le_of_ble_eq_true rfl) dX6_isSo_21 (fun H locs hP hS => ?_)
        refine lv_i2l hx hb dX6_isSo_24 (nI_l (Nat.lt_trans (upsR_lt M k) (by decide))) ?_
        refine lv_aload_n hx hb dX6_isSo_25 rfl (lv_at hl 2 rfl) ?_
        refine x_getr CF hK hP 0 (by decide) dR_0 rfl uX6 13 (by decide) (j := 12) rfl wd3_109 rfl dX6_isSo_26 ?_
        refine lv_iload_n hx hb dX6_isSo_29 rfl (lv_at hl 3 rfl) ?_
        refine lv_iload_n hx hb dX6_isSo_30 rfl (lv_at hl 0 rfl) ?_
        refine x_iadd hx hb dX6_isSo_31 ?_
        refine x_lald CF hK hP 12 (by decide) dR_12 (o + k) (by omega) (by decide) dX6_isSo_32 ?_
        refine W.lcmp hx hb dX6_isSo_33 ?_
        refine x_yne (u := _) (tgt := 41) hx hb (rfl) dX6_isSo_34 (by decide) (fun h_4 => ?_) (fun h_4 => ?_)
        · refine lv_iconst (v := nI 0) hx hb dX6_isSo_41 (by decide) ?_
          refine lv_istore_n (lv' := [(2, .int (nI 0)), (3, .int (nI k)), (0, .ref (ad 0)), (1, .int (nI o))]) hx hb dX6_isSo_42 rfl hl (by decide) rfl (fun ls hl => ?_)
          refine lv_iinc (v := nI (k + 1)) (lv' := [(3, .int (nI (k + 1))), (2, .int (nI 0)), (0, .ref (ad 0)), (1, .int (nI o))]) hx hb dX6_isSo_43 hl (k := 1) rfl (n_inc k 1) (by decide) rfl (fun ls hl => ?_)
          refine lv_goto (tgt := 4) hx hb dX6_isSo_46 (by decide) ?_
          have hl0 : lv_has ls 4 [(3, .int (nI (k + 1))), (2, .int (nI (b2n (allP (fun f => decide (J 12 (o + f) = lN (upsR M f))) (k + 1))))), (0, .ref (ad 0)), (1, .int (nI o))] := by rw [(show nI (b2n (allP (fun f => decide (J 12 (o + f) = lN (upsR M f))) (k + 1))) = nI 0 from by rw [show allP (fun f => decide (J 12 (o + f) = lN (upsR M f))) (k + 1) = (allP (fun f => decide (J 12 (o + f) = lN (upsR M f))) k && decide (J 12 (o + k) = lN (upsR M k))) from rfl, b2n_1 h_3, decide_eq_false (fun e => h_4 (lg_cmp0.mpr e.symm))]; rfl)]; exact lv_sub hl [0, 1, 2, 3] rfl
          exact ih4 (k + 1) (by omega) _ _ _ (hP) hS hl0
        · refine lv_iconst (v := nI 1) hx hb dX6_isSo_37 (by decide) ?_
          refine lv_goto (tgt := 42) hx hb dX6_isSo_38 (by decide) ?_
          refine lv_istore_n (lv' := [(2, .int (nI 1)), (3, .int (nI k)), (0, .ref (ad 0)), (1, .int (nI o))]) hx hb dX6_isSo_42 rfl hl (by decide) rfl (fun ls hl => ?_)
          refine lv_iinc (v := nI (k + 1)) (lv' := [(3, .int (nI (k + 1))), (2, .int (nI 1)), (0, .ref (ad 0)), (1, .int (nI o))]) hx hb dX6_isSo_43 hl (k := 1) rfl (n_inc k 1) (by decide) rfl (fun ls hl => ?_)
          refine lv_goto (tgt := 4) hx hb dX6_isSo_46 (by decide) ?_
          have hl0 : lv_has ls 4 [(3, .int (nI (k + 1))), (2, .int (nI (b2n (allP (fun f => decide (J 12 (o + f) = lN (upsR M f))) (k + 1))))), (0, .ref (ad 0)), (1, .int (nI o))] := by rw [(show nI (b2n (allP (fun f => decide (J 12 (o + f) = lN (upsR M f))) (k + 1))) = nI 1 from by rw [show allP (fun f => decide (J 12 (o + f) = lN (upsR M f))) (k + 1) = (allP (fun f => decide (J 12 (o + f) = lN (upsR M f))) k && decide (J 12 (o + k) = lN (upsR M k))) from rfl, b2n_1 h_3, decide_eq_true (lg_cmp0.mp h_4).symm]; rfl)]; exact lv_sub hl [0, 1, 2, 3] rfl
          exact ih4 (k + 1) (by omega) _ _ _ (hP) hS hl0
  have hl0 : lv_has ls 4 [(3, .int (nI 0)), (2, .int (nI (b2n (allP (fun f => decide (J 12 (o + f) = lN (upsR M f))) 0)))), (0, .ref (ad 0)), (1, .int (nI o))] := by rw [(show nI (b2n (allP (fun f => decide (J 12 (o + f) = lN (upsR M f))) 0)) = nI 1 from rfl)]; exact lv_sub hl [0, 1, 2, 3] rfl
  exact L4 (M 1 73) 0 (by omega) _ _ _ (hP) hS hl0
set_option maxHeartbeats 4000000 in
set_option maxRecDepth 100000 in
theorem r_worn_ok {l : Launch} {g : gE} {ad : Nat → Nat} (hI : g_inj ad 14) (M : gMem) (J : gMeL) (hw : wfR M) (w : Nat) (h1 : 1 ≤ w) (hw9 : w < 10) (s ln : Nat) (hs : s < 4) (hln : ln ≤ 2) (i : Nat) (hl9 : M 10 s = ln) (h : i + M 1 73 ≤ M 11 s) (h2 : M 11 s ≤ 24) : CI l g ad dsR 14 yX6_worn cX6_worn 10 (some .int) 5 [.ref (ad 0), .int (nI w), .int (nI s), .int (nI ln), .int (nI i)] M J (nI (fnd (if (soR M J (24 * s + i)) = true then 64 else 0) (fun x7 => soR (wnL M w x7) J (24 * s + i)) (M 1 0))) (wnR M (M 1 0)) J := by
  refine CI.of (plainFor_of_name (by decide)) (Nat.le_of_ble_eq_true rfl) (fun p9 e9 s9 m9 args9 below9 meth9 c9 CF hK hr9 hlk9 hP hS ls hl => ?_)
  have hx := CF.1
  have hb := CF.2.1
  have hA : ∀ q, g_A ad 14 q → g_A ad 14 q := fun _ h => h
  have hl : lv_has ls 10 [(0, .ref (ad 0)), (1, .int (nI w)), (2, .int (nI s)), (3, .int (nI ln)), (4, .int (nI i))] := hl
  have hnc := hw.nc
  have hnf := hw.nf
  have hwy := hw.way
  refine lv_iload_n hx hb dX6_worn_0 rfl (lv_at hl 1 rfl) ?_
  refine lv_i2l hx hb dX6_worn_1 (nI_l (by omega)) ?_
  refine lv_lconst (v := (1 : Int64)) hx hb dX6_worn_2 rfl ?_
  refine lv_ldc2 hx hb CF.2.2.2.1 (CF.2.2.2.2 _ (List.mem_cons_of_mem _ wd3_178)) dX6_worn_3 ?_
  refine x_callSP CF hK hP hS hl (As := [.long (lN w), .long (1 : Int64), .long (9 : Int64)]) (rest := []) (r_in_t _ _ _ (il_in (lo := 1) (hi := 9) (by omega) (by omega) (by omega))) kw_X6_in wd3_147 rfl ⟨Nat.le_of_ble_eq_true rfl, Nat.le_of_ble_eq_true rfl⟩ ⟨Nat.le_refl _, Nat.le_refl _⟩ (Nat.le_of_ble_eq_true rfl) dX6_worn_6 (fun H locs hP hS => ?_)
  refine x_yeq (u := (1 : Int)) (tgt := 31) hx hb (rfl) dX6_worn_9 (by decide) (fun h_1 => (by omega : False).elim) (fun h_1 => ?_)
  refine lv_iload_n hx hb dX6_worn_12 rfl (lv_at hl 2 rfl) ?_
  refine x_callSP CF hK hP hS hl (As := [.int (nI s)]) (rest := []) (r_isSheet_t s (by omega)) kw_X6_isSheet wd4_94 rfl ⟨Nat.le_of_ble_eq_true rfl, Nat.le_of_ble_eq_true rfl⟩ ⟨Nat.le_refl _, Nat.le_refl _⟩ (Nat.le_of_ble_eq_true rfl) dX6_worn_13 (fun H locs hP hS => ?_)
  refine x_yeq (u := (1 : Int)) (tgt := 31) hx hb (rfl) dX6_worn_16 (by decide) (fun h_2 => (by omega : False).elim) (fun h_2 => ?_)
  refine lv_iload_n hx hb dX6_worn_19 rfl (lv_at hl 3 rfl) ?_
  refine lv_i2l hx hb dX6_worn_20 (nI_l (by omega)) ?_
  refine lv_lconst (v := (0 : Int64)) hx hb dX6_worn_21 rfl ?_
  refine lv_ldc2 hx hb CF.2.2.2.1 (CF.2.2.2.2 _ (List.mem_cons_of_mem _ wd4_97)) dX6_worn_22 ?_
  refine x_callSP CF hK hP hS hl (As := [.long (lN ln), .long (0 : Int64), .long (2 : Int64)]) (rest := []) (r_in_t _ _ _ (il_in (lo := 0) (hi := 2) (by omega) (by omega) (by omega))) kw_X6_in wd3_147 rfl ⟨Nat.le_of_ble_eq_true rfl, Nat.le_of_ble_eq_true rfl⟩ ⟨Nat.le_refl _, Nat.le_refl _⟩ (Nat.le_of_ble_eq_true rfl) dX6_worn_25 (fun H locs hP hS => ?_)
  refine x_yne (u := (1 : Int)) (tgt := 33) hx hb (rfl) dX6_worn_28 (by decide) (fun h_3 => ?_) (fun h_3 => (by omega : False).elim)
  refine lv_aload_n hx hb dX6_worn_33 rfl (lv_at hl 0 rfl) ?_
  refine lv_iload_n hx hb dX6_worn_34 rfl (lv_at hl 2 rfl) ?_
  refine lv_iload_n hx hb dX6_worn_35 rfl (lv_at hl 3 rfl) ?_
  refine lv_iload hx hb dX6_worn_36 (lv_at hl 4 rfl) ?_
  refine lv_aload_n hx hb dX6_worn_38 rfl (lv_at hl 0 rfl) ?_
  refine x_getr CF hK hP 0 (by decide) dR_0 rfl uX6 0 (by decide) (j := 1) rfl wd3_96 rfl dX6_worn_39 ?_
  refine lv_bipush (v := nI 73) hx hb dX6_worn_42 (by decide) ?_
  refine x_iald CF hK hP 1 (by decide) dR_1 73 (by omega) (by decide) dX6_worn_44 ?_
  refine x_callVI CF hK hP hS hA hl (As := [.int (nI s), .int (nI ln), .int (nI i), .int (nI (M 1 73))]) (rest := []) (r_bars_ok hI M J s ln (by omega) (nI i) (nI (M 1 73)) (by omega) (by omega) (by rw [tz (by omega), tz (by omega)]; omega) h2) kw_X6_bars wd4_98 (by decide) dR_0 rfl rfl ⟨Nat.le_of_ble_eq_true rfl, Nat.le_of_ble_eq_true rfl⟩ ⟨Nat.le_refl _, Nat.le_refl _⟩ (Nat.le_of_ble_eq_true rfl) dX6_worn_45 (fun H locs hP hS => ?_)
  refine lv_istore (lv' := [(5, .int (nI 0)), (0, .ref (ad 0)), (1, .int (nI w)), (2, .int (nI s)), (3, .int (nI ln)), (4, .int (nI i))]) hx hb dX6_worn_48 hl (by decide) rfl (fun ls hl => ?_)
  refine lv_iload hx hb dX6_worn_50 (lv_at hl 0 rfl) ?_
  refine x_yeq (u := (0 : Int)) (tgt := 58) hx hb (rfl) dX6_worn_52 (by decide) (fun h_4 => ?_) (fun h_4 => (by omega : False).elim)
  refine lv_aload_n hx hb dX6_worn_58 rfl (lv_at hl 1 rfl) ?_
  refine lv_bipush (v := nI 24) hx hb dX6_worn_59 (by decide) ?_
  refine lv_iload_n hx hb dX6_worn_61 rfl (lv_at hl 3 rfl) ?_
  refine x_imul hx hb dX6_worn_62 ?_
  refine lv_iload hx hb dX6_worn_63 (lv_at hl 5 rfl) ?_
  refine x_iadd hx hb dX6_worn_65 ?_
  refine x_callVI CF hK hP hS hA hl (As := [.int (nI ((24 * s) + i))]) (rest := []) (r_isSo hI M J hw ((24 * s) + i) (by omega)) kw_X6_isSo wd4_102 (by decide) dR_0 rfl rfl ⟨Nat.le_of_ble_eq_true rfl, Nat.le_of_ble_eq_true rfl⟩ ⟨Nat.le_refl _, Nat.le_refl _⟩ (Nat.le_of_ble_eq_true rfl) dX6_worn_66 (fun H locs hP hS => ?_)
  refine x_yeq (u := (b2n (soR M J ((24 * s) + i)) : Nat)) (tgt := 77) hx hb (nI_toInt (Nat.lt_of_le_of_lt (b2n_le _) (by decide))) dX6_worn_69 (by decide) (fun h_5 => ?_) (fun h_5 => ?_)
  · refine lv_iconst (v := nI 0) hx hb dX6_worn_77 (by decide) ?_
    refine lv_istore (lv' := [(6, .int (nI 0)), (5, .int (nI 0)), (0, .ref (ad 0)), (1, .int (nI w)), (2, .int (nI s)), (3, .int (nI ln)), (4, .int (nI i))]) hx hb dX6_worn_78 hl (by decide) rfl (fun ls hl => ?_)
    refine lv_iconst (v := nI 0) hx hb dX6_worn_80 (by decide) ?_
    refine lv_istore (lv' := [(7, .int (nI 0)), (6, .int (nI 0)), (5, .int (nI 0)), (0, .ref (ad 0)), (1, .int (nI w)), (2, .int (nI s)), (3, .int (nI ln)), (4, .int (nI i))]) hx hb dX6_worn_81 hl (by decide) rfl (fun ls hl => ?_)
    have L83 : ∀ (d83 : Nat) (c : Nat), (c + d83 = (M 1 0)) → (∀ (H : Heap) (locs : List Loc) (ls : Array Slot), g_P g ad dsR 14 (wnR M c) J H → va_S (g_A ad 14) s9.heap H locs → lv_has ls 10 [(7, .int (nI c)), (6, .int (nI (fnd (if (soR M J (24 * s + i)) = true then 64 else 0) (fun x7 => soR (wnL M w x7) J (24 * s + i)) c))), (5, .int (nI 0)), (0, .ref (ad 0)), (1, .int (nI w)), (2, .int (nI s)), (3, .int (nI ln)), (4, .int (nI i))] → W p9 l e9 (g_rm 5) s9 m9 args9 below9 meth9 c9 H locs 0 0 (MQ below9 (va_Qi (fun r' (_ : Unit) => r' = (nI (fnd (if (soR M J (24 * s + i)) = true then 64 else 0) (fun x7 => soR (wnL M w x7) J (24 * s + i)) (M 1 0)))) (fun _ t => g_P g ad dsR 14 (wnR M (M 1 0)) J t.heap) (g_A ad 14)) args9 s9 0 0 (g_A ad 14)) (F0 m9 83 ls [])) := by
      intro d83
      induction d83 with
      | zero =>
        intro c h_c H locs ls hP hS hl
        refine lv_iload hx hb dX6_worn_83 (lv_at hl 0 rfl) ?_
        refine lv_aload_n hx hb dX6_worn_85 rfl (lv_at hl 3 rfl) ?_
        refine x_getr CF hK hP 0 (by decide) dR_0 rfl uX6 0 (by decide) (j := 1) rfl wd3_96 rfl dX6_worn_86 ?_
        refine lv_iconst (v := nI 0) hx hb dX6_worn_89 (by decide) ?_
        refine x_iald CF hK hP 1 (by decide) dR_1 0 (by omega) (by decide) dX6_worn_90 ?_
        refine x_ri (show (nI ((wnR M c) 1 0)) = nI (M 1 0) from congrArg nI (by rw [wnR_1])) ?_
        refine x_zge (u := (c : Nat)) (v := (M 1 0 : Nat)) (tgt := 238) hx hb (nI_toInt (by omega)) (nI_toInt (by omega)) dX6_worn_91 (by decide) (fun h_6 => ?_) (fun h_6 => (by omega : False).elim)
        refine lv_iload hx hb dX6_worn_238 (lv_at hl 1 rfl) ?_
        exact x_reti hx hb hr9 hlk9 hS (by rw [show c = M 1 0 by omega] at hP; exact hP) (by rw [show c = M 1 0 by omega]) dX6_worn_240
      | succ d83 ih83 =>
        intro c h_c H locs ls hP hS hl
        refine lv_iload hx hb dX6_worn_83 (lv_at hl 0 rfl) ?_
        refine lv_aload_n hx hb dX6_worn_85 rfl (lv_at hl 3 rfl) ?_
        refine x_getr CF hK hP 0 (by decide) dR_0 rfl uX6 0 (by decide) (j := 1) rfl wd3_96 rfl dX6_worn_86 ?_
        refine lv_iconst (v := nI 0) hx hb dX6_worn_89 (by decide) ?_
        refine x_iald CF hK hP 1 (by decide) dR_1 0 (by omega) (by decide) dX6_worn_90 ?_
        refine x_ri (show (nI ((wnR M c) 1 0)) = nI (M 1 0) from congrArg nI (by rw [wnR_1])) ?_
        refine x_zge (u := (c : Nat)) (v := (M 1 0 : Nat)) (tgt := 238) hx hb (nI_toInt (by omega)) (nI_toInt (by omega)) dX6_worn_91 (by decide) (fun h_7 => (by omega : False).elim) (fun h_7 => ?_)
        refine lv_iconst (v := nI 0) hx hb dX6_worn_94 (by decide) ?_
        refine lv_istore (lv' := [(8, .int (nI 0)), (7, .int (nI c)), (6, .int (nI (fnd (if (soR M J (24 * s + i)) = true then 64 else 0) (fun x7 => soR (wnL M w x7) J (24 * s + i)) c))), (5, .int (nI 0)), (0, .ref (ad 0)), (1, .int (nI w)), (2, .int (nI s)), (3, .int (nI ln)), (4, .int (nI i))]) hx hb dX6_worn_95 hl (by decide) rfl (fun ls hl => ?_)
        have L97 : ∀ (d97 : Nat) (q : Nat), (q + d97 = 12) → (∀ (H : Heap) (locs : List Loc) (ls : Array Slot), g_P g ad dsR 14 (wq M w c q) J H → va_S (g_A ad 14) s9.heap H locs → lv_has ls 10 [(8, .int (nI q)), (7, .int (nI c)), (6, .int (nI (fnd (if (soR M J (24 * s + i)) = true then 64 else 0) (fun x7 => soR (wnL M w x7) J (24 * s + i)) c))), (5, .int (nI 0)), (0, .ref (ad 0)), (1, .int (nI w)), (2, .int (nI s)), (3, .int (nI ln)), (4, .int (nI i))] → W p9 l e9 (g_rm 5) s9 m9 args9 below9 meth9 c9 H locs 0 0 (MQ below9 (va_Qi (fun r' (_ : Unit) => r' = (nI (fnd (if (soR M J (24 * s + i)) = true then 64 else 0) (fun x7 => soR (wnL M w x7) J (24 * s + i)) (M 1 0)))) (fun _ t => g_P g ad dsR 14 (wnR M (M 1 0)) J t.heap) (g_A ad 14)) args9 s9 0 0 (g_A ad 14)) (F0 m9 97 ls [])) := by
          intro d97
          induction d97 with
          | zero =>
            intro q h_q H locs ls hP hS hl
            refine lv_iload hx hb dX6_worn_97 (lv_at hl 0 rfl) ?_
            refine lv_bipush (v := nI 12) hx hb dX6_worn_99 (by decide) ?_
            refine x_zge (u := (q : Nat)) (v := (12 : Int)) (tgt := 167) hx hb (nI_toInt (by omega)) (rfl) dX6_worn_101 (by decide) (fun h_8 => ?_) (fun h_8 => (by omega : False).elim)
            have hP : g_P g ad dsR 14 (wnL M w c) J H := by rw [show q = 12 by omega] at hP; exact hP
            refine lv_iload hx hb dX6_worn_167 (lv_at hl 2 rfl) ?_
            refine lv_aload_n hx hb dX6_worn_169 rfl (lv_at hl 4 rfl) ?_
            refine lv_bipush (v := nI 24) hx hb dX6_worn_170 (by decide) ?_
            refine lv_iload_n hx hb dX6_worn_172 rfl (lv_at hl 6 rfl) ?_
            refine x_imul hx hb dX6_worn_173 ?_
            refine lv_iload hx hb dX6_worn_174 (lv_at hl 8 rfl) ?_
            refine x_iadd hx hb dX6_worn_176 ?_
            refine x_callVI CF hK hP hS hA hl (As := [.int (nI ((24 * s) + i))]) (rest := [.int (nI (fnd (if (soR M J (24 * s + i)) = true then 64 else 0) (fun x7 => soR (wnL M w x7) J (24 * s + i)) c))]) (r_isSo hI (wnL M w c) J (hw.wn w (by omega)) ((24 * s) + i) (by rw [show wnL M w c 1 73 = M 1 73 from wq_1 (q := 12) (by omega) (by omega) (by omega)]; omega)) kw_X6_isSo wd4_102 (by decide) dR_0 rfl rfl ⟨Nat.le_of_ble_eq_true rfl, Nat.le_of_ble_eq_true rfl⟩ ⟨Nat.le_refl _, Nat.le_refl _⟩ (Nat.le_of_ble_eq_true rfl) dX6_worn_177 (fun H locs hP hS => ?_)
            refine x_yeq (u := (b2n (soR (wnL M w c) J ((24 * s) + i)) : Nat)) (tgt := 190) hx hb (nI_toInt (Nat.lt_of_le_of_lt (b2n_le _) (by decide))) dX6_worn_180 (by decide) (fun h_9 => ?_) (fun h_9 => ?_)
            · refine lv_iconst (v := nI 0) hx hb dX6_worn_190 (by decide) ?_
              refine x_ior hx hb dX6_worn_191 ?_
              refine lv_istore (lv' := [(6, .int (nI ((fnd (if (soR M J (24 * s + i)) = true then 64 else 0) (fun x7 => soR (wnL M w x7) J (24 * s + i)) c) ||| 0))), (8, .int (nI q)), (7, .int (nI c)), (5, .int (nI 0)), (0, .ref (ad 0)), (1, .int (nI w)), (2, .int (nI s)), (3, .int (nI ln)), (4, .int (nI i))]) hx hb dX6_worn_192 hl (by decide) rfl (fun ls hl => ?_)
              refine lv_iconst (v := nI 0) hx hb dX6_worn_194 (by decide) ?_
              refine lv_istore (lv' := [(8, .int (nI 0)), (6, .int (nI ((fnd (if (soR M J (24 * s + i)) = true then 64 else 0) (fun x7 => soR (wnL M w x7) J (24 * s + i)) c) ||| 0))), (7, .int (nI c)), (5, .int (nI 0)), (0, .ref (ad 0)), (1, .int (nI w)), (2, .int (nI s)), (3, .int (nI ln)), (4, .int (nI i))]) hx hb dX6_worn_195 hl (by decide) rfl (fun ls hl => ?_)
              have L197 : ∀ (d197 : Nat) (z : Nat), (z + d197 = 12) → (∀ (H : Heap) (locs : List Loc) (ls : Array Slot), g_P g ad dsR 14 (rowO (wnL M w c) 1 (1 + 12 * c) z (rowR M c)) J H → va_S (g_A ad 14) s9.heap H locs → lv_has ls 10 [(8, .int (nI z)), (6, .int (nI ((fnd (if (soR M J (24 * s + i)) = true then 64 else 0) (fun x7 => soR (wnL M w x7) J (24 * s + i)) c) ||| 0))), (7, .int (nI c)), (5, .int (nI 0)), (0, .ref (ad 0)), (1, .int (nI w)), (2, .int (nI s)), (3, .int (nI ln)), (4, .int (nI i))] → W p9 l e9 (g_rm 5) s9 m9 args9 below9 meth9 c9 H locs 0 0 (MQ below9 (va_Qi (fun r' (_ : Unit) => r' = (nI (fnd (if (soR M J (24 * s + i)) = true then 64 else 0) (fun x7 => soR (wnL M w x7) J (24 * s + i)) (M 1 0)))) (fun _ t => g_P g ad dsR 14 (wnR M (M 1 0)) J t.heap) (g_A ad 14)) args9 s9 0 0 (g_A ad 14)) (F0 m9 197 ls [])) := by
                intro d197
                induction d197 with
                | zero =>
                  intro z h_z H locs ls hP hS hl
                  refine lv_iload hx hb dX6_worn_197 (lv_at hl 0 rfl) ?_
                  refine lv_bipush (v := nI 12) hx hb dX6_worn_199 (by decide) ?_
                  refine x_zge (u := (z : Nat)) (v := (12 : Int)) (tgt := 232) hx hb (nI_toInt (by omega)) (rfl) dX6_worn_201 (by decide) (fun h_10 => ?_) (fun h_10 => (by omega : False).elim)
                  refine lv_iinc (v := nI (c + 1)) (lv' := [(7, .int (nI (c + 1))), (8, .int (nI z)), (6, .int (nI ((fnd (if (soR M J (24 * s + i)) = true then 64 else 0) (fun x7 => soR (wnL M w x7) J (24 * s + i)) c) ||| 0))), (5, .int (nI 0)), (0, .ref (ad 0)), (1, .int (nI w)), (2, .int (nI s)), (3, .int (nI ln)), (4, .int (nI i))]) hx hb dX6_worn_232 hl (k := 2) rfl (n_inc c 1) (by decide) rfl (fun ls hl => ?_)
                  refine lv_goto (tgt := 83) hx hb dX6_worn_235 (by decide) ?_
                  have hl0 : lv_has ls 10 [(7, .int (nI (c + 1))), (6, .int (nI (fnd (if (soR M J (24 * s + i)) = true then 64 else 0) (fun x7 => soR (wnL M w x7) J (24 * s + i)) (c + 1)))), (5, .int (nI 0)), (0, .ref (ad 0)), (1, .int (nI w)), (2, .int (nI s)), (3, .int (nI ln)), (4, .int (nI i))] := by rw [(show nI (fnd (if (soR M J (24 * s + i)) = true then 64 else 0) (fun x7 => soR (wnL M w x7) J (24 * s + i)) (c + 1)) = nI ((fnd (if (soR M J (24 * s + i)) = true then 64 else 0) (fun x7 => soR (wnL M w x7) J (24 * s + i)) c) ||| 0) from by rw [Nat.or_zero, fnd, if_neg (by show ¬ soR (wnL M w c) J (24 * s + i) = true; rw [b2n_0 h_9]; decide)])]; exact lv_sub hl [0, 2, 3, 4, 5, 6, 7, 8] rfl
                  exact ih83 (c + 1) (by omega) _ _ _ (by rw [show z = 12 by omega, wnR_s] at hP; exact hP) hS hl0
                | succ d197 ih197 =>
                  intro z h_z H locs ls hP hS hl
                  refine lv_iload hx hb dX6_worn_197 (lv_at hl 0 rfl) ?_
                  refine lv_bipush (v := nI 12) hx hb dX6_worn_199 (by decide) ?_
                  refine x_zge (u := (z : Nat)) (v := (12 : Int)) (tgt := 232) hx hb (nI_toInt (by omega)) (rfl) dX6_worn_201 (by decide) (fun h_11 => (by omega : False).elim) (fun h_11 => ?_)
                  refine lv_aload_n hx hb dX6_worn_204 rfl (lv_at hl 4 rfl) ?_
                  refine x_getr CF hK hP 0 (by decide) dR_0 rfl uX6 0 (by decide) (j := 1) rfl wd3_96 rfl dX6_worn_205 ?_
                  refine lv_iconst (v := nI 1) hx hb dX6_worn_208 (by decide) ?_
                  refine lv_bipush (v := nI 12) hx hb dX6_worn_209 (by decide) ?_
                  refine lv_iload hx hb dX6_worn_211 (lv_at hl 2 rfl) ?_
                  refine x_imul hx hb dX6_worn_213 ?_
                  refine x_iadd hx hb dX6_worn_214 ?_
                  refine lv_iload hx hb dX6_worn_215 (lv_at hl 0 rfl) ?_
                  refine x_iadd hx hb dX6_worn_217 ?_
                  refine lv_aload_n hx hb dX6_worn_218 rfl (lv_at hl 4 rfl) ?_
                  refine x_getr CF hK hP 0 (by decide) dR_0 rfl uX6 5 (by decide) (j := 4) rfl wd3_101 rfl dX6_worn_219 ?_
                  refine lv_iload hx hb dX6_worn_222 (lv_at hl 0 rfl) ?_
                  refine x_iald CF hK hP 4 (by decide) dR_4 z (by omega) (by decide) dX6_worn_224 ?_
                  refine x_ri (show (nI ((rowO (wnL M w c) 1 (1 + 12 * c) z (rowR M c)) 4 z)) = nI (rowR M c z) from congrArg nI (by rw [rowO_out (by decide)]; show rowO _ 1 _ 12 _ 4 z = _; rw [rowO_out (by decide), rowN_in (by omega)])) ?_
                  refine x_iast CF hK hI hA hP hS 1 (by decide) dR_1 ((1 + (12 * c)) + z) (by omega) (by decide) (rowR M c z) dX6_worn_225 (fun H locs hP hS => ?_)
                  refine lv_iinc (v := nI (z + 1)) (lv' := [(8, .int (nI (z + 1))), (6, .int (nI ((fnd (if (soR M J (24 * s + i)) = true then 64 else 0) (fun x7 => soR (wnL M w x7) J (24 * s + i)) c) ||| 0))), (7, .int (nI c)), (5, .int (nI 0)), (0, .ref (ad 0)), (1, .int (nI w)), (2, .int (nI s)), (3, .int (nI ln)), (4, .int (nI i))]) hx hb dX6_worn_226 hl (k := 0) rfl (n_inc z 1) (by decide) rfl (fun ls hl => ?_)
                  refine lv_goto (tgt := 197) hx hb dX6_worn_229 (by decide) ?_
                  have hl0 : lv_has ls 10 [(8, .int (nI (z + 1))), (6, .int (nI ((fnd (if (soR M J (24 * s + i)) = true then 64 else 0) (fun x7 => soR (wnL M w x7) J (24 * s + i)) c) ||| 0))), (7, .int (nI c)), (5, .int (nI 0)), (0, .ref (ad 0)), (1, .int (nI w)), (2, .int (nI s)), (3, .int (nI ln)), (4, .int (nI i))] := lv_sub hl [0, 1, 2, 3, 4, 5, 6, 7, 8] rfl
                  exact ih197 (z + 1) (by omega) _ _ _ (by rw [rowO_s rfl (h := rfl)] at hP; exact hP) hS hl0
              have hl0 : lv_has ls 10 [(8, .int (nI 0)), (6, .int (nI ((fnd (if (soR M J (24 * s + i)) = true then 64 else 0) (fun x7 => soR (wnL M w x7) J (24 * s + i)) c) ||| 0))), (7, .int (nI c)), (5, .int (nI 0)), (0, .ref (ad 0)), (1, .int (nI w)), (2, .int (nI s)), (3, .int (nI ln)), (4, .int (nI i))] := lv_sub hl [0, 1, 2, 3, 4, 5, 6, 7, 8] rfl
              exact L197 12 0 (by omega) _ _ _ (by rw [rowO_0]; exact hP) hS hl0
            · refine lv_iconst (v := nI 1) hx hb dX6_worn_183 (by decide) ?_
              refine lv_iload hx hb dX6_worn_184 (lv_at hl 1 rfl) ?_
              refine x_ishl hx hb (by omega) dX6_worn_186 ?_
              refine lv_goto (tgt := 191) hx hb dX6_worn_187 (by decide) ?_
              refine x_ior hx hb dX6_worn_191 ?_
              refine lv_istore (lv' := [(6, .int (nI ((fnd (if (soR M J (24 * s + i)) = true then 64 else 0) (fun x7 => soR (wnL M w x7) J (24 * s + i)) c) ||| (1 <<< c)))), (8, .int (nI q)), (7, .int (nI c)), (5, .int (nI 0)), (0, .ref (ad 0)), (1, .int (nI w)), (2, .int (nI s)), (3, .int (nI ln)), (4, .int (nI i))]) hx hb dX6_worn_192 hl (by decide) rfl (fun ls hl => ?_)
              refine lv_iconst (v := nI 0) hx hb dX6_worn_194 (by decide) ?_
              refine lv_istore (lv' := [(8, .int (nI 0)), (6, .int (nI ((fnd (if (soR M J (24 * s + i)) = true then 64 else 0) (fun x7 => soR (wnL M w x7) J (24 * s + i)) c) ||| (1 <<< c)))), (7, .int (nI c)), (5, .int (nI 0)), (0, .ref (ad 0)), (1, .int (nI w)), (2, .int (nI s)), (3, .int (nI ln)), (4, .int (nI i))]) hx hb dX6_worn_195 hl (by decide) rfl (fun ls hl => ?_)
              have L197 : ∀ (d197 : Nat) (z : Nat), (z + d197 = 12) → (∀ (H : Heap) (locs : List Loc) (ls : Array Slot), g_P g ad dsR 14 (rowO (wnL M w c) 1 (1 + 12 * c) z (rowR M c)) J H → va_S (g_A ad 14) s9.heap H locs → lv_has ls 10 [(8, .int (nI z)), (6, .int (nI ((fnd (if (soR M J (24 * s + i)) = true then 64 else 0) (fun x7 => soR (wnL M w x7) J (24 * s + i)) c) ||| (1 <<< c)))), (7, .int (nI c)), (5, .int (nI 0)), (0, .ref (ad 0)), (1, .int (nI w)), (2, .int (nI s)), (3, .int (nI ln)), (4, .int (nI i))] → W p9 l e9 (g_rm 5) s9 m9 args9 below9 meth9 c9 H locs 0 0 (MQ below9 (va_Qi (fun r' (_ : Unit) => r' = (nI (fnd (if (soR M J (24 * s + i)) = true then 64 else 0) (fun x7 => soR (wnL M w x7) J (24 * s + i)) (M 1 0)))) (fun _ t => g_P g ad dsR 14 (wnR M (M 1 0)) J t.heap) (g_A ad 14)) args9 s9 0 0 (g_A ad 14)) (F0 m9 197 ls [])) := by
                intro d197
                induction d197 with
                | zero =>
                  intro z h_z H locs ls hP hS hl
                  refine lv_iload hx hb dX6_worn_197 (lv_at hl 0 rfl) ?_
                  refine lv_bipush (v := nI 12) hx hb dX6_worn_199 (by decide) ?_
                  refine x_zge (u := (z : Nat)) (v := (12 : Int)) (tgt := 232) hx hb (nI_toInt (by omega)) (rfl) dX6_worn_201 (by decide) (fun h_12 => ?_) (fun h_12 => (by omega : False).elim)
                  refine lv_iinc (v := nI (c + 1)) (lv' := [(7, .int (nI (c + 1))), (8, .int (nI z)), (6, .int (nI ((fnd (if (soR M J (24 * s + i)) = true then 64 else 0) (fun x7 => soR (wnL M w x7) J (24 * s + i)) c) ||| (1 <<< c)))), (5, .int (nI 0)), (0, .ref (ad 0)), (1, .int (nI w)), (2, .int (nI s)), (3, .int (nI ln)), (4, .int (nI i))]) hx hb dX6_worn_232 hl (k := 2) rfl (n_inc c 1) (by decide) rfl (fun ls hl => ?_)
                  refine lv_goto (tgt := 83) hx hb dX6_worn_235 (by decide) ?_
                  have hl0 : lv_has ls 10 [(7, .int (nI (c + 1))), (6, .int (nI (fnd (if (soR M J (24 * s + i)) = true then 64 else 0) (fun x7 => soR (wnL M w x7) J (24 * s + i)) (c + 1)))), (5, .int (nI 0)), (0, .ref (ad 0)), (1, .int (nI w)), (2, .int (nI s)), (3, .int (nI ln)), (4, .int (nI i))] := by rw [(show nI (fnd (if (soR M J (24 * s + i)) = true then 64 else 0) (fun x7 => soR (wnL M w x7) J (24 * s + i)) (c + 1)) = nI ((fnd (if (soR M J (24 * s + i)) = true then 64 else 0) (fun x7 => soR (wnL M w x7) J (24 * s + i)) c) ||| (1 <<< c)) from by rw [fnd, if_pos (b2n_1 h_9)])]; exact lv_sub hl [0, 2, 3, 4, 5, 6, 7, 8] rfl
                  exact ih83 (c + 1) (by omega) _ _ _ (by rw [show z = 12 by omega, wnR_s] at hP; exact hP) hS hl0
                | succ d197 ih197 =>
                  intro z h_z H locs ls hP hS hl
                  refine lv_iload hx hb dX6_worn_197 (lv_at hl 0 rfl) ?_
                  refine lv_bipush (v := nI 12) hx hb dX6_worn_199 (by decide) ?_
                  refine x_zge (u := (z : Nat)) (v := (12 : Int)) (tgt := 232) hx hb (nI_toInt (by omega)) (rfl) dX6_worn_201 (by decide) (fun h_13 => (by omega : False).elim) (fun h_13 => ?_)
                  refine lv_aload_n hx hb dX6_worn_204 rfl (lv_at hl 4 rfl) ?_
                  refine x_getr CF hK hP 0 (by decide) dR_0 rfl uX6 0 (by decide) (j := 1) rfl wd3_96 rfl dX6_worn_205 ?_
                  refine lv_iconst (v := nI 1) hx hb dX6_worn_208 (by decide) ?_
                  refine lv_bipush (v := nI 12) hx hb dX6_worn_209 (by decide) ?_
                  refine lv_iload hx hb dX6_worn_211 (lv_at hl 2 rfl) ?_
                  refine x_imul hx hb dX6_worn_213 ?_
                  refine x_iadd hx hb dX6_worn_214 ?_
                  refine lv_iload hx hb dX6_worn_215 (lv_at hl 0 rfl) ?_
                  refine x_iadd hx hb dX6_worn_217 ?_
                  refine lv_aload_n hx hb dX6_worn_218 rfl (lv_at hl 4 rfl) ?_
                  refine x_getr CF hK hP 0 (by decide) dR_0 rfl uX6 5 (by decide) (j := 4) rfl wd3_101 rfl dX6_worn_219 ?_
                  refine lv_iload hx hb dX6_worn_222 (lv_at hl 0 rfl) ?_
                  refine x_iald CF hK hP 4 (by decide) dR_4 z (by omega) (by decide) dX6_worn_224 ?_
                  refine x_ri (show (nI ((rowO (wnL M w c) 1 (1 + 12 * c) z (rowR M c)) 4 z)) = nI (rowR M c z) from congrArg nI (by rw [rowO_out (by decide)]; show rowO _ 1 _ 12 _ 4 z = _; rw [rowO_out (by decide), rowN_in (by omega)])) ?_
                  refine x_iast CF hK hI hA hP hS 1 (by decide) dR_1 ((1 + (12 * c)) + z) (by omega) (by decide) (rowR M c z) dX6_worn_225 (fun H locs hP hS => ?_)
                  refine lv_iinc (v := nI (z + 1)) (lv' := [(8, .int (nI (z + 1))), (6, .int (nI ((fnd (if (soR M J (24 * s + i)) = true then 64 else 0) (fun x7 => soR (wnL M w x7) J (24 * s + i)) c) ||| (1 <<< c)))), (7, .int (nI c)), (5, .int (nI 0)), (0, .ref (ad 0)), (1, .int (nI w)), (2, .int (nI s)), (3, .int (nI ln)), (4, .int (nI i))]) hx hb dX6_worn_226 hl (k := 0) rfl (n_inc z 1) (by decide) rfl (fun ls hl => ?_)
                  refine lv_goto (tgt := 197) hx hb dX6_worn_229 (by decide) ?_
                  have hl0 : lv_has ls 10 [(8, .int (nI (z + 1))), (6, .int (nI ((fnd (if (soR M J (24 * s + i)) = true then 64 else 0) (fun x7 => soR (wnL M w x7) J (24 * s + i)) c) ||| (1 <<< c)))), (7, .int (nI c)), (5, .int (nI 0)), (0, .ref (ad 0)), (1, .int (nI w)), (2, .int (nI s)), (3, .int (nI ln)), (4, .int (nI i))] := lv_sub hl [0, 1, 2, 3, 4, 5, 6, 7, 8] rfl
                  exact ih197 (z + 1) (by omega) _ _ _ (by rw [rowO_s rfl (h := rfl)] at hP; exact hP) hS hl0
              have hl0 : lv_has ls 10 [(8, .int (nI 0)), (6, .int (nI ((fnd (if (soR M J (24 * s + i)) = true then 64 else 0) (fun x7 => soR (wnL M w x7) J (24 * s + i)) c) ||| (1 <<< c)))), (7, .int (nI c)), (5, .int (nI 0)), (0, .ref (ad 0)), (1, .int (nI w)), (2, .int (nI s)), (3, .int (nI ln)), (4, .int (nI i))] := lv_sub hl [0, 1, 2, 3, 4, 5, 6, 7, 8] rfl
              exact L197 12 0 (by omega) _ _ _ (by rw [rowO_0]; exact hP) hS hl0
          | succ d97 ih97 =>
            intro q h_q H locs ls hP hS hl
            have b7 := hw.row (show c < 6 by omega) (show q < 12 by omega)
            refine lv_iload hx hb dX6_worn_97 (lv_at hl 0 rfl) ?_
            refine lv_bipush (v := nI 12) hx hb dX6_worn_99 (by decide) ?_
            refine x_zge (u := (q : Nat)) (v := (12 : Int)) (tgt := 167) hx hb (nI_toInt (by omega)) (rfl) dX6_worn_101 (by decide) (fun h_14 => (by omega : False).elim) (fun h_14 => ?_)
            refine lv_iconst (v := nI 1) hx hb dX6_worn_104 (by decide) ?_
            refine lv_bipush (v := nI 12) hx hb dX6_worn_105 (by decide) ?_
            refine lv_iload hx hb dX6_worn_107 (lv_at hl 1 rfl) ?_
            refine x_imul hx hb dX6_worn_109 ?_
            refine x_iadd hx hb dX6_worn_110 ?_
            refine lv_iload hx hb dX6_worn_111 (lv_at hl 0 rfl) ?_
            refine x_iadd hx hb dX6_worn_113 ?_
            refine lv_istore (lv' := [(9, .int (nI ((1 + (12 * c)) + q))), (8, .int (nI q)), (7, .int (nI c)), (6, .int (nI (fnd (if (soR M J (24 * s + i)) = true then 64 else 0) (fun x7 => soR (wnL M w x7) J (24 * s + i)) c))), (5, .int (nI 0)), (0, .ref (ad 0)), (1, .int (nI w)), (2, .int (nI s)), (3, .int (nI ln)), (4, .int (nI i))]) hx hb dX6_worn_114 hl (by decide) rfl (fun ls hl => ?_)
            refine lv_aload_n hx hb dX6_worn_116 rfl (lv_at hl 5 rfl) ?_
            refine x_getr CF hK hP 0 (by decide) dR_0 rfl uX6 5 (by decide) (j := 4) rfl wd3_101 rfl dX6_worn_117 ?_
            refine lv_iload hx hb dX6_worn_120 (lv_at hl 1 rfl) ?_
            refine lv_aload_n hx hb dX6_worn_122 rfl (lv_at hl 5 rfl) ?_
            refine x_getr CF hK hP 0 (by decide) dR_0 rfl uX6 0 (by decide) (j := 1) rfl wd3_96 rfl dX6_worn_123 ?_
            refine lv_iload hx hb dX6_worn_126 (lv_at hl 0 rfl) ?_
            refine x_iald CF hK hP 1 (by decide) dR_1 ((1 + (12 * c)) + q) (by omega) (by decide) dX6_worn_128 ?_
            refine x_ri (show (nI ((wq M w c q) 1 ((1 + (12 * c)) + q))) = nI (M 1 (1 + 12 * c + q)) from congrArg nI (wq_r (Nat.le_refl q))) ?_
            refine x_iast CF hK hI hA hP hS 4 (by decide) dR_4 q (by omega) (by decide) (M 1 (1 + 12 * c + q)) dX6_worn_129 (fun H locs hP hS => ?_)
            refine lv_aload_n hx hb dX6_worn_130 rfl (lv_at hl 5 rfl) ?_
            refine x_getr CF hK hP 0 (by decide) dR_0 rfl uX6 0 (by decide) (j := 1) rfl wd3_96 rfl dX6_worn_131 ?_
            refine lv_iload hx hb dX6_worn_134 (lv_at hl 0 rfl) ?_
            refine lv_aload_n hx hb dX6_worn_136 rfl (lv_at hl 5 rfl) ?_
            refine x_getr CF hK hP 0 (by decide) dR_0 rfl uX6 0 (by decide) (j := 1) rfl wd3_96 rfl dX6_worn_137 ?_
            refine lv_iload hx hb dX6_worn_140 (lv_at hl 0 rfl) ?_
            refine x_iald CF hK hP 1 (by decide) dR_1 ((1 + (12 * c)) + q) (by omega) (by decide) dX6_worn_142 ?_
            refine x_ri (show (nI ((u2 (wq M w c q) 4 q (M 1 (1 + 12 * c + q))) 1 ((1 + (12 * c)) + q))) = nI (M 1 (1 + 12 * c + q)) from congrArg nI (by rw [u2_row (by decide)]; exact wq_r (Nat.le_refl q))) ?_
            refine lv_iload_n hx hb dX6_worn_143 rfl (lv_at hl 6 rfl) ?_
            refine x_zle (u := (M 1 (1 + 12 * c + q) : Nat)) (v := (w : Nat)) (tgt := 159) hx hb (nI_toInt (by omega)) (nI_toInt (by omega)) dX6_worn_144 (by decide) (fun h_15 => ?_) (fun h_15 => ?_)
            · refine lv_iconst (v := nI 0) hx hb dX6_worn_159 (by decide) ?_
              refine x_iast CF hK hI hA hP hS 1 (by decide) dR_1 ((1 + (12 * c)) + q) (by omega) (by decide) 0 dX6_worn_160 (fun H locs hP hS => ?_)
              have hP : g_P g ad dsR 14 (wq M w c (q + 1)) J H := (by rw [← wq_s (x := M 1 (1 + 12 * c + q)) (y := 0) rfl (by omega)]; exact hP)
              refine lv_iinc (v := nI (q + 1)) (lv' := [(8, .int (nI (q + 1))), (9, .int (nI ((1 + (12 * c)) + q))), (7, .int (nI c)), (6, .int (nI (fnd (if (soR M J (24 * s + i)) = true then 64 else 0) (fun x7 => soR (wnL M w x7) J (24 * s + i)) c))), (5, .int (nI 0)), (0, .ref (ad 0)), (1, .int (nI w)), (2, .int (nI s)), (3, .int (nI ln)), (4, .int (nI i))]) hx hb dX6_worn_161 hl (k := 1) rfl (n_inc q 1) (by decide) rfl (fun ls hl => ?_)
              refine lv_goto (tgt := 97) hx hb dX6_worn_164 (by decide) ?_
              have hl0 : lv_has ls 10 [(8, .int (nI (q + 1))), (7, .int (nI c)), (6, .int (nI (fnd (if (soR M J (24 * s + i)) = true then 64 else 0) (fun x7 => soR (wnL M w x7) J (24 * s + i)) c))), (5, .int (nI 0)), (0, .ref (ad 0)), (1, .int (nI w)), (2, .int (nI s)), (3, .int (nI ln)), (4, .int (nI i))] := lv_sub hl [0, 2, 3, 4, 5, 6, 7, 8, 9] rfl
              exact ih97 (q + 1) (by omega) _ _ _ (hP) hS hl0
            · refine lv_aload_n hx hb dX6_worn_147 rfl (lv_at hl 5 rfl) ?_
              refine x_getr CF hK hP 0 (by decide) dR_0 rfl uX6 0 (by decide) (j := 1) rfl wd3_96 rfl dX6_worn_148 ?_
              refine lv_iload hx hb dX6_worn_151 (lv_at hl 0 rfl) ?_
              refine x_iald CF hK hP 1 (by decide) dR_1 ((1 + (12 * c)) + q) (by omega) (by decide) dX6_worn_153 ?_
              refine x_ri (show (nI ((u2 (wq M w c q) 4 q (M 1 (1 + 12 * c + q))) 1 ((1 + (12 * c)) + q))) = nI (M 1 (1 + 12 * c + q)) from congrArg nI (by rw [u2_row (by decide)]; exact wq_r (Nat.le_refl q))) ?_
              refine lv_iload_n hx hb dX6_worn_154 rfl (lv_at hl 6 rfl) ?_
              refine x_isub hx hb (by omega) dX6_worn_155 ?_
              refine lv_goto (tgt := 160) hx hb dX6_worn_156 (by decide) ?_
              refine x_iast CF hK hI hA hP hS 1 (by decide) dR_1 ((1 + (12 * c)) + q) (by omega) (by decide) ((M 1 (1 + 12 * c + q)) - w) dX6_worn_160 (fun H locs hP hS => ?_)
              have hP : g_P g ad dsR 14 (wq M w c (q + 1)) J H := (by rw [← wq_s (x := M 1 (1 + 12 * c + q)) rfl rfl]; exact hP)
              refine lv_iinc (v := nI (q + 1)) (lv' := [(8, .int (nI (q + 1))), (9, .int (nI ((1 + (12 * c)) + q))), (7, .int (nI c)), (6, .int (nI (fnd (if (soR M J (24 * s + i)) = true then 64 else 0) (fun x7 => soR (wnL M w x7) J (24 * s + i)) c))), (5, .int (nI 0)), (0, .ref (ad 0)), (1, .int (nI w)), (2, .int (nI s)), (3, .int (nI ln)), (4, .int (nI i))]) hx hb dX6_worn_161 hl (k := 1) rfl (n_inc q 1) (by decide) rfl (fun ls hl => ?_)
              refine lv_goto (tgt := 97) hx hb dX6_worn_164 (by decide) ?_
              have hl0 : lv_has ls 10 [(8, .int (nI (q + 1))), (7, .int (nI c)), (6, .int (nI (fnd (if (soR M J (24 * s + i)) = true then 64 else 0) (fun x7 => soR (wnL M w x7) J (24 * s + i)) c))), (5, .int (nI 0)), (0, .ref (ad 0)), (1, .int (nI w)), (2, .int (nI s)), (3, .int (nI ln)), (4, .int (nI i))] := lv_sub hl [0, 2, 3, 4, 5, 6, 7, 8, 9] rfl
              exact ih97 (q + 1) (by omega) _ _ _ (hP) hS hl0
        have hl0 : lv_has ls 10 [(8, .int (nI 0)), (7, .int (nI c)), (6, .int (nI (fnd (if (soR M J (24 * s + i)) = true then 64 else 0) (fun x7 => soR (wnL M w x7) J (24 * s + i)) c))), (5, .int (nI 0)), (0, .ref (ad 0)), (1, .int (nI w)), (2, .int (nI s)), (3, .int (nI ln)), (4, .int (nI i))] := lv_sub hl [0, 1, 2, 3, 4, 5, 6, 7, 8] rfl
        exact L97 12 0 (by omega) _ _ _ (by rw [wq_0]; exact hP) hS hl0
    have hl0 : lv_has ls 10 [(7, .int (nI 0)), (6, .int (nI (fnd (if (soR M J (24 * s + i)) = true then 64 else 0) (fun x7 => soR (wnL M w x7) J (24 * s + i)) 0))), (5, .int (nI 0)), (0, .ref (ad 0)), (1, .int (nI w)), (2, .int (nI s)), (3, .int (nI ln)), (4, .int (nI i))] := by rw [(show nI (fnd (if (soR M J (24 * s + i)) = true then 64 else 0) (fun x7 => soR (wnL M w x7) J (24 * s + i)) 0) = nI 0 from by rw [fnd, if_neg (by rw [b2n_0 h_5]; decide)])]; exact lv_sub hl [0, 1, 2, 3, 4, 5, 6, 7] rfl
    exact L83 (M 1 0) 0 (by omega) _ _ _ (hP) hS hl0
  · refine lv_bipush (v := nI 64) hx hb dX6_worn_72 (by decide) ?_
    refine lv_goto (tgt := 78) hx hb dX6_worn_74 (by decide) ?_
    refine lv_istore (lv' := [(6, .int (nI 64)), (5, .int (nI 0)), (0, .ref (ad 0)), (1, .int (nI w)), (2, .int (nI s)), (3, .int (nI ln)), (4, .int (nI i))]) hx hb dX6_worn_78 hl (by decide) rfl (fun ls hl => ?_)
    refine lv_iconst (v := nI 0) hx hb dX6_worn_80 (by decide) ?_
    refine lv_istore (lv' := [(7, .int (nI 0)), (6, .int (nI 64)), (5, .int (nI 0)), (0, .ref (ad 0)), (1, .int (nI w)), (2, .int (nI s)), (3, .int (nI ln)), (4, .int (nI i))]) hx hb dX6_worn_81 hl (by decide) rfl (fun ls hl => ?_)
    have L83 : ∀ (d83 : Nat) (c : Nat), (c + d83 = (M 1 0)) → (∀ (H : Heap) (locs : List Loc) (ls : Array Slot), g_P g ad dsR 14 (wnR M c) J H → va_S (g_A ad 14) s9.heap H locs → lv_has ls 10 [(7, .int (nI c)), (6, .int (nI (fnd (if (soR M J (24 * s + i)) = true then 64 else 0) (fun x7 => soR (wnL M w x7) J (24 * s + i)) c))), (5, .int (nI 0)), (0, .ref (ad 0)), (1, .int (nI w)), (2, .int (nI s)), (3, .int (nI ln)), (4, .int (nI i))] → W p9 l e9 (g_rm 5) s9 m9 args9 below9 meth9 c9 H locs 0 0 (MQ below9 (va_Qi (fun r' (_ : Unit) => r' = (nI (fnd (if (soR M J (24 * s + i)) = true then 64 else 0) (fun x7 => soR (wnL M w x7) J (24 * s + i)) (M 1 0)))) (fun _ t => g_P g ad dsR 14 (wnR M (M 1 0)) J t.heap) (g_A ad 14)) args9 s9 0 0 (g_A ad 14)) (F0 m9 83 ls [])) := by
      intro d83
      induction d83 with
      | zero =>
        intro c h_c H locs ls hP hS hl
        refine lv_iload hx hb dX6_worn_83 (lv_at hl 0 rfl) ?_
        refine lv_aload_n hx hb dX6_worn_85 rfl (lv_at hl 3 rfl) ?_
        refine x_getr CF hK hP 0 (by decide) dR_0 rfl uX6 0 (by decide) (j := 1) rfl wd3_96 rfl dX6_worn_86 ?_
        refine lv_iconst (v := nI 0) hx hb dX6_worn_89 (by decide) ?_
        refine x_iald CF hK hP 1 (by decide) dR_1 0 (by omega) (by decide) dX6_worn_90 ?_
        refine x_ri (show (nI ((wnR M c) 1 0)) = nI (M 1 0) from congrArg nI (by rw [wnR_1])) ?_
        refine x_zge (u := (c : Nat)) (v := (M 1 0 : Nat)) (tgt := 238) hx hb (nI_toInt (by omega)) (nI_toInt (by omega)) dX6_worn_91 (by decide) (fun h_16 => ?_) (fun h_16 => (by omega : False).elim)
        refine lv_iload hx hb dX6_worn_238 (lv_at hl 1 rfl) ?_
        exact x_reti hx hb hr9 hlk9 hS (by rw [show c = M 1 0 by omega] at hP; exact hP) (by rw [show c = M 1 0 by omega]) dX6_worn_240
      | succ d83 ih83 =>
        intro c h_c H locs ls hP hS hl
        refine lv_iload hx hb dX6_worn_83 (lv_at hl 0 rfl) ?_
        refine lv_aload_n hx hb dX6_worn_85 rfl (lv_at hl 3 rfl) ?_
        refine x_getr CF hK hP 0 (by decide) dR_0 rfl uX6 0 (by decide) (j := 1) rfl wd3_96 rfl dX6_worn_86 ?_
        refine lv_iconst (v := nI 0) hx hb dX6_worn_89 (by decide) ?_
        refine x_iald CF hK hP 1 (by decide) dR_1 0 (by omega) (by decide) dX6_worn_90 ?_
        refine x_ri (show (nI ((wnR M c) 1 0)) = nI (M 1 0) from congrArg nI (by rw [wnR_1])) ?_
        refine x_zge (u := (c : Nat)) (v := (M 1 0 : Nat)) (tgt := 238) hx hb (nI_toInt (by omega)) (nI_toInt (by omega)) dX6_worn_91 (by decide) (fun h_17 => (by omega : False).elim) (fun h_17 => ?_)
        refine lv_iconst (v := nI 0) hx hb dX6_worn_94 (by decide) ?_
        refine lv_istore (lv' := [(8, .int (nI 0)), (7, .int (nI c)), (6, .int (nI (fnd (if (soR M J (24 * s + i)) = true then 64 else 0) (fun x7 => soR (wnL M w x7) J (24 * s + i)) c))), (5, .int (nI 0)), (0, .ref (ad 0)), (1, .int (nI w)), (2, .int (nI s)), (3, .int (nI ln)), (4, .int (nI i))]) hx hb dX6_worn_95 hl (by decide) rfl (fun ls hl => ?_)
        have L97 : ∀ (d97 : Nat) (q : Nat), (q + d97 = 12) → (∀ (H : Heap) (locs : List Loc) (ls : Array Slot), g_P g ad dsR 14 (wq M w c q) J H → va_S (g_A ad 14) s9.heap H locs → lv_has ls 10 [(8, .int (nI q)), (7, .int (nI c)), (6, .int (nI (fnd (if (soR M J (24 * s + i)) = true then 64 else 0) (fun x7 => soR (wnL M w x7) J (24 * s + i)) c))), (5, .int (nI 0)), (0, .ref (ad 0)), (1, .int (nI w)), (2, .int (nI s)), (3, .int (nI ln)), (4, .int (nI i))] → W p9 l e9 (g_rm 5) s9 m9 args9 below9 meth9 c9 H locs 0 0 (MQ below9 (va_Qi (fun r' (_ : Unit) => r' = (nI (fnd (if (soR M J (24 * s + i)) = true then 64 else 0) (fun x7 => soR (wnL M w x7) J (24 * s + i)) (M 1 0)))) (fun _ t => g_P g ad dsR 14 (wnR M (M 1 0)) J t.heap) (g_A ad 14)) args9 s9 0 0 (g_A ad 14)) (F0 m9 97 ls [])) := by
          intro d97
          induction d97 with
          | zero =>
            intro q h_q H locs ls hP hS hl
            refine lv_iload hx hb dX6_worn_97 (lv_at hl 0 rfl) ?_
            refine lv_bipush (v := nI 12) hx hb dX6_worn_99 (by decide) ?_
            refine x_zge (u := (q : Nat)) (v := (12 : Int)) (tgt := 167) hx hb (nI_toInt (by omega)) (rfl) dX6_worn_101 (by decide) (fun h_18 => ?_) (fun h_18 => (by omega : False).elim)
            have hP : g_P g ad dsR 14 (wnL M w c) J H := by rw [show q = 12 by omega] at hP; exact hP
            refine lv_iload hx hb dX6_worn_167 (lv_at hl 2 rfl) ?_
            refine lv_aload_n hx hb dX6_worn_169 rfl (lv_at hl 4 rfl) ?_
            refine lv_bipush (v := nI 24) hx hb dX6_worn_170 (by decide) ?_
            refine lv_iload_n hx hb dX6_worn_172 rfl (lv_at hl 6 rfl) ?_
            refine x_imul hx hb dX6_worn_173 ?_
            refine lv_iload hx hb dX6_worn_174 (lv_at hl 8 rfl) ?_
            refine x_iadd hx hb dX6_worn_176 ?_
            refine x_callVI CF hK hP hS hA hl (As := [.int (nI ((24 * s) + i))]) (rest := [.int (nI (fnd (if (soR M J (24 * s + i)) = true then 64 else 0) (fun x7 => soR (wnL M w x7) J (24 * s + i)) c))]) (r_isSo hI (wnL M w c) J (hw.wn w (by omega)) ((24 * s) + i) (by rw [show wnL M w c 1 73 = M 1 73 from wq_1 (q := 12) (by omega) (by omega) (by omega)]; omega)) kw_X6_isSo wd4_102 (by decide) dR_0 rfl rfl ⟨Nat.le_of_ble_eq_true rfl, Nat.le_of_ble_eq_true rfl⟩ ⟨Nat.le_refl _, Nat.le_refl _⟩ (Nat.le_of_ble_eq_true rfl) dX6_worn_177 (fun H locs hP hS => ?_)
            refine x_yeq (u := (b2n (soR (wnL M w c) J ((24 * s) + i)) : Nat)) (tgt := 190) hx hb (nI_toInt (Nat.lt_of_le_of_lt (b2n_le _) (by decide))) dX6_worn_180 (by decide) (fun h_19 => ?_) (fun h_19 => ?_)
            · refine lv_iconst (v := nI 0) hx hb dX6_worn_190 (by decide) ?_
              refine x_ior hx hb dX6_worn_191 ?_
              refine lv_istore (lv' := [(6, .int (nI ((fnd (if (soR M J (24 * s + i)) = true then 64 else 0) (fun x7 => soR (wnL M w x7) J (24 * s + i)) c) ||| 0))), (8, .int (nI q)), (7, .int (nI c)), (5, .int (nI 0)), (0, .ref (ad 0)), (1, .int (nI w)), (2, .int (nI s)), (3, .int (nI ln)), (4, .int (nI i))]) hx hb dX6_worn_192 hl (by decide) rfl (fun ls hl => ?_)
              refine lv_iconst (v := nI 0) hx hb dX6_worn_194 (by decide) ?_
              refine lv_istore (lv' := [(8, .int (nI 0)), (6, .int (nI ((fnd (if (soR M J (24 * s + i)) = true then 64 else 0) (fun x7 => soR (wnL M w x7) J (24 * s + i)) c) ||| 0))), (7, .int (nI c)), (5, .int (nI 0)), (0, .ref (ad 0)), (1, .int (nI w)), (2, .int (nI s)), (3, .int (nI ln)), (4, .int (nI i))]) hx hb dX6_worn_195 hl (by decide) rfl (fun ls hl => ?_)
              have L197 : ∀ (d197 : Nat) (z : Nat), (z + d197 = 12) → (∀ (H : Heap) (locs : List Loc) (ls : Array Slot), g_P g ad dsR 14 (rowO (wnL M w c) 1 (1 + 12 * c) z (rowR M c)) J H → va_S (g_A ad 14) s9.heap H locs → lv_has ls 10 [(8, .int (nI z)), (6, .int (nI ((fnd (if (soR M J (24 * s + i)) = true then 64 else 0) (fun x7 => soR (wnL M w x7) J (24 * s + i)) c) ||| 0))), (7, .int (nI c)), (5, .int (nI 0)), (0, .ref (ad 0)), (1, .int (nI w)), (2, .int (nI s)), (3, .int (nI ln)), (4, .int (nI i))] → W p9 l e9 (g_rm 5) s9 m9 args9 below9 meth9 c9 H locs 0 0 (MQ below9 (va_Qi (fun r' (_ : Unit) => r' = (nI (fnd (if (soR M J (24 * s + i)) = true then 64 else 0) (fun x7 => soR (wnL M w x7) J (24 * s + i)) (M 1 0)))) (fun _ t => g_P g ad dsR 14 (wnR M (M 1 0)) J t.heap) (g_A ad 14)) args9 s9 0 0 (g_A ad 14)) (F0 m9 197 ls [])) := by
                intro d197
                induction d197 with
                | zero =>
                  intro z h_z H locs ls hP hS hl
                  refine lv_iload hx hb dX6_worn_197 (lv_at hl 0 rfl) ?_
                  refine lv_bipush (v := nI 12) hx hb dX6_worn_199 (by decide) ?_
                  refine x_zge (u := (z : Nat)) (v := (12 : Int)) (tgt := 232) hx hb (nI_toInt (by omega)) (rfl) dX6_worn_201 (by decide) (fun h_20 => ?_) (fun h_20 => (by omega : False).elim)
                  refine lv_iinc (v := nI (c + 1)) (lv' := [(7, .int (nI (c + 1))), (8, .int (nI z)), (6, .int (nI ((fnd (if (soR M J (24 * s + i)) = true then 64 else 0) (fun x7 => soR (wnL M w x7) J (24 * s + i)) c) ||| 0))), (5, .int (nI 0)), (0, .ref (ad 0)), (1, .int (nI w)), (2, .int (nI s)), (3, .int (nI ln)), (4, .int (nI i))]) hx hb dX6_worn_232 hl (k := 2) rfl (n_inc c 1) (by decide) rfl (fun ls hl => ?_)
                  refine lv_goto (tgt := 83) hx hb dX6_worn_235 (by decide) ?_
                  have hl0 : lv_has ls 10 [(7, .int (nI (c + 1))), (6, .int (nI (fnd (if (soR M J (24 * s + i)) = true then 64 else 0) (fun x7 => soR (wnL M w x7) J (24 * s + i)) (c + 1)))), (5, .int (nI 0)), (0, .ref (ad 0)), (1, .int (nI w)), (2, .int (nI s)), (3, .int (nI ln)), (4, .int (nI i))] := by rw [(show nI (fnd (if (soR M J (24 * s + i)) = true then 64 else 0) (fun x7 => soR (wnL M w x7) J (24 * s + i)) (c + 1)) = nI ((fnd (if (soR M J (24 * s + i)) = true then 64 else 0) (fun x7 => soR (wnL M w x7) J (24 * s + i)) c) ||| 0) from by rw [Nat.or_zero, fnd, if_neg (by show ¬ soR (wnL M w c) J (24 * s + i) = true; rw [b2n_0 h_19]; decide)])]; exact lv_sub hl [0, 2, 3, 4, 5, 6, 7, 8] rfl
                  exact ih83 (c + 1) (by omega) _ _ _ (by rw [show z = 12 by omega, wnR_s] at hP; exact hP) hS hl0
                | succ d197 ih197 =>
                  intro z h_z H locs ls hP hS hl
                  refine lv_iload hx hb dX6_worn_197 (lv_at hl 0 rfl) ?_
                  refine lv_bipush (v := nI 12) hx hb dX6_worn_199 (by decide) ?_
                  refine x_zge (u := (z : Nat)) (v := (12 : Int)) (tgt := 232) hx hb (nI_toInt (by omega)) (rfl) dX6_worn_201 (by decide) (fun h_21 => (by omega : False).elim) (fun h_21 => ?_)
                  refine lv_aload_n hx hb dX6_worn_204 rfl (lv_at hl 4 rfl) ?_
                  refine x_getr CF hK hP 0 (by decide) dR_0 rfl uX6 0 (by decide) (j := 1) rfl wd3_96 rfl dX6_worn_205 ?_
                  refine lv_iconst (v := nI 1) hx hb dX6_worn_208 (by decide) ?_
                  refine lv_bipush (v := nI 12) hx hb dX6_worn_209 (by decide) ?_
                  refine lv_iload hx hb dX6_worn_211 (lv_at hl 2 rfl) ?_
                  refine x_imul hx hb dX6_worn_213 ?_
                  refine x_iadd hx hb dX6_worn_214 ?_
                  refine lv_iload hx hb dX6_worn_215 (lv_at hl 0 rfl) ?_
                  refine x_iadd hx hb dX6_worn_217 ?_
                  refine lv_aload_n hx hb dX6_worn_218 rfl (lv_at hl 4 rfl) ?_
                  refine x_getr CF hK hP 0 (by decide) dR_0 rfl uX6 5 (by decide) (j := 4) rfl wd3_101 rfl dX6_worn_219 ?_
                  refine lv_iload hx hb dX6_worn_222 (lv_at hl 0 rfl) ?_
                  refine x_iald CF hK hP 4 (by decide) dR_4 z (by omega) (by decide) dX6_worn_224 ?_
                  refine x_ri (show (nI ((rowO (wnL M w c) 1 (1 + 12 * c) z (rowR M c)) 4 z)) = nI (rowR M c z) from congrArg nI (by rw [rowO_out (by decide)]; show rowO _ 1 _ 12 _ 4 z = _; rw [rowO_out (by decide), rowN_in (by omega)])) ?_
                  refine x_iast CF hK hI hA hP hS 1 (by decide) dR_1 ((1 + (12 * c)) + z) (by omega) (by decide) (rowR M c z) dX6_worn_225 (fun H locs hP hS => ?_)
                  refine lv_iinc (v := nI (z + 1)) (lv' := [(8, .int (nI (z + 1))), (6, .int (nI ((fnd (if (soR M J (24 * s + i)) = true then 64 else 0) (fun x7 => soR (wnL M w x7) J (24 * s + i)) c) ||| 0))), (7, .int (nI c)), (5, .int (nI 0)), (0, .ref (ad 0)), (1, .int (nI w)), (2, .int (nI s)), (3, .int (nI ln)), (4, .int (nI i))]) hx hb dX6_worn_226 hl (k := 0) rfl (n_inc z 1) (by decide) rfl (fun ls hl => ?_)
                  refine lv_goto (tgt := 197) hx hb dX6_worn_229 (by decide) ?_
                  have hl0 : lv_has ls 10 [(8, .int (nI (z + 1))), (6, .int (nI ((fnd (if (soR M J (24 * s + i)) = true then 64 else 0) (fun x7 => soR (wnL M w x7) J (24 * s + i)) c) ||| 0))), (7, .int (nI c)), (5, .int (nI 0)), (0, .ref (ad 0)), (1, .int (nI w)), (2, .int (nI s)), (3, .int (nI ln)), (4, .int (nI i))] := lv_sub hl [0, 1, 2, 3, 4, 5, 6, 7, 8] rfl
                  exact ih197 (z + 1) (by omega) _ _ _ (by rw [rowO_s rfl (h := rfl)] at hP; exact hP) hS hl0
              have hl0 : lv_has ls 10 [(8, .int (nI 0)), (6, .int (nI ((fnd (if (soR M J (24 * s + i)) = true then 64 else 0) (fun x7 => soR (wnL M w x7) J (24 * s + i)) c) ||| 0))), (7, .int (nI c)), (5, .int (nI 0)), (0, .ref (ad 0)), (1, .int (nI w)), (2, .int (nI s)), (3, .int (nI ln)), (4, .int (nI i))] := lv_sub hl [0, 1, 2, 3, 4, 5, 6, 7, 8] rfl
              exact L197 12 0 (by omega) _ _ _ (by rw [rowO_0]; exact hP) hS hl0
            · refine lv_iconst (v := nI 1) hx hb dX6_worn_183 (by decide) ?_
              refine lv_iload hx hb dX6_worn_184 (lv_at hl 1 rfl) ?_
              refine x_ishl hx hb (by omega) dX6_worn_186 ?_
              refine lv_goto (tgt := 191) hx hb dX6_worn_187 (by decide) ?_
              refine x_ior hx hb dX6_worn_191 ?_
              refine lv_istore (lv' := [(6, .int (nI ((fnd (if (soR M J (24 * s + i)) = true then 64 else 0) (fun x7 => soR (wnL M w x7) J (24 * s + i)) c) ||| (1 <<< c)))), (8, .int (nI q)), (7, .int (nI c)), (5, .int (nI 0)), (0, .ref (ad 0)), (1, .int (nI w)), (2, .int (nI s)), (3, .int (nI ln)), (4, .int (nI i))]) hx hb dX6_worn_192 hl (by decide) rfl (fun ls hl => ?_)
              refine lv_iconst (v := nI 0) hx hb dX6_worn_194 (by decide) ?_
              refine lv_istore (lv' := [(8, .int (nI 0)), (6, .int (nI ((fnd (if (soR M J (24 * s + i)) = true then 64 else 0) (fun x7 => soR (wnL M w x7) J (24 * s + i)) c) ||| (1 <<< c)))), (7, .int (nI c)), (5, .int (nI 0)), (0, .ref (ad 0)), (1, .int (nI w)), (2, .int (nI s)), (3, .int (nI ln)), (4, .int (nI i))]) hx hb dX6_worn_195 hl (by decide) rfl (fun ls hl => ?_)
              have L197 : ∀ (d197 : Nat) (z : Nat), (z + d197 = 12) → (∀ (H : Heap) (locs : List Loc) (ls : Array Slot), g_P g ad dsR 14 (rowO (wnL M w c) 1 (1 + 12 * c) z (rowR M c)) J H → va_S (g_A ad 14) s9.heap H locs → lv_has ls 10 [(8, .int (nI z)), (6, .int (nI ((fnd (if (soR M J (24 * s + i)) = true then 64 else 0) (fun x7 => soR (wnL M w x7) J (24 * s + i)) c) ||| (1 <<< c)))), (7, .int (nI c)), (5, .int (nI 0)), (0, .ref (ad 0)), (1, .int (nI w)), (2, .int (nI s)), (3, .int (nI ln)), (4, .int (nI i))] → W p9 l e9 (g_rm 5) s9 m9 args9 below9 meth9 c9 H locs 0 0 (MQ below9 (va_Qi (fun r' (_ : Unit) => r' = (nI (fnd (if (soR M J (24 * s + i)) = true then 64 else 0) (fun x7 => soR (wnL M w x7) J (24 * s + i)) (M 1 0)))) (fun _ t => g_P g ad dsR 14 (wnR M (M 1 0)) J t.heap) (g_A ad 14)) args9 s9 0 0 (g_A ad 14)) (F0 m9 197 ls [])) := by
                intro d197
                induction d197 with
                | zero =>
                  intro z h_z H locs ls hP hS hl
                  refine lv_iload hx hb dX6_worn_197 (lv_at hl 0 rfl) ?_
                  refine lv_bipush (v := nI 12) hx hb dX6_worn_199 (by decide) ?_
                  refine x_zge (u := (z : Nat)) (v := (12 : Int)) (tgt := 232) hx hb (nI_toInt (by omega)) (rfl) dX6_worn_201 (by decide) (fun h_22 => ?_) (fun h_22 => (by omega : False).elim)
                  refine lv_iinc (v := nI (c + 1)) (lv' := [(7, .int (nI (c + 1))), (8, .int (nI z)), (6, .int (nI ((fnd (if (soR M J (24 * s + i)) = true then 64 else 0) (fun x7 => soR (wnL M w x7) J (24 * s + i)) c) ||| (1 <<< c)))), (5, .int (nI 0)), (0, .ref (ad 0)), (1, .int (nI w)), (2, .int (nI s)), (3, .int (nI ln)), (4, .int (nI i))]) hx hb dX6_worn_232 hl (k := 2) rfl (n_inc c 1) (by decide) rfl (fun ls hl => ?_)
                  refine lv_goto (tgt := 83) hx hb dX6_worn_235 (by decide) ?_
                  have hl0 : lv_has ls 10 [(7, .int (nI (c + 1))), (6, .int (nI (fnd (if (soR M J (24 * s + i)) = true then 64 else 0) (fun x7 => soR (wnL M w x7) J (24 * s + i)) (c + 1)))), (5, .int (nI 0)), (0, .ref (ad 0)), (1, .int (nI w)), (2, .int (nI s)), (3, .int (nI ln)), (4, .int (nI i))] := by rw [(show nI (fnd (if (soR M J (24 * s + i)) = true then 64 else 0) (fun x7 => soR (wnL M w x7) J (24 * s + i)) (c + 1)) = nI ((fnd (if (soR M J (24 * s + i)) = true then 64 else 0) (fun x7 => soR (wnL M w x7) J (24 * s + i)) c) ||| (1 <<< c)) from by rw [fnd, if_pos (b2n_1 h_19)])]; exact lv_sub hl [0, 2, 3, 4, 5, 6, 7, 8] rfl
                  exact ih83 (c + 1) (by omega) _ _ _ (by rw [show z = 12 by omega, wnR_s] at hP; exact hP) hS hl0
                | succ d197 ih197 =>
                  intro z h_z H locs ls hP hS hl
                  refine lv_iload hx hb dX6_worn_197 (lv_at hl 0 rfl) ?_
                  refine lv_bipush (v := nI 12) hx hb dX6_worn_199 (by decide) ?_
                  refine x_zge (u := (z : Nat)) (v := (12 : Int)) (tgt := 232) hx hb (nI_toInt (by omega)) (rfl) dX6_worn_201 (by decide) (fun h_23 => (by omega : False).elim) (fun h_23 => ?_)
                  refine lv_aload_n hx hb dX6_worn_204 rfl (lv_at hl 4 rfl) ?_
                  refine x_getr CF hK hP 0 (by decide) dR_0 rfl uX6 0 (by decide) (j := 1) rfl wd3_96 rfl dX6_worn_205 ?_
                  refine lv_iconst (v := nI 1) hx hb dX6_worn_208 (by decide) ?_
                  refine lv_bipush (v := nI 12) hx hb dX6_worn_209 (by decide) ?_
                  refine lv_iload hx hb dX6_worn_211 (lv_at hl 2 rfl) ?_
                  refine x_imul hx hb dX6_worn_213 ?_
                  refine x_iadd hx hb dX6_worn_214 ?_
                  refine lv_iload hx hb dX6_worn_215 (lv_at hl 0 rfl) ?_
                  refine x_iadd hx hb dX6_worn_217 ?_
                  refine lv_aload_n hx hb dX6_worn_218 rfl (lv_at hl 4 rfl) ?_
                  refine x_getr CF hK hP 0 (by decide) dR_0 rfl uX6 5 (by decide) (j := 4) rfl wd3_101 rfl dX6_worn_219 ?_
                  refine lv_iload hx hb dX6_worn_222 (lv_at hl 0 rfl) ?_
                  refine x_iald CF hK hP 4 (by decide) dR_4 z (by omega) (by decide) dX6_worn_224 ?_
                  refine x_ri (show (nI ((rowO (wnL M w c) 1 (1 + 12 * c) z (rowR M c)) 4 z)) = nI (rowR M c z) from congrArg nI (by rw [rowO_out (by decide)]; show rowO _ 1 _ 12 _ 4 z = _; rw [rowO_out (by decide), rowN_in (by omega)])) ?_
                  refine x_iast CF hK hI hA hP hS 1 (by decide) dR_1 ((1 + (12 * c)) + z) (by omega) (by decide) (rowR M c z) dX6_worn_225 (fun H locs hP hS => ?_)
                  refine lv_iinc (v := nI (z + 1)) (lv' := [(8, .int (nI (z + 1))), (6, .int (nI ((fnd (if (soR M J (24 * s + i)) = true then 64 else 0) (fun x7 => soR (wnL M w x7) J (24 * s + i)) c) ||| (1 <<< c)))), (7, .int (nI c)), (5, .int (nI 0)), (0, .ref (ad 0)), (1, .int (nI w)), (2, .int (nI s)), (3, .int (nI ln)), (4, .int (nI i))]) hx hb dX6_worn_226 hl (k := 0) rfl (n_inc z 1) (by decide) rfl (fun ls hl => ?_)
                  refine lv_goto (tgt := 197) hx hb dX6_worn_229 (by decide) ?_
                  have hl0 : lv_has ls 10 [(8, .int (nI (z + 1))), (6, .int (nI ((fnd (if (soR M J (24 * s + i)) = true then 64 else 0) (fun x7 => soR (wnL M w x7) J (24 * s + i)) c) ||| (1 <<< c)))), (7, .int (nI c)), (5, .int (nI 0)), (0, .ref (ad 0)), (1, .int (nI w)), (2, .int (nI s)), (3, .int (nI ln)), (4, .int (nI i))] := lv_sub hl [0, 1, 2, 3, 4, 5, 6, 7, 8] rfl
                  exact ih197 (z + 1) (by omega) _ _ _ (by rw [rowO_s rfl (h := rfl)] at hP; exact hP) hS hl0
              have hl0 : lv_has ls 10 [(8, .int (nI 0)), (6, .int (nI ((fnd (if (soR M J (24 * s + i)) = true then 64 else 0) (fun x7 => soR (wnL M w x7) J (24 * s + i)) c) ||| (1 <<< c)))), (7, .int (nI c)), (5, .int (nI 0)), (0, .ref (ad 0)), (1, .int (nI w)), (2, .int (nI s)), (3, .int (nI ln)), (4, .int (nI i))] := lv_sub hl [0, 1, 2, 3, 4, 5, 6, 7, 8] rfl
              exact L197 12 0 (by omega) _ _ _ (by rw [rowO_0]; exact hP) hS hl0
          | succ d97 ih97 =>
            intro q h_q H locs ls hP hS hl
            have b7 := hw.row (show c < 6 by omega) (show q < 12 by omega)
            refine lv_iload hx hb dX6_worn_97 (lv_at hl 0 rfl) ?_
            refine lv_bipush (v := nI 12) hx hb dX6_worn_99 (by decide) ?_
            refine x_zge (u := (q : Nat)) (v := (12 : Int)) (tgt := 167) hx hb (nI_toInt (by omega)) (rfl) dX6_worn_101 (by decide) (fun h_24 => (by omega : False).elim) (fun h_24 => ?_)
            refine lv_iconst (v := nI 1) hx hb dX6_worn_104 (by decide) ?_
            refine lv_bipush (v := nI 12) hx hb dX6_worn_105 (by decide) ?_
            refine lv_iload hx hb dX6_worn_107 (lv_at hl 1 rfl) ?_
            refine x_imul hx hb dX6_worn_109 ?_
            refine x_iadd hx hb dX6_worn_110 ?_
            refine lv_iload hx hb dX6_worn_111 (lv_at hl 0 rfl) ?_
            refine x_iadd hx hb dX6_worn_113 ?_
            refine lv_istore (lv' := [(9, .int (nI ((1 + (12 * c)) + q))), (8, .int (nI q)), (7, .int (nI c)), (6, .int (nI (fnd (if (soR M J (24 * s + i)) = true then 64 else 0) (fun x7 => soR (wnL M w x7) J (24 * s + i)) c))), (5, .int (nI 0)), (0, .ref (ad 0)), (1, .int (nI w)), (2, .int (nI s)), (3, .int (nI ln)), (4, .int (nI i))]) hx hb dX6_worn_114 hl (by decide) rfl (fun ls hl => ?_)
            refine lv_aload_n hx hb dX6_worn_116 rfl (lv_at hl 5 rfl) ?_
            refine x_getr CF hK hP 0 (by decide) dR_0 rfl uX6 5 (by decide) (j := 4) rfl wd3_101 rfl dX6_worn_117 ?_
            refine lv_iload hx hb dX6_worn_120 (lv_at hl 1 rfl) ?_
            refine lv_aload_n hx hb dX6_worn_122 rfl (lv_at hl 5 rfl) ?_
            refine x_getr CF hK hP 0 (by decide) dR_0 rfl uX6 0 (by decide) (j := 1) rfl wd3_96 rfl dX6_worn_123 ?_
            refine lv_iload hx hb dX6_worn_126 (lv_at hl 0 rfl) ?_
            refine x_iald CF hK hP 1 (by decide) dR_1 ((1 + (12 * c)) + q) (by omega) (by decide) dX6_worn_128 ?_
            refine x_ri (show (nI ((wq M w c q) 1 ((1 + (12 * c)) + q))) = nI (M 1 (1 + 12 * c + q)) from congrArg nI (wq_r (Nat.le_refl q))) ?_
            refine x_iast CF hK hI hA hP hS 4 (by decide) dR_4 q (by omega) (by decide) (M 1 (1 + 12 * c + q)) dX6_worn_129 (fun H locs hP hS => ?_)
            refine lv_aload_n hx hb dX6_worn_130 rfl (lv_at hl 5 rfl) ?_
            refine x_getr CF hK hP 0 (by decide) dR_0 rfl uX6 0 (by decide) (j := 1) rfl wd3_96 rfl dX6_worn_131 ?_
            refine lv_iload hx hb dX6_worn_134 (lv_at hl 0 rfl) ?_
            refine lv_aload_n hx hb dX6_worn_136 rfl (lv_at hl 5 rfl) ?_
            refine x_getr CF hK hP 0 (by decide) dR_0 rfl uX6 0 (by decide) (j := 1) rfl wd3_96 rfl dX6_worn_137 ?_
            refine lv_iload hx hb dX6_worn_140 (lv_at hl 0 rfl) ?_
            refine x_iald CF hK hP 1 (by decide) dR_1 ((1 + (12 * c)) + q) (by omega) (by decide) dX6_worn_142 ?_
            refine x_ri (show (nI ((u2 (wq M w c q) 4 q (M 1 (1 + 12 * c + q))) 1 ((1 + (12 * c)) + q))) = nI (M 1 (1 + 12 * c + q)) from congrArg nI (by rw [u2_row (by decide)]; exact wq_r (Nat.le_refl q))) ?_
            refine lv_iload_n hx hb dX6_worn_143 rfl (lv_at hl 6 rfl) ?_
            refine x_zle (u := (M 1 (1 + 12 * c + q) : Nat)) (v := (w : Nat)) (tgt := 159) hx hb (nI_toInt (by omega)) (nI_toInt (by omega)) dX6_worn_144 (by decide) (fun h_25 => ?_) (fun h_25 => ?_)
            · refine lv_iconst (v := nI 0) hx hb dX6_worn_159 (by decide) ?_
              refine x_iast CF hK hI hA hP hS 1 (by decide) dR_1 ((1 + (12 * c)) + q) (by omega) (by decide) 0 dX6_worn_160 (fun H locs hP hS => ?_)
              have hP : g_P g ad dsR 14 (wq M w c (q + 1)) J H := (by rw [← wq_s (x := M 1 (1 + 12 * c + q)) (y := 0) rfl (by omega)]; exact hP)
              refine lv_iinc (v := nI (q + 1)) (lv' := [(8, .int (nI (q + 1))), (9, .int (nI ((1 + (12 * c)) + q))), (7, .int (nI c)), (6, .int (nI (fnd (if (soR M J (24 * s + i)) = true then 64 else 0) (fun x7 => soR (wnL M w x7) J (24 * s + i)) c))), (5, .int (nI 0)), (0, .ref (ad 0)), (1, .int (nI w)), (2, .int (nI s)), (3, .int (nI ln)), (4, .int (nI i))]) hx hb dX6_worn_161 hl (k := 1) rfl (n_inc q 1) (by decide) rfl (fun ls hl => ?_)
              refine lv_goto (tgt := 97) hx hb dX6_worn_164 (by decide) ?_
              have hl0 : lv_has ls 10 [(8, .int (nI (q + 1))), (7, .int (nI c)), (6, .int (nI (fnd (if (soR M J (24 * s + i)) = true then 64 else 0) (fun x7 => soR (wnL M w x7) J (24 * s + i)) c))), (5, .int (nI 0)), (0, .ref (ad 0)), (1, .int (nI w)), (2, .int (nI s)), (3, .int (nI ln)), (4, .int (nI i))] := lv_sub hl [0, 2, 3, 4, 5, 6, 7, 8, 9] rfl
              exact ih97 (q + 1) (by omega) _ _ _ (hP) hS hl0
            · refine lv_aload_n hx hb dX6_worn_147 rfl (lv_at hl 5 rfl) ?_
              refine x_getr CF hK hP 0 (by decide) dR_0 rfl uX6 0 (by decide) (j := 1) rfl wd3_96 rfl dX6_worn_148 ?_
              refine lv_iload hx hb dX6_worn_151 (lv_at hl 0 rfl) ?_
              refine x_iald CF hK hP 1 (by decide) dR_1 ((1 + (12 * c)) + q) (by omega) (by decide) dX6_worn_153 ?_
              refine x_ri (show (nI ((u2 (wq M w c q) 4 q (M 1 (1 + 12 * c + q))) 1 ((1 + (12 * c)) + q))) = nI (M 1 (1 + 12 * c + q)) from congrArg nI (by rw [u2_row (by decide)]; exact wq_r (Nat.le_refl q))) ?_
              refine lv_iload_n hx hb dX6_worn_154 rfl (lv_at hl 6 rfl) ?_
              refine x_isub hx hb (by omega) dX6_worn_155 ?_
              refine lv_goto (tgt := 160) hx hb dX6_worn_156 (by decide) ?_
              refine x_iast CF hK hI hA hP hS 1 (by decide) dR_1 ((1 + (12 * c)) + q) (by omega) (by decide) ((M 1 (1 + 12 * c + q)) - w) dX6_worn_160 (fun H locs hP hS => ?_)
              have hP : g_P g ad dsR 14 (wq M w c (q + 1)) J H := (by rw [← wq_s (x := M 1 (1 + 12 * c + q)) rfl rfl]; exact hP)
              refine lv_iinc (v := nI (q + 1)) (lv' := [(8, .int (nI (q + 1))), (9, .int (nI ((1 + (12 * c)) + q))), (7, .int (nI c)), (6, .int (nI (fnd (if (soR M J (24 * s + i)) = true then 64 else 0) (fun x7 => soR (wnL M w x7) J (24 * s + i)) c))), (5, .int (nI 0)), (0, .ref (ad 0)), (1, .int (nI w)), (2, .int (nI s)), (3, .int (nI ln)), (4, .int (nI i))]) hx hb dX6_worn_161 hl (k := 1) rfl (n_inc q 1) (by decide) rfl (fun ls hl => ?_)
              refine lv_goto (tgt := 97) hx hb dX6_worn_164 (by decide) ?_
              have hl0 : lv_has ls 10 [(8, .int (nI (q + 1))), (7, .int (nI c)), (6, .int (nI (fnd (if (soR M J (24 * s + i)) = true then 64 else 0) (fun x7 => soR (wnL M w x7) J (24 * s + i)) c))), (5, .int (nI 0)), (0, .ref (ad 0)), (1, .int (nI w)), (2, .int (nI s)), (3, .int (nI ln)), (4, .int (nI i))] := lv_sub hl [0, 2, 3, 4, 5, 6, 7, 8, 9] rfl
              exact ih97 (q + 1) (by omega) _ _ _ (hP) hS hl0
        have hl0 : lv_has ls 10 [(8, .int (nI 0)), (7, .int (nI c)), (6, .int (nI (fnd (if (soR M J (24 * s + i)) = true then 64 else 0) (fun x7 => soR (wnL M w x7) J (24 * s + i)) c))), (5, .int (nI 0)), (0, .ref (ad 0)), (1, .int (nI w)), (2, .int (nI s)), (3, .int (nI ln)), (4, .int (nI i))] := lv_sub hl [0, 1, 2, 3, 4, 5, 6, 7, 8] rfl
        exact L97 12 0 (by omega) _ _ _ (by rw [wq_0]; exact hP) hS hl0
    have hl0 : lv_has ls 10 [(7, .int (nI 0)), (6, .int (nI (fnd (if (soR M J (24 * s + i)) = true then 64 else 0) (fun x7 => soR (wnL M w x7) J (24 * s + i)) 0))), (5, .int (nI 0)), (0, .ref (ad 0)), (1, .int (nI w)), (2, .int (nI s)), (3, .int (nI ln)), (4, .int (nI i))] := by rw [(show nI (fnd (if (soR M J (24 * s + i)) = true then 64 else 0) (fun x7 => soR (wnL M w x7) J (24 * s + i)) 0) = nI 64 from by rw [fnd, if_pos (b2n_1 h_5)])]; exact lv_sub hl [0, 1, 2, 3, 4, 5, 6, 7] rfl
    exact L83 (M 1 0) 0 (by omega) _ _ _ (hP) hS hl0
set_option maxHeartbeats 4000000 in
set_option maxRecDepth 100000 in
theorem r_worn_null {l : Launch} {g : gE} {ad : Nat → Nat} (hI : g_inj ad 14) (M : gMem) (J : gMeL) (hw : wfR M) (w : Nat) (h1 : 1 ≤ w) (hw9 : w < 10) (s ln : Nat) (hs : s < 4) (hln : ln ≤ 2) (i : Int32) (h : M 10 s = 4294967295) : CI l g ad dsR 14 yX6_worn cX6_worn 10 (some .int) 5 [.ref (ad 0), .int (nI w), .int (nI s), .int (nI ln), .int i] M J (nI 4294967285) M J := by
  refine CI.of (plainFor_of_name (by decide)) (Nat.le_of_ble_eq_true rfl) (fun p9 e9 s9 m9 args9 below9 meth9 c9 CF hK hr9 hlk9 hP hS ls hl => ?_)
  have hx := CF.1
  have hb := CF.2.1
  have hA : ∀ q, g_A ad 14 q → g_A ad 14 q := fun _ h => h
  have hl : lv_has ls 10 [(0, .ref (ad 0)), (1, .int (nI w)), (2, .int (nI s)), (3, .int (nI ln)), (4, .int i)] := hl
  have hnc := hw.nc
  have hnf := hw.nf
  have hwy := hw.way
  refine lv_iload_n hx hb dX6_worn_0 rfl (lv_at hl 1 rfl) ?_
  refine lv_i2l hx hb dX6_worn_1 (nI_l (by omega)) ?_
  refine lv_lconst (v := (1 : Int64)) hx hb dX6_worn_2 rfl ?_
  refine lv_ldc2 hx hb CF.2.2.2.1 (CF.2.2.2.2 _ (List.mem_cons_of_mem _ wd3_178)) dX6_worn_3 ?_
  refine x_callSP CF hK hP hS hl (As := [.long (lN w), .long (1 : Int64), .long (9 : Int64)]) (rest := []) (r_in_t _ _ _ (il_in (lo := 1) (hi := 9) (by omega) (by omega) (by omega))) kw_X6_in wd3_147 rfl ⟨Nat.le_of_ble_eq_true rfl, Nat.le_of_ble_eq_true rfl⟩ ⟨Nat.le_refl _, Nat.le_refl _⟩ (Nat.le_of_ble_eq_true rfl) dX6_worn_6 (fun H locs hP hS => ?_)
  refine x_yeq (u := (1 : Int)) (tgt := 31) hx hb (rfl) dX6_worn_9 (by decide) (fun h_1 => (by omega : False).elim) (fun h_1 => ?_)
  refine lv_iload_n hx hb dX6_worn_12 rfl (lv_at hl 2 rfl) ?_
  refine x_callSP CF hK hP hS hl (As := [.int (nI s)]) (rest := []) (r_isSheet_t s (by omega)) kw_X6_isSheet wd4_94 rfl ⟨Nat.le_of_ble_eq_true rfl, Nat.le_of_ble_eq_true rfl⟩ ⟨Nat.le_refl _, Nat.le_refl _⟩ (Nat.le_of_ble_eq_true rfl) dX6_worn_13 (fun H locs hP hS => ?_)
  refine x_yeq (u := (1 : Int)) (tgt := 31) hx hb (rfl) dX6_worn_16 (by decide) (fun h_2 => (by omega : False).elim) (fun h_2 => ?_)
  refine lv_iload_n hx hb dX6_worn_19 rfl (lv_at hl 3 rfl) ?_
  refine lv_i2l hx hb dX6_worn_20 (nI_l (by omega)) ?_
  refine lv_lconst (v := (0 : Int64)) hx hb dX6_worn_21 rfl ?_
  refine lv_ldc2 hx hb CF.2.2.2.1 (CF.2.2.2.2 _ (List.mem_cons_of_mem _ wd4_97)) dX6_worn_22 ?_
  refine x_callSP CF hK hP hS hl (As := [.long (lN ln), .long (0 : Int64), .long (2 : Int64)]) (rest := []) (r_in_t _ _ _ (il_in (lo := 0) (hi := 2) (by omega) (by omega) (by omega))) kw_X6_in wd3_147 rfl ⟨Nat.le_of_ble_eq_true rfl, Nat.le_of_ble_eq_true rfl⟩ ⟨Nat.le_refl _, Nat.le_refl _⟩ (Nat.le_of_ble_eq_true rfl) dX6_worn_25 (fun H locs hP hS => ?_)
  refine x_yne (u := (1 : Int)) (tgt := 33) hx hb (rfl) dX6_worn_28 (by decide) (fun h_3 => ?_) (fun h_3 => (by omega : False).elim)
  refine lv_aload_n hx hb dX6_worn_33 rfl (lv_at hl 0 rfl) ?_
  refine lv_iload_n hx hb dX6_worn_34 rfl (lv_at hl 2 rfl) ?_
  refine lv_iload_n hx hb dX6_worn_35 rfl (lv_at hl 3 rfl) ?_
  refine lv_iload hx hb dX6_worn_36 (lv_at hl 4 rfl) ?_
  refine lv_aload_n hx hb dX6_worn_38 rfl (lv_at hl 0 rfl) ?_
  refine x_getr CF hK hP 0 (by decide) dR_0 rfl uX6 0 (by decide) (j := 1) rfl wd3_96 rfl dX6_worn_39 ?_
  refine lv_bipush (v := nI 73) hx hb dX6_worn_42 (by decide) ?_
  refine x_iald CF hK hP 1 (by decide) dR_1 73 (by omega) (by decide) dX6_worn_44 ?_
  refine x_callVI CF hK hP hS hA hl (As := [.int (nI s), .int (nI ln), .int i, .int (nI (M 1 73))]) (rest := []) (r_bars_null hI M J s (by omega) (nI ln) i (nI (M 1 73)) h) kw_X6_bars wd4_98 (by decide) dR_0 rfl rfl ⟨Nat.le_of_ble_eq_true rfl, Nat.le_of_ble_eq_true rfl⟩ ⟨Nat.le_refl _, Nat.le_refl _⟩ (Nat.le_of_ble_eq_true rfl) dX6_worn_45 (fun H locs hP hS => ?_)
  refine lv_istore (lv' := [(5, .int (nI 4294967285)), (0, .ref (ad 0)), (1, .int (nI w)), (2, .int (nI s)), (3, .int (nI ln)), (4, .int i)]) hx hb dX6_worn_48 hl (by decide) rfl (fun ls hl => ?_)
  refine lv_iload hx hb dX6_worn_50 (lv_at hl 0 rfl) ?_
  refine x_yeq (u := (-11 : Int)) (tgt := 58) hx hb (rfl) dX6_worn_52 (by decide) (fun h_4 => (by omega : False).elim) (fun h_4 => ?_)
  refine lv_iload hx hb dX6_worn_55 (lv_at hl 0 rfl) ?_
  exact x_reti hx hb hr9 hlk9 hS hP (by first | rfl | (show nI 4294967285 = nI 4294967285; first | rfl | omega)) dX6_worn_57
set_option maxHeartbeats 4000000 in
set_option maxRecDepth 100000 in
theorem r_worn_cast {l : Launch} {g : gE} {ad : Nat → Nat} (hI : g_inj ad 14) (M : gMem) (J : gMeL) (hw : wfR M) (w : Nat) (h1 : 1 ≤ w) (hw9 : w < 10) (s ln : Nat) (hs : s < 4) (hln : ln ≤ 2) (i : Int32) (h : M 10 s ≤ 2) (h3 : ¬ M 10 s = ln) : CI l g ad dsR 14 yX6_worn cX6_worn 10 (some .int) 5 [.ref (ad 0), .int (nI w), .int (nI s), .int (nI ln), .int i] M J (nI 4294967284) M J := by
  refine CI.of (plainFor_of_name (by decide)) (Nat.le_of_ble_eq_true rfl) (fun p9 e9 s9 m9 args9 below9 meth9 c9 CF hK hr9 hlk9 hP hS ls hl => ?_)
  have hx := CF.1
  have hb := CF.2.1
  have hA : ∀ q, g_A ad 14 q → g_A ad 14 q := fun _ h => h
  have hl : lv_has ls 10 [(0, .ref (ad 0)), (1, .int (nI w)), (2, .int (nI s)), (3, .int (nI ln)), (4, .int i)] := hl
  have hnc := hw.nc
  have hnf := hw.nf
  have hwy := hw.way
  refine lv_iload_n hx hb dX6_worn_0 rfl (lv_at hl 1 rfl) ?_
  refine lv_i2l hx hb dX6_worn_1 (nI_l (by omega)) ?_
  refine lv_lconst (v := (1 : Int64)) hx hb dX6_worn_2 rfl ?_
  refine lv_ldc2 hx hb CF.2.2.2.1 (CF.2.2.2.2 _ (List.mem_cons_of_mem _ wd3_178)) dX6_worn_3 ?_
  refine x_callSP CF hK hP hS hl (As := [.long (lN w), .long (1 : Int64), .long (9 : Int64)]) (rest := []) (r_in_t _ _ _ (il_in (lo := 1) (hi := 9) (by omega) (by omega) (by omega))) kw_X6_in wd3_147 rfl ⟨Nat.le_of_ble_eq_true rfl, Nat.le_of_ble_eq_true rfl⟩ ⟨Nat.le_refl _, Nat.le_refl _⟩ (Nat.le_of_ble_eq_true rfl) dX6_worn_6 (fun H locs hP hS => ?_)
  refine x_yeq (u := (1 : Int)) (tgt := 31) hx hb (rfl) dX6_worn_9 (by decide) (fun h_1 => (by omega : False).elim) (fun h_1 => ?_)
  refine lv_iload_n hx hb dX6_worn_12 rfl (lv_at hl 2 rfl) ?_
  refine x_callSP CF hK hP hS hl (As := [.int (nI s)]) (rest := []) (r_isSheet_t s (by omega)) kw_X6_isSheet wd4_94 rfl ⟨Nat.le_of_ble_eq_true rfl, Nat.le_of_ble_eq_true rfl⟩ ⟨Nat.le_refl _, Nat.le_refl _⟩ (Nat.le_of_ble_eq_true rfl) dX6_worn_13 (fun H locs hP hS => ?_)
  refine x_yeq (u := (1 : Int)) (tgt := 31) hx hb (rfl) dX6_worn_16 (by decide) (fun h_2 => (by omega : False).elim) (fun h_2 => ?_)
  refine lv_iload_n hx hb dX6_worn_19 rfl (lv_at hl 3 rfl) ?_
  refine lv_i2l hx hb dX6_worn_20 (nI_l (by omega)) ?_
  refine lv_lconst (v := (0 : Int64)) hx hb dX6_worn_21 rfl ?_
  refine lv_ldc2 hx hb CF.2.2.2.1 (CF.2.2.2.2 _ (List.mem_cons_of_mem _ wd4_97)) dX6_worn_22 ?_
  refine x_callSP CF hK hP hS hl (As := [.long (lN ln), .long (0 : Int64), .long (2 : Int64)]) (rest := []) (r_in_t _ _ _ (il_in (lo := 0) (hi := 2) (by omega) (by omega) (by omega))) kw_X6_in wd3_147 rfl ⟨Nat.le_of_ble_eq_true rfl, Nat.le_of_ble_eq_true rfl⟩ ⟨Nat.le_refl _, Nat.le_refl _⟩ (Nat.le_of_ble_eq_true rfl) dX6_worn_25 (fun H locs hP hS => ?_)
  refine x_yne (u := (1 : Int)) (tgt := 33) hx hb (rfl) dX6_worn_28 (by decide) (fun h_3 => ?_) (fun h_3 => (by omega : False).elim)
  refine lv_aload_n hx hb dX6_worn_33 rfl (lv_at hl 0 rfl) ?_
  refine lv_iload_n hx hb dX6_worn_34 rfl (lv_at hl 2 rfl) ?_
  refine lv_iload_n hx hb dX6_worn_35 rfl (lv_at hl 3 rfl) ?_
  refine lv_iload hx hb dX6_worn_36 (lv_at hl 4 rfl) ?_
  refine lv_aload_n hx hb dX6_worn_38 rfl (lv_at hl 0 rfl) ?_
  refine x_getr CF hK hP 0 (by decide) dR_0 rfl uX6 0 (by decide) (j := 1) rfl wd3_96 rfl dX6_worn_39 ?_
  refine lv_bipush (v := nI 73) hx hb dX6_worn_42 (by decide) ?_
  refine x_iald CF hK hP 1 (by decide) dR_1 73 (by omega) (by decide) dX6_worn_44 ?_
  refine x_callVI CF hK hP hS hA hl (As := [.int (nI s), .int (nI ln), .int i, .int (nI (M 1 73))]) (rest := []) (r_bars_cast hI M J s ln (by omega) (by omega) i (nI (M 1 73)) h h3) kw_X6_bars wd4_98 (by decide) dR_0 rfl rfl ⟨Nat.le_of_ble_eq_true rfl, Nat.le_of_ble_eq_true rfl⟩ ⟨Nat.le_refl _, Nat.le_refl _⟩ (Nat.le_of_ble_eq_true rfl) dX6_worn_45 (fun H locs hP hS => ?_)
  refine lv_istore (lv' := [(5, .int (nI 4294967284)), (0, .ref (ad 0)), (1, .int (nI w)), (2, .int (nI s)), (3, .int (nI ln)), (4, .int i)]) hx hb dX6_worn_48 hl (by decide) rfl (fun ls hl => ?_)
  refine lv_iload hx hb dX6_worn_50 (lv_at hl 0 rfl) ?_
  refine x_yeq (u := (-12 : Int)) (tgt := 58) hx hb (rfl) dX6_worn_52 (by decide) (fun h_4 => (by omega : False).elim) (fun h_4 => ?_)
  refine lv_iload hx hb dX6_worn_55 (lv_at hl 0 rfl) ?_
  exact x_reti hx hb hr9 hlk9 hS hP (by first | rfl | (show nI 4294967284 = nI 4294967284; first | rfl | omega)) dX6_worn_57
set_option maxHeartbeats 4000000 in
set_option maxRecDepth 100000 in
theorem r_worn_index {l : Launch} {g : gE} {ad : Nat → Nat} (hI : g_inj ad 14) (M : gMem) (J : gMeL) (hw : wfR M) (w : Nat) (h1 : 1 ≤ w) (hw9 : w < 10) (s ln : Nat) (hs : s < 4) (hln : ln ≤ 2) (i : Int32) (hl9 : M 10 s = ln) (h : ¬ (0 ≤ i.toInt ∧ i.toInt + M 1 73 ≤ M 11 s)) (h2 : M 11 s ≤ 24) : CI l g ad dsR 14 yX6_worn cX6_worn 10 (some .int) 5 [.ref (ad 0), .int (nI w), .int (nI s), .int (nI ln), .int i] M J (nI 4294967283) M J := by
  refine CI.of (plainFor_of_name (by decide)) (Nat.le_of_ble_eq_true rfl) (fun p9 e9 s9 m9 args9 below9 meth9 c9 CF hK hr9 hlk9 hP hS ls hl => ?_)
  have hx := CF.1
  have hb := CF.2.1
  have hA : ∀ q, g_A ad 14 q → g_A ad 14 q := fun _ h => h
  have hl : lv_has ls 10 [(0, .ref (ad 0)), (1, .int (nI w)), (2, .int (nI s)), (3, .int (nI ln)), (4, .int i)] := hl
  have hnc := hw.nc
  have hnf := hw.nf
  have hwy := hw.way
  refine lv_iload_n hx hb dX6_worn_0 rfl (lv_at hl 1 rfl) ?_
  refine lv_i2l hx hb dX6_worn_1 (nI_l (by omega)) ?_
  refine lv_lconst (v := (1 : Int64)) hx hb dX6_worn_2 rfl ?_
  refine lv_ldc2 hx hb CF.2.2.2.1 (CF.2.2.2.2 _ (List.mem_cons_of_mem _ wd3_178)) dX6_worn_3 ?_
  refine x_callSP CF hK hP hS hl (As := [.long (lN w), .long (1 : Int64), .long (9 : Int64)]) (rest := []) (r_in_t _ _ _ (il_in (lo := 1) (hi := 9) (by omega) (by omega) (by omega))) kw_X6_in wd3_147 rfl ⟨Nat.le_of_ble_eq_true rfl, Nat.le_of_ble_eq_true rfl⟩ ⟨Nat.le_refl _, Nat.le_refl _⟩ (Nat.le_of_ble_eq_true rfl) dX6_worn_6 (fun H locs hP hS => ?_)
  refine x_yeq (u := (1 : Int)) (tgt := 31) hx hb (rfl) dX6_worn_9 (by decide) (fun h_1 => (by omega : False).elim) (fun h_1 => ?_)
  refine lv_iload_n hx hb dX6_worn_12 rfl (lv_at hl 2 rfl) ?_
  refine x_callSP CF hK hP hS hl (As := [.int (nI s)]) (rest := []) (r_isSheet_t s (by omega)) kw_X6_isSheet wd4_94 rfl ⟨Nat.le_of_ble_eq_true rfl, Nat.le_of_ble_eq_true rfl⟩ ⟨Nat.le_refl _, Nat.le_refl _⟩ (Nat.le_of_ble_eq_true rfl) dX6_worn_13 (fun H locs hP hS => ?_)
  refine x_yeq (u := (1 : Int)) (tgt := 31) hx hb (rfl) dX6_worn_16 (by decide) (fun h_2 => (by omega : False).elim) (fun h_2 => ?_)
  refine lv_iload_n hx hb dX6_worn_19 rfl (lv_at hl 3 rfl) ?_
  refine lv_i2l hx hb dX6_worn_20 (nI_l (by omega)) ?_
  refine lv_lconst (v := (0 : Int64)) hx hb dX6_worn_21 rfl ?_
  refine lv_ldc2 hx hb CF.2.2.2.1 (CF.2.2.2.2 _ (List.mem_cons_of_mem _ wd4_97)) dX6_worn_22 ?_
  refine x_callSP CF hK hP hS hl (As := [.long (lN ln), .long (0 : Int64), .long (2 : Int64)]) (rest := []) (r_in_t _ _ _ (il_in (lo := 0) (hi := 2) (by omega) (by omega) (by omega))) kw_X6_in wd3_147 rfl ⟨Nat.le_of_ble_eq_true rfl, Nat.le_of_ble_eq_true rfl⟩ ⟨Nat.le_refl _, Nat.le_refl _⟩ (Nat.le_of_ble_eq_true rfl) dX6_worn_25 (fun H locs hP hS => ?_)
  refine x_yne (u := (1 : Int)) (tgt := 33) hx hb (rfl) dX6_worn_28 (by decide) (fun h_3 => ?_) (fun h_3 => (by omega : False).elim)
  refine lv_aload_n hx hb dX6_worn_33 rfl (lv_at hl 0 rfl) ?_
  refine lv_iload_n hx hb dX6_worn_34 rfl (lv_at hl 2 rfl) ?_
  refine lv_iload_n hx hb dX6_worn_35 rfl (lv_at hl 3 rfl) ?_
  refine lv_iload hx hb dX6_worn_36 (lv_at hl 4 rfl) ?_
  refine lv_aload_n hx hb dX6_worn_38 rfl (lv_at hl 0 rfl) ?_
  refine x_getr CF hK hP 0 (by decide) dR_0 rfl uX6 0 (by decide) (j := 1) rfl wd3_96 rfl dX6_worn_39 ?_
  refine lv_bipush (v := nI 73) hx hb dX6_worn_42 (by decide) ?_
  refine x_iald CF hK hP 1 (by decide) dR_1 73 (by omega) (by decide) dX6_worn_44 ?_
  refine x_callVI CF hK hP hS hA hl (As := [.int (nI s), .int (nI ln), .int i, .int (nI (M 1 73))]) (rest := []) (r_bars_index hI M J s ln (by omega) i (nI (M 1 73)) (by omega) (by omega) (by rw [tz (by omega)]; omega) h2) kw_X6_bars wd4_98 (by decide) dR_0 rfl rfl ⟨Nat.le_of_ble_eq_true rfl, Nat.le_of_ble_eq_true rfl⟩ ⟨Nat.le_refl _, Nat.le_refl _⟩ (Nat.le_of_ble_eq_true rfl) dX6_worn_45 (fun H locs hP hS => ?_)
  refine lv_istore (lv' := [(5, .int (nI 4294967283)), (0, .ref (ad 0)), (1, .int (nI w)), (2, .int (nI s)), (3, .int (nI ln)), (4, .int i)]) hx hb dX6_worn_48 hl (by decide) rfl (fun ls hl => ?_)
  refine lv_iload hx hb dX6_worn_50 (lv_at hl 0 rfl) ?_
  refine x_yeq (u := (-13 : Int)) (tgt := 58) hx hb (rfl) dX6_worn_52 (by decide) (fun h_4 => (by omega : False).elim) (fun h_4 => ?_)
  refine lv_iload hx hb dX6_worn_55 (lv_at hl 0 rfl) ?_
  exact x_reti hx hb hr9 hlk9 hS hP (by first | rfl | (show nI 4294967283 = nI 4294967283; first | rfl | omega)) dX6_worn_57
set_option maxHeartbeats 4000000 in
set_option maxRecDepth 100000 in
theorem r_worn_bad {l : Launch} {g : gE} {ad : Nat → Nat} (hI : g_inj ad 14) (M : gMem) (J : gMeL) (w s ln i : Int32) (h : ¬ (inR1 w 10 ∧ inR s 4 ∧ inR ln 3)) : CI l g ad dsR 14 yX6_worn cX6_worn 10 (some .int) 5 [.ref (ad 0), .int w, .int s, .int ln, .int i] M J (nI 4294967295) M J := by
  refine CI.of (plainFor_of_name (by decide)) (Nat.le_of_ble_eq_true rfl) (fun p9 e9 s9 m9 args9 below9 meth9 c9 CF hK hr9 hlk9 hP hS ls hl => ?_)
  have hx := CF.1
  have hb := CF.2.1
  have hA : ∀ q, g_A ad 14 q → g_A ad 14 q := fun _ h => h
  have hl : lv_has ls 10 [(0, .ref (ad 0)), (1, .int w), (2, .int s), (3, .int ln), (4, .int i)] := hl
  refine lv_iload_n hx hb dX6_worn_0 rfl (lv_at hl 1 rfl) ?_
  rcases n_int1 (x := w) (n := 10) (by omega) with ⟨w1, g_w1, h_w1, rfl⟩ | ho_w
  · refine lv_i2l hx hb dX6_worn_1 (nI_l (by omega)) ?_
    refine lv_lconst (v := (1 : Int64)) hx hb dX6_worn_2 rfl ?_
    refine lv_ldc2 hx hb CF.2.2.2.1 (CF.2.2.2.2 _ (List.mem_cons_of_mem _ wd3_178)) dX6_worn_3 ?_
    refine x_callSP CF hK hP hS hl (As := [.long (lN w1), .long (1 : Int64), .long (9 : Int64)]) (rest := []) (r_in_t _ _ _ (il_in (lo := 1) (hi := 9) (by omega) (by omega) (by omega))) kw_X6_in wd3_147 rfl ⟨Nat.le_of_ble_eq_true rfl, Nat.le_of_ble_eq_true rfl⟩ ⟨Nat.le_refl _, Nat.le_refl _⟩ (Nat.le_of_ble_eq_true rfl) dX6_worn_6 (fun H locs hP hS => ?_)
    refine x_yeq (u := (1 : Int)) (tgt := 31) hx hb (rfl) dX6_worn_9 (by decide) (fun h_1 => (by omega : False).elim) (fun h_1 => ?_)
    refine lv_iload_n hx hb dX6_worn_12 rfl (lv_at hl 2 rfl) ?_
    rcases n_int (x := s) (n := 4) (by omega) with ⟨s1, h_s1, rfl⟩ | ho_s
    · refine x_callSP CF hK hP hS hl (As := [.int (nI s1)]) (rest := []) (r_isSheet_t s1 (by omega)) kw_X6_isSheet wd4_94 rfl ⟨Nat.le_of_ble_eq_true rfl, Nat.le_of_ble_eq_true rfl⟩ ⟨Nat.le_refl _, Nat.le_refl _⟩ (Nat.le_of_ble_eq_true rfl) dX6_worn_13 (fun H locs hP hS => ?_)
      refine x_yeq (u := (1 : Int)) (tgt := 31) hx hb (rfl) dX6_worn_16 (by decide) (fun h_2 => (by omega : False).elim) (fun h_2 => ?_)
      refine lv_iload_n hx hb dX6_worn_19 rfl (lv_at hl 3 rfl) ?_
      rcases n_int (x := ln) (n := 3) (by omega) with ⟨l1, h_l1, rfl⟩ | ho_ln
      · refine lv_i2l hx hb dX6_worn_20 (nI_l (by omega)) ?_
        refine lv_lconst (v := (0 : Int64)) hx hb dX6_worn_21 rfl ?_
        refine lv_ldc2 hx hb CF.2.2.2.1 (CF.2.2.2.2 _ (List.mem_cons_of_mem _ wd4_97)) dX6_worn_22 ?_
        refine x_callSP CF hK hP hS hl (As := [.long (lN l1), .long (0 : Int64), .long (2 : Int64)]) (rest := []) (r_in_t _ _ _ (il_in (lo := 0) (hi := 2) (by omega) (by omega) (by omega))) kw_X6_in wd3_147 rfl ⟨Nat.le_of_ble_eq_true rfl, Nat.le_of_ble_eq_true rfl⟩ ⟨Nat.le_refl _, Nat.le_refl _⟩ (Nat.le_of_ble_eq_true rfl) dX6_worn_25 (fun H locs hP hS => ?_)
        refine x_yne (u := (1 : Int)) (tgt := 33) hx hb (rfl) dX6_worn_28 (by decide) (fun h_3 => ?_) (fun h_3 => (by omega : False).elim)
        exact absurd ⟨inR1_n g_w1 h_w1 (by decide), inR_n h_s1 (by decide), inR_n h_l1 (by decide)⟩ h
      · refine lv_i2l hx hb dX6_worn_20 rfl ?_
        refine lv_lconst (v := (0 : Int64)) hx hb dX6_worn_21 rfl ?_
        refine lv_ldc2 hx hb CF.2.2.2.1 (CF.2.2.2.2 _ (List.mem_cons_of_mem _ wd4_97)) dX6_worn_22 ?_
        refine x_callSP CF hK hP hS hl (As := [.long ln.toInt64, .long (0 : Int64), .long (2 : Int64)]) (rest := []) (r_in_f _ _ _ (il_out (lo := 0) (hi := 2) (by omega) (by omega) (by omega))) kw_X6_in wd3_147 rfl ⟨Nat.le_of_ble_eq_true rfl, Nat.le_of_ble_eq_true rfl⟩ ⟨Nat.le_refl _, Nat.le_refl _⟩ (Nat.le_of_ble_eq_true rfl) dX6_worn_25 (fun H locs hP hS => ?_)
        refine x_yne (u := (0 : Int)) (tgt := 33) hx hb (rfl) dX6_worn_28 (by decide) (fun h_4 => (by omega : False).elim) (fun h_4 => ?_)
        refine lv_iconst (v := nI 4294967295) hx hb dX6_worn_31 (by decide) ?_
        exact x_reti hx hb hr9 hlk9 hS hP (by first | rfl | (show nI 4294967295 = nI 4294967295; first | rfl | omega)) dX6_worn_32
    · refine x_callSP CF hK hP hS hl (As := [.int s]) (rest := []) (r_isSheet_f s ho_s) kw_X6_isSheet wd4_94 rfl ⟨Nat.le_of_ble_eq_true rfl, Nat.le_of_ble_eq_true rfl⟩ ⟨Nat.le_refl _, Nat.le_refl _⟩ (Nat.le_of_ble_eq_true rfl) dX6_worn_13 (fun H locs hP hS => ?_)
      refine x_yeq (u := (0 : Int)) (tgt := 31) hx hb (rfl) dX6_worn_16 (by decide) (fun h_5 => ?_) (fun h_5 => (by omega : False).elim)
      refine lv_iconst (v := nI 4294967295) hx hb dX6_worn_31 (by decide) ?_
      exact x_reti hx hb hr9 hlk9 hS hP (by first | rfl | (show nI 4294967295 = nI 4294967295; first | rfl | omega)) dX6_worn_32
  · refine lv_i2l hx hb dX6_worn_1 rfl ?_
    refine lv_lconst (v := (1 : Int64)) hx hb dX6_worn_2 rfl ?_
    refine lv_ldc2 hx hb CF.2.2.2.1 (CF.2.2.2.2 _ (List.mem_cons_of_mem _ wd3_178)) dX6_worn_3 ?_
    refine x_callSP CF hK hP hS hl (As := [.long w.toInt64, .long (1 : Int64), .long (9 : Int64)]) (rest := []) (r_in_f _ _ _ (il_out (lo := 1) (hi := 9) (by omega) (by omega) (by omega))) kw_X6_in wd3_147 rfl ⟨Nat.le_of_ble_eq_true rfl, Nat.le_of_ble_eq_true rfl⟩ ⟨Nat.le_refl _, Nat.le_refl _⟩ (Nat.le_of_ble_eq_true rfl) dX6_worn_6 (fun H locs hP hS => ?_)
    refine x_yeq (u := (0 : Int)) (tgt := 31) hx hb (rfl) dX6_worn_9 (by decide) (fun h_6 => ?_) (fun h_6 => (by omega : False).elim)
    refine lv_iconst (v := nI 4294967295) hx hb dX6_worn_31 (by decide) ?_
    exact x_reti hx hb hr9 hlk9 hS hP (by first | rfl | (show nI 4294967295 = nI 4294967295; first | rfl | omega)) dX6_worn_32
set_option maxHeartbeats 4000000 in
set_option maxRecDepth 100000 in
theorem r_film_ok {l : Launch} {g : gE} {ad : Nat → Nat} (hI : g_inj ad 14) (M : gMem) (J : gMeL) (hw : wfR M) (k : Nat) (hk : k < M 1 73) (s ln : Nat) (hs : s < 4) (hln : ln ≤ 2) (i : Nat) (hl9 : M 10 s = ln) (h : i + 12 ≤ M 11 s) (h2 : M 11 s ≤ 24) : CI l g ad dsR 14 yX6_film cX6_film 7 (some .int) 3 [.ref (ad 0), .int (nI k), .int (nI s), .int (nI ln), .int (nI i)] M J (nI 12) M (flR M J k (24 * s + i) 12) := by
  refine CI.of (plainFor_of_name (by decide)) (Nat.le_of_ble_eq_true rfl) (fun p9 e9 s9 m9 args9 below9 meth9 c9 CF hK hr9 hlk9 hP hS ls hl => ?_)
  have hx := CF.1
  have hb := CF.2.1
  have hA : ∀ q, g_A ad 14 q → g_A ad 14 q := fun _ h => h
  have hl : lv_has ls 7 [(0, .ref (ad 0)), (1, .int (nI k)), (2, .int (nI s)), (3, .int (nI ln)), (4, .int (nI i))] := hl
  have hnc := hw.nc
  have hnf := hw.nf
  have hwy := hw.way
  refine lv_aload_n hx hb dX6_film_0 rfl (lv_at hl 0 rfl) ?_
  refine lv_iload_n hx hb dX6_film_1 rfl (lv_at hl 1 rfl) ?_
  refine x_callVI CF hK hP hS hA hl (As := [.int (nI k)]) (rest := []) (r_isFigure_t hI M J k (by omega) (by omega)) kw_X6_isFigure wd3_196 (by decide) dR_0 rfl rfl ⟨Nat.le_of_ble_eq_true rfl, Nat.le_of_ble_eq_true rfl⟩ ⟨Nat.le_refl _, Nat.le_refl _⟩ (Nat.le_of_ble_eq_true rfl) dX6_film_2 (fun H locs hP hS => ?_)
  refine x_yeq (u := (1 : Int)) (tgt := 27) hx hb (rfl) dX6_film_5 (by decide) (fun h_1 => (by omega : False).elim) (fun h_1 => ?_)
  refine lv_iload_n hx hb dX6_film_8 rfl (lv_at hl 2 rfl) ?_
  refine x_callSP CF hK hP hS hl (As := [.int (nI s)]) (rest := []) (r_isSheet_t s (by omega)) kw_X6_isSheet wd4_94 rfl ⟨Nat.le_of_ble_eq_true rfl, Nat.le_of_ble_eq_true rfl⟩ ⟨Nat.le_refl _, Nat.le_refl _⟩ (Nat.le_of_ble_eq_true rfl) dX6_film_9 (fun H locs hP hS => ?_)
  refine x_yeq (u := (1 : Int)) (tgt := 27) hx hb (rfl) dX6_film_12 (by decide) (fun h_2 => (by omega : False).elim) (fun h_2 => ?_)
  refine lv_iload_n hx hb dX6_film_15 rfl (lv_at hl 3 rfl) ?_
  refine lv_i2l hx hb dX6_film_16 (nI_l (by omega)) ?_
  refine lv_lconst (v := (0 : Int64)) hx hb dX6_film_17 rfl ?_
  refine lv_ldc2 hx hb CF.2.2.2.1 (CF.2.2.2.2 _ (List.mem_cons_of_mem _ wd4_97)) dX6_film_18 ?_
  refine x_callSP CF hK hP hS hl (As := [.long (lN ln), .long (0 : Int64), .long (2 : Int64)]) (rest := []) (r_in_t _ _ _ (il_in (lo := 0) (hi := 2) (by omega) (by omega) (by omega))) kw_X6_in wd3_147 rfl ⟨Nat.le_of_ble_eq_true rfl, Nat.le_of_ble_eq_true rfl⟩ ⟨Nat.le_refl _, Nat.le_refl _⟩ (Nat.le_of_ble_eq_true rfl) dX6_film_21 (fun H locs hP hS => ?_)
  refine x_yne (u := (1 : Int)) (tgt := 29) hx hb (rfl) dX6_film_24 (by decide) (fun h_3 => ?_) (fun h_3 => (by omega : False).elim)
  refine lv_aload_n hx hb dX6_film_29 rfl (lv_at hl 0 rfl) ?_
  refine lv_iload_n hx hb dX6_film_30 rfl (lv_at hl 2 rfl) ?_
  refine lv_iload_n hx hb dX6_film_31 rfl (lv_at hl 3 rfl) ?_
  refine lv_iload hx hb dX6_film_32 (lv_at hl 4 rfl) ?_
  refine lv_bipush (v := nI 12) hx hb dX6_film_34 (by decide) ?_
  refine x_callVI CF hK hP hS hA hl (As := [.int (nI s), .int (nI ln), .int (nI i), .int (nI 12)]) (rest := []) (r_bars_ok hI M J s ln (by omega) (nI i) (nI 12) (by omega) (by omega) (by rw [tz (by omega), tz (by omega)]; omega) h2) kw_X6_bars wd4_98 (by decide) dR_0 rfl rfl ⟨Nat.le_of_ble_eq_true rfl, Nat.le_of_ble_eq_true rfl⟩ ⟨Nat.le_refl _, Nat.le_refl _⟩ (Nat.le_of_ble_eq_true rfl) dX6_film_36 (fun H locs hP hS => ?_)
  refine lv_istore (lv' := [(5, .int (nI 0)), (0, .ref (ad 0)), (1, .int (nI k)), (2, .int (nI s)), (3, .int (nI ln)), (4, .int (nI i))]) hx hb dX6_film_39 hl (by decide) rfl (fun ls hl => ?_)
  refine lv_iload hx hb dX6_film_41 (lv_at hl 0 rfl) ?_
  refine x_yeq (u := (0 : Int)) (tgt := 49) hx hb (rfl) dX6_film_43 (by decide) (fun h_4 => ?_) (fun h_4 => (by omega : False).elim)
  refine lv_iconst (v := nI 0) hx hb dX6_film_49 (by decide) ?_
  refine lv_istore (lv' := [(6, .int (nI 0)), (5, .int (nI 0)), (0, .ref (ad 0)), (1, .int (nI k)), (2, .int (nI s)), (3, .int (nI ln)), (4, .int (nI i))]) hx hb dX6_film_50 hl (by decide) rfl (fun ls hl => ?_)
  have L52 : ∀ (d52 : Nat) (q : Nat), (q + d52 = 12) → (∀ (H : Heap) (locs : List Loc) (ls : Array Slot), g_P g ad dsR 14 M (flR M J k (24 * s + i) q) H → va_S (g_A ad 14) s9.heap H locs → lv_has ls 7 [(6, .int (nI q)), (5, .int (nI 0)), (0, .ref (ad 0)), (1, .int (nI k)), (2, .int (nI s)), (3, .int (nI ln)), (4, .int (nI i))] → W p9 l e9 (g_rm 3) s9 m9 args9 below9 meth9 c9 H locs 0 0 (MQ below9 (va_Qi (fun r' (_ : Unit) => r' = (nI 12)) (fun _ t => g_P g ad dsR 14 M (flR M J k (24 * s + i) 12) t.heap) (g_A ad 14)) args9 s9 0 0 (g_A ad 14)) (F0 m9 52 ls [])) := by
    intro d52
    induction d52 with
    | zero =>
      intro q h_q H locs ls hP hS hl
      refine lv_iload hx hb dX6_film_52 (lv_at hl 0 rfl) ?_
      refine lv_bipush (v := nI 12) hx hb dX6_film_54 (by decide) ?_
      refine x_zge (u := (q : Nat)) (v := (12 : Int)) (tgt := 88) hx hb (nI_toInt (by omega)) (rfl) dX6_film_56 (by decide) (fun h_5 => ?_) (fun h_5 => (by omega : False).elim)
      refine lv_bipush (v := nI 12) hx hb dX6_film_88 (by decide) ?_
      exact x_reti hx hb hr9 hlk9 hS (by rw [show q = 12 by omega] at hP; exact hP) (by first | rfl | (show nI 12 = nI 12; first | rfl | omega)) dX6_film_90
    | succ d52 ih52 =>
      intro q h_q H locs ls hP hS hl
      refine lv_iload hx hb dX6_film_52 (lv_at hl 0 rfl) ?_
      refine lv_bipush (v := nI 12) hx hb dX6_film_54 (by decide) ?_
      refine x_zge (u := (q : Nat)) (v := (12 : Int)) (tgt := 88) hx hb (nI_toInt (by omega)) (rfl) dX6_film_56 (by decide) (fun h_6 => (by omega : False).elim) (fun h_6 => ?_)
      refine lv_aload_n hx hb dX6_film_59 rfl (lv_at hl 2 rfl) ?_
      refine x_getr CF hK hP 0 (by decide) dR_0 rfl uX6 13 (by decide) (j := 12) rfl wd3_109 rfl dX6_film_60 ?_
      refine lv_bipush (v := nI 24) hx hb dX6_film_63 (by decide) ?_
      refine lv_iload_n hx hb dX6_film_65 rfl (lv_at hl 4 rfl) ?_
      refine x_imul hx hb dX6_film_66 ?_
      refine lv_iload hx hb dX6_film_67 (lv_at hl 6 rfl) ?_
      refine x_iadd hx hb dX6_film_69 ?_
      refine lv_iload hx hb dX6_film_70 (lv_at hl 0 rfl) ?_
      refine x_iadd hx hb dX6_film_72 ?_
      refine lv_aload_n hx hb dX6_film_73 rfl (lv_at hl 2 rfl) ?_
      refine lv_iload_n hx hb dX6_film_74 rfl (lv_at hl 3 rfl) ?_
      refine lv_iload hx hb dX6_film_75 (lv_at hl 0 rfl) ?_
      refine x_callVI CF hK hP hS hA hl (As := [.int (nI k), .int (nI q)]) (rest := [.int (nI (((24 * s) + i) + q)), .ref (ad 12)]) (r_heightOf hI M (flR M J k (24 * s + i) q) hw k (by omega) q (by omega)) kw_X6_heightOf wd3_219 (by decide) dR_0 rfl rfl ⟨Nat.le_of_ble_eq_true rfl, Nat.le_of_ble_eq_true rfl⟩ ⟨Nat.le_refl _, Nat.le_refl _⟩ (Nat.le_of_ble_eq_true rfl) dX6_film_77 (fun H locs hP hS => ?_)
      refine lv_i2l hx hb dX6_film_80 (nI_l (Nat.lt_of_le_of_lt (hgtR_le hw (by omega) q) (by decide))) ?_
      refine x_last CF hK hI hA hP hS 12 (by decide) dR_12 (((24 * s) + i) + q) (by omega) (by decide) (lN (hgtR M k q)) dX6_film_81 (fun H locs hP hS => ?_)
      refine lv_iinc (v := nI (q + 1)) (lv' := [(6, .int (nI (q + 1))), (5, .int (nI 0)), (0, .ref (ad 0)), (1, .int (nI k)), (2, .int (nI s)), (3, .int (nI ln)), (4, .int (nI i))]) hx hb dX6_film_82 hl (k := 0) rfl (n_inc q 1) (by decide) rfl (fun ls hl => ?_)
      refine lv_goto (tgt := 52) hx hb dX6_film_85 (by decide) ?_
      have hl0 : lv_has ls 7 [(6, .int (nI (q + 1))), (5, .int (nI 0)), (0, .ref (ad 0)), (1, .int (nI k)), (2, .int (nI s)), (3, .int (nI ln)), (4, .int (nI i))] := lv_sub hl [0, 1, 2, 3, 4, 5, 6] rfl
      exact ih52 (q + 1) (by omega) _ _ _ (by rw [flR, rowLO_s rfl (h := rfl)] at hP; exact hP) hS hl0
  have hl0 : lv_has ls 7 [(6, .int (nI 0)), (5, .int (nI 0)), (0, .ref (ad 0)), (1, .int (nI k)), (2, .int (nI s)), (3, .int (nI ln)), (4, .int (nI i))] := lv_sub hl [0, 1, 2, 3, 4, 5, 6] rfl
  exact L52 12 0 (by omega) _ _ _ (by rw [flR, rowLO_0]; exact hP) hS hl0
set_option maxHeartbeats 4000000 in
set_option maxRecDepth 100000 in
theorem r_film_null {l : Launch} {g : gE} {ad : Nat → Nat} (hI : g_inj ad 14) (M : gMem) (J : gMeL) (hw : wfR M) (k : Nat) (hk : k < M 1 73) (s ln : Nat) (hs : s < 4) (hln : ln ≤ 2) (i : Int32) (h : M 10 s = 4294967295) : CI l g ad dsR 14 yX6_film cX6_film 7 (some .int) 3 [.ref (ad 0), .int (nI k), .int (nI s), .int (nI ln), .int i] M J (nI 4294967285) M J := by
  refine CI.of (plainFor_of_name (by decide)) (Nat.le_of_ble_eq_true rfl) (fun p9 e9 s9 m9 args9 below9 meth9 c9 CF hK hr9 hlk9 hP hS ls hl => ?_)
  have hx := CF.1
  have hb := CF.2.1
  have hA : ∀ q, g_A ad 14 q → g_A ad 14 q := fun _ h => h
  have hl : lv_has ls 7 [(0, .ref (ad 0)), (1, .int (nI k)), (2, .int (nI s)), (3, .int (nI ln)), (4, .int i)] := hl
  have hnc := hw.nc
  have hnf := hw.nf
  have hwy := hw.way
  refine lv_aload_n hx hb dX6_film_0 rfl (lv_at hl 0 rfl) ?_
  refine lv_iload_n hx hb dX6_film_1 rfl (lv_at hl 1 rfl) ?_
  refine x_callVI CF hK hP hS hA hl (As := [.int (nI k)]) (rest := []) (r_isFigure_t hI M J k (by omega) (by omega)) kw_X6_isFigure wd3_196 (by decide) dR_0 rfl rfl ⟨Nat.le_of_ble_eq_true rfl, Nat.le_of_ble_eq_true rfl⟩ ⟨Nat.le_refl _, Nat.le_refl _⟩ (Nat.le_of_ble_eq_true rfl) dX6_film_2 (fun H locs hP hS => ?_)
  refine x_yeq (u := (1 : Int)) (tgt := 27) hx hb (rfl) dX6_film_5 (by decide) (fun h_1 => (by omega : False).elim) (fun h_1 => ?_)
  refine lv_iload_n hx hb dX6_film_8 rfl (lv_at hl 2 rfl) ?_
  refine x_callSP CF hK hP hS hl (As := [.int (nI s)]) (rest := []) (r_isSheet_t s (by omega)) kw_X6_isSheet wd4_94 rfl ⟨Nat.le_of_ble_eq_true rfl, Nat.le_of_ble_eq_true rfl⟩ ⟨Nat.le_refl _, Nat.le_refl _⟩ (Nat.le_of_ble_eq_true rfl) dX6_film_9 (fun H locs hP hS => ?_)
  refine x_yeq (u := (1 : Int)) (tgt := 27) hx hb (rfl) dX6_film_12 (by decide) (fun h_2 => (by omega : False).elim) (fun h_2 => ?_)
  refine lv_iload_n hx hb dX6_film_15 rfl (lv_at hl 3 rfl) ?_
  refine lv_i2l hx hb dX6_film_16 (nI_l (by omega)) ?_
  refine lv_lconst (v := (0 : Int64)) hx hb dX6_film_17 rfl ?_
  refine lv_ldc2 hx hb CF.2.2.2.1 (CF.2.2.2.2 _ (List.mem_cons_of_mem _ wd4_97)) dX6_film_18 ?_
  refine x_callSP CF hK hP hS hl (As := [.long (lN ln), .long (0 : Int64), .long (2 : Int64)]) (rest := []) (r_in_t _ _ _ (il_in (lo := 0) (hi := 2) (by omega) (by omega) (by omega))) kw_X6_in wd3_147 rfl ⟨Nat.le_of_ble_eq_true rfl, Nat.le_of_ble_eq_true rfl⟩ ⟨Nat.le_refl _, Nat.le_refl _⟩ (Nat.le_of_ble_eq_true rfl) dX6_film_21 (fun H locs hP hS => ?_)
  refine x_yne (u := (1 : Int)) (tgt := 29) hx hb (rfl) dX6_film_24 (by decide) (fun h_3 => ?_) (fun h_3 => (by omega : False).elim)
  refine lv_aload_n hx hb dX6_film_29 rfl (lv_at hl 0 rfl) ?_
  refine lv_iload_n hx hb dX6_film_30 rfl (lv_at hl 2 rfl) ?_
  refine lv_iload_n hx hb dX6_film_31 rfl (lv_at hl 3 rfl) ?_
  refine lv_iload hx hb dX6_film_32 (lv_at hl 4 rfl) ?_
  refine lv_bipush (v := nI 12) hx hb dX6_film_34 (by decide) ?_
  refine x_callVI CF hK hP hS hA hl (As := [.int (nI s), .int (nI ln), .int i, .int (nI 12)]) (rest := []) (r_bars_null hI M J s (by omega) (nI ln) i (nI 12) h) kw_X6_bars wd4_98 (by decide) dR_0 rfl rfl ⟨Nat.le_of_ble_eq_true rfl, Nat.le_of_ble_eq_true rfl⟩ ⟨Nat.le_refl _, Nat.le_refl _⟩ (Nat.le_of_ble_eq_true rfl) dX6_film_36 (fun H locs hP hS => ?_)
  refine lv_istore (lv' := [(5, .int (nI 4294967285)), (0, .ref (ad 0)), (1, .int (nI k)), (2, .int (nI s)), (3, .int (nI ln)), (4, .int i)]) hx hb dX6_film_39 hl (by decide) rfl (fun ls hl => ?_)
  refine lv_iload hx hb dX6_film_41 (lv_at hl 0 rfl) ?_
  refine x_yeq (u := (-11 : Int)) (tgt := 49) hx hb (rfl) dX6_film_43 (by decide) (fun h_4 => (by omega : False).elim) (fun h_4 => ?_)
  refine lv_iload hx hb dX6_film_46 (lv_at hl 0 rfl) ?_
  exact x_reti hx hb hr9 hlk9 hS hP (by first | rfl | (show nI 4294967285 = nI 4294967285; first | rfl | omega)) dX6_film_48
set_option maxHeartbeats 4000000 in
set_option maxRecDepth 100000 in
theorem r_film_cast {l : Launch} {g : gE} {ad : Nat → Nat} (hI : g_inj ad 14) (M : gMem) (J : gMeL) (hw : wfR M) (k : Nat) (hk : k < M 1 73) (s ln : Nat) (hs : s < 4) (hln : ln ≤ 2) (i : Int32) (h : M 10 s ≤ 2) (h3 : ¬ M 10 s = ln) : CI l g ad dsR 14 yX6_film cX6_film 7 (some .int) 3 [.ref (ad 0), .int (nI k), .int (nI s), .int (nI ln), .int i] M J (nI 4294967284) M J := by
  refine CI.of (plainFor_of_name (by decide)) (Nat.le_of_ble_eq_true rfl) (fun p9 e9 s9 m9 args9 below9 meth9 c9 CF hK hr9 hlk9 hP hS ls hl => ?_)
  have hx := CF.1
  have hb := CF.2.1
  have hA : ∀ q, g_A ad 14 q → g_A ad 14 q := fun _ h => h
  have hl : lv_has ls 7 [(0, .ref (ad 0)), (1, .int (nI k)), (2, .int (nI s)), (3, .int (nI ln)), (4, .int i)] := hl
  have hnc := hw.nc
  have hnf := hw.nf
  have hwy := hw.way
  refine lv_aload_n hx hb dX6_film_0 rfl (lv_at hl 0 rfl) ?_
  refine lv_iload_n hx hb dX6_film_1 rfl (lv_at hl 1 rfl) ?_
  refine x_callVI CF hK hP hS hA hl (As := [.int (nI k)]) (rest := []) (r_isFigure_t hI M J k (by omega) (by omega)) kw_X6_isFigure wd3_196 (by decide) dR_0 rfl rfl ⟨Nat.le_of_ble_eq_true rfl, Nat.le_of_ble_eq_true rfl⟩ ⟨Nat.le_refl _, Nat.le_refl _⟩ (Nat.le_of_ble_eq_true rfl) dX6_film_2 (fun H locs hP hS => ?_)
  refine x_yeq (u := (1 : Int)) (tgt := 27) hx hb (rfl) dX6_film_5 (by decide) (fun h_1 => (by omega : False).elim) (fun h_1 => ?_)
  refine lv_iload_n hx hb dX6_film_8 rfl (lv_at hl 2 rfl) ?_
  refine x_callSP CF hK hP hS hl (As := [.int (nI s)]) (rest := []) (r_isSheet_t s (by omega)) kw_X6_isSheet wd4_94 rfl ⟨Nat.le_of_ble_eq_true rfl, Nat.le_of_ble_eq_true rfl⟩ ⟨Nat.le_refl _, Nat.le_refl _⟩ (Nat.le_of_ble_eq_true rfl) dX6_film_9 (fun H locs hP hS => ?_)
  refine x_yeq (u := (1 : Int)) (tgt := 27) hx hb (rfl) dX6_film_12 (by decide) (fun h_2 => (by omega : False).elim) (fun h_2 => ?_)
  refine lv_iload_n hx hb dX6_film_15 rfl (lv_at hl 3 rfl) ?_
  refine lv_i2l hx hb dX6_film_16 (nI_l (by omega)) ?_
  refine lv_lconst (v := (0 : Int64)) hx hb dX6_film_17 rfl ?_
  refine lv_ldc2 hx hb CF.2.2.2.1 (CF.2.2.2.2 _ (List.mem_cons_of_mem _ wd4_97)) dX6_film_18 ?_
  refine x_callSP CF hK hP hS hl (As := [.long (lN ln), .long (0 : Int64), .long (2 : Int64)]) (rest := []) (r_in_t _ _ _ (il_in (lo := 0) (hi := 2) (by omega) (by omega) (by omega))) kw_X6_in wd3_147 rfl ⟨Nat.le_of_ble_eq_true rfl, Nat.le_of_ble_eq_true rfl⟩ ⟨Nat.le_refl _, Nat.le_refl _⟩ (Nat.le_of_ble_eq_true rfl) dX6_film_21 (fun H locs hP hS => ?_)
  refine x_yne (u := (1 : Int)) (tgt := 29) hx hb (rfl) dX6_film_24 (by decide) (fun h_3 => ?_) (fun h_3 => (by omega : False).elim)
  refine lv_aload_n hx hb dX6_film_29 rfl (lv_at hl 0 rfl) ?_
  refine lv_iload_n hx hb dX6_film_30 rfl (lv_at hl 2 rfl) ?_
  refine lv_iload_n hx hb dX6_film_31 rfl (lv_at hl 3 rfl) ?_
  refine lv_iload hx hb dX6_film_32 (lv_at hl 4 rfl) ?_
  refine lv_bipush (v := nI 12) hx hb dX6_film_34 (by decide) ?_
  refine x_callVI CF hK hP hS hA hl (As := [.int (nI s), .int (nI ln), .int i, .int (nI 12)]) (rest := []) (r_bars_cast hI M J s ln (by omega) (by omega) i (nI 12) h h3) kw_X6_bars wd4_98 (by decide) dR_0 rfl rfl ⟨Nat.le_of_ble_eq_true rfl, Nat.le_of_ble_eq_true rfl⟩ ⟨Nat.le_refl _, Nat.le_refl _⟩ (Nat.le_of_ble_eq_true rfl) dX6_film_36 (fun H locs hP hS => ?_)
  refine lv_istore (lv' := [(5, .int (nI 4294967284)), (0, .ref (ad 0)), (1, .int (nI k)), (2, .int (nI s)), (3, .int (nI ln)), (4, .int i)]) hx hb dX6_film_39 hl (by decide) rfl (fun ls hl => ?_)
  refine lv_iload hx hb dX6_film_41 (lv_at hl 0 rfl) ?_
  refine x_yeq (u := (-12 : Int)) (tgt := 49) hx hb (rfl) dX6_film_43 (by decide) (fun h_4 => (by omega : False).elim) (fun h_4 => ?_)
  refine lv_iload hx hb dX6_film_46 (lv_at hl 0 rfl) ?_
  exact x_reti hx hb hr9 hlk9 hS hP (by first | rfl | (show nI 4294967284 = nI 4294967284; first | rfl | omega)) dX6_film_48
set_option maxHeartbeats 4000000 in
set_option maxRecDepth 100000 in
theorem r_film_index {l : Launch} {g : gE} {ad : Nat → Nat} (hI : g_inj ad 14) (M : gMem) (J : gMeL) (hw : wfR M) (k : Nat) (hk : k < M 1 73) (s ln : Nat) (hs : s < 4) (hln : ln ≤ 2) (i : Int32) (hl9 : M 10 s = ln) (h : ¬ (0 ≤ i.toInt ∧ i.toInt + 12 ≤ M 11 s)) (h2 : M 11 s ≤ 24) : CI l g ad dsR 14 yX6_film cX6_film 7 (some .int) 3 [.ref (ad 0), .int (nI k), .int (nI s), .int (nI ln), .int i] M J (nI 4294967283) M J := by
  refine CI.of (plainFor_of_name (by decide)) (Nat.le_of_ble_eq_true rfl) (fun p9 e9 s9 m9 args9 below9 meth9 c9 CF hK hr9 hlk9 hP hS ls hl => ?_)
  have hx := CF.1
  have hb := CF.2.1
  have hA : ∀ q, g_A ad 14 q → g_A ad 14 q := fun _ h => h
  have hl : lv_has ls 7 [(0, .ref (ad 0)), (1, .int (nI k)), (2, .int (nI s)), (3, .int (nI ln)), (4, .int i)] := hl
  have hnc := hw.nc
  have hnf := hw.nf
  have hwy := hw.way
  refine lv_aload_n hx hb dX6_film_0 rfl (lv_at hl 0 rfl) ?_
  refine lv_iload_n hx hb dX6_film_1 rfl (lv_at hl 1 rfl) ?_
  refine x_callVI CF hK hP hS hA hl (As := [.int (nI k)]) (rest := []) (r_isFigure_t hI M J k (by omega) (by omega)) kw_X6_isFigure wd3_196 (by decide) dR_0 rfl rfl ⟨Nat.le_of_ble_eq_true rfl, Nat.le_of_ble_eq_true rfl⟩ ⟨Nat.le_refl _, Nat.le_refl _⟩ (Nat.le_of_ble_eq_true rfl) dX6_film_2 (fun H locs hP hS => ?_)
  refine x_yeq (u := (1 : Int)) (tgt := 27) hx hb (rfl) dX6_film_5 (by decide) (fun h_1 => (by omega : False).elim) (fun h_1 => ?_)
  refine lv_iload_n hx hb dX6_film_8 rfl (lv_at hl 2 rfl) ?_
  refine x_callSP CF hK hP hS hl (As := [.int (nI s)]) (rest := []) (r_isSheet_t s (by omega)) kw_X6_isSheet wd4_94 rfl ⟨Nat.le_of_ble_eq_true rfl, Nat.le_of_ble_eq_true rfl⟩ ⟨Nat.le_refl _, Nat.le_refl _⟩ (Nat.le_of_ble_eq_true rfl) dX6_film_9 (fun H locs hP hS => ?_)
  refine x_yeq (u := (1 : Int)) (tgt := 27) hx hb (rfl) dX6_film_12 (by decide) (fun h_2 => (by omega : False).elim) (fun h_2 => ?_)
  refine lv_iload_n hx hb dX6_film_15 rfl (lv_at hl 3 rfl) ?_
  refine lv_i2l hx hb dX6_film_16 (nI_l (by omega)) ?_
  refine lv_lconst (v := (0 : Int64)) hx hb dX6_film_17 rfl ?_
  refine lv_ldc2 hx hb CF.2.2.2.1 (CF.2.2.2.2 _ (List.mem_cons_of_mem _ wd4_97)) dX6_film_18 ?_
  refine x_callSP CF hK hP hS hl (As := [.long (lN ln), .long (0 : Int64), .long (2 : Int64)]) (rest := []) (r_in_t _ _ _ (il_in (lo := 0) (hi := 2) (by omega) (by omega) (by omega))) kw_X6_in wd3_147 rfl ⟨Nat.le_of_ble_eq_true rfl, Nat.le_of_ble_eq_true rfl⟩ ⟨Nat.le_refl _, Nat.le_refl _⟩ (Nat.le_of_ble_eq_true rfl) dX6_film_21 (fun H locs hP hS => ?_)
  refine x_yne (u := (1 : Int)) (tgt := 29) hx hb (rfl) dX6_film_24 (by decide) (fun h_3 => ?_) (fun h_3 => (by omega : False).elim)
  refine lv_aload_n hx hb dX6_film_29 rfl (lv_at hl 0 rfl) ?_
  refine lv_iload_n hx hb dX6_film_30 rfl (lv_at hl 2 rfl) ?_
  refine lv_iload_n hx hb dX6_film_31 rfl (lv_at hl 3 rfl) ?_
  refine lv_iload hx hb dX6_film_32 (lv_at hl 4 rfl) ?_
  refine lv_bipush (v := nI 12) hx hb dX6_film_34 (by decide) ?_
  refine x_callVI CF hK hP hS hA hl (As := [.int (nI s), .int (nI ln), .int i, .int (nI 12)]) (rest := []) (r_bars_index hI M J s ln (by omega) i (nI 12) (by omega) (by omega) (by rw [tz (by omega)]; omega) h2) kw_X6_bars wd4_98 (by decide) dR_0 rfl rfl ⟨Nat.le_of_ble_eq_true rfl, Nat.le_of_ble_eq_true rfl⟩ ⟨Nat.le_refl _, Nat.le_refl _⟩ (Nat.le_of_ble_eq_true rfl) dX6_film_36 (fun H locs hP hS => ?_)
  refine lv_istore (lv' := [(5, .int (nI 4294967283)), (0, .ref (ad 0)), (1, .int (nI k)), (2, .int (nI s)), (3, .int (nI ln)), (4, .int i)]) hx hb dX6_film_39 hl (by decide) rfl (fun ls hl => ?_)
  refine lv_iload hx hb dX6_film_41 (lv_at hl 0 rfl) ?_
  refine x_yeq (u := (-13 : Int)) (tgt := 49) hx hb (rfl) dX6_film_43 (by decide) (fun h_4 => (by omega : False).elim) (fun h_4 => ?_)
  refine lv_iload hx hb dX6_film_46 (lv_at hl 0 rfl) ?_
  exact x_reti hx hb hr9 hlk9 hS hP (by first | rfl | (show nI 4294967283 = nI 4294967283; first | rfl | omega)) dX6_film_48
set_option maxHeartbeats 4000000 in
set_option maxRecDepth 100000 in
theorem r_film_bad {l : Launch} {g : gE} {ad : Nat → Nat} (hI : g_inj ad 14) (M : gMem) (J : gMeL) (hw : wfR M) (k s ln i : Int32) (h : ¬ (inR k (M 1 73) ∧ inR s 4 ∧ inR ln 3)) : CI l g ad dsR 14 yX6_film cX6_film 7 (some .int) 3 [.ref (ad 0), .int k, .int s, .int ln, .int i] M J (nI 4294967295) M J := by
  refine CI.of (plainFor_of_name (by decide)) (Nat.le_of_ble_eq_true rfl) (fun p9 e9 s9 m9 args9 below9 meth9 c9 CF hK hr9 hlk9 hP hS ls hl => ?_)
  have hx := CF.1
  have hb := CF.2.1
  have hA : ∀ q, g_A ad 14 q → g_A ad 14 q := fun _ h => h
  have hl : lv_has ls 7 [(0, .ref (ad 0)), (1, .int k), (2, .int s), (3, .int ln), (4, .int i)] := hl
  have hnc := hw.nc
  have hnf := hw.nf
  have hwy := hw.way
  refine lv_aload_n hx hb dX6_film_0 rfl (lv_at hl 0 rfl) ?_
  refine lv_iload_n hx hb dX6_film_1 rfl (lv_at hl 1 rfl) ?_
  rcases n_int (x := k) (n := M 1 73) (by omega) with ⟨k1, h_k1, rfl⟩ | ho_k
  · refine x_callVI CF hK hP hS hA hl (As := [.int (nI k1)]) (rest := []) (r_isFigure_t hI M J k1 (by omega) (by omega)) kw_X6_isFigure wd3_196 (by decide) dR_0 rfl rfl ⟨Nat.le_of_ble_eq_true rfl, Nat.le_of_ble_eq_true rfl⟩ ⟨Nat.le_refl _, Nat.le_refl _⟩ (Nat.le_of_ble_eq_true rfl) dX6_film_2 (fun H locs hP hS => ?_)
    refine x_yeq (u := (1 : Int)) (tgt := 27) hx hb (rfl) dX6_film_5 (by decide) (fun h_1 => (by omega : False).elim) (fun h_1 => ?_)
    refine lv_iload_n hx hb dX6_film_8 rfl (lv_at hl 2 rfl) ?_
    rcases n_int (x := s) (n := 4) (by omega) with ⟨s1, h_s1, rfl⟩ | ho_s
    · refine x_callSP CF hK hP hS hl (As := [.int (nI s1)]) (rest := []) (r_isSheet_t s1 (by omega)) kw_X6_isSheet wd4_94 rfl ⟨Nat.le_of_ble_eq_true rfl, Nat.le_of_ble_eq_true rfl⟩ ⟨Nat.le_refl _, Nat.le_refl _⟩ (Nat.le_of_ble_eq_true rfl) dX6_film_9 (fun H locs hP hS => ?_)
      refine x_yeq (u := (1 : Int)) (tgt := 27) hx hb (rfl) dX6_film_12 (by decide) (fun h_2 => (by omega : False).elim) (fun h_2 => ?_)
      refine lv_iload_n hx hb dX6_film_15 rfl (lv_at hl 3 rfl) ?_
      rcases n_int (x := ln) (n := 3) (by omega) with ⟨l1, h_l1, rfl⟩ | ho_ln
      · refine lv_i2l hx hb dX6_film_16 (nI_l (by omega)) ?_
        refine lv_lconst (v := (0 : Int64)) hx hb dX6_film_17 rfl ?_
        refine lv_ldc2 hx hb CF.2.2.2.1 (CF.2.2.2.2 _ (List.mem_cons_of_mem _ wd4_97)) dX6_film_18 ?_
        refine x_callSP CF hK hP hS hl (As := [.long (lN l1), .long (0 : Int64), .long (2 : Int64)]) (rest := []) (r_in_t _ _ _ (il_in (lo := 0) (hi := 2) (by omega) (by omega) (by omega))) kw_X6_in wd3_147 rfl ⟨Nat.le_of_ble_eq_true rfl, Nat.le_of_ble_eq_true rfl⟩ ⟨Nat.le_refl _, Nat.le_refl _⟩ (Nat.le_of_ble_eq_true rfl) dX6_film_21 (fun H locs hP hS => ?_)
        refine x_yne (u := (1 : Int)) (tgt := 29) hx hb (rfl) dX6_film_24 (by decide) (fun h_3 => ?_) (fun h_3 => (by omega : False).elim)
        exact absurd ⟨inR_n h_k1 (by omega), inR_n h_s1 (by decide), inR_n h_l1 (by decide)⟩ h
      · refine lv_i2l hx hb dX6_film_16 rfl ?_
        refine lv_lconst (v := (0 : Int64)) hx hb dX6_film_17 rfl ?_
        refine lv_ldc2 hx hb CF.2.2.2.1 (CF.2.2.2.2 _ (List.mem_cons_of_mem _ wd4_97)) dX6_film_18 ?_
        refine x_callSP CF hK hP hS hl (As := [.long ln.toInt64, .long (0 : Int64), .long (2 : Int64)]) (rest := []) (r_in_f _ _ _ (il_out (lo := 0) (hi := 2) (by omega) (by omega) (by omega))) kw_X6_in wd3_147 rfl ⟨Nat.le_of_ble_eq_true rfl, Nat.le_of_ble_eq_true rfl⟩ ⟨Nat.le_refl _, Nat.le_refl _⟩ (Nat.le_of_ble_eq_true rfl) dX6_film_21 (fun H locs hP hS => ?_)
        refine x_yne (u := (0 : Int)) (tgt := 29) hx hb (rfl) dX6_film_24 (by decide) (fun h_4 => (by omega : False).elim) (fun h_4 => ?_)
        refine lv_iconst (v := nI 4294967295) hx hb dX6_film_27 (by decide) ?_
        exact x_reti hx hb hr9 hlk9 hS hP (by first | rfl | (show nI 4294967295 = nI 4294967295; first | rfl | omega)) dX6_film_28
    · refine x_callSP CF hK hP hS hl (As := [.int s]) (rest := []) (r_isSheet_f s ho_s) kw_X6_isSheet wd4_94 rfl ⟨Nat.le_of_ble_eq_true rfl, Nat.le_of_ble_eq_true rfl⟩ ⟨Nat.le_refl _, Nat.le_refl _⟩ (Nat.le_of_ble_eq_true rfl) dX6_film_9 (fun H locs hP hS => ?_)
      refine x_yeq (u := (0 : Int)) (tgt := 27) hx hb (rfl) dX6_film_12 (by decide) (fun h_5 => ?_) (fun h_5 => (by omega : False).elim)
      refine lv_iconst (v := nI 4294967295) hx hb dX6_film_27 (by decide) ?_
      exact x_reti hx hb hr9 hlk9 hS hP (by first | rfl | (show nI 4294967295 = nI 4294967295; first | rfl | omega)) dX6_film_28
  · refine x_callVI CF hK hP hS hA hl (As := [.int k]) (rest := []) (r_isFigure_f hI M J k ho_k (by omega)) kw_X6_isFigure wd3_196 (by decide) dR_0 rfl rfl ⟨Nat.le_of_ble_eq_true rfl, Nat.le_of_ble_eq_true rfl⟩ ⟨Nat.le_refl _, Nat.le_refl _⟩ (Nat.le_of_ble_eq_true rfl) dX6_film_2 (fun H locs hP hS => ?_)
    refine x_yeq (u := (0 : Int)) (tgt := 27) hx hb (rfl) dX6_film_5 (by decide) (fun h_6 => ?_) (fun h_6 => (by omega : False).elim)
    refine lv_iconst (v := nI 4294967295) hx hb dX6_film_27 (by decide) ?_
    exact x_reti hx hb hr9 hlk9 hS hP (by first | rfl | (show nI 4294967295 = nI 4294967295; first | rfl | omega)) dX6_film_28
set_option maxHeartbeats 4000000 in
set_option maxRecDepth 100000 in
theorem r_sheet_ok {l : Launch} {g : gE} {ad : Nat → Nat} (hI : g_inj ad 14) (M : gMem) (J : gMeL) (s ln : Nat) (hs : s < 4) (hln : ln ≤ 2) (n : Nat) (h : n ≤ 24) : CI l g ad dsR 14 yX6_sheet cX6_sheet 5 (some .int) 2 [.ref (ad 0), .int (nI s), .int (nI ln), .int (nI n)] M J (nI n) (u2 (u2 M 10 s ln) 11 s n) (rowLO J 12 (24 * s) 24 (fun _ => (0 : Int64))) := by
  refine CI.of (plainFor_of_name (by decide)) (Nat.le_of_ble_eq_true rfl) (fun p9 e9 s9 m9 args9 below9 meth9 c9 CF hK hr9 hlk9 hP hS ls hl => ?_)
  have hx := CF.1
  have hb := CF.2.1
  have hA : ∀ q, g_A ad 14 q → g_A ad 14 q := fun _ h => h
  have hl : lv_has ls 5 [(0, .ref (ad 0)), (1, .int (nI s)), (2, .int (nI ln)), (3, .int (nI n))] := hl
  refine lv_iload_n hx hb dX6_sheet_0 rfl (lv_at hl 1 rfl) ?_
  refine x_callSP CF hK hP hS hl (As := [.int (nI s)]) (rest := []) (r_isSheet_t s (by omega)) kw_X6_isSheet wd4_94 rfl ⟨Nat.le_of_ble_eq_true rfl, Nat.le_of_ble_eq_true rfl⟩ ⟨Nat.le_refl _, Nat.le_refl _⟩ (Nat.le_of_ble_eq_true rfl) dX6_sheet_1 (fun H locs hP hS => ?_)
  refine x_yeq (u := (1 : Int)) (tgt := 25) hx hb (rfl) dX6_sheet_4 (by decide) (fun h_1 => (by omega : False).elim) (fun h_1 => ?_)
  refine lv_iload_n hx hb dX6_sheet_7 rfl (lv_at hl 2 rfl) ?_
  refine lv_i2l hx hb dX6_sheet_8 (nI_l (by omega)) ?_
  refine lv_lconst (v := (0 : Int64)) hx hb dX6_sheet_9 rfl ?_
  refine lv_ldc2 hx hb CF.2.2.2.1 (CF.2.2.2.2 _ (List.mem_cons_of_mem _ wd4_97)) dX6_sheet_10 ?_
  refine x_callSP CF hK hP hS hl (As := [.long (lN ln), .long (0 : Int64), .long (2 : Int64)]) (rest := []) (r_in_t _ _ _ (il_in (lo := 0) (hi := 2) (by omega) (by omega) (by omega))) kw_X6_in wd3_147 rfl ⟨Nat.le_of_ble_eq_true rfl, Nat.le_of_ble_eq_true rfl⟩ ⟨Nat.le_refl _, Nat.le_refl _⟩ (Nat.le_of_ble_eq_true rfl) dX6_sheet_13 (fun H locs hP hS => ?_)
  refine x_yeq (u := (1 : Int)) (tgt := 25) hx hb (rfl) dX6_sheet_16 (by decide) (fun h_2 => (by omega : False).elim) (fun h_2 => ?_)
  refine lv_iload_n hx hb dX6_sheet_19 rfl (lv_at hl 3 rfl) ?_
  refine lv_bipush (v := nI 24) hx hb dX6_sheet_20 (by decide) ?_
  refine x_zle (u := (n : Nat)) (v := (24 : Int)) (tgt := 27) hx hb (nI_toInt (by omega)) (rfl) dX6_sheet_22 (by decide) (fun h_3 => ?_) (fun h_3 => (by omega : False).elim)
  refine lv_iload_n hx hb dX6_sheet_27 rfl (lv_at hl 3 rfl) ?_
  refine x_yge (u := (n : Nat)) (tgt := 34) hx hb (nI_toInt (by omega)) dX6_sheet_28 (by decide) (fun h_4 => ?_) (fun h_4 => (by omega : False).elim)
  refine lv_aload_n hx hb dX6_sheet_34 rfl (lv_at hl 0 rfl) ?_
  refine x_getr CF hK hP 0 (by decide) dR_0 rfl uX6 11 (by decide) (j := 10) rfl wd3_107 rfl dX6_sheet_35 ?_
  refine lv_iload_n hx hb dX6_sheet_38 rfl (lv_at hl 1 rfl) ?_
  refine lv_iload_n hx hb dX6_sheet_39 rfl (lv_at hl 2 rfl) ?_
  refine x_iast CF hK hI hA hP hS 10 (by decide) dR_10 s (by omega) (by decide) ln dX6_sheet_40 (fun H locs hP hS => ?_)
  refine lv_aload_n hx hb dX6_sheet_41 rfl (lv_at hl 0 rfl) ?_
  refine x_getr CF hK hP 0 (by decide) dR_0 rfl uX6 12 (by decide) (j := 11) rfl wd3_108 rfl dX6_sheet_42 ?_
  refine lv_iload_n hx hb dX6_sheet_45 rfl (lv_at hl 1 rfl) ?_
  refine lv_iload_n hx hb dX6_sheet_46 rfl (lv_at hl 3 rfl) ?_
  refine x_iast CF hK hI hA hP hS 11 (by decide) dR_11 s (by omega) (by decide) n dX6_sheet_47 (fun H locs hP hS => ?_)
  refine lv_iconst (v := nI 0) hx hb dX6_sheet_48 (by decide) ?_
  refine lv_istore (lv' := [(4, .int (nI 0)), (0, .ref (ad 0)), (1, .int (nI s)), (2, .int (nI ln)), (3, .int (nI n))]) hx hb dX6_sheet_49 hl (by decide) rfl (fun ls hl => ?_)
  have L51 : ∀ (d51 : Nat) (q : Nat), (q + d51 = 24) → (∀ (H : Heap) (locs : List Loc) (ls : Array Slot), g_P g ad dsR 14 (u2 (u2 M 10 s ln) 11 s n) (rowLO J 12 (24 * s) q (fun _ => (0 : Int64))) H → va_S (g_A ad 14) s9.heap H locs → lv_has ls 5 [(4, .int (nI q)), (0, .ref (ad 0)), (1, .int (nI s)), (2, .int (nI ln)), (3, .int (nI n))] → W p9 l e9 (g_rm 2) s9 m9 args9 below9 meth9 c9 H locs 0 0 (MQ below9 (va_Qi (fun r' (_ : Unit) => r' = (nI n)) (fun _ t => g_P g ad dsR 14 (u2 (u2 M 10 s ln) 11 s n) (rowLO J 12 (24 * s) 24 (fun _ => (0 : Int64))) t.heap) (g_A ad 14)) args9 s9 0 0 (g_A ad 14)) (F0 m9 51 ls [])) := by
    intro d51
    induction d51 with
    | zero =>
      intro q h_q H locs ls hP hS hl
      refine lv_iload hx hb dX6_sheet_51 (lv_at hl 0 rfl) ?_
      refine lv_bipush (v := nI 24) hx hb dX6_sheet_53 (by decide) ?_
      refine x_zge (u := (q : Nat)) (v := (24 : Int)) (tgt := 77) hx hb (nI_toInt (by omega)) (rfl) dX6_sheet_55 (by decide) (fun h_5 => ?_) (fun h_5 => (by omega : False).elim)
      refine lv_iload_n hx hb dX6_sheet_77 rfl (lv_at hl 4 rfl) ?_
      exact x_reti hx hb hr9 hlk9 hS (by rw [show q = 24 by omega] at hP; exact hP) (by first | rfl | (show nI n = nI n; first | rfl | omega)) dX6_sheet_78
    | succ d51 ih51 =>
      intro q h_q H locs ls hP hS hl
      refine lv_iload hx hb dX6_sheet_51 (lv_at hl 0 rfl) ?_
      refine lv_bipush (v := nI 24) hx hb dX6_sheet_53 (by decide) ?_
      refine x_zge (u := (q : Nat)) (v := (24 : Int)) (tgt := 77) hx hb (nI_toInt (by omega)) (rfl) dX6_sheet_55 (by decide) (fun h_6 => (by omega : False).elim) (fun h_6 => ?_)
      refine lv_aload_n hx hb dX6_sheet_58 rfl (lv_at hl 1 rfl) ?_
      refine x_getr CF hK hP 0 (by decide) dR_0 rfl uX6 13 (by decide) (j := 12) rfl wd3_109 rfl dX6_sheet_59 ?_
      refine lv_bipush (v := nI 24) hx hb dX6_sheet_62 (by decide) ?_
      refine lv_iload_n hx hb dX6_sheet_64 rfl (lv_at hl 2 rfl) ?_
      refine x_imul hx hb dX6_sheet_65 ?_
      refine lv_iload hx hb dX6_sheet_66 (lv_at hl 0 rfl) ?_
      refine x_iadd hx hb dX6_sheet_68 ?_
      refine lv_lconst (v := (0 : Int64)) hx hb dX6_sheet_69 rfl ?_
      refine x_last CF hK hI hA hP hS 12 (by decide) dR_12 ((24 * s) + q) (by omega) (by decide) (0 : Int64) dX6_sheet_70 (fun H locs hP hS => ?_)
      refine lv_iinc (v := nI (q + 1)) (lv' := [(4, .int (nI (q + 1))), (0, .ref (ad 0)), (1, .int (nI s)), (2, .int (nI ln)), (3, .int (nI n))]) hx hb dX6_sheet_71 hl (k := 0) rfl (n_inc q 1) (by decide) rfl (fun ls hl => ?_)
      refine lv_goto (tgt := 51) hx hb dX6_sheet_74 (by decide) ?_
      have hl0 : lv_has ls 5 [(4, .int (nI (q + 1))), (0, .ref (ad 0)), (1, .int (nI s)), (2, .int (nI ln)), (3, .int (nI n))] := lv_sub hl [0, 1, 2, 3, 4] rfl
      exact ih51 (q + 1) (by omega) _ _ _ (by rw [rowLO_s rfl (h := rfl)] at hP; exact hP) hS hl0
  have hl0 : lv_has ls 5 [(4, .int (nI 0)), (0, .ref (ad 0)), (1, .int (nI s)), (2, .int (nI ln)), (3, .int (nI n))] := lv_sub hl [0, 1, 2, 3, 4] rfl
  exact L51 24 0 (by omega) _ _ _ (by rw [rowLO_0]; exact hP) hS hl0
set_option maxHeartbeats 4000000 in
set_option maxRecDepth 100000 in
theorem r_sheet_neg {l : Launch} {g : gE} {ad : Nat → Nat} (hI : g_inj ad 14) (M : gMem) (J : gMeL) (s ln : Nat) (hs : s < 4) (hln : ln ≤ 2) (n : Int32) (h : n.toInt < 0) : CI l g ad dsR 14 yX6_sheet cX6_sheet 5 (some .int) 2 [.ref (ad 0), .int (nI s), .int (nI ln), .int n] M J (nI 4294967282) M J := by
  refine CI.of (plainFor_of_name (by decide)) (Nat.le_of_ble_eq_true rfl) (fun p9 e9 s9 m9 args9 below9 meth9 c9 CF hK hr9 hlk9 hP hS ls hl => ?_)
  have hx := CF.1
  have hb := CF.2.1
  have hA : ∀ q, g_A ad 14 q → g_A ad 14 q := fun _ h => h
  have hl : lv_has ls 5 [(0, .ref (ad 0)), (1, .int (nI s)), (2, .int (nI ln)), (3, .int n)] := hl
  refine lv_iload_n hx hb dX6_sheet_0 rfl (lv_at hl 1 rfl) ?_
  refine x_callSP CF hK hP hS hl (As := [.int (nI s)]) (rest := []) (r_isSheet_t s (by omega)) kw_X6_isSheet wd4_94 rfl ⟨Nat.le_of_ble_eq_true rfl, Nat.le_of_ble_eq_true rfl⟩ ⟨Nat.le_refl _, Nat.le_refl _⟩ (Nat.le_of_ble_eq_true rfl) dX6_sheet_1 (fun H locs hP hS => ?_)
  refine x_yeq (u := (1 : Int)) (tgt := 25) hx hb (rfl) dX6_sheet_4 (by decide) (fun h_1 => (by omega : False).elim) (fun h_1 => ?_)
  refine lv_iload_n hx hb dX6_sheet_7 rfl (lv_at hl 2 rfl) ?_
  refine lv_i2l hx hb dX6_sheet_8 (nI_l (by omega)) ?_
  refine lv_lconst (v := (0 : Int64)) hx hb dX6_sheet_9 rfl ?_
  refine lv_ldc2 hx hb CF.2.2.2.1 (CF.2.2.2.2 _ (List.mem_cons_of_mem _ wd4_97)) dX6_sheet_10 ?_
  refine x_callSP CF hK hP hS hl (As := [.long (lN ln), .long (0 : Int64), .long (2 : Int64)]) (rest := []) (r_in_t _ _ _ (il_in (lo := 0) (hi := 2) (by omega) (by omega) (by omega))) kw_X6_in wd3_147 rfl ⟨Nat.le_of_ble_eq_true rfl, Nat.le_of_ble_eq_true rfl⟩ ⟨Nat.le_refl _, Nat.le_refl _⟩ (Nat.le_of_ble_eq_true rfl) dX6_sheet_13 (fun H locs hP hS => ?_)
  refine x_yeq (u := (1 : Int)) (tgt := 25) hx hb (rfl) dX6_sheet_16 (by decide) (fun h_2 => (by omega : False).elim) (fun h_2 => ?_)
  refine lv_iload_n hx hb dX6_sheet_19 rfl (lv_at hl 3 rfl) ?_
  refine lv_bipush (v := nI 24) hx hb dX6_sheet_20 (by decide) ?_
  refine x_zle (u := _) (v := (24 : Int)) (tgt := 27) hx hb (rfl) (rfl) dX6_sheet_22 (by decide) (fun h_3 => ?_) (fun h_3 => (by omega : False).elim)
  refine lv_iload_n hx hb dX6_sheet_27 rfl (lv_at hl 3 rfl) ?_
  refine x_yge (u := _) (tgt := 34) hx hb (rfl) dX6_sheet_28 (by decide) (fun h_4 => (by omega : False).elim) (fun h_4 => ?_)
  refine lv_bipush (v := nI 4294967282) hx hb dX6_sheet_31 (by decide) ?_
  exact x_reti hx hb hr9 hlk9 hS hP (by first | rfl | (show nI 4294967282 = nI 4294967282; first | rfl | omega)) dX6_sheet_33
set_option maxHeartbeats 4000000 in
set_option maxRecDepth 100000 in
theorem r_sheet_bad {l : Launch} {g : gE} {ad : Nat → Nat} (hI : g_inj ad 14) (M : gMem) (J : gMeL) (s ln n : Int32) (h : ¬ (inR s 4 ∧ inR ln 3) ∨ 24 < n.toInt) : CI l g ad dsR 14 yX6_sheet cX6_sheet 5 (some .int) 2 [.ref (ad 0), .int s, .int ln, .int n] M J (nI 4294967295) M J := by
  refine CI.of (plainFor_of_name (by decide)) (Nat.le_of_ble_eq_true rfl) (fun p9 e9 s9 m9 args9 below9 meth9 c9 CF hK hr9 hlk9 hP hS ls hl => ?_)
  have hx := CF.1
  have hb := CF.2.1
  have hA : ∀ q, g_A ad 14 q → g_A ad 14 q := fun _ h => h
  have hl : lv_has ls 5 [(0, .ref (ad 0)), (1, .int s), (2, .int ln), (3, .int n)] := hl
  refine lv_iload_n hx hb dX6_sheet_0 rfl (lv_at hl 1 rfl) ?_
  rcases n_int (x := s) (n := 4) (by omega) with ⟨s1, h_s1, rfl⟩ | ho_s
  · refine x_callSP CF hK hP hS hl (As := [.int (nI s1)]) (rest := []) (r_isSheet_t s1 (by omega)) kw_X6_isSheet wd4_94 rfl ⟨Nat.le_of_ble_eq_true rfl, Nat.le_of_ble_eq_true rfl⟩ ⟨Nat.le_refl _, Nat.le_refl _⟩ (Nat.le_of_ble_eq_true rfl) dX6_sheet_1 (fun H locs hP hS => ?_)
    refine x_yeq (u := (1 : Int)) (tgt := 25) hx hb (rfl) dX6_sheet_4 (by decide) (fun h_1 => (by omega : False).elim) (fun h_1 => ?_)
    refine lv_iload_n hx hb dX6_sheet_7 rfl (lv_at hl 2 rfl) ?_
    rcases n_int (x := ln) (n := 3) (by omega) with ⟨l1, h_l1, rfl⟩ | ho_ln
    · refine lv_i2l hx hb dX6_sheet_8 (nI_l (by omega)) ?_
      refine lv_lconst (v := (0 : Int64)) hx hb dX6_sheet_9 rfl ?_
      refine lv_ldc2 hx hb CF.2.2.2.1 (CF.2.2.2.2 _ (List.mem_cons_of_mem _ wd4_97)) dX6_sheet_10 ?_
      refine x_callSP CF hK hP hS hl (As := [.long (lN l1), .long (0 : Int64), .long (2 : Int64)]) (rest := []) (r_in_t _ _ _ (il_in (lo := 0) (hi := 2) (by omega) (by omega) (by omega))) kw_X6_in wd3_147 rfl ⟨Nat.le_of_ble_eq_true rfl, Nat.le_of_ble_eq_true rfl⟩ ⟨Nat.le_refl _, Nat.le_refl _⟩ (Nat.le_of_ble_eq_true rfl) dX6_sheet_13 (fun H locs hP hS => ?_)
      refine x_yeq (u := (1 : Int)) (tgt := 25) hx hb (rfl) dX6_sheet_16 (by decide) (fun h_2 => (by omega : False).elim) (fun h_2 => ?_)
      refine lv_iload_n hx hb dX6_sheet_19 rfl (lv_at hl 3 rfl) ?_
      refine lv_bipush (v := nI 24) hx hb dX6_sheet_20 (by decide) ?_
      refine x_zle (u := _) (v := (24 : Int)) (tgt := 27) hx hb (rfl) (rfl) dX6_sheet_22 (by decide) (fun h_3 => ?_) (fun h_3 => ?_)
      · exact (h.elim (fun h => h ⟨inR_n h_s1 (by decide), inR_n h_l1 (by decide)⟩) (fun h => by omega) : False).elim
      · refine lv_iconst (v := nI 4294967295) hx hb dX6_sheet_25 (by decide) ?_
        exact x_reti hx hb hr9 hlk9 hS hP (by first | rfl | (show nI 4294967295 = nI 4294967295; first | rfl | omega)) dX6_sheet_26
    · refine lv_i2l hx hb dX6_sheet_8 rfl ?_
      refine lv_lconst (v := (0 : Int64)) hx hb dX6_sheet_9 rfl ?_
      refine lv_ldc2 hx hb CF.2.2.2.1 (CF.2.2.2.2 _ (List.mem_cons_of_mem _ wd4_97)) dX6_sheet_10 ?_
      refine x_callSP CF hK hP hS hl (As := [.long ln.toInt64, .long (0 : Int64), .long (2 : Int64)]) (rest := []) (r_in_f _ _ _ (il_out (lo := 0) (hi := 2) (by omega) (by omega) (by omega))) kw_X6_in wd3_147 rfl ⟨Nat.le_of_ble_eq_true rfl, Nat.le_of_ble_eq_true rfl⟩ ⟨Nat.le_refl _, Nat.le_refl _⟩ (Nat.le_of_ble_eq_true rfl) dX6_sheet_13 (fun H locs hP hS => ?_)
      refine x_yeq (u := (0 : Int)) (tgt := 25) hx hb (rfl) dX6_sheet_16 (by decide) (fun h_4 => ?_) (fun h_4 => (by omega : False).elim)
      refine lv_iconst (v := nI 4294967295) hx hb dX6_sheet_25 (by decide) ?_
      exact x_reti hx hb hr9 hlk9 hS hP (by first | rfl | (show nI 4294967295 = nI 4294967295; first | rfl | omega)) dX6_sheet_26
  · refine x_callSP CF hK hP hS hl (As := [.int s]) (rest := []) (r_isSheet_f s ho_s) kw_X6_isSheet wd4_94 rfl ⟨Nat.le_of_ble_eq_true rfl, Nat.le_of_ble_eq_true rfl⟩ ⟨Nat.le_refl _, Nat.le_refl _⟩ (Nat.le_of_ble_eq_true rfl) dX6_sheet_1 (fun H locs hP hS => ?_)
    refine x_yeq (u := (0 : Int)) (tgt := 25) hx hb (rfl) dX6_sheet_4 (by decide) (fun h_5 => ?_) (fun h_5 => (by omega : False).elim)
    refine lv_iconst (v := nI 4294967295) hx hb dX6_sheet_25 (by decide) ?_
    exact x_reti hx hb hr9 hlk9 hS hP (by first | rfl | (show nI 4294967295 = nI 4294967295; first | rfl | omega)) dX6_sheet_26
set_option maxHeartbeats 4000000 in
set_option maxRecDepth 100000 in
theorem r_drop_ok {l : Launch} {g : gE} {ad : Nat → Nat} (hI : g_inj ad 14) (M : gMem) (J : gMeL) (s : Nat) (hs : s < 4) (h : M 10 s ≤ 2) : CI l g ad dsR 14 yX6_drop cX6_drop 2 (some .int) 2 [.ref (ad 0), .int (nI s)] M J (nI (M 11 s)) (u2 M 10 s 4294967295) J := by
  refine CI.of (plainFor_of_name (by decide)) (Nat.le_of_ble_eq_true rfl) (fun p9 e9 s9 m9 args9 below9 meth9 c9 CF hK hr9 hlk9 hP hS ls hl => ?_)
  have hx := CF.1
  have hb := CF.2.1
  have hA : ∀ q, g_A ad 14 q → g_A ad 14 q := fun _ h => h
  have hl : lv_has ls 2 [(0, .ref (ad 0)), (1, .int (nI s))] := hl
  refine lv_iload_n hx hb dX6_drop_0 rfl (lv_at hl 1 rfl) ?_
  refine x_callSP CF hK hP hS hl (As := [.int (nI s)]) (rest := []) (r_isSheet_t s (by omega)) kw_X6_isSheet wd4_94 rfl ⟨Nat.le_of_ble_eq_true rfl, Nat.le_of_ble_eq_true rfl⟩ ⟨Nat.le_refl _, Nat.le_refl _⟩ (Nat.le_of_ble_eq_true rfl) dX6_drop_1 (fun H locs hP hS => ?_)
  refine x_yne (u := (1 : Int)) (tgt := 9) hx hb (rfl) dX6_drop_4 (by decide) (fun h_1 => ?_) (fun h_1 => (by omega : False).elim)
  refine lv_aload_n hx hb dX6_drop_9 rfl (lv_at hl 0 rfl) ?_
  refine x_getr CF hK hP 0 (by decide) dR_0 rfl uX6 11 (by decide) (j := 10) rfl wd3_107 rfl dX6_drop_10 ?_
  refine lv_iload_n hx hb dX6_drop_13 rfl (lv_at hl 1 rfl) ?_
  refine x_iald CF hK hP 10 (by decide) dR_10 s (by omega) (by decide) dX6_drop_14 ?_
  refine x_yge (u := (M 10 s : Nat)) (tgt := 21) hx hb (nI_toInt (by omega)) dX6_drop_15 (by decide) (fun h_2 => ?_) (fun h_2 => (by omega : False).elim)
  refine lv_aload_n hx hb dX6_drop_21 rfl (lv_at hl 0 rfl) ?_
  refine x_getr CF hK hP 0 (by decide) dR_0 rfl uX6 11 (by decide) (j := 10) rfl wd3_107 rfl dX6_drop_22 ?_
  refine lv_iload_n hx hb dX6_drop_25 rfl (lv_at hl 1 rfl) ?_
  refine lv_iconst (v := nI 4294967295) hx hb dX6_drop_26 (by decide) ?_
  refine x_iast CF hK hI hA hP hS 10 (by decide) dR_10 s (by omega) (by decide) 4294967295 dX6_drop_27 (fun H locs hP hS => ?_)
  refine lv_aload_n hx hb dX6_drop_28 rfl (lv_at hl 0 rfl) ?_
  refine x_getr CF hK hP 0 (by decide) dR_0 rfl uX6 12 (by decide) (j := 11) rfl wd3_108 rfl dX6_drop_29 ?_
  refine lv_iload_n hx hb dX6_drop_32 rfl (lv_at hl 1 rfl) ?_
  refine x_iald CF hK hP 11 (by decide) dR_11 s (by omega) (by decide) dX6_drop_33 ?_
  refine x_ri (show (nI ((u2 M 10 s 4294967295) 11 s)) = nI (M 11 s) from congrArg nI (by rw [u2_row (by decide)])) ?_
  exact x_reti hx hb hr9 hlk9 hS hP (by first | rfl | (show nI (M 11 s) = nI (M 11 s); first | rfl | omega)) dX6_drop_34
set_option maxHeartbeats 4000000 in
set_option maxRecDepth 100000 in
theorem r_drop_null {l : Launch} {g : gE} {ad : Nat → Nat} (hI : g_inj ad 14) (M : gMem) (J : gMeL) (s : Nat) (hs : s < 4) (h : M 10 s = 4294967295) : CI l g ad dsR 14 yX6_drop cX6_drop 2 (some .int) 2 [.ref (ad 0), .int (nI s)] M J (nI 4294967285) M J := by
  refine CI.of (plainFor_of_name (by decide)) (Nat.le_of_ble_eq_true rfl) (fun p9 e9 s9 m9 args9 below9 meth9 c9 CF hK hr9 hlk9 hP hS ls hl => ?_)
  have hx := CF.1
  have hb := CF.2.1
  have hA : ∀ q, g_A ad 14 q → g_A ad 14 q := fun _ h => h
  have hl : lv_has ls 2 [(0, .ref (ad 0)), (1, .int (nI s))] := hl
  refine lv_iload_n hx hb dX6_drop_0 rfl (lv_at hl 1 rfl) ?_
  refine x_callSP CF hK hP hS hl (As := [.int (nI s)]) (rest := []) (r_isSheet_t s (by omega)) kw_X6_isSheet wd4_94 rfl ⟨Nat.le_of_ble_eq_true rfl, Nat.le_of_ble_eq_true rfl⟩ ⟨Nat.le_refl _, Nat.le_refl _⟩ (Nat.le_of_ble_eq_true rfl) dX6_drop_1 (fun H locs hP hS => ?_)
  refine x_yne (u := (1 : Int)) (tgt := 9) hx hb (rfl) dX6_drop_4 (by decide) (fun h_1 => ?_) (fun h_1 => (by omega : False).elim)
  refine lv_aload_n hx hb dX6_drop_9 rfl (lv_at hl 0 rfl) ?_
  refine x_getr CF hK hP 0 (by decide) dR_0 rfl uX6 11 (by decide) (j := 10) rfl wd3_107 rfl dX6_drop_10 ?_
  refine lv_iload_n hx hb dX6_drop_13 rfl (lv_at hl 1 rfl) ?_
  refine x_iald CF hK hP 10 (by decide) dR_10 s (by omega) (by decide) dX6_drop_14 ?_
  refine x_ri (show (nI (M 10 s)) = nI 4294967295 from congrArg nI h) ?_
  refine x_yge (u := (-1 : Int)) (tgt := 21) hx hb (rfl) dX6_drop_15 (by decide) (fun h_2 => (by omega : False).elim) (fun h_2 => ?_)
  refine lv_bipush (v := nI 4294967285) hx hb dX6_drop_18 (by decide) ?_
  exact x_reti hx hb hr9 hlk9 hS hP (by first | rfl | (show nI 4294967285 = nI 4294967285; first | rfl | omega)) dX6_drop_20
set_option maxHeartbeats 4000000 in
set_option maxRecDepth 100000 in
theorem r_drop_bad {l : Launch} {g : gE} {ad : Nat → Nat} (hI : g_inj ad 14) (M : gMem) (J : gMeL) (s : Int32) (h : ¬ inR s 4) : CI l g ad dsR 14 yX6_drop cX6_drop 2 (some .int) 2 [.ref (ad 0), .int s] M J (nI 4294967295) M J := by
  refine CI.of (plainFor_of_name (by decide)) (Nat.le_of_ble_eq_true rfl) (fun p9 e9 s9 m9 args9 below9 meth9 c9 CF hK hr9 hlk9 hP hS ls hl => ?_)
  have hx := CF.1
  have hb := CF.2.1
  have hA : ∀ q, g_A ad 14 q → g_A ad 14 q := fun _ h => h
  have hl : lv_has ls 2 [(0, .ref (ad 0)), (1, .int s)] := hl
  refine lv_iload_n hx hb dX6_drop_0 rfl (lv_at hl 1 rfl) ?_
  rcases n_int (x := s) (n := 4) (by omega) with ⟨s1, h_s1, rfl⟩ | ho_s
  · refine x_callSP CF hK hP hS hl (As := [.int (nI s1)]) (rest := []) (r_isSheet_t s1 (by omega)) kw_X6_isSheet wd4_94 rfl ⟨Nat.le_of_ble_eq_true rfl, Nat.le_of_ble_eq_true rfl⟩ ⟨Nat.le_refl _, Nat.le_refl _⟩ (Nat.le_of_ble_eq_true rfl) dX6_drop_1 (fun H locs hP hS => ?_)
    refine x_yne (u := (1 : Int)) (tgt := 9) hx hb (rfl) dX6_drop_4 (by decide) (fun h_1 => ?_) (fun h_1 => (by omega : False).elim)
    exact absurd (inR_n h_s1 (by decide)) h
  · refine x_callSP CF hK hP hS hl (As := [.int s]) (rest := []) (r_isSheet_f s ho_s) kw_X6_isSheet wd4_94 rfl ⟨Nat.le_of_ble_eq_true rfl, Nat.le_of_ble_eq_true rfl⟩ ⟨Nat.le_refl _, Nat.le_refl _⟩ (Nat.le_of_ble_eq_true rfl) dX6_drop_1 (fun H locs hP hS => ?_)
    refine x_yne (u := (0 : Int)) (tgt := 9) hx hb (rfl) dX6_drop_4 (by decide) (fun h_2 => (by omega : False).elim) (fun h_2 => ?_)
    refine lv_iconst (v := nI 4294967295) hx hb dX6_drop_7 (by decide) ?_
    exact x_reti hx hb hr9 hlk9 hS hP (by first | rfl | (show nI 4294967295 = nI 4294967295; first | rfl | omega)) dX6_drop_8
set_option maxHeartbeats 4000000 in
set_option maxRecDepth 100000 in
theorem r_item_ok {l : Launch} {g : gE} {ad : Nat → Nat} (hI : g_inj ad 14) (M : gMem) (J : gMeL) (s ln : Nat) (hs : s < 4) (hln : ln ≤ 2) (i : Nat) (v : Int64) (hl9 : M 10 s = ln) (h : i + 1 ≤ M 11 s) (h2 : M 11 s ≤ 24) : CI l g ad dsR 14 yX6_item cX6_item 7 (some .int) 2 [.ref (ad 0), .int (nI s), .int (nI ln), .int (nI i), .long v] M J (nI 1) M (u2L J 12 (24 * s + i) (cutv ln v)) := by
  refine CI.of (plainFor_of_name (by decide)) (Nat.le_of_ble_eq_true rfl) (fun p9 e9 s9 m9 args9 below9 meth9 c9 CF hK hr9 hlk9 hP hS ls hl => ?_)
  have hx := CF.1
  have hb := CF.2.1
  have hA : ∀ q, g_A ad 14 q → g_A ad 14 q := fun _ h => h
  have hl : lv_has ls 7 [(0, .ref (ad 0)), (1, .int (nI s)), (2, .int (nI ln)), (3, .int (nI i)), (4, .long v)] := hl
  refine lv_iload_n hx hb dX6_item_0 rfl (lv_at hl 1 rfl) ?_
  refine x_callSP CF hK hP hS hl (As := [.int (nI s)]) (rest := []) (r_isSheet_t s (by omega)) kw_X6_isSheet wd4_94 rfl ⟨Nat.le_of_ble_eq_true rfl, Nat.le_of_ble_eq_true rfl⟩ ⟨Nat.le_refl _, Nat.le_refl _⟩ (Nat.le_of_ble_eq_true rfl) dX6_item_1 (fun H locs hP hS => ?_)
  refine x_yeq (u := (1 : Int)) (tgt := 19) hx hb (rfl) dX6_item_4 (by decide) (fun h_1 => (by omega : False).elim) (fun h_1 => ?_)
  refine lv_iload_n hx hb dX6_item_7 rfl (lv_at hl 2 rfl) ?_
  refine lv_i2l hx hb dX6_item_8 (nI_l (by omega)) ?_
  refine lv_lconst (v := (0 : Int64)) hx hb dX6_item_9 rfl ?_
  refine lv_ldc2 hx hb CF.2.2.2.1 (CF.2.2.2.2 _ (List.mem_cons_of_mem _ wd4_97)) dX6_item_10 ?_
  refine x_callSP CF hK hP hS hl (As := [.long (lN ln), .long (0 : Int64), .long (2 : Int64)]) (rest := []) (r_in_t _ _ _ (il_in (lo := 0) (hi := 2) (by omega) (by omega) (by omega))) kw_X6_in wd3_147 rfl ⟨Nat.le_of_ble_eq_true rfl, Nat.le_of_ble_eq_true rfl⟩ ⟨Nat.le_refl _, Nat.le_refl _⟩ (Nat.le_of_ble_eq_true rfl) dX6_item_13 (fun H locs hP hS => ?_)
  refine x_yne (u := (1 : Int)) (tgt := 21) hx hb (rfl) dX6_item_16 (by decide) (fun h_2 => ?_) (fun h_2 => (by omega : False).elim)
  refine lv_aload_n hx hb dX6_item_21 rfl (lv_at hl 0 rfl) ?_
  refine lv_iload_n hx hb dX6_item_22 rfl (lv_at hl 1 rfl) ?_
  refine lv_iload_n hx hb dX6_item_23 rfl (lv_at hl 2 rfl) ?_
  refine lv_iload_n hx hb dX6_item_24 rfl (lv_at hl 3 rfl) ?_
  refine lv_iconst (v := nI 1) hx hb dX6_item_25 (by decide) ?_
  refine x_callVI CF hK hP hS hA hl (As := [.int (nI s), .int (nI ln), .int (nI i), .int (nI 1)]) (rest := []) (r_bars_ok hI M J s ln (by omega) (nI i) (nI 1) (by omega) (by omega) (by rw [tz (by omega), tz (by omega)]; omega) h2) kw_X6_bars wd4_98 (by decide) dR_0 rfl rfl ⟨Nat.le_of_ble_eq_true rfl, Nat.le_of_ble_eq_true rfl⟩ ⟨Nat.le_refl _, Nat.le_refl _⟩ (Nat.le_of_ble_eq_true rfl) dX6_item_26 (fun H locs hP hS => ?_)
  refine lv_istore (lv' := [(6, .int (nI 0)), (0, .ref (ad 0)), (1, .int (nI s)), (2, .int (nI ln)), (3, .int (nI i)), (4, .long v)]) hx hb dX6_item_29 hl (by decide) rfl (fun ls hl => ?_)
  refine lv_iload hx hb dX6_item_31 (lv_at hl 0 rfl) ?_
  refine x_yeq (u := (0 : Int)) (tgt := 39) hx hb (rfl) dX6_item_33 (by decide) (fun h_3 => ?_) (fun h_3 => (by omega : False).elim)
  refine lv_aload_n hx hb dX6_item_39 rfl (lv_at hl 1 rfl) ?_
  refine x_getr CF hK hP 0 (by decide) dR_0 rfl uX6 13 (by decide) (j := 12) rfl wd3_109 rfl dX6_item_40 ?_
  refine lv_bipush (v := nI 24) hx hb dX6_item_43 (by decide) ?_
  refine lv_iload_n hx hb dX6_item_45 rfl (lv_at hl 2 rfl) ?_
  refine x_imul hx hb dX6_item_46 ?_
  refine lv_iload_n hx hb dX6_item_47 rfl (lv_at hl 4 rfl) ?_
  refine x_iadd hx hb dX6_item_48 ?_
  refine lv_iload_n hx hb dX6_item_49 rfl (lv_at hl 3 rfl) ?_
  refine lv_lload hx hb dX6_item_50 (lv_at hl 5 rfl) ?_
  refine x_callSPL CF hK hP hS hl (As := [.int (nI ln), .long v]) (rest := [.int (nI ((24 * s) + i)), .ref (ad 12)]) (r_cutTo ln (by omega) v) kw_X6_cutTo wd4_122 rfl ⟨Nat.le_of_ble_eq_true rfl, Nat.le_of_ble_eq_true rfl⟩ ⟨Nat.le_refl _, Nat.le_refl _⟩ (Nat.le_of_ble_eq_true rfl) dX6_item_52 (fun H locs hP hS => ?_)
  refine x_last CF hK hI hA hP hS 12 (by decide) dR_12 ((24 * s) + i) (by omega) (by decide) (cutv ln v) dX6_item_55 (fun H locs hP hS => ?_)
  refine lv_iconst (v := nI 1) hx hb dX6_item_56 (by decide) ?_
  exact x_reti hx hb hr9 hlk9 hS (by exact hP) (by first | rfl | (show nI 1 = nI 1; first | rfl | omega)) dX6_item_57
set_option maxHeartbeats 4000000 in
set_option maxRecDepth 100000 in
theorem r_item_null {l : Launch} {g : gE} {ad : Nat → Nat} (hI : g_inj ad 14) (M : gMem) (J : gMeL) (v : Int64) (s ln : Nat) (hs : s < 4) (hln : ln ≤ 2) (i : Int32) (h : M 10 s = 4294967295) : CI l g ad dsR 14 yX6_item cX6_item 7 (some .int) 2 [.ref (ad 0), .int (nI s), .int (nI ln), .int i, .long v] M J (nI 4294967285) M J := by
  refine CI.of (plainFor_of_name (by decide)) (Nat.le_of_ble_eq_true rfl) (fun p9 e9 s9 m9 args9 below9 meth9 c9 CF hK hr9 hlk9 hP hS ls hl => ?_)
  have hx := CF.1
  have hb := CF.2.1
  have hA : ∀ q, g_A ad 14 q → g_A ad 14 q := fun _ h => h
  have hl : lv_has ls 7 [(0, .ref (ad 0)), (1, .int (nI s)), (2, .int (nI ln)), (3, .int i), (4, .long v)] := hl
  refine lv_iload_n hx hb dX6_item_0 rfl (lv_at hl 1 rfl) ?_
  refine x_callSP CF hK hP hS hl (As := [.int (nI s)]) (rest := []) (r_isSheet_t s (by omega)) kw_X6_isSheet wd4_94 rfl ⟨Nat.le_of_ble_eq_true rfl, Nat.le_of_ble_eq_true rfl⟩ ⟨Nat.le_refl _, Nat.le_refl _⟩ (Nat.le_of_ble_eq_true rfl) dX6_item_1 (fun H locs hP hS => ?_)
  refine x_yeq (u := (1 : Int)) (tgt := 19) hx hb (rfl) dX6_item_4 (by decide) (fun h_1 => (by omega : False).elim) (fun h_1 => ?_)
  refine lv_iload_n hx hb dX6_item_7 rfl (lv_at hl 2 rfl) ?_
  refine lv_i2l hx hb dX6_item_8 (nI_l (by omega)) ?_
  refine lv_lconst (v := (0 : Int64)) hx hb dX6_item_9 rfl ?_
  refine lv_ldc2 hx hb CF.2.2.2.1 (CF.2.2.2.2 _ (List.mem_cons_of_mem _ wd4_97)) dX6_item_10 ?_
  refine x_callSP CF hK hP hS hl (As := [.long (lN ln), .long (0 : Int64), .long (2 : Int64)]) (rest := []) (r_in_t _ _ _ (il_in (lo := 0) (hi := 2) (by omega) (by omega) (by omega))) kw_X6_in wd3_147 rfl ⟨Nat.le_of_ble_eq_true rfl, Nat.le_of_ble_eq_true rfl⟩ ⟨Nat.le_refl _, Nat.le_refl _⟩ (Nat.le_of_ble_eq_true rfl) dX6_item_13 (fun H locs hP hS => ?_)
  refine x_yne (u := (1 : Int)) (tgt := 21) hx hb (rfl) dX6_item_16 (by decide) (fun h_2 => ?_) (fun h_2 => (by omega : False).elim)
  refine lv_aload_n hx hb dX6_item_21 rfl (lv_at hl 0 rfl) ?_
  refine lv_iload_n hx hb dX6_item_22 rfl (lv_at hl 1 rfl) ?_
  refine lv_iload_n hx hb dX6_item_23 rfl (lv_at hl 2 rfl) ?_
  refine lv_iload_n hx hb dX6_item_24 rfl (lv_at hl 3 rfl) ?_
  refine lv_iconst (v := nI 1) hx hb dX6_item_25 (by decide) ?_
  refine x_callVI CF hK hP hS hA hl (As := [.int (nI s), .int (nI ln), .int i, .int (nI 1)]) (rest := []) (r_bars_null hI M J s (by omega) (nI ln) i (nI 1) h) kw_X6_bars wd4_98 (by decide) dR_0 rfl rfl ⟨Nat.le_of_ble_eq_true rfl, Nat.le_of_ble_eq_true rfl⟩ ⟨Nat.le_refl _, Nat.le_refl _⟩ (Nat.le_of_ble_eq_true rfl) dX6_item_26 (fun H locs hP hS => ?_)
  refine lv_istore (lv' := [(6, .int (nI 4294967285)), (0, .ref (ad 0)), (1, .int (nI s)), (2, .int (nI ln)), (3, .int i), (4, .long v)]) hx hb dX6_item_29 hl (by decide) rfl (fun ls hl => ?_)
  refine lv_iload hx hb dX6_item_31 (lv_at hl 0 rfl) ?_
  refine x_yeq (u := (-11 : Int)) (tgt := 39) hx hb (rfl) dX6_item_33 (by decide) (fun h_3 => (by omega : False).elim) (fun h_3 => ?_)
  refine lv_iload hx hb dX6_item_36 (lv_at hl 0 rfl) ?_
  exact x_reti hx hb hr9 hlk9 hS hP (by first | rfl | (show nI 4294967285 = nI 4294967285; first | rfl | omega)) dX6_item_38
set_option maxHeartbeats 4000000 in
set_option maxRecDepth 100000 in
theorem r_item_cast {l : Launch} {g : gE} {ad : Nat → Nat} (hI : g_inj ad 14) (M : gMem) (J : gMeL) (v : Int64) (s ln : Nat) (hs : s < 4) (hln : ln ≤ 2) (i : Int32) (h : M 10 s ≤ 2) (h3 : ¬ M 10 s = ln) : CI l g ad dsR 14 yX6_item cX6_item 7 (some .int) 2 [.ref (ad 0), .int (nI s), .int (nI ln), .int i, .long v] M J (nI 4294967284) M J := by
  refine CI.of (plainFor_of_name (by decide)) (Nat.le_of_ble_eq_true rfl) (fun p9 e9 s9 m9 args9 below9 meth9 c9 CF hK hr9 hlk9 hP hS ls hl => ?_)
  have hx := CF.1
  have hb := CF.2.1
  have hA : ∀ q, g_A ad 14 q → g_A ad 14 q := fun _ h => h
  have hl : lv_has ls 7 [(0, .ref (ad 0)), (1, .int (nI s)), (2, .int (nI ln)), (3, .int i), (4, .long v)] := hl
  refine lv_iload_n hx hb dX6_item_0 rfl (lv_at hl 1 rfl) ?_
  refine x_callSP CF hK hP hS hl (As := [.int (nI s)]) (rest := []) (r_isSheet_t s (by omega)) kw_X6_isSheet wd4_94 rfl ⟨Nat.le_of_ble_eq_true rfl, Nat.le_of_ble_eq_true rfl⟩ ⟨Nat.le_refl _, Nat.le_refl _⟩ (Nat.le_of_ble_eq_true rfl) dX6_item_1 (fun H locs hP hS => ?_)
  refine x_yeq (u := (1 : Int)) (tgt := 19) hx hb (rfl) dX6_item_4 (by decide) (fun h_1 => (by omega : False).elim) (fun h_1 => ?_)
  refine lv_iload_n hx hb dX6_item_7 rfl (lv_at hl 2 rfl) ?_
  refine lv_i2l hx hb dX6_item_8 (nI_l (by omega)) ?_
  refine lv_lconst (v := (0 : Int64)) hx hb dX6_item_9 rfl ?_
  refine lv_ldc2 hx hb CF.2.2.2.1 (CF.2.2.2.2 _ (List.mem_cons_of_mem _ wd4_97)) dX6_item_10 ?_
  refine x_callSP CF hK hP hS hl (As := [.long (lN ln), .long (0 : Int64), .long (2 : Int64)]) (rest := []) (r_in_t _ _ _ (il_in (lo := 0) (hi := 2) (by omega) (by omega) (by omega))) kw_X6_in wd3_147 rfl ⟨Nat.le_of_ble_eq_true rfl, Nat.le_of_ble_eq_true rfl⟩ ⟨Nat.le_refl _, Nat.le_refl _⟩ (Nat.le_of_ble_eq_true rfl) dX6_item_13 (fun H locs hP hS => ?_)
  refine x_yne (u := (1 : Int)) (tgt := 21) hx hb (rfl) dX6_item_16 (by decide) (fun h_2 => ?_) (fun h_2 => (by omega : False).elim)
  refine lv_aload_n hx hb dX6_item_21 rfl (lv_at hl 0 rfl) ?_
  refine lv_iload_n hx hb dX6_item_22 rfl (lv_at hl 1 rfl) ?_
  refine lv_iload_n hx hb dX6_item_23 rfl (lv_at hl 2 rfl) ?_
  refine lv_iload_n hx hb dX6_item_24 rfl (lv_at hl 3 rfl) ?_
  refine lv_iconst (v := nI 1) hx hb dX6_item_25 (by decide) ?_
  refine x_callVI CF hK hP hS hA hl (As := [.int (nI s), .int (nI ln), .int i, .int (nI 1)]) (rest := []) (r_bars_cast hI M J s ln (by omega) (by omega) i (nI 1) h h3) kw_X6_bars wd4_98 (by decide) dR_0 rfl rfl ⟨Nat.le_of_ble_eq_true rfl, Nat.le_of_ble_eq_true rfl⟩ ⟨Nat.le_refl _, Nat.le_refl _⟩ (Nat.le_of_ble_eq_true rfl) dX6_item_26 (fun H locs hP hS => ?_)
  refine lv_istore (lv' := [(6, .int (nI 4294967284)), (0, .ref (ad 0)), (1, .int (nI s)), (2, .int (nI ln)), (3, .int i), (4, .long v)]) hx hb dX6_item_29 hl (by decide) rfl (fun ls hl => ?_)
  refine lv_iload hx hb dX6_item_31 (lv_at hl 0 rfl) ?_
  refine x_yeq (u := (-12 : Int)) (tgt := 39) hx hb (rfl) dX6_item_33 (by decide) (fun h_3 => (by omega : False).elim) (fun h_3 => ?_)
  refine lv_iload hx hb dX6_item_36 (lv_at hl 0 rfl) ?_
  exact x_reti hx hb hr9 hlk9 hS hP (by first | rfl | (show nI 4294967284 = nI 4294967284; first | rfl | omega)) dX6_item_38
set_option maxHeartbeats 4000000 in
set_option maxRecDepth 100000 in
theorem r_item_index {l : Launch} {g : gE} {ad : Nat → Nat} (hI : g_inj ad 14) (M : gMem) (J : gMeL) (v : Int64) (s ln : Nat) (hs : s < 4) (hln : ln ≤ 2) (i : Int32) (hl9 : M 10 s = ln) (h : ¬ (0 ≤ i.toInt ∧ i.toInt + 1 ≤ M 11 s)) (h2 : M 11 s ≤ 24) : CI l g ad dsR 14 yX6_item cX6_item 7 (some .int) 2 [.ref (ad 0), .int (nI s), .int (nI ln), .int i, .long v] M J (nI 4294967283) M J := by
  refine CI.of (plainFor_of_name (by decide)) (Nat.le_of_ble_eq_true rfl) (fun p9 e9 s9 m9 args9 below9 meth9 c9 CF hK hr9 hlk9 hP hS ls hl => ?_)
  have hx := CF.1
  have hb := CF.2.1
  have hA : ∀ q, g_A ad 14 q → g_A ad 14 q := fun _ h => h
  have hl : lv_has ls 7 [(0, .ref (ad 0)), (1, .int (nI s)), (2, .int (nI ln)), (3, .int i), (4, .long v)] := hl
  refine lv_iload_n hx hb dX6_item_0 rfl (lv_at hl 1 rfl) ?_
  refine x_callSP CF hK hP hS hl (As := [.int (nI s)]) (rest := []) (r_isSheet_t s (by omega)) kw_X6_isSheet wd4_94 rfl ⟨Nat.le_of_ble_eq_true rfl, Nat.le_of_ble_eq_true rfl⟩ ⟨Nat.le_refl _, Nat.le_refl _⟩ (Nat.le_of_ble_eq_true rfl) dX6_item_1 (fun H locs hP hS => ?_)
  refine x_yeq (u := (1 : Int)) (tgt := 19) hx hb (rfl) dX6_item_4 (by decide) (fun h_1 => (by omega : False).elim) (fun h_1 => ?_)
  refine lv_iload_n hx hb dX6_item_7 rfl (lv_at hl 2 rfl) ?_
  refine lv_i2l hx hb dX6_item_8 (nI_l (by omega)) ?_
  refine lv_lconst (v := (0 : Int64)) hx hb dX6_item_9 rfl ?_
  refine lv_ldc2 hx hb CF.2.2.2.1 (CF.2.2.2.2 _ (List.mem_cons_of_mem _ wd4_97)) dX6_item_10 ?_
  refine x_callSP CF hK hP hS hl (As := [.long (lN ln), .long (0 : Int64), .long (2 : Int64)]) (rest := []) (r_in_t _ _ _ (il_in (lo := 0) (hi := 2) (by omega) (by omega) (by omega))) kw_X6_in wd3_147 rfl ⟨Nat.le_of_ble_eq_true rfl, Nat.le_of_ble_eq_true rfl⟩ ⟨Nat.le_refl _, Nat.le_refl _⟩ (Nat.le_of_ble_eq_true rfl) dX6_item_13 (fun H locs hP hS => ?_)
  refine x_yne (u := (1 : Int)) (tgt := 21) hx hb (rfl) dX6_item_16 (by decide) (fun h_2 => ?_) (fun h_2 => (by omega : False).elim)
  refine lv_aload_n hx hb dX6_item_21 rfl (lv_at hl 0 rfl) ?_
  refine lv_iload_n hx hb dX6_item_22 rfl (lv_at hl 1 rfl) ?_
  refine lv_iload_n hx hb dX6_item_23 rfl (lv_at hl 2 rfl) ?_
  refine lv_iload_n hx hb dX6_item_24 rfl (lv_at hl 3 rfl) ?_
  refine lv_iconst (v := nI 1) hx hb dX6_item_25 (by decide) ?_
  refine x_callVI CF hK hP hS hA hl (As := [.int (nI s), .int (nI ln), .int i, .int (nI 1)]) (rest := []) (r_bars_index hI M J s ln (by omega) i (nI 1) (by omega) (by omega) (by rw [tz (by omega)]; omega) h2) kw_X6_bars wd4_98 (by decide) dR_0 rfl rfl ⟨Nat.le_of_ble_eq_true rfl, Nat.le_of_ble_eq_true rfl⟩ ⟨Nat.le_refl _, Nat.le_refl _⟩ (Nat.le_of_ble_eq_true rfl) dX6_item_26 (fun H locs hP hS => ?_)
  refine lv_istore (lv' := [(6, .int (nI 4294967283)), (0, .ref (ad 0)), (1, .int (nI s)), (2, .int (nI ln)), (3, .int i), (4, .long v)]) hx hb dX6_item_29 hl (by decide) rfl (fun ls hl => ?_)
  refine lv_iload hx hb dX6_item_31 (lv_at hl 0 rfl) ?_
  refine x_yeq (u := (-13 : Int)) (tgt := 39) hx hb (rfl) dX6_item_33 (by decide) (fun h_3 => (by omega : False).elim) (fun h_3 => ?_)
  refine lv_iload hx hb dX6_item_36 (lv_at hl 0 rfl) ?_
  exact x_reti hx hb hr9 hlk9 hS hP (by first | rfl | (show nI 4294967283 = nI 4294967283; first | rfl | omega)) dX6_item_38
set_option maxHeartbeats 4000000 in
set_option maxRecDepth 100000 in
theorem r_item_bad {l : Launch} {g : gE} {ad : Nat → Nat} (hI : g_inj ad 14) (M : gMem) (J : gMeL) (s ln i : Int32) (v : Int64) (h : ¬ (inR s 4 ∧ inR ln 3)) : CI l g ad dsR 14 yX6_item cX6_item 7 (some .int) 2 [.ref (ad 0), .int s, .int ln, .int i, .long v] M J (nI 4294967295) M J := by
  refine CI.of (plainFor_of_name (by decide)) (Nat.le_of_ble_eq_true rfl) (fun p9 e9 s9 m9 args9 below9 meth9 c9 CF hK hr9 hlk9 hP hS ls hl => ?_)
  have hx := CF.1
  have hb := CF.2.1
  have hA : ∀ q, g_A ad 14 q → g_A ad 14 q := fun _ h => h
  have hl : lv_has ls 7 [(0, .ref (ad 0)), (1, .int s), (2, .int ln), (3, .int i), (4, .long v)] := hl
  refine lv_iload_n hx hb dX6_item_0 rfl (lv_at hl 1 rfl) ?_
  rcases n_int (x := s) (n := 4) (by omega) with ⟨s1, h_s1, rfl⟩ | ho_s
  · refine x_callSP CF hK hP hS hl (As := [.int (nI s1)]) (rest := []) (r_isSheet_t s1 (by omega)) kw_X6_isSheet wd4_94 rfl ⟨Nat.le_of_ble_eq_true rfl, Nat.le_of_ble_eq_true rfl⟩ ⟨Nat.le_refl _, Nat.le_refl _⟩ (Nat.le_of_ble_eq_true rfl) dX6_item_1 (fun H locs hP hS => ?_)
    refine x_yeq (u := (1 : Int)) (tgt := 19) hx hb (rfl) dX6_item_4 (by decide) (fun h_1 => (by omega : False).elim) (fun h_1 => ?_)
    refine lv_iload_n hx hb dX6_item_7 rfl (lv_at hl 2 rfl) ?_
    rcases n_int (x := ln) (n := 3) (by omega) with ⟨l1, h_l1, rfl⟩ | ho_ln
    · refine lv_i2l hx hb dX6_item_8 (nI_l (by omega)) ?_
      refine lv_lconst (v := (0 : Int64)) hx hb dX6_item_9 rfl ?_
      refine lv_ldc2 hx hb CF.2.2.2.1 (CF.2.2.2.2 _ (List.mem_cons_of_mem _ wd4_97)) dX6_item_10 ?_
      refine x_callSP CF hK hP hS hl (As := [.long (lN l1), .long (0 : Int64), .long (2 : Int64)]) (rest := []) (r_in_t _ _ _ (il_in (lo := 0) (hi := 2) (by omega) (by omega) (by omega))) kw_X6_in wd3_147 rfl ⟨Nat.le_of_ble_eq_true rfl, Nat.le_of_ble_eq_true rfl⟩ ⟨Nat.le_refl _, Nat.le_refl _⟩ (Nat.le_of_ble_eq_true rfl) dX6_item_13 (fun H locs hP hS => ?_)
      refine x_yne (u := (1 : Int)) (tgt := 21) hx hb (rfl) dX6_item_16 (by decide) (fun h_2 => ?_) (fun h_2 => (by omega : False).elim)
      exact absurd ⟨inR_n h_s1 (by decide), inR_n h_l1 (by decide)⟩ h
    · refine lv_i2l hx hb dX6_item_8 rfl ?_
      refine lv_lconst (v := (0 : Int64)) hx hb dX6_item_9 rfl ?_
      refine lv_ldc2 hx hb CF.2.2.2.1 (CF.2.2.2.2 _ (List.mem_cons_of_mem _ wd4_97)) dX6_item_10 ?_
      refine x_callSP CF hK hP hS hl (As := [.long ln.toInt64, .long (0 : Int64), .long (2 : Int64)]) (rest := []) (r_in_f _ _ _ (il_out (lo := 0) (hi := 2) (by omega) (by omega) (by omega))) kw_X6_in wd3_147 rfl ⟨Nat.le_of_ble_eq_true rfl, Nat.le_of_ble_eq_true rfl⟩ ⟨Nat.le_refl _, Nat.le_refl _⟩ (Nat.le_of_ble_eq_true rfl) dX6_item_13 (fun H locs hP hS => ?_)
      refine x_yne (u := (0 : Int)) (tgt := 21) hx hb (rfl) dX6_item_16 (by decide) (fun h_3 => (by omega : False).elim) (fun h_3 => ?_)
      refine lv_iconst (v := nI 4294967295) hx hb dX6_item_19 (by decide) ?_
      exact x_reti hx hb hr9 hlk9 hS hP (by first | rfl | (show nI 4294967295 = nI 4294967295; first | rfl | omega)) dX6_item_20
  · refine x_callSP CF hK hP hS hl (As := [.int s]) (rest := []) (r_isSheet_f s ho_s) kw_X6_isSheet wd4_94 rfl ⟨Nat.le_of_ble_eq_true rfl, Nat.le_of_ble_eq_true rfl⟩ ⟨Nat.le_refl _, Nat.le_refl _⟩ (Nat.le_of_ble_eq_true rfl) dX6_item_1 (fun H locs hP hS => ?_)
    refine x_yeq (u := (0 : Int)) (tgt := 19) hx hb (rfl) dX6_item_4 (by decide) (fun h_4 => ?_) (fun h_4 => (by omega : False).elim)
    refine lv_iconst (v := nI 4294967295) hx hb dX6_item_19 (by decide) ?_
    exact x_reti hx hb hr9 hlk9 hS hP (by first | rfl | (show nI 4294967295 = nI 4294967295; first | rfl | omega)) dX6_item_20
set_option maxHeartbeats 4000000 in
set_option maxRecDepth 100000 in
theorem r_copy_ok {l : Launch} {g : gE} {ad : Nat → Nat} (hI : g_inj ad 14) (M : gMem) (J : gMeL) (s b : Nat) (hs : s < 4) (hb4 : b < 4) (i j n : Nat) (hl1 : M 10 s ≤ 2) (hl2 : M 10 b = M 10 s) (h : i + n ≤ M 11 s) (h2 : j + n ≤ M 11 b) (h3 : M 11 s ≤ 24) (h4 : M 11 b ≤ 24) : CI l g ad dsR 14 yX6_copy cX6_copy 8 (some .int) 2 [.ref (ad 0), .int (nI s), .int (nI i), .int (nI b), .int (nI j), .int (nI n)] M J (nI n) M (cpR J s i b j n) := by
  refine CI.of (plainFor_of_name (by decide)) (Nat.le_of_ble_eq_true rfl) (fun p9 e9 s9 m9 args9 below9 meth9 c9 CF hK hr9 hlk9 hP hS ls hl => ?_)
  have hx := CF.1
  have hb := CF.2.1
  have hA : ∀ q, g_A ad 14 q → g_A ad 14 q := fun _ h => h
  have hl : lv_has ls 8 [(0, .ref (ad 0)), (1, .int (nI s)), (2, .int (nI i)), (3, .int (nI b)), (4, .int (nI j)), (5, .int (nI n))] := hl
  refine lv_iload_n hx hb dX6_copy_0 rfl (lv_at hl 1 rfl) ?_
  refine x_callSP CF hK hP hS hl (As := [.int (nI s)]) (rest := []) (r_isSheet_t s (by omega)) kw_X6_isSheet wd4_94 rfl ⟨Nat.le_of_ble_eq_true rfl, Nat.le_of_ble_eq_true rfl⟩ ⟨Nat.le_refl _, Nat.le_refl _⟩ (Nat.le_of_ble_eq_true rfl) dX6_copy_1 (fun H locs hP hS => ?_)
  refine x_yeq (u := (1 : Int)) (tgt := 14) hx hb (rfl) dX6_copy_4 (by decide) (fun h_1 => (by omega : False).elim) (fun h_1 => ?_)
  refine lv_iload_n hx hb dX6_copy_7 rfl (lv_at hl 3 rfl) ?_
  refine x_callSP CF hK hP hS hl (As := [.int (nI b)]) (rest := []) (r_isSheet_t b (by omega)) kw_X6_isSheet wd4_94 rfl ⟨Nat.le_of_ble_eq_true rfl, Nat.le_of_ble_eq_true rfl⟩ ⟨Nat.le_refl _, Nat.le_refl _⟩ (Nat.le_of_ble_eq_true rfl) dX6_copy_8 (fun H locs hP hS => ?_)
  refine x_yne (u := (1 : Int)) (tgt := 16) hx hb (rfl) dX6_copy_11 (by decide) (fun h_2 => ?_) (fun h_2 => (by omega : False).elim)
  refine lv_aload_n hx hb dX6_copy_16 rfl (lv_at hl 0 rfl) ?_
  refine x_getr CF hK hP 0 (by decide) dR_0 rfl uX6 11 (by decide) (j := 10) rfl wd3_107 rfl dX6_copy_17 ?_
  refine lv_iload_n hx hb dX6_copy_20 rfl (lv_at hl 1 rfl) ?_
  refine x_iald CF hK hP 10 (by decide) dR_10 s (by omega) (by decide) dX6_copy_21 ?_
  refine x_ylt (u := (M 10 s : Nat)) (tgt := 34) hx hb (nI_toInt (by omega)) dX6_copy_22 (by decide) (fun h_3 => (by omega : False).elim) (fun h_3 => ?_)
  refine lv_aload_n hx hb dX6_copy_25 rfl (lv_at hl 0 rfl) ?_
  refine x_getr CF hK hP 0 (by decide) dR_0 rfl uX6 11 (by decide) (j := 10) rfl wd3_107 rfl dX6_copy_26 ?_
  refine lv_iload_n hx hb dX6_copy_29 rfl (lv_at hl 3 rfl) ?_
  refine x_iald CF hK hP 10 (by decide) dR_10 b (by omega) (by decide) dX6_copy_30 ?_
  refine x_yge (u := (M 10 b : Nat)) (tgt := 37) hx hb (nI_toInt (by omega)) dX6_copy_31 (by decide) (fun h_4 => ?_) (fun h_4 => (by omega : False).elim)
  refine lv_aload_n hx hb dX6_copy_37 rfl (lv_at hl 0 rfl) ?_
  refine lv_iload_n hx hb dX6_copy_38 rfl (lv_at hl 1 rfl) ?_
  refine lv_aload_n hx hb dX6_copy_39 rfl (lv_at hl 0 rfl) ?_
  refine x_getr CF hK hP 0 (by decide) dR_0 rfl uX6 11 (by decide) (j := 10) rfl wd3_107 rfl dX6_copy_40 ?_
  refine lv_iload_n hx hb dX6_copy_43 rfl (lv_at hl 3 rfl) ?_
  refine x_iald CF hK hP 10 (by decide) dR_10 b (by omega) (by decide) dX6_copy_44 ?_
  refine lv_iload_n hx hb dX6_copy_45 rfl (lv_at hl 2 rfl) ?_
  refine lv_iload hx hb dX6_copy_46 (lv_at hl 5 rfl) ?_
  refine x_callVI CF hK hP hS hA hl (As := [.int (nI s), .int (nI (M 10 b)), .int (nI i), .int (nI n)]) (rest := []) (r_bars_ok hI M J s (M 10 b) (by omega) (nI i) (nI n) (by omega) hl2.symm (by rw [tz (by omega), tz (by omega)]; omega) h3) kw_X6_bars wd4_98 (by decide) dR_0 rfl rfl ⟨Nat.le_of_ble_eq_true rfl, Nat.le_of_ble_eq_true rfl⟩ ⟨Nat.le_refl _, Nat.le_refl _⟩ (Nat.le_of_ble_eq_true rfl) dX6_copy_48 (fun H locs hP hS => ?_)
  refine lv_istore (lv' := [(6, .int (nI 0)), (0, .ref (ad 0)), (1, .int (nI s)), (2, .int (nI i)), (3, .int (nI b)), (4, .int (nI j)), (5, .int (nI n))]) hx hb dX6_copy_51 hl (by decide) rfl (fun ls hl => ?_)
  refine lv_iload hx hb dX6_copy_53 (lv_at hl 0 rfl) ?_
  refine x_yne (u := (0 : Int)) (tgt := 76) hx hb (rfl) dX6_copy_55 (by decide) (fun h_5 => (by omega : False).elim) (fun h_5 => ?_)
  refine lv_aload_n hx hb dX6_copy_58 rfl (lv_at hl 1 rfl) ?_
  refine lv_iload_n hx hb dX6_copy_59 rfl (lv_at hl 4 rfl) ?_
  refine lv_aload_n hx hb dX6_copy_60 rfl (lv_at hl 1 rfl) ?_
  refine x_getr CF hK hP 0 (by decide) dR_0 rfl uX6 11 (by decide) (j := 10) rfl wd3_107 rfl dX6_copy_61 ?_
  refine lv_iload_n hx hb dX6_copy_64 rfl (lv_at hl 2 rfl) ?_
  refine x_iald CF hK hP 10 (by decide) dR_10 s (by omega) (by decide) dX6_copy_65 ?_
  refine lv_iload hx hb dX6_copy_66 (lv_at hl 5 rfl) ?_
  refine lv_iload hx hb dX6_copy_68 (lv_at hl 6 rfl) ?_
  refine x_callVI CF hK hP hS hA hl (As := [.int (nI b), .int (nI (M 10 s)), .int (nI j), .int (nI n)]) (rest := []) (r_bars_ok hI M J b (M 10 s) (by omega) (nI j) (nI n) (by omega) hl2 (by rw [tz (by omega), tz (by omega)]; omega) h4) kw_X6_bars wd4_98 (by decide) dR_0 rfl rfl ⟨Nat.le_of_ble_eq_true rfl, Nat.le_of_ble_eq_true rfl⟩ ⟨Nat.le_refl _, Nat.le_refl _⟩ (Nat.le_of_ble_eq_true rfl) dX6_copy_70 (fun H locs hP hS => ?_)
  refine lv_goto (tgt := 78) hx hb dX6_copy_73 (by decide) ?_
  refine lv_istore (lv' := [(6, .int (nI 0)), (0, .ref (ad 0)), (1, .int (nI s)), (2, .int (nI i)), (3, .int (nI b)), (4, .int (nI j)), (5, .int (nI n))]) hx hb dX6_copy_78 hl (by decide) rfl (fun ls hl => ?_)
  refine lv_iload hx hb dX6_copy_80 (lv_at hl 0 rfl) ?_
  refine x_yeq (u := (0 : Int)) (tgt := 88) hx hb (rfl) dX6_copy_82 (by decide) (fun h_6 => ?_) (fun h_6 => (by omega : False).elim)
  refine lv_iconst (v := nI 0) hx hb dX6_copy_88 (by decide) ?_
  refine lv_istore (lv' := [(7, .int (nI 0)), (6, .int (nI 0)), (0, .ref (ad 0)), (1, .int (nI s)), (2, .int (nI i)), (3, .int (nI b)), (4, .int (nI j)), (5, .int (nI n))]) hx hb dX6_copy_89 hl (by decide) rfl (fun ls hl => ?_)
  have L91 : ∀ (d91 : Nat) (q : Nat), (q + d91 = n) → (∀ (H : Heap) (locs : List Loc) (ls : Array Slot), g_P g ad dsR 14 M (rowLO J 13 0 q (fun x => J 12 (24 * s + i + x))) H → va_S (g_A ad 14) s9.heap H locs → lv_has ls 8 [(7, .int (nI q)), (6, .int (nI 0)), (0, .ref (ad 0)), (1, .int (nI s)), (2, .int (nI i)), (3, .int (nI b)), (4, .int (nI j)), (5, .int (nI n))] → W p9 l e9 (g_rm 2) s9 m9 args9 below9 meth9 c9 H locs 0 0 (MQ below9 (va_Qi (fun r' (_ : Unit) => r' = (nI n)) (fun _ t => g_P g ad dsR 14 M (cpR J s i b j n) t.heap) (g_A ad 14)) args9 s9 0 0 (g_A ad 14)) (F0 m9 91 ls [])) := by
    intro d91
    induction d91 with
    | zero =>
      intro q h_q H locs ls hP hS hl
      refine lv_iload hx hb dX6_copy_91 (lv_at hl 0 rfl) ?_
      refine lv_iload hx hb dX6_copy_93 (lv_at hl 7 rfl) ?_
      refine x_zge (u := (q : Nat)) (v := (n : Nat)) (tgt := 125) hx hb (nI_toInt (by omega)) (nI_toInt (by omega)) dX6_copy_95 (by decide) (fun h_7 => ?_) (fun h_7 => (by omega : False).elim)
      refine lv_iconst (v := nI 0) hx hb dX6_copy_125 (by decide) ?_
      refine lv_istore (lv' := [(7, .int (nI 0)), (6, .int (nI 0)), (0, .ref (ad 0)), (1, .int (nI s)), (2, .int (nI i)), (3, .int (nI b)), (4, .int (nI j)), (5, .int (nI n))]) hx hb dX6_copy_126 hl (by decide) rfl (fun ls hl => ?_)
      have L128 : ∀ (d128 : Nat) (z : Nat), (z + d128 = n) → (∀ (H : Heap) (locs : List Loc) (ls : Array Slot), g_P g ad dsR 14 M (rowLO (rowLO J 13 0 n (fun x => J 12 (24 * s + i + x))) 12 (24 * b + j) z (fun x => J 12 (24 * s + i + x))) H → va_S (g_A ad 14) s9.heap H locs → lv_has ls 8 [(7, .int (nI z)), (6, .int (nI 0)), (0, .ref (ad 0)), (1, .int (nI s)), (2, .int (nI i)), (3, .int (nI b)), (4, .int (nI j)), (5, .int (nI n))] → W p9 l e9 (g_rm 2) s9 m9 args9 below9 meth9 c9 H locs 0 0 (MQ below9 (va_Qi (fun r' (_ : Unit) => r' = (nI n)) (fun _ t => g_P g ad dsR 14 M (cpR J s i b j n) t.heap) (g_A ad 14)) args9 s9 0 0 (g_A ad 14)) (F0 m9 128 ls [])) := by
        intro d128
        induction d128 with
        | zero =>
          intro z h_z H locs ls hP hS hl
          refine lv_iload hx hb dX6_copy_128 (lv_at hl 0 rfl) ?_
          refine lv_iload hx hb dX6_copy_130 (lv_at hl 7 rfl) ?_
          refine x_zge (u := (z : Nat)) (v := (n : Nat)) (tgt := 163) hx hb (nI_toInt (by omega)) (nI_toInt (by omega)) dX6_copy_132 (by decide) (fun h_8 => ?_) (fun h_8 => (by omega : False).elim)
          refine lv_iload hx hb dX6_copy_163 (lv_at hl 7 rfl) ?_
          exact x_reti hx hb hr9 hlk9 hS (by rw [show z = n by omega] at hP; exact hP) (by first | rfl | (show nI n = nI n; first | rfl | omega)) dX6_copy_165
        | succ d128 ih128 =>
          intro z h_z H locs ls hP hS hl
          refine lv_iload hx hb dX6_copy_128 (lv_at hl 0 rfl) ?_
          refine lv_iload hx hb dX6_copy_130 (lv_at hl 7 rfl) ?_
          refine x_zge (u := (z : Nat)) (v := (n : Nat)) (tgt := 163) hx hb (nI_toInt (by omega)) (nI_toInt (by omega)) dX6_copy_132 (by decide) (fun h_9 => (by omega : False).elim) (fun h_9 => ?_)
          refine lv_aload_n hx hb dX6_copy_135 rfl (lv_at hl 2 rfl) ?_
          refine x_getr CF hK hP 0 (by decide) dR_0 rfl uX6 13 (by decide) (j := 12) rfl wd3_109 rfl dX6_copy_136 ?_
          refine lv_bipush (v := nI 24) hx hb dX6_copy_139 (by decide) ?_
          refine lv_iload_n hx hb dX6_copy_141 rfl (lv_at hl 5 rfl) ?_
          refine x_imul hx hb dX6_copy_142 ?_
          refine lv_iload hx hb dX6_copy_143 (lv_at hl 6 rfl) ?_
          refine x_iadd hx hb dX6_copy_145 ?_
          refine lv_iload hx hb dX6_copy_146 (lv_at hl 0 rfl) ?_
          refine x_iadd hx hb dX6_copy_148 ?_
          refine lv_aload_n hx hb dX6_copy_149 rfl (lv_at hl 2 rfl) ?_
          refine x_getr CF hK hP 0 (by decide) dR_0 rfl uX6 14 (by decide) (j := 13) rfl wd3_110 rfl dX6_copy_150 ?_
          refine lv_iload hx hb dX6_copy_153 (lv_at hl 0 rfl) ?_
          refine x_lald CF hK hP 13 (by decide) dR_13 z (by omega) (by decide) dX6_copy_155 ?_
          refine x_rl (show ((rowLO (rowLO J 13 0 n (fun x => J 12 (24 * s + i + x))) 12 (24 * b + j) z (fun x => J 12 (24 * s + i + x))) 13 z) = J 12 (24 * s + i + z) from by rw [rowLO_out (by decide), rowLO_in0 (by omega)]) ?_
          refine x_last CF hK hI hA hP hS 12 (by decide) dR_12 (((24 * b) + j) + z) (by omega) (by decide) (J 12 (24 * s + i + z)) dX6_copy_156 (fun H locs hP hS => ?_)
          refine lv_iinc (v := nI (z + 1)) (lv' := [(7, .int (nI (z + 1))), (6, .int (nI 0)), (0, .ref (ad 0)), (1, .int (nI s)), (2, .int (nI i)), (3, .int (nI b)), (4, .int (nI j)), (5, .int (nI n))]) hx hb dX6_copy_157 hl (k := 0) rfl (n_inc z 1) (by decide) rfl (fun ls hl => ?_)
          refine lv_goto (tgt := 128) hx hb dX6_copy_160 (by decide) ?_
          have hl0 : lv_has ls 8 [(7, .int (nI (z + 1))), (6, .int (nI 0)), (0, .ref (ad 0)), (1, .int (nI s)), (2, .int (nI i)), (3, .int (nI b)), (4, .int (nI j)), (5, .int (nI n))] := lv_sub hl [0, 1, 2, 3, 4, 5, 6, 7] rfl
          exact ih128 (z + 1) (by omega) _ _ _ (by rw [rowLO_s rfl (h := rfl)] at hP; exact hP) hS hl0
      have hl0 : lv_has ls 8 [(7, .int (nI 0)), (6, .int (nI 0)), (0, .ref (ad 0)), (1, .int (nI s)), (2, .int (nI i)), (3, .int (nI b)), (4, .int (nI j)), (5, .int (nI n))] := lv_sub hl [0, 1, 2, 3, 4, 5, 6, 7] rfl
      exact L128 n 0 (by omega) _ _ _ (by rw [rowLO_0]; rw [show q = n by omega] at hP; exact hP) hS hl0
    | succ d91 ih91 =>
      intro q h_q H locs ls hP hS hl
      refine lv_iload hx hb dX6_copy_91 (lv_at hl 0 rfl) ?_
      refine lv_iload hx hb dX6_copy_93 (lv_at hl 7 rfl) ?_
      refine x_zge (u := (q : Nat)) (v := (n : Nat)) (tgt := 125) hx hb (nI_toInt (by omega)) (nI_toInt (by omega)) dX6_copy_95 (by decide) (fun h_10 => (by omega : False).elim) (fun h_10 => ?_)
      refine lv_aload_n hx hb dX6_copy_98 rfl (lv_at hl 2 rfl) ?_
      refine x_getr CF hK hP 0 (by decide) dR_0 rfl uX6 14 (by decide) (j := 13) rfl wd3_110 rfl dX6_copy_99 ?_
      refine lv_iload hx hb dX6_copy_102 (lv_at hl 0 rfl) ?_
      refine lv_aload_n hx hb dX6_copy_104 rfl (lv_at hl 2 rfl) ?_
      refine x_getr CF hK hP 0 (by decide) dR_0 rfl uX6 13 (by decide) (j := 12) rfl wd3_109 rfl dX6_copy_105 ?_
      refine lv_bipush (v := nI 24) hx hb dX6_copy_108 (by decide) ?_
      refine lv_iload_n hx hb dX6_copy_110 rfl (lv_at hl 3 rfl) ?_
      refine x_imul hx hb dX6_copy_111 ?_
      refine lv_iload_n hx hb dX6_copy_112 rfl (lv_at hl 4 rfl) ?_
      refine x_iadd hx hb dX6_copy_113 ?_
      refine lv_iload hx hb dX6_copy_114 (lv_at hl 0 rfl) ?_
      refine x_iadd hx hb dX6_copy_116 ?_
      refine x_lald CF hK hP 12 (by decide) dR_12 (((24 * s) + i) + q) (by omega) (by decide) dX6_copy_117 ?_
      refine x_rl (show ((rowLO J 13 0 q (fun x => J 12 (24 * s + i + x))) 12 (((24 * s) + i) + q)) = J 12 (24 * s + i + q) from by rw [rowLO_out (by decide)]) ?_
      refine x_last CF hK hI hA hP hS 13 (by decide) dR_13 q (by omega) (by decide) (J 12 (24 * s + i + q)) dX6_copy_118 (fun H locs hP hS => ?_)
      refine lv_iinc (v := nI (q + 1)) (lv' := [(7, .int (nI (q + 1))), (6, .int (nI 0)), (0, .ref (ad 0)), (1, .int (nI s)), (2, .int (nI i)), (3, .int (nI b)), (4, .int (nI j)), (5, .int (nI n))]) hx hb dX6_copy_119 hl (k := 0) rfl (n_inc q 1) (by decide) rfl (fun ls hl => ?_)
      refine lv_goto (tgt := 91) hx hb dX6_copy_122 (by decide) ?_
      have hl0 : lv_has ls 8 [(7, .int (nI (q + 1))), (6, .int (nI 0)), (0, .ref (ad 0)), (1, .int (nI s)), (2, .int (nI i)), (3, .int (nI b)), (4, .int (nI j)), (5, .int (nI n))] := lv_sub hl [0, 1, 2, 3, 4, 5, 6, 7] rfl
      exact ih91 (q + 1) (by omega) _ _ _ (by rw [rowLO_s (by omega) (h := rfl)] at hP; exact hP) hS hl0
  have hl0 : lv_has ls 8 [(7, .int (nI 0)), (6, .int (nI 0)), (0, .ref (ad 0)), (1, .int (nI s)), (2, .int (nI i)), (3, .int (nI b)), (4, .int (nI j)), (5, .int (nI n))] := lv_sub hl [0, 1, 2, 3, 4, 5, 6, 7] rfl
  exact L91 n 0 (by omega) _ _ _ (by rw [rowLO_0]; exact hP) hS hl0
set_option maxHeartbeats 4000000 in
set_option maxRecDepth 100000 in
theorem r_copy_bad {l : Launch} {g : gE} {ad : Nat → Nat} (hI : g_inj ad 14) (M : gMem) (J : gMeL) (s i t j n : Int32) (h : ¬ (inR s 4 ∧ inR t 4)) : CI l g ad dsR 14 yX6_copy cX6_copy 8 (some .int) 2 [.ref (ad 0), .int s, .int i, .int t, .int j, .int n] M J (nI 4294967295) M J := by
  refine CI.of (plainFor_of_name (by decide)) (Nat.le_of_ble_eq_true rfl) (fun p9 e9 s9 m9 args9 below9 meth9 c9 CF hK hr9 hlk9 hP hS ls hl => ?_)
  have hx := CF.1
  have hb := CF.2.1
  have hA : ∀ q, g_A ad 14 q → g_A ad 14 q := fun _ h => h
  have hl : lv_has ls 8 [(0, .ref (ad 0)), (1, .int s), (2, .int i), (3, .int t), (4, .int j), (5, .int n)] := hl
  refine lv_iload_n hx hb dX6_copy_0 rfl (lv_at hl 1 rfl) ?_
  rcases n_int (x := s) (n := 4) (by omega) with ⟨s1, h_s1, rfl⟩ | ho_s
  · refine x_callSP CF hK hP hS hl (As := [.int (nI s1)]) (rest := []) (r_isSheet_t s1 (by omega)) kw_X6_isSheet wd4_94 rfl ⟨Nat.le_of_ble_eq_true rfl, Nat.le_of_ble_eq_true rfl⟩ ⟨Nat.le_refl _, Nat.le_refl _⟩ (Nat.le_of_ble_eq_true rfl) dX6_copy_1 (fun H locs hP hS => ?_)
    refine x_yeq (u := (1 : Int)) (tgt := 14) hx hb (rfl) dX6_copy_4 (by decide) (fun h_1 => (by omega : False).elim) (fun h_1 => ?_)
    refine lv_iload_n hx hb dX6_copy_7 rfl (lv_at hl 3 rfl) ?_
    rcases n_int (x := t) (n := 4) (by omega) with ⟨t1, h_t1, rfl⟩ | ho_t
    · refine x_callSP CF hK hP hS hl (As := [.int (nI t1)]) (rest := []) (r_isSheet_t t1 (by omega)) kw_X6_isSheet wd4_94 rfl ⟨Nat.le_of_ble_eq_true rfl, Nat.le_of_ble_eq_true rfl⟩ ⟨Nat.le_refl _, Nat.le_refl _⟩ (Nat.le_of_ble_eq_true rfl) dX6_copy_8 (fun H locs hP hS => ?_)
      refine x_yne (u := (1 : Int)) (tgt := 16) hx hb (rfl) dX6_copy_11 (by decide) (fun h_2 => ?_) (fun h_2 => (by omega : False).elim)
      exact absurd ⟨inR_n h_s1 (by decide), inR_n h_t1 (by decide)⟩ h
    · refine x_callSP CF hK hP hS hl (As := [.int t]) (rest := []) (r_isSheet_f t ho_t) kw_X6_isSheet wd4_94 rfl ⟨Nat.le_of_ble_eq_true rfl, Nat.le_of_ble_eq_true rfl⟩ ⟨Nat.le_refl _, Nat.le_refl _⟩ (Nat.le_of_ble_eq_true rfl) dX6_copy_8 (fun H locs hP hS => ?_)
      refine x_yne (u := (0 : Int)) (tgt := 16) hx hb (rfl) dX6_copy_11 (by decide) (fun h_3 => (by omega : False).elim) (fun h_3 => ?_)
      refine lv_iconst (v := nI 4294967295) hx hb dX6_copy_14 (by decide) ?_
      exact x_reti hx hb hr9 hlk9 hS hP (by first | rfl | (show nI 4294967295 = nI 4294967295; first | rfl | omega)) dX6_copy_15
  · refine x_callSP CF hK hP hS hl (As := [.int s]) (rest := []) (r_isSheet_f s ho_s) kw_X6_isSheet wd4_94 rfl ⟨Nat.le_of_ble_eq_true rfl, Nat.le_of_ble_eq_true rfl⟩ ⟨Nat.le_refl _, Nat.le_refl _⟩ (Nat.le_of_ble_eq_true rfl) dX6_copy_1 (fun H locs hP hS => ?_)
    refine x_yeq (u := (0 : Int)) (tgt := 14) hx hb (rfl) dX6_copy_4 (by decide) (fun h_4 => ?_) (fun h_4 => (by omega : False).elim)
    refine lv_iconst (v := nI 4294967295) hx hb dX6_copy_14 (by decide) ?_
    exact x_reti hx hb hr9 hlk9 hS hP (by first | rfl | (show nI 4294967295 = nI 4294967295; first | rfl | omega)) dX6_copy_15
set_option maxHeartbeats 4000000 in
set_option maxRecDepth 100000 in
theorem r_copy_null1 {l : Launch} {g : gE} {ad : Nat → Nat} (hI : g_inj ad 14) (M : gMem) (J : gMeL) (s b : Nat) (hs : s < 4) (hb4 : b < 4) (i j n : Int32) (h : M 10 s = 4294967295) : CI l g ad dsR 14 yX6_copy cX6_copy 8 (some .int) 2 [.ref (ad 0), .int (nI s), .int i, .int (nI b), .int j, .int n] M J (nI 4294967285) M J := by
  refine CI.of (plainFor_of_name (by decide)) (Nat.le_of_ble_eq_true rfl) (fun p9 e9 s9 m9 args9 below9 meth9 c9 CF hK hr9 hlk9 hP hS ls hl => ?_)
  have hx := CF.1
  have hb := CF.2.1
  have hA : ∀ q, g_A ad 14 q → g_A ad 14 q := fun _ h => h
  have hl : lv_has ls 8 [(0, .ref (ad 0)), (1, .int (nI s)), (2, .int i), (3, .int (nI b)), (4, .int j), (5, .int n)] := hl
  refine lv_iload_n hx hb dX6_copy_0 rfl (lv_at hl 1 rfl) ?_
  refine x_callSP CF hK hP hS hl (As := [.int (nI s)]) (rest := []) (r_isSheet_t s (by omega)) kw_X6_isSheet wd4_94 rfl ⟨Nat.le_of_ble_eq_true rfl, Nat.le_of_ble_eq_true rfl⟩ ⟨Nat.le_refl _, Nat.le_refl _⟩ (Nat.le_of_ble_eq_true rfl) dX6_copy_1 (fun H locs hP hS => ?_)
  refine x_yeq (u := (1 : Int)) (tgt := 14) hx hb (rfl) dX6_copy_4 (by decide) (fun h_1 => (by omega : False).elim) (fun h_1 => ?_)
  refine lv_iload_n hx hb dX6_copy_7 rfl (lv_at hl 3 rfl) ?_
  refine x_callSP CF hK hP hS hl (As := [.int (nI b)]) (rest := []) (r_isSheet_t b (by omega)) kw_X6_isSheet wd4_94 rfl ⟨Nat.le_of_ble_eq_true rfl, Nat.le_of_ble_eq_true rfl⟩ ⟨Nat.le_refl _, Nat.le_refl _⟩ (Nat.le_of_ble_eq_true rfl) dX6_copy_8 (fun H locs hP hS => ?_)
  refine x_yne (u := (1 : Int)) (tgt := 16) hx hb (rfl) dX6_copy_11 (by decide) (fun h_2 => ?_) (fun h_2 => (by omega : False).elim)
  refine lv_aload_n hx hb dX6_copy_16 rfl (lv_at hl 0 rfl) ?_
  refine x_getr CF hK hP 0 (by decide) dR_0 rfl uX6 11 (by decide) (j := 10) rfl wd3_107 rfl dX6_copy_17 ?_
  refine lv_iload_n hx hb dX6_copy_20 rfl (lv_at hl 1 rfl) ?_
  refine x_iald CF hK hP 10 (by decide) dR_10 s (by omega) (by decide) dX6_copy_21 ?_
  refine x_ri (show (nI (M 10 s)) = nI 4294967295 from congrArg nI h) ?_
  refine x_ylt (u := (-1 : Int)) (tgt := 34) hx hb (rfl) dX6_copy_22 (by decide) (fun h_3 => ?_) (fun h_3 => (by omega : False).elim)
  refine lv_bipush (v := nI 4294967285) hx hb dX6_copy_34 (by decide) ?_
  exact x_reti hx hb hr9 hlk9 hS hP (by first | rfl | (show nI 4294967285 = nI 4294967285; first | rfl | omega)) dX6_copy_36
set_option maxHeartbeats 4000000 in
set_option maxRecDepth 100000 in
theorem r_copy_null2 {l : Launch} {g : gE} {ad : Nat → Nat} (hI : g_inj ad 14) (M : gMem) (J : gMeL) (s b : Nat) (hs : s < 4) (hb4 : b < 4) (i j n : Int32) (h1 : M 10 s ≤ 2) (h : M 10 b = 4294967295) : CI l g ad dsR 14 yX6_copy cX6_copy 8 (some .int) 2 [.ref (ad 0), .int (nI s), .int i, .int (nI b), .int j, .int n] M J (nI 4294967285) M J := by
  refine CI.of (plainFor_of_name (by decide)) (Nat.le_of_ble_eq_true rfl) (fun p9 e9 s9 m9 args9 below9 meth9 c9 CF hK hr9 hlk9 hP hS ls hl => ?_)
  have hx := CF.1
  have hb := CF.2.1
  have hA : ∀ q, g_A ad 14 q → g_A ad 14 q := fun _ h => h
  have hl : lv_has ls 8 [(0, .ref (ad 0)), (1, .int (nI s)), (2, .int i), (3, .int (nI b)), (4, .int j), (5, .int n)] := hl
  refine lv_iload_n hx hb dX6_copy_0 rfl (lv_at hl 1 rfl) ?_
  refine x_callSP CF hK hP hS hl (As := [.int (nI s)]) (rest := []) (r_isSheet_t s (by omega)) kw_X6_isSheet wd4_94 rfl ⟨Nat.le_of_ble_eq_true rfl, Nat.le_of_ble_eq_true rfl⟩ ⟨Nat.le_refl _, Nat.le_refl _⟩ (Nat.le_of_ble_eq_true rfl) dX6_copy_1 (fun H locs hP hS => ?_)
  refine x_yeq (u := (1 : Int)) (tgt := 14) hx hb (rfl) dX6_copy_4 (by decide) (fun h_1 => (by omega : False).elim) (fun h_1 => ?_)
  refine lv_iload_n hx hb dX6_copy_7 rfl (lv_at hl 3 rfl) ?_
  refine x_callSP CF hK hP hS hl (As := [.int (nI b)]) (rest := []) (r_isSheet_t b (by omega)) kw_X6_isSheet wd4_94 rfl ⟨Nat.le_of_ble_eq_true rfl, Nat.le_of_ble_eq_true rfl⟩ ⟨Nat.le_refl _, Nat.le_refl _⟩ (Nat.le_of_ble_eq_true rfl) dX6_copy_8 (fun H locs hP hS => ?_)
  refine x_yne (u := (1 : Int)) (tgt := 16) hx hb (rfl) dX6_copy_11 (by decide) (fun h_2 => ?_) (fun h_2 => (by omega : False).elim)
  refine lv_aload_n hx hb dX6_copy_16 rfl (lv_at hl 0 rfl) ?_
  refine x_getr CF hK hP 0 (by decide) dR_0 rfl uX6 11 (by decide) (j := 10) rfl wd3_107 rfl dX6_copy_17 ?_
  refine lv_iload_n hx hb dX6_copy_20 rfl (lv_at hl 1 rfl) ?_
  refine x_iald CF hK hP 10 (by decide) dR_10 s (by omega) (by decide) dX6_copy_21 ?_
  refine x_ylt (u := (M 10 s : Nat)) (tgt := 34) hx hb (nI_toInt (by omega)) dX6_copy_22 (by decide) (fun h_3 => (by omega : False).elim) (fun h_3 => ?_)
  refine lv_aload_n hx hb dX6_copy_25 rfl (lv_at hl 0 rfl) ?_
  refine x_getr CF hK hP 0 (by decide) dR_0 rfl uX6 11 (by decide) (j := 10) rfl wd3_107 rfl dX6_copy_26 ?_
  refine lv_iload_n hx hb dX6_copy_29 rfl (lv_at hl 3 rfl) ?_
  refine x_iald CF hK hP 10 (by decide) dR_10 b (by omega) (by decide) dX6_copy_30 ?_
  refine x_ri (show (nI (M 10 b)) = nI 4294967295 from congrArg nI h) ?_
  refine x_yge (u := (-1 : Int)) (tgt := 37) hx hb (rfl) dX6_copy_31 (by decide) (fun h_4 => (by omega : False).elim) (fun h_4 => ?_)
  refine lv_bipush (v := nI 4294967285) hx hb dX6_copy_34 (by decide) ?_
  exact x_reti hx hb hr9 hlk9 hS hP (by first | rfl | (show nI 4294967285 = nI 4294967285; first | rfl | omega)) dX6_copy_36
set_option maxHeartbeats 4000000 in
set_option maxRecDepth 100000 in
theorem r_copy_cast {l : Launch} {g : gE} {ad : Nat → Nat} (hI : g_inj ad 14) (M : gMem) (J : gMeL) (s b : Nat) (hs : s < 4) (hb4 : b < 4) (i j n : Int32) (h1 : M 10 s ≤ 2) (h2 : M 10 b ≤ 2) (h : ¬ M 10 s = M 10 b) : CI l g ad dsR 14 yX6_copy cX6_copy 8 (some .int) 2 [.ref (ad 0), .int (nI s), .int i, .int (nI b), .int j, .int n] M J (nI 4294967284) M J := by
  refine CI.of (plainFor_of_name (by decide)) (Nat.le_of_ble_eq_true rfl) (fun p9 e9 s9 m9 args9 below9 meth9 c9 CF hK hr9 hlk9 hP hS ls hl => ?_)
  have hx := CF.1
  have hb := CF.2.1
  have hA : ∀ q, g_A ad 14 q → g_A ad 14 q := fun _ h => h
  have hl : lv_has ls 8 [(0, .ref (ad 0)), (1, .int (nI s)), (2, .int i), (3, .int (nI b)), (4, .int j), (5, .int n)] := hl
  refine lv_iload_n hx hb dX6_copy_0 rfl (lv_at hl 1 rfl) ?_
  refine x_callSP CF hK hP hS hl (As := [.int (nI s)]) (rest := []) (r_isSheet_t s (by omega)) kw_X6_isSheet wd4_94 rfl ⟨Nat.le_of_ble_eq_true rfl, Nat.le_of_ble_eq_true rfl⟩ ⟨Nat.le_refl _, Nat.le_refl _⟩ (Nat.le_of_ble_eq_true rfl) dX6_copy_1 (fun H locs hP hS => ?_)
  refine x_yeq (u := (1 : Int)) (tgt := 14) hx hb (rfl) dX6_copy_4 (by decide) (fun h_1 => (by omega : False).elim) (fun h_1 => ?_)
  refine lv_iload_n hx hb dX6_copy_7 rfl (lv_at hl 3 rfl) ?_
  refine x_callSP CF hK hP hS hl (As := [.int (nI b)]) (rest := []) (r_isSheet_t b (by omega)) kw_X6_isSheet wd4_94 rfl ⟨Nat.le_of_ble_eq_true rfl, Nat.le_of_ble_eq_true rfl⟩ ⟨Nat.le_refl _, Nat.le_refl _⟩ (Nat.le_of_ble_eq_true rfl) dX6_copy_8 (fun H locs hP hS => ?_)
  refine x_yne (u := (1 : Int)) (tgt := 16) hx hb (rfl) dX6_copy_11 (by decide) (fun h_2 => ?_) (fun h_2 => (by omega : False).elim)
  refine lv_aload_n hx hb dX6_copy_16 rfl (lv_at hl 0 rfl) ?_
  refine x_getr CF hK hP 0 (by decide) dR_0 rfl uX6 11 (by decide) (j := 10) rfl wd3_107 rfl dX6_copy_17 ?_
  refine lv_iload_n hx hb dX6_copy_20 rfl (lv_at hl 1 rfl) ?_
  refine x_iald CF hK hP 10 (by decide) dR_10 s (by omega) (by decide) dX6_copy_21 ?_
  refine x_ylt (u := (M 10 s : Nat)) (tgt := 34) hx hb (nI_toInt (by omega)) dX6_copy_22 (by decide) (fun h_3 => (by omega : False).elim) (fun h_3 => ?_)
  refine lv_aload_n hx hb dX6_copy_25 rfl (lv_at hl 0 rfl) ?_
  refine x_getr CF hK hP 0 (by decide) dR_0 rfl uX6 11 (by decide) (j := 10) rfl wd3_107 rfl dX6_copy_26 ?_
  refine lv_iload_n hx hb dX6_copy_29 rfl (lv_at hl 3 rfl) ?_
  refine x_iald CF hK hP 10 (by decide) dR_10 b (by omega) (by decide) dX6_copy_30 ?_
  refine x_yge (u := (M 10 b : Nat)) (tgt := 37) hx hb (nI_toInt (by omega)) dX6_copy_31 (by decide) (fun h_4 => ?_) (fun h_4 => (by omega : False).elim)
  refine lv_aload_n hx hb dX6_copy_37 rfl (lv_at hl 0 rfl) ?_
  refine lv_iload_n hx hb dX6_copy_38 rfl (lv_at hl 1 rfl) ?_
  refine lv_aload_n hx hb dX6_copy_39 rfl (lv_at hl 0 rfl) ?_
  refine x_getr CF hK hP 0 (by decide) dR_0 rfl uX6 11 (by decide) (j := 10) rfl wd3_107 rfl dX6_copy_40 ?_
  refine lv_iload_n hx hb dX6_copy_43 rfl (lv_at hl 3 rfl) ?_
  refine x_iald CF hK hP 10 (by decide) dR_10 b (by omega) (by decide) dX6_copy_44 ?_
  refine lv_iload_n hx hb dX6_copy_45 rfl (lv_at hl 2 rfl) ?_
  refine lv_iload hx hb dX6_copy_46 (lv_at hl 5 rfl) ?_
  refine x_callVI CF hK hP hS hA hl (As := [.int (nI s), .int (nI (M 10 b)), .int i, .int n]) (rest := []) (r_bars_cast hI M J s (M 10 b) (by omega) (by omega) i n h1 h) kw_X6_bars wd4_98 (by decide) dR_0 rfl rfl ⟨Nat.le_of_ble_eq_true rfl, Nat.le_of_ble_eq_true rfl⟩ ⟨Nat.le_refl _, Nat.le_refl _⟩ (Nat.le_of_ble_eq_true rfl) dX6_copy_48 (fun H locs hP hS => ?_)
  refine lv_istore (lv' := [(6, .int (nI 4294967284)), (0, .ref (ad 0)), (1, .int (nI s)), (2, .int i), (3, .int (nI b)), (4, .int j), (5, .int n)]) hx hb dX6_copy_51 hl (by decide) rfl (fun ls hl => ?_)
  refine lv_iload hx hb dX6_copy_53 (lv_at hl 0 rfl) ?_
  refine x_yne (u := (-12 : Int)) (tgt := 76) hx hb (rfl) dX6_copy_55 (by decide) (fun h_5 => ?_) (fun h_5 => (by omega : False).elim)
  refine lv_iload hx hb dX6_copy_76 (lv_at hl 0 rfl) ?_
  refine lv_istore (lv' := [(6, .int (nI 4294967284)), (0, .ref (ad 0)), (1, .int (nI s)), (2, .int i), (3, .int (nI b)), (4, .int j), (5, .int n)]) hx hb dX6_copy_78 hl (by decide) rfl (fun ls hl => ?_)
  refine lv_iload hx hb dX6_copy_80 (lv_at hl 0 rfl) ?_
  refine x_yeq (u := (-12 : Int)) (tgt := 88) hx hb (rfl) dX6_copy_82 (by decide) (fun h_6 => (by omega : False).elim) (fun h_6 => ?_)
  refine lv_iload hx hb dX6_copy_85 (lv_at hl 0 rfl) ?_
  exact x_reti hx hb hr9 hlk9 hS hP (by first | rfl | (show nI 4294967284 = nI 4294967284; first | rfl | omega)) dX6_copy_87
set_option maxHeartbeats 4000000 in
set_option maxRecDepth 100000 in
theorem r_copy_index1 {l : Launch} {g : gE} {ad : Nat → Nat} (hI : g_inj ad 14) (M : gMem) (J : gMeL) (s b : Nat) (hs : s < 4) (hb4 : b < 4) (i j n : Int32) (h1 : M 10 s ≤ 2) (h2 : M 10 b ≤ 2) (he : M 10 s = M 10 b) (h : ¬ (0 ≤ i.toInt ∧ 0 ≤ n.toInt ∧ i.toInt + n.toInt ≤ M 11 s)) (h3 : M 11 s ≤ 24) : CI l g ad dsR 14 yX6_copy cX6_copy 8 (some .int) 2 [.ref (ad 0), .int (nI s), .int i, .int (nI b), .int j, .int n] M J (nI 4294967283) M J := by
  refine CI.of (plainFor_of_name (by decide)) (Nat.le_of_ble_eq_true rfl) (fun p9 e9 s9 m9 args9 below9 meth9 c9 CF hK hr9 hlk9 hP hS ls hl => ?_)
  have hx := CF.1
  have hb := CF.2.1
  have hA : ∀ q, g_A ad 14 q → g_A ad 14 q := fun _ h => h
  have hl : lv_has ls 8 [(0, .ref (ad 0)), (1, .int (nI s)), (2, .int i), (3, .int (nI b)), (4, .int j), (5, .int n)] := hl
  refine lv_iload_n hx hb dX6_copy_0 rfl (lv_at hl 1 rfl) ?_
  refine x_callSP CF hK hP hS hl (As := [.int (nI s)]) (rest := []) (r_isSheet_t s (by omega)) kw_X6_isSheet wd4_94 rfl ⟨Nat.le_of_ble_eq_true rfl, Nat.le_of_ble_eq_true rfl⟩ ⟨Nat.le_refl _, Nat.le_refl _⟩ (Nat.le_of_ble_eq_true rfl) dX6_copy_1 (fun H locs hP hS => ?_)
  refine x_yeq (u := (1 : Int)) (tgt := 14) hx hb (rfl) dX6_copy_4 (by decide) (fun h_1 => (by omega : False).elim) (fun h_1 => ?_)
  refine lv_iload_n hx hb dX6_copy_7 rfl (lv_at hl 3 rfl) ?_
  refine x_callSP CF hK hP hS hl (As := [.int (nI b)]) (rest := []) (r_isSheet_t b (by omega)) kw_X6_isSheet wd4_94 rfl ⟨Nat.le_of_ble_eq_true rfl, Nat.le_of_ble_eq_true rfl⟩ ⟨Nat.le_refl _, Nat.le_refl _⟩ (Nat.le_of_ble_eq_true rfl) dX6_copy_8 (fun H locs hP hS => ?_)
  refine x_yne (u := (1 : Int)) (tgt := 16) hx hb (rfl) dX6_copy_11 (by decide) (fun h_2 => ?_) (fun h_2 => (by omega : False).elim)
  refine lv_aload_n hx hb dX6_copy_16 rfl (lv_at hl 0 rfl) ?_
  refine x_getr CF hK hP 0 (by decide) dR_0 rfl uX6 11 (by decide) (j := 10) rfl wd3_107 rfl dX6_copy_17 ?_
  refine lv_iload_n hx hb dX6_copy_20 rfl (lv_at hl 1 rfl) ?_
  refine x_iald CF hK hP 10 (by decide) dR_10 s (by omega) (by decide) dX6_copy_21 ?_
  refine x_ylt (u := (M 10 s : Nat)) (tgt := 34) hx hb (nI_toInt (by omega)) dX6_copy_22 (by decide) (fun h_3 => (by omega : False).elim) (fun h_3 => ?_)
  refine lv_aload_n hx hb dX6_copy_25 rfl (lv_at hl 0 rfl) ?_
  refine x_getr CF hK hP 0 (by decide) dR_0 rfl uX6 11 (by decide) (j := 10) rfl wd3_107 rfl dX6_copy_26 ?_
  refine lv_iload_n hx hb dX6_copy_29 rfl (lv_at hl 3 rfl) ?_
  refine x_iald CF hK hP 10 (by decide) dR_10 b (by omega) (by decide) dX6_copy_30 ?_
  refine x_yge (u := (M 10 b : Nat)) (tgt := 37) hx hb (nI_toInt (by omega)) dX6_copy_31 (by decide) (fun h_4 => ?_) (fun h_4 => (by omega : False).elim)
  refine lv_aload_n hx hb dX6_copy_37 rfl (lv_at hl 0 rfl) ?_
  refine lv_iload_n hx hb dX6_copy_38 rfl (lv_at hl 1 rfl) ?_
  refine lv_aload_n hx hb dX6_copy_39 rfl (lv_at hl 0 rfl) ?_
  refine x_getr CF hK hP 0 (by decide) dR_0 rfl uX6 11 (by decide) (j := 10) rfl wd3_107 rfl dX6_copy_40 ?_
  refine lv_iload_n hx hb dX6_copy_43 rfl (lv_at hl 3 rfl) ?_
  refine x_iald CF hK hP 10 (by decide) dR_10 b (by omega) (by decide) dX6_copy_44 ?_
  refine lv_iload_n hx hb dX6_copy_45 rfl (lv_at hl 2 rfl) ?_
  refine lv_iload hx hb dX6_copy_46 (lv_at hl 5 rfl) ?_
  refine x_callVI CF hK hP hS hA hl (As := [.int (nI s), .int (nI (M 10 b)), .int i, .int n]) (rest := []) (r_bars_index hI M J s (M 10 b) (by omega) i n (by omega) he h h3) kw_X6_bars wd4_98 (by decide) dR_0 rfl rfl ⟨Nat.le_of_ble_eq_true rfl, Nat.le_of_ble_eq_true rfl⟩ ⟨Nat.le_refl _, Nat.le_refl _⟩ (Nat.le_of_ble_eq_true rfl) dX6_copy_48 (fun H locs hP hS => ?_)
  refine lv_istore (lv' := [(6, .int (nI 4294967283)), (0, .ref (ad 0)), (1, .int (nI s)), (2, .int i), (3, .int (nI b)), (4, .int j), (5, .int n)]) hx hb dX6_copy_51 hl (by decide) rfl (fun ls hl => ?_)
  refine lv_iload hx hb dX6_copy_53 (lv_at hl 0 rfl) ?_
  refine x_yne (u := (-13 : Int)) (tgt := 76) hx hb (rfl) dX6_copy_55 (by decide) (fun h_5 => ?_) (fun h_5 => (by omega : False).elim)
  refine lv_iload hx hb dX6_copy_76 (lv_at hl 0 rfl) ?_
  refine lv_istore (lv' := [(6, .int (nI 4294967283)), (0, .ref (ad 0)), (1, .int (nI s)), (2, .int i), (3, .int (nI b)), (4, .int j), (5, .int n)]) hx hb dX6_copy_78 hl (by decide) rfl (fun ls hl => ?_)
  refine lv_iload hx hb dX6_copy_80 (lv_at hl 0 rfl) ?_
  refine x_yeq (u := (-13 : Int)) (tgt := 88) hx hb (rfl) dX6_copy_82 (by decide) (fun h_6 => (by omega : False).elim) (fun h_6 => ?_)
  refine lv_iload hx hb dX6_copy_85 (lv_at hl 0 rfl) ?_
  exact x_reti hx hb hr9 hlk9 hS hP (by first | rfl | (show nI 4294967283 = nI 4294967283; first | rfl | omega)) dX6_copy_87
set_option maxHeartbeats 4000000 in
set_option maxRecDepth 100000 in
theorem r_copy_index2 {l : Launch} {g : gE} {ad : Nat → Nat} (hI : g_inj ad 14) (M : gMem) (J : gMeL) (s b : Nat) (hs : s < 4) (hb4 : b < 4) (i j n : Int32) (h1 : M 10 s ≤ 2) (h2 : M 10 b ≤ 2) (he : M 10 s = M 10 b) (h : 0 ≤ i.toInt ∧ 0 ≤ n.toInt ∧ i.toInt + n.toInt ≤ M 11 s) (h3 : M 11 s ≤ 24) (h5 : ¬ (0 ≤ j.toInt ∧ 0 ≤ n.toInt ∧ j.toInt + n.toInt ≤ M 11 b)) (h4 : M 11 b ≤ 24) : CI l g ad dsR 14 yX6_copy cX6_copy 8 (some .int) 2 [.ref (ad 0), .int (nI s), .int i, .int (nI b), .int j, .int n] M J (nI 4294967283) M J := by
  refine CI.of (plainFor_of_name (by decide)) (Nat.le_of_ble_eq_true rfl) (fun p9 e9 s9 m9 args9 below9 meth9 c9 CF hK hr9 hlk9 hP hS ls hl => ?_)
  have hx := CF.1
  have hb := CF.2.1
  have hA : ∀ q, g_A ad 14 q → g_A ad 14 q := fun _ h => h
  have hl : lv_has ls 8 [(0, .ref (ad 0)), (1, .int (nI s)), (2, .int i), (3, .int (nI b)), (4, .int j), (5, .int n)] := hl
  refine lv_iload_n hx hb dX6_copy_0 rfl (lv_at hl 1 rfl) ?_
  refine x_callSP CF hK hP hS hl (As := [.int (nI s)]) (rest := []) (r_isSheet_t s (by omega)) kw_X6_isSheet wd4_94 rfl ⟨Nat.le_of_ble_eq_true rfl, Nat.le_of_ble_eq_true rfl⟩ ⟨Nat.le_refl _, Nat.le_refl _⟩ (Nat.le_of_ble_eq_true rfl) dX6_copy_1 (fun H locs hP hS => ?_)
  refine x_yeq (u := (1 : Int)) (tgt := 14) hx hb (rfl) dX6_copy_4 (by decide) (fun h_1 => (by omega : False).elim) (fun h_1 => ?_)
  refine lv_iload_n hx hb dX6_copy_7 rfl (lv_at hl 3 rfl) ?_
  refine x_callSP CF hK hP hS hl (As := [.int (nI b)]) (rest := []) (r_isSheet_t b (by omega)) kw_X6_isSheet wd4_94 rfl ⟨Nat.le_of_ble_eq_true rfl, Nat.le_of_ble_eq_true rfl⟩ ⟨Nat.le_refl _, Nat.le_refl _⟩ (Nat.le_of_ble_eq_true rfl) dX6_copy_8 (fun H locs hP hS => ?_)
  refine x_yne (u := (1 : Int)) (tgt := 16) hx hb (rfl) dX6_copy_11 (by decide) (fun h_2 => ?_) (fun h_2 => (by omega : False).elim)
  refine lv_aload_n hx hb dX6_copy_16 rfl (lv_at hl 0 rfl) ?_
  refine x_getr CF hK hP 0 (by decide) dR_0 rfl uX6 11 (by decide) (j := 10) rfl wd3_107 rfl dX6_copy_17 ?_
  refine lv_iload_n hx hb dX6_copy_20 rfl (lv_at hl 1 rfl) ?_
  refine x_iald CF hK hP 10 (by decide) dR_10 s (by omega) (by decide) dX6_copy_21 ?_
  refine x_ylt (u := (M 10 s : Nat)) (tgt := 34) hx hb (nI_toInt (by omega)) dX6_copy_22 (by decide) (fun h_3 => (by omega : False).elim) (fun h_3 => ?_)
  refine lv_aload_n hx hb dX6_copy_25 rfl (lv_at hl 0 rfl) ?_
  refine x_getr CF hK hP 0 (by decide) dR_0 rfl uX6 11 (by decide) (j := 10) rfl wd3_107 rfl dX6_copy_26 ?_
  refine lv_iload_n hx hb dX6_copy_29 rfl (lv_at hl 3 rfl) ?_
  refine x_iald CF hK hP 10 (by decide) dR_10 b (by omega) (by decide) dX6_copy_30 ?_
  refine x_yge (u := (M 10 b : Nat)) (tgt := 37) hx hb (nI_toInt (by omega)) dX6_copy_31 (by decide) (fun h_4 => ?_) (fun h_4 => (by omega : False).elim)
  refine lv_aload_n hx hb dX6_copy_37 rfl (lv_at hl 0 rfl) ?_
  refine lv_iload_n hx hb dX6_copy_38 rfl (lv_at hl 1 rfl) ?_
  refine lv_aload_n hx hb dX6_copy_39 rfl (lv_at hl 0 rfl) ?_
  refine x_getr CF hK hP 0 (by decide) dR_0 rfl uX6 11 (by decide) (j := 10) rfl wd3_107 rfl dX6_copy_40 ?_
  refine lv_iload_n hx hb dX6_copy_43 rfl (lv_at hl 3 rfl) ?_
  refine x_iald CF hK hP 10 (by decide) dR_10 b (by omega) (by decide) dX6_copy_44 ?_
  refine lv_iload_n hx hb dX6_copy_45 rfl (lv_at hl 2 rfl) ?_
  refine lv_iload hx hb dX6_copy_46 (lv_at hl 5 rfl) ?_
  refine x_callVI CF hK hP hS hA hl (As := [.int (nI s), .int (nI (M 10 b)), .int i, .int n]) (rest := []) (r_bars_ok hI M J s (M 10 b) (by omega) i n (by omega) he h h3) kw_X6_bars wd4_98 (by decide) dR_0 rfl rfl ⟨Nat.le_of_ble_eq_true rfl, Nat.le_of_ble_eq_true rfl⟩ ⟨Nat.le_refl _, Nat.le_refl _⟩ (Nat.le_of_ble_eq_true rfl) dX6_copy_48 (fun H locs hP hS => ?_)
  refine lv_istore (lv' := [(6, .int (nI 0)), (0, .ref (ad 0)), (1, .int (nI s)), (2, .int i), (3, .int (nI b)), (4, .int j), (5, .int n)]) hx hb dX6_copy_51 hl (by decide) rfl (fun ls hl => ?_)
  refine lv_iload hx hb dX6_copy_53 (lv_at hl 0 rfl) ?_
  refine x_yne (u := (0 : Int)) (tgt := 76) hx hb (rfl) dX6_copy_55 (by decide) (fun h_5 => (by omega : False).elim) (fun h_5 => ?_)
  refine lv_aload_n hx hb dX6_copy_58 rfl (lv_at hl 1 rfl) ?_
  refine lv_iload_n hx hb dX6_copy_59 rfl (lv_at hl 4 rfl) ?_
  refine lv_aload_n hx hb dX6_copy_60 rfl (lv_at hl 1 rfl) ?_
  refine x_getr CF hK hP 0 (by decide) dR_0 rfl uX6 11 (by decide) (j := 10) rfl wd3_107 rfl dX6_copy_61 ?_
  refine lv_iload_n hx hb dX6_copy_64 rfl (lv_at hl 2 rfl) ?_
  refine x_iald CF hK hP 10 (by decide) dR_10 s (by omega) (by decide) dX6_copy_65 ?_
  refine lv_iload hx hb dX6_copy_66 (lv_at hl 5 rfl) ?_
  refine lv_iload hx hb dX6_copy_68 (lv_at hl 6 rfl) ?_
  refine x_callVI CF hK hP hS hA hl (As := [.int (nI b), .int (nI (M 10 s)), .int j, .int n]) (rest := []) (r_bars_index hI M J b (M 10 s) (by omega) j n (by omega) he.symm h5 h4) kw_X6_bars wd4_98 (by decide) dR_0 rfl rfl ⟨Nat.le_of_ble_eq_true rfl, Nat.le_of_ble_eq_true rfl⟩ ⟨Nat.le_refl _, Nat.le_refl _⟩ (Nat.le_of_ble_eq_true rfl) dX6_copy_70 (fun H locs hP hS => ?_)
  refine lv_goto (tgt := 78) hx hb dX6_copy_73 (by decide) ?_
  refine lv_istore (lv' := [(6, .int (nI 4294967283)), (0, .ref (ad 0)), (1, .int (nI s)), (2, .int i), (3, .int (nI b)), (4, .int j), (5, .int n)]) hx hb dX6_copy_78 hl (by decide) rfl (fun ls hl => ?_)
  refine lv_iload hx hb dX6_copy_80 (lv_at hl 0 rfl) ?_
  refine x_yeq (u := (-13 : Int)) (tgt := 88) hx hb (rfl) dX6_copy_82 (by decide) (fun h_6 => (by omega : False).elim) (fun h_6 => ?_)
  refine lv_iload hx hb dX6_copy_85 (lv_at hl 0 rfl) ?_
  exact x_reti hx hb hr9 hlk9 hS hP (by first | rfl | (show nI 4294967283 = nI 4294967283; first | rfl | omega)) dX6_copy_87
