set_option maxHeartbeats 4000000 in
set_option maxRecDepth 100000 in
theorem r_missed_ok {l : Launch} {g : gE} {ad : Nat → Nat} (hI : g_inj ad 14) (M : gMem) (J : gMeL) (hw : wfR M) (k : Nat) (hk : k < M 1 73) : CI l g ad dsR 14 yX6_missed cX6_missed 5 (some .int) 3 [.ref (ad 0), .int (nI k)] M J (nI (fst1 (misd (M 1 (94 + k)) (M 1 (99 + k)) (upsR M k)) 0 12)) M J := by
  refine CI.of (plainFor_of_name (by decide)) (Nat.le_of_ble_eq_true rfl) (fun p9 e9 s9 m9 args9 below9 meth9 c9 CF hK hr9 hlk9 hP hS ls hl => ?_)
  have hx := CF.1
  have hb := CF.2.1
  have hA : ∀ q, g_A ad 14 q → g_A ad 14 q := fun _ h => h
  have hl : lv_has ls 5 [(0, .ref (ad 0)), (1, .int (nI k))] := hl
  have hnc := hw.nc
  have hnf := hw.nf
  have hwy := hw.way
  have hf := hw.fig (show k < 5 by omega)
  have hm : (misd (M 1 (94 + k)) (M 1 (99 + k)) (upsR M k)) < 4096 := misd_lt _ (by omega) (by omega)
  refine lv_aload_n hx hb dX6_missed_0 rfl (lv_at hl 0 rfl) ?_
  refine lv_iload_n hx hb dX6_missed_1 rfl (lv_at hl 1 rfl) ?_
  refine x_callVI CF hK hP hS hA hl (As := [.int (nI k)]) (rest := []) (r_isFigure_t hI M J k (by omega) (by omega)) kw_X6_isFigure wd3_196 (by decide) dR_0 rfl rfl ⟨Nat.le_of_ble_eq_true rfl, Nat.le_of_ble_eq_true rfl⟩ ⟨Nat.le_refl _, Nat.le_refl _⟩ (Nat.le_of_ble_eq_true rfl) dX6_missed_2 (fun H locs hP hS => ?_)
  refine x_yne (u := (1 : Int)) (tgt := 10) hx hb (rfl) dX6_missed_5 (by decide) (fun h_1 => ?_) (fun h_1 => (by omega : False).elim)
  refine lv_aload_n hx hb dX6_missed_10 rfl (lv_at hl 0 rfl) ?_
  refine lv_iload_n hx hb dX6_missed_11 rfl (lv_at hl 1 rfl) ?_
  refine x_callVI CF hK hP hS hA hl (As := [.int (nI k)]) (rest := []) (r_upsOf hI M J hw k (by omega)) kw_X6_upsOf wd3_235 (by decide) dR_0 rfl rfl ⟨Nat.le_of_ble_eq_true rfl, Nat.le_of_ble_eq_true rfl⟩ ⟨Nat.le_refl _, Nat.le_refl _⟩ (Nat.le_of_ble_eq_true rfl) dX6_missed_12 (fun H locs hP hS => ?_)
  refine lv_istore_n (lv' := [(2, .int (nI (upsR M k))), (0, .ref (ad 0)), (1, .int (nI k))]) hx hb dX6_missed_15 rfl hl (by decide) rfl (fun ls hl => ?_)
  refine lv_aload_n hx hb dX6_missed_16 rfl (lv_at hl 1 rfl) ?_
  refine x_getr CF hK hP 0 (by decide) dR_0 rfl uX6 0 (by decide) (j := 1) rfl wd3_96 rfl dX6_missed_17 ?_
  refine lv_bipush (v := nI 94) hx hb dX6_missed_20 (by decide) ?_
  refine lv_iload_n hx hb dX6_missed_22 rfl (lv_at hl 2 rfl) ?_
  refine x_iadd hx hb dX6_missed_23 ?_
  refine x_iald CF hK hP 1 (by decide) dR_1 (94 + k) (by omega) (by decide) dX6_missed_24 ?_
  refine lv_iload_n hx hb dX6_missed_25 rfl (lv_at hl 0 rfl) ?_
  refine lv_iconst (v := nI 4294967295) hx hb dX6_missed_26 (by decide) ?_
  refine x_ixor hx hb dX6_missed_27 ?_
  refine x_iand hx hb dX6_missed_28 ?_
  refine lv_aload_n hx hb dX6_missed_29 rfl (lv_at hl 1 rfl) ?_
  refine x_getr CF hK hP 0 (by decide) dR_0 rfl uX6 0 (by decide) (j := 1) rfl wd3_96 rfl dX6_missed_30 ?_
  refine lv_bipush (v := nI 99) hx hb dX6_missed_33 (by decide) ?_
  refine lv_iload_n hx hb dX6_missed_35 rfl (lv_at hl 2 rfl) ?_
  refine x_iadd hx hb dX6_missed_36 ?_
  refine x_iald CF hK hP 1 (by decide) dR_1 (99 + k) (by omega) (by decide) dX6_missed_37 ?_
  refine lv_iload_n hx hb dX6_missed_38 rfl (lv_at hl 0 rfl) ?_
  refine x_iand hx hb dX6_missed_39 ?_
  refine x_ior hx hb dX6_missed_40 ?_
  refine x_ri (show (nI (((M 1 (94 + k)) &&& ((upsR M k) ^^^ 4294967295)) ||| ((M 1 (99 + k)) &&& (upsR M k)))) = nI (misd (M 1 (94 + k)) (M 1 (99 + k)) (upsR M k)) from rfl) ?_
  refine lv_istore_n (lv' := [(3, .int (nI (misd (M 1 (94 + k)) (M 1 (99 + k)) (upsR M k)))), (2, .int (nI (upsR M k))), (0, .ref (ad 0)), (1, .int (nI k))]) hx hb dX6_missed_41 rfl hl (by decide) rfl (fun ls hl => ?_)
  refine lv_iconst (v := nI 0) hx hb dX6_missed_42 (by decide) ?_
  refine lv_istore (lv' := [(4, .int (nI 0)), (3, .int (nI (misd (M 1 (94 + k)) (M 1 (99 + k)) (upsR M k)))), (2, .int (nI (upsR M k))), (0, .ref (ad 0)), (1, .int (nI k))]) hx hb dX6_missed_43 hl (by decide) rfl (fun ls hl => ?_)
  have L45 : ∀ (d45 : Nat) (a : Nat), (a + d45 = 12) → (fst1 (misd (M 1 (94 + k)) (M 1 (99 + k)) (upsR M k)) a d45 = fst1 (misd (M 1 (94 + k)) (M 1 (99 + k)) (upsR M k)) 0 12) → (∀ (H : Heap) (locs : List Loc) (ls : Array Slot), g_P g ad dsR 14 M J H → va_S (g_A ad 14) s9.heap H locs → lv_has ls 5 [(4, .int (nI a)), (3, .int (nI (misd (M 1 (94 + k)) (M 1 (99 + k)) (upsR M k)))), (2, .int (nI (upsR M k))), (0, .ref (ad 0)), (1, .int (nI k))] → W p9 l e9 (g_rm 3) s9 m9 args9 below9 meth9 c9 H locs 0 0 (MQ below9 (va_Qi (fun r' (_ : Unit) => r' = (nI (fst1 (misd (M 1 (94 + k)) (M 1 (99 + k)) (upsR M k)) 0 12))) (fun _ t => g_P g ad dsR 14 M J t.heap) (g_A ad 14)) args9 s9 0 0 (g_A ad 14)) (F0 m9 45 ls [])) := by
    intro d45
    induction d45 with
    | zero =>
      intro a ha hR H locs ls hP hS hl
      refine lv_iload hx hb dX6_missed_45 (lv_at hl 0 rfl) ?_
      refine lv_bipush (v := nI 12) hx hb dX6_missed_47 (by decide) ?_
      refine x_zge (u := (a : Nat)) (v := (12 : Int)) (tgt := 67) hx hb (nI_toInt (by omega)) (rfl) dX6_missed_49 (by decide) (fun h_2 => ?_) (fun h_2 => (by omega : False).elim)
      refine lv_iload hx hb dX6_missed_67 (lv_at hl 0 rfl) ?_
      refine lv_bipush (v := nI 12) hx hb dX6_missed_69 (by decide) ?_
      refine x_zge (u := (a : Nat)) (v := (12 : Int)) (tgt := 79) hx hb (nI_toInt (by omega)) (rfl) dX6_missed_71 (by decide) (fun h_3 => ?_) (fun h_3 => (by omega : False).elim)
      refine lv_bipush (v := nI 4294967292) hx hb dX6_missed_79 (by decide) ?_
      exact x_reti hx hb hr9 hlk9 hS hP (by rw [← hR]; rfl) dX6_missed_81
    | succ d45 ih45 =>
      intro a ha hR H locs ls hP hS hl
      rw [show fst1 (misd (M 1 (94 + k)) (M 1 (99 + k)) (upsR M k)) a (d45 + 1) = if (misd (M 1 (94 + k)) (M 1 (99 + k)) (upsR M k)) >>> a &&& 1 = 1 then a else fst1 (misd (M 1 (94 + k)) (M 1 (99 + k)) (upsR M k)) (a + 1) d45 from rfl] at hR
      have b1 := and1_lt ((misd (M 1 (94 + k)) (M 1 (99 + k)) (upsR M k)) >>> a)
      refine lv_iload hx hb dX6_missed_45 (lv_at hl 0 rfl) ?_
      refine lv_bipush (v := nI 12) hx hb dX6_missed_47 (by decide) ?_
      refine x_zge (u := (a : Nat)) (v := (12 : Int)) (tgt := 67) hx hb (nI_toInt (by omega)) (rfl) dX6_missed_49 (by decide) (fun h_4 => (by omega : False).elim) (fun h_4 => ?_)
      refine lv_iload_n hx hb dX6_missed_52 rfl (lv_at hl 1 rfl) ?_
      refine lv_iload hx hb dX6_missed_53 (lv_at hl 0 rfl) ?_
      refine x_callSP CF hK hP hS hl (As := [.int (nI (misd (M 1 (94 + k)) (M 1 (99 + k)) (upsR M k))), .int (nI a)]) (rest := []) (r_has (misd (M 1 (94 + k)) (M 1 (99 + k)) (upsR M k)) a (by omega) (by omega)) kw_X6_has wd4_7 rfl ⟨Nat.le_of_ble_eq_true rfl, Nat.le_of_ble_eq_true rfl⟩ ⟨Nat.le_refl _, Nat.le_refl _⟩ (Nat.le_of_ble_eq_true rfl) dX6_missed_55 (fun H locs hP hS => ?_)
      refine x_yne (u := ((misd (M 1 (94 + k)) (M 1 (99 + k)) (upsR M k)) >>> a &&& 1 : Nat)) (tgt := 67) hx hb (nI_toInt (by omega)) dX6_missed_58 (by decide) (fun h_5 => ?_) (fun h_5 => ?_)
      · refine lv_iload hx hb dX6_missed_67 (lv_at hl 0 rfl) ?_
        refine lv_bipush (v := nI 12) hx hb dX6_missed_69 (by decide) ?_
        refine x_zge (u := (a : Nat)) (v := (12 : Int)) (tgt := 79) hx hb (nI_toInt (by omega)) (rfl) dX6_missed_71 (by decide) (fun h_6 => (by omega : False).elim) (fun h_6 => ?_)
        refine lv_iload hx hb dX6_missed_74 (lv_at hl 0 rfl) ?_
        refine lv_goto (tgt := 81) hx hb dX6_missed_76 (by decide) ?_
        exact x_reti hx hb hr9 hlk9 hS hP (by rw [if_pos (by omega)] at hR; rw [← hR]) dX6_missed_81
      · refine lv_iinc (v := nI (a + 1)) (lv' := [(4, .int (nI (a + 1))), (3, .int (nI (misd (M 1 (94 + k)) (M 1 (99 + k)) (upsR M k)))), (2, .int (nI (upsR M k))), (0, .ref (ad 0)), (1, .int (nI k))]) hx hb dX6_missed_61 hl (k := 0) rfl (n_inc a 1) (by decide) rfl (fun ls hl => ?_)
        refine lv_goto (tgt := 45) hx hb dX6_missed_64 (by decide) ?_
        have hl0 : lv_has ls 5 [(4, .int (nI (a + 1))), (3, .int (nI (misd (M 1 (94 + k)) (M 1 (99 + k)) (upsR M k)))), (2, .int (nI (upsR M k))), (0, .ref (ad 0)), (1, .int (nI k))] := lv_sub hl [0, 1, 2, 3, 4] rfl
        exact ih45 (a + 1) (by omega) (by rw [if_neg (by omega)] at hR; exact hR) _ _ _ (hP) hS hl0
  have hl0 : lv_has ls 5 [(4, .int (nI 0)), (3, .int (nI (misd (M 1 (94 + k)) (M 1 (99 + k)) (upsR M k)))), (2, .int (nI (upsR M k))), (0, .ref (ad 0)), (1, .int (nI k))] := lv_sub hl [0, 1, 2, 3, 4] rfl
  exact L45 12 0 (by omega) (rfl) _ _ _ (hP) hS hl0
set_option maxHeartbeats 4000000 in
set_option maxRecDepth 100000 in
theorem r_missed_bad {l : Launch} {g : gE} {ad : Nat → Nat} (hI : g_inj ad 14) (M : gMem) (J : gMeL) (hw : wfR M) (k : Int32) (h : ¬ inR k (M 1 73)) : CI l g ad dsR 14 yX6_missed cX6_missed 5 (some .int) 3 [.ref (ad 0), .int k] M J (nI 4294967295) M J := by
  refine CI.of (plainFor_of_name (by decide)) (Nat.le_of_ble_eq_true rfl) (fun p9 e9 s9 m9 args9 below9 meth9 c9 CF hK hr9 hlk9 hP hS ls hl => ?_)
  have hx := CF.1
  have hb := CF.2.1
  have hA : ∀ q, g_A ad 14 q → g_A ad 14 q := fun _ h => h
  have hl : lv_has ls 5 [(0, .ref (ad 0)), (1, .int k)] := hl
  have hnc := hw.nc
  have hnf := hw.nf
  have hwy := hw.way
  refine lv_aload_n hx hb dX6_missed_0 rfl (lv_at hl 0 rfl) ?_
  refine lv_iload_n hx hb dX6_missed_1 rfl (lv_at hl 1 rfl) ?_
  rcases n_int (x := k) (n := M 1 73) (by omega) with ⟨k1, h_k1, rfl⟩ | ho_k
  · refine x_callVI CF hK hP hS hA hl (As := [.int (nI k1)]) (rest := []) (r_isFigure_t hI M J k1 (by omega) (by omega)) kw_X6_isFigure wd3_196 (by decide) dR_0 rfl rfl ⟨Nat.le_of_ble_eq_true rfl, Nat.le_of_ble_eq_true rfl⟩ ⟨Nat.le_refl _, Nat.le_refl _⟩ (Nat.le_of_ble_eq_true rfl) dX6_missed_2 (fun H locs hP hS => ?_)
    refine x_yne (u := (1 : Int)) (tgt := 10) hx hb (rfl) dX6_missed_5 (by decide) (fun h_1 => ?_) (fun h_1 => (by omega : False).elim)
    exact absurd (inR_n h_k1 (by omega)) h
  · refine x_callVI CF hK hP hS hA hl (As := [.int k]) (rest := []) (r_isFigure_f hI M J k ho_k (by omega)) kw_X6_isFigure wd3_196 (by decide) dR_0 rfl rfl ⟨Nat.le_of_ble_eq_true rfl, Nat.le_of_ble_eq_true rfl⟩ ⟨Nat.le_refl _, Nat.le_refl _⟩ (Nat.le_of_ble_eq_true rfl) dX6_missed_2 (fun H locs hP hS => ?_)
    refine x_yne (u := (0 : Int)) (tgt := 10) hx hb (rfl) dX6_missed_5 (by decide) (fun h_2 => (by omega : False).elim) (fun h_2 => ?_)
    refine lv_iconst (v := nI 4294967295) hx hb dX6_missed_8 (by decide) ?_
    exact x_reti hx hb hr9 hlk9 hS hP (by first | rfl | (show nI 4294967295 = nI 4294967295; first | rfl | omega)) dX6_missed_9
set_option maxHeartbeats 4000000 in
set_option maxRecDepth 100000 in
theorem r_pegs_0 {l : Launch} {g : gE} {ad : Nat → Nat} (hI : g_inj ad 14) (M : gMem) (J : gMeL) (hw : wfR M) (k : Nat) (hk : k < M 1 73) : CI l g ad dsR 14 yX6_pegs cX6_pegs 8 (some .int) 3 [.ref (ad 0), .int (nI k), .int (nI 0)] M J (nI (best (pegR M k) 12).1) M J := by
  refine CI.of (plainFor_of_name (by decide)) (Nat.le_of_ble_eq_true rfl) (fun p9 e9 s9 m9 args9 below9 meth9 c9 CF hK hr9 hlk9 hP hS ls hl => ?_)
  have hx := CF.1
  have hb := CF.2.1
  have hA : ∀ q, g_A ad 14 q → g_A ad 14 q := fun _ h => h
  have hl : lv_has ls 8 [(0, .ref (ad 0)), (1, .int (nI k)), (2, .int (nI 0))] := hl
  have hnc := hw.nc
  have hnf := hw.nf
  have hwy := hw.way
  have hf := hw.fig (show k < 5 by omega)
  have hln := hw.line
  refine lv_aload_n hx hb dX6_pegs_0 rfl (lv_at hl 0 rfl) ?_
  refine lv_iload_n hx hb dX6_pegs_1 rfl (lv_at hl 1 rfl) ?_
  refine x_callVI CF hK hP hS hA hl (As := [.int (nI k)]) (rest := []) (r_isFigure_t hI M J k (by omega) (by omega)) kw_X6_isFigure wd3_196 (by decide) dR_0 rfl rfl ⟨Nat.le_of_ble_eq_true rfl, Nat.le_of_ble_eq_true rfl⟩ ⟨Nat.le_refl _, Nat.le_refl _⟩ (Nat.le_of_ble_eq_true rfl) dX6_pegs_2 (fun H locs hP hS => ?_)
  refine x_yeq (u := (1 : Int)) (tgt := 18) hx hb (rfl) dX6_pegs_5 (by decide) (fun h_1 => (by omega : False).elim) (fun h_1 => ?_)
  refine lv_iload_n hx hb dX6_pegs_8 rfl (lv_at hl 2 rfl) ?_
  refine lv_i2l hx hb dX6_pegs_9 (nI_l (by omega)) ?_
  refine lv_lconst (v := (0 : Int64)) hx hb dX6_pegs_10 rfl ?_
  refine lv_lconst (v := (1 : Int64)) hx hb dX6_pegs_11 rfl ?_
  refine x_callSP CF hK hP hS hl (As := [.long (lN 0), .long (0 : Int64), .long (1 : Int64)]) (rest := []) (r_in_t _ _ _ (il_in (lo := 0) (hi := 1) (by omega) (by omega) (by omega))) kw_X6_in wd3_147 rfl ⟨Nat.le_of_ble_eq_true rfl, Nat.le_of_ble_eq_true rfl⟩ ⟨Nat.le_refl _, Nat.le_refl _⟩ (Nat.le_of_ble_eq_true rfl) dX6_pegs_12 (fun H locs hP hS => ?_)
  refine x_yne (u := (1 : Int)) (tgt := 20) hx hb (rfl) dX6_pegs_15 (by decide) (fun h_2 => ?_) (fun h_2 => (by omega : False).elim)
  refine lv_iconst (v := nI 0) hx hb dX6_pegs_20 (by decide) ?_
  refine lv_istore_n (lv' := [(3, .int (nI 0)), (0, .ref (ad 0)), (1, .int (nI k)), (2, .int (nI 0))]) hx hb dX6_pegs_21 rfl hl (by decide) rfl (fun ls hl => ?_)
  refine lv_iconst (v := nI 0) hx hb dX6_pegs_22 (by decide) ?_
  refine lv_istore (lv' := [(4, .int (nI 0)), (3, .int (nI 0)), (0, .ref (ad 0)), (1, .int (nI k)), (2, .int (nI 0))]) hx hb dX6_pegs_23 hl (by decide) rfl (fun ls hl => ?_)
  have L25 : ∀ (d25 : Nat) (a : Nat), (a + d25 = 12) → (∀ (H : Heap) (locs : List Loc) (ls : Array Slot), g_P g ad dsR 14 M J H → va_S (g_A ad 14) s9.heap H locs → lv_has ls 8 [(4, .int (nI a)), (3, .int (nI (setN (fun i => decide (M 1 104 ≤ M 1 (1 + 12 * M 1 (79 + k) + i))) a))), (0, .ref (ad 0)), (1, .int (nI k)), (2, .int (nI 0))] → W p9 l e9 (g_rm 3) s9 m9 args9 below9 meth9 c9 H locs 0 0 (MQ below9 (va_Qi (fun r' (_ : Unit) => r' = (nI (best (pegR M k) 12).1)) (fun _ t => g_P g ad dsR 14 M J t.heap) (g_A ad 14)) args9 s9 0 0 (g_A ad 14)) (F0 m9 25 ls [])) := by
    intro d25
    induction d25 with
    | zero =>
      intro a h_a H locs ls hP hS hl
      have e12 : a = 12 := by omega
      refine lv_iload hx hb dX6_pegs_25 (lv_at hl 0 rfl) ?_
      refine lv_bipush (v := nI 12) hx hb dX6_pegs_27 (by decide) ?_
      refine x_zge (u := (a : Nat)) (v := (12 : Int)) (tgt := 81) hx hb (nI_toInt (by omega)) (rfl) dX6_pegs_29 (by decide) (fun h_3 => ?_) (fun h_3 => (by omega : False).elim)
      refine lv_iconst (v := nI 0) hx hb dX6_pegs_81 (by decide) ?_
      refine lv_istore (lv' := [(4, .int (nI 0)), (3, .int (nI (setN (fun i => decide (M 1 104 ≤ M 1 (1 + 12 * M 1 (79 + k) + i))) a))), (0, .ref (ad 0)), (1, .int (nI k)), (2, .int (nI 0))]) hx hb dX6_pegs_82 hl (by decide) rfl (fun ls hl => ?_)
      refine lv_bipush (v := nI 13) hx hb dX6_pegs_84 (by decide) ?_
      refine lv_istore (lv' := [(5, .int (nI 13)), (4, .int (nI 0)), (3, .int (nI (setN (fun i => decide (M 1 104 ≤ M 1 (1 + 12 * M 1 (79 + k) + i))) a))), (0, .ref (ad 0)), (1, .int (nI k)), (2, .int (nI 0))]) hx hb dX6_pegs_86 hl (by decide) rfl (fun ls hl => ?_)
      refine lv_iconst (v := nI 0) hx hb dX6_pegs_88 (by decide) ?_
      refine lv_istore (lv' := [(6, .int (nI 0)), (5, .int (nI 13)), (4, .int (nI 0)), (3, .int (nI (setN (fun i => decide (M 1 104 ≤ M 1 (1 + 12 * M 1 (79 + k) + i))) a))), (0, .ref (ad 0)), (1, .int (nI k)), (2, .int (nI 0))]) hx hb dX6_pegs_89 hl (by decide) rfl (fun ls hl => ?_)
      have L91 : ∀ (d91 : Nat) (z : Nat), (z + d91 = 12) → (∀ (H : Heap) (locs : List Loc) (ls : Array Slot), g_P g ad dsR 14 M J H → va_S (g_A ad 14) s9.heap H locs → lv_has ls 8 [(6, .int (nI z)), (5, .int (nI ((best (pegR M k) z).1))), (4, .int (nI ((best (pegR M k) z).2))), (3, .int (nI (setN (fun i => decide (M 1 104 ≤ M 1 (1 + 12 * M 1 (79 + k) + i))) a))), (0, .ref (ad 0)), (1, .int (nI k)), (2, .int (nI 0))] → W p9 l e9 (g_rm 3) s9 m9 args9 below9 meth9 c9 H locs 0 0 (MQ below9 (va_Qi (fun r' (_ : Unit) => r' = (nI (best (pegR M k) 12).1)) (fun _ t => g_P g ad dsR 14 M J t.heap) (g_A ad 14)) args9 s9 0 0 (g_A ad 14)) (F0 m9 91 ls [])) := by
        intro d91
        induction d91 with
        | zero =>
          intro z h_z H locs ls hP hS hl
          refine lv_iload hx hb dX6_pegs_91 (lv_at hl 0 rfl) ?_
          refine lv_bipush (v := nI 12) hx hb dX6_pegs_93 (by decide) ?_
          refine x_zge (u := (z : Nat)) (v := (12 : Int)) (tgt := 176) hx hb (nI_toInt (by omega)) (rfl) dX6_pegs_95 (by decide) (fun h_4 => ?_) (fun h_4 => (by omega : False).elim)
          refine lv_iload_n hx hb dX6_pegs_176 rfl (lv_at hl 6 rfl) ?_
          refine x_yne (u := (0 : Int)) (tgt := 185) hx hb (rfl) dX6_pegs_177 (by decide) (fun h_5 => (by omega : False).elim) (fun h_5 => ?_)
          refine lv_iload hx hb dX6_pegs_180 (lv_at hl 1 rfl) ?_
          refine lv_goto (tgt := 187) hx hb dX6_pegs_182 (by decide) ?_
          exact x_reti hx hb hr9 hlk9 hS hP (by rw [show z = 12 by omega]) dX6_pegs_187
        | succ d91 ih91 =>
          intro z h_z H locs ls hP hS hl
          have b1 := best_le (pegR M k) z
          have b2 := best_2 (pegR M k) z
          have b3 : pegR M k z ≤ 12 := cntN_le _ _
          have bm : misd (rot (M 1 (94 + k)) z) (rot (M 1 (99 + k)) z) (setN (fun i => decide (M 1 104 ≤ M 1 (1 + 12 * M 1 (79 + k) + i))) 12) < 4096 := misd_lt _ (rot_lt _ _) (rot_lt _ _)
          refine lv_iload hx hb dX6_pegs_91 (lv_at hl 0 rfl) ?_
          refine lv_bipush (v := nI 12) hx hb dX6_pegs_93 (by decide) ?_
          refine x_zge (u := (z : Nat)) (v := (12 : Int)) (tgt := 176) hx hb (nI_toInt (by omega)) (rfl) dX6_pegs_95 (by decide) (fun h_6 => (by omega : False).elim) (fun h_6 => ?_)
          refine lv_aload_n hx hb dX6_pegs_98 rfl (lv_at hl 4 rfl) ?_
          refine x_getr CF hK hP 0 (by decide) dR_0 rfl uX6 0 (by decide) (j := 1) rfl wd3_96 rfl dX6_pegs_99 ?_
          refine lv_bipush (v := nI 94) hx hb dX6_pegs_102 (by decide) ?_
          refine lv_iload_n hx hb dX6_pegs_104 rfl (lv_at hl 5 rfl) ?_
          refine x_iadd hx hb dX6_pegs_105 ?_
          refine x_iald CF hK hP 1 (by decide) dR_1 (94 + k) (by omega) (by decide) dX6_pegs_106 ?_
          refine lv_iload hx hb dX6_pegs_107 (lv_at hl 0 rfl) ?_
          refine x_callSP CF hK hP hS hl (As := [.int (nI (M 1 (94 + k))), .int (nI z)]) (rest := []) (r_turned (M 1 (94 + k)) z (by omega) (by omega)) kw_X6_turned wd4_44 rfl ⟨Nat.le_of_ble_eq_true rfl, Nat.le_of_ble_eq_true rfl⟩ ⟨Nat.le_refl _, Nat.le_refl _⟩ (Nat.le_of_ble_eq_true rfl) dX6_pegs_109 (fun H locs hP hS => ?_)
          refine lv_iload_n hx hb dX6_pegs_112 rfl (lv_at hl 3 rfl) ?_
          refine lv_iconst (v := nI 4294967295) hx hb dX6_pegs_113 (by decide) ?_
          refine x_ixor hx hb dX6_pegs_114 ?_
          refine x_iand hx hb dX6_pegs_115 ?_
          refine lv_aload_n hx hb dX6_pegs_116 rfl (lv_at hl 4 rfl) ?_
          refine x_getr CF hK hP 0 (by decide) dR_0 rfl uX6 0 (by decide) (j := 1) rfl wd3_96 rfl dX6_pegs_117 ?_
          refine lv_bipush (v := nI 99) hx hb dX6_pegs_120 (by decide) ?_
          refine lv_iload_n hx hb dX6_pegs_122 rfl (lv_at hl 5 rfl) ?_
          refine x_iadd hx hb dX6_pegs_123 ?_
          refine x_iald CF hK hP 1 (by decide) dR_1 (99 + k) (by omega) (by decide) dX6_pegs_124 ?_
          refine lv_iload hx hb dX6_pegs_125 (lv_at hl 0 rfl) ?_
          refine x_callSP CF hK hP hS hl (As := [.int (nI (M 1 (99 + k))), .int (nI z)]) (rest := [.int (nI ((rot (M 1 (94 + k)) z) &&& ((setN (fun i => decide (M 1 104 ≤ M 1 (1 + 12 * M 1 (79 + k) + i))) a) ^^^ 4294967295)))]) (r_turned (M 1 (99 + k)) z (by omega) (by omega)) kw_X6_turned wd4_44 rfl ⟨Nat.le_of_ble_eq_true rfl, Nat.le_of_ble_eq_true rfl⟩ ⟨Nat.le_refl _, Nat.le_refl _⟩ (Nat.le_of_ble_eq_true rfl) dX6_pegs_127 (fun H locs hP hS => ?_)
          refine lv_iload_n hx hb dX6_pegs_130 rfl (lv_at hl 3 rfl) ?_
          refine x_iand hx hb dX6_pegs_131 ?_
          refine x_ior hx hb dX6_pegs_132 ?_
          refine x_ri (show (nI (((rot (M 1 (94 + k)) z) &&& ((setN (fun i => decide (M 1 104 ≤ M 1 (1 + 12 * M 1 (79 + k) + i))) a) ^^^ 4294967295)) ||| ((rot (M 1 (99 + k)) z) &&& (setN (fun i => decide (M 1 104 ≤ M 1 (1 + 12 * M 1 (79 + k) + i))) a)))) = nI (misd (rot (M 1 (94 + k)) z) (rot (M 1 (99 + k)) z) (setN (fun i => decide (M 1 104 ≤ M 1 (1 + 12 * M 1 (79 + k) + i))) 12)) from by rw [e12]; rfl) ?_
          refine x_callSP CF hK hP hS hl (As := [.int (nI (misd (rot (M 1 (94 + k)) z) (rot (M 1 (99 + k)) z) (setN (fun i => decide (M 1 104 ≤ M 1 (1 + 12 * M 1 (79 + k) + i))) 12)))]) (rest := []) (r_ones (misd (rot (M 1 (94 + k)) z) (rot (M 1 (99 + k)) z) (setN (fun i => decide (M 1 104 ≤ M 1 (1 + 12 * M 1 (79 + k) + i))) 12)) (by omega)) kw_X6_ones wd3_204 rfl ⟨Nat.le_of_ble_eq_true rfl, Nat.le_of_ble_eq_true rfl⟩ ⟨Nat.le_refl _, Nat.le_refl _⟩ (Nat.le_of_ble_eq_true rfl) dX6_pegs_133 (fun H locs hP hS => ?_)
          refine x_ri (show (nI (pop (misd (rot (M 1 (94 + k)) z) (rot (M 1 (99 + k)) z) (setN (fun i => decide (M 1 104 ≤ M 1 (1 + 12 * M 1 (79 + k) + i))) 12)))) = nI (pegR M k z) from rfl) ?_
          refine lv_istore (lv' := [(7, .int (nI (pegR M k z))), (6, .int (nI z)), (5, .int (nI ((best (pegR M k) z).1))), (4, .int (nI ((best (pegR M k) z).2))), (3, .int (nI (setN (fun i => decide (M 1 104 ≤ M 1 (1 + 12 * M 1 (79 + k) + i))) a))), (0, .ref (ad 0)), (1, .int (nI k)), (2, .int (nI 0))]) hx hb dX6_pegs_136 hl (by decide) rfl (fun ls hl => ?_)
          refine lv_iload hx hb dX6_pegs_138 (lv_at hl 0 rfl) ?_
          refine lv_iload hx hb dX6_pegs_140 (lv_at hl 2 rfl) ?_
          refine x_zge (u := (pegR M k z : Nat)) (v := ((best (pegR M k) z).1 : Nat)) (tgt := 150) hx hb (nI_toInt (by omega)) (nI_toInt (by omega)) dX6_pegs_142 (by decide) (fun h_7 => ?_) (fun h_7 => ?_)
          · refine lv_iload hx hb dX6_pegs_150 (lv_at hl 3 rfl) ?_
            refine lv_istore (lv' := [(4, .int (nI ((best (pegR M k) z).2))), (7, .int (nI (pegR M k z))), (6, .int (nI z)), (5, .int (nI ((best (pegR M k) z).1))), (3, .int (nI (setN (fun i => decide (M 1 104 ≤ M 1 (1 + 12 * M 1 (79 + k) + i))) a))), (0, .ref (ad 0)), (1, .int (nI k)), (2, .int (nI 0))]) hx hb dX6_pegs_152 hl (by decide) rfl (fun ls hl => ?_)
            refine lv_iload hx hb dX6_pegs_154 (lv_at hl 1 rfl) ?_
            refine lv_iload hx hb dX6_pegs_156 (lv_at hl 3 rfl) ?_
            refine x_zge (u := (pegR M k z : Nat)) (v := ((best (pegR M k) z).1 : Nat)) (tgt := 166) hx hb (nI_toInt (by omega)) (nI_toInt (by omega)) dX6_pegs_158 (by decide) (fun h_8 => ?_) (fun h_8 => (by omega : False).elim)
            refine lv_iload hx hb dX6_pegs_166 (lv_at hl 3 rfl) ?_
            refine lv_istore (lv' := [(5, .int (nI ((best (pegR M k) z).1))), (4, .int (nI ((best (pegR M k) z).2))), (7, .int (nI (pegR M k z))), (6, .int (nI z)), (3, .int (nI (setN (fun i => decide (M 1 104 ≤ M 1 (1 + 12 * M 1 (79 + k) + i))) a))), (0, .ref (ad 0)), (1, .int (nI k)), (2, .int (nI 0))]) hx hb dX6_pegs_168 hl (by decide) rfl (fun ls hl => ?_)
            refine lv_iinc (v := nI (z + 1)) (lv' := [(6, .int (nI (z + 1))), (5, .int (nI ((best (pegR M k) z).1))), (4, .int (nI ((best (pegR M k) z).2))), (7, .int (nI (pegR M k z))), (3, .int (nI (setN (fun i => decide (M 1 104 ≤ M 1 (1 + 12 * M 1 (79 + k) + i))) a))), (0, .ref (ad 0)), (1, .int (nI k)), (2, .int (nI 0))]) hx hb dX6_pegs_170 hl (k := 3) rfl (n_inc z 1) (by decide) rfl (fun ls hl => ?_)
            refine lv_goto (tgt := 91) hx hb dX6_pegs_173 (by decide) ?_
            have hl0 : lv_has ls 8 [(6, .int (nI (z + 1))), (5, .int (nI ((best (pegR M k) (z + 1)).1))), (4, .int (nI ((best (pegR M k) (z + 1)).2))), (3, .int (nI (setN (fun i => decide (M 1 104 ≤ M 1 (1 + 12 * M 1 (79 + k) + i))) a))), (0, .ref (ad 0)), (1, .int (nI k)), (2, .int (nI 0))] := by rw [(show nI ((best (pegR M k) (z + 1)).1) = nI ((best (pegR M k) z).1) from by rw [best_f (by omega)]), (show nI ((best (pegR M k) (z + 1)).2) = nI ((best (pegR M k) z).2) from by rw [best_f (by omega)])]; exact lv_sub hl [0, 1, 2, 4, 5, 6, 7] rfl
            exact ih91 (z + 1) (by omega) _ _ _ (hP) hS hl0
          · refine lv_iload hx hb dX6_pegs_145 (lv_at hl 1 rfl) ?_
            refine lv_goto (tgt := 152) hx hb dX6_pegs_147 (by decide) ?_
            refine lv_istore (lv' := [(4, .int (nI z)), (7, .int (nI (pegR M k z))), (6, .int (nI z)), (5, .int (nI ((best (pegR M k) z).1))), (3, .int (nI (setN (fun i => decide (M 1 104 ≤ M 1 (1 + 12 * M 1 (79 + k) + i))) a))), (0, .ref (ad 0)), (1, .int (nI k)), (2, .int (nI 0))]) hx hb dX6_pegs_152 hl (by decide) rfl (fun ls hl => ?_)
            refine lv_iload hx hb dX6_pegs_154 (lv_at hl 1 rfl) ?_
            refine lv_iload hx hb dX6_pegs_156 (lv_at hl 3 rfl) ?_
            refine x_zge (u := (pegR M k z : Nat)) (v := ((best (pegR M k) z).1 : Nat)) (tgt := 166) hx hb (nI_toInt (by omega)) (nI_toInt (by omega)) dX6_pegs_158 (by decide) (fun h_9 => (by omega : False).elim) (fun h_9 => ?_)
            refine lv_iload hx hb dX6_pegs_161 (lv_at hl 1 rfl) ?_
            refine lv_goto (tgt := 168) hx hb dX6_pegs_163 (by decide) ?_
            refine lv_istore (lv' := [(5, .int (nI (pegR M k z))), (4, .int (nI z)), (7, .int (nI (pegR M k z))), (6, .int (nI z)), (3, .int (nI (setN (fun i => decide (M 1 104 ≤ M 1 (1 + 12 * M 1 (79 + k) + i))) a))), (0, .ref (ad 0)), (1, .int (nI k)), (2, .int (nI 0))]) hx hb dX6_pegs_168 hl (by decide) rfl (fun ls hl => ?_)
            refine lv_iinc (v := nI (z + 1)) (lv' := [(6, .int (nI (z + 1))), (5, .int (nI (pegR M k z))), (4, .int (nI z)), (7, .int (nI (pegR M k z))), (3, .int (nI (setN (fun i => decide (M 1 104 ≤ M 1 (1 + 12 * M 1 (79 + k) + i))) a))), (0, .ref (ad 0)), (1, .int (nI k)), (2, .int (nI 0))]) hx hb dX6_pegs_170 hl (k := 3) rfl (n_inc z 1) (by decide) rfl (fun ls hl => ?_)
            refine lv_goto (tgt := 91) hx hb dX6_pegs_173 (by decide) ?_
            have hl0 : lv_has ls 8 [(6, .int (nI (z + 1))), (5, .int (nI ((best (pegR M k) (z + 1)).1))), (4, .int (nI ((best (pegR M k) (z + 1)).2))), (3, .int (nI (setN (fun i => decide (M 1 104 ≤ M 1 (1 + 12 * M 1 (79 + k) + i))) a))), (0, .ref (ad 0)), (1, .int (nI k)), (2, .int (nI 0))] := by rw [(show nI ((best (pegR M k) (z + 1)).1) = nI (pegR M k z) from by rw [best_t (by omega)]), (show nI ((best (pegR M k) (z + 1)).2) = nI z from by rw [best_t (by omega)])]; exact lv_sub hl [0, 1, 2, 4, 5, 6, 7] rfl
            exact ih91 (z + 1) (by omega) _ _ _ (hP) hS hl0
      have hl0 : lv_has ls 8 [(6, .int (nI 0)), (5, .int (nI ((best (pegR M k) 0).1))), (4, .int (nI ((best (pegR M k) 0).2))), (3, .int (nI (setN (fun i => decide (M 1 104 ≤ M 1 (1 + 12 * M 1 (79 + k) + i))) a))), (0, .ref (ad 0)), (1, .int (nI k)), (2, .int (nI 0))] := by rw [(show nI ((best (pegR M k) 0).1) = nI 13 from rfl), (show nI ((best (pegR M k) 0).2) = nI 0 from rfl)]; exact lv_sub hl [0, 1, 2, 3, 4, 5, 6] rfl
      exact L91 12 0 (by omega) _ _ _ (hP) hS hl0
    | succ d25 ih25 =>
      intro a h_a H locs ls hP hS hl
      have b1 := hw.row (show M 1 (79 + k) < 6 by omega) (show a < 12 by omega)
      refine lv_iload hx hb dX6_pegs_25 (lv_at hl 0 rfl) ?_
      refine lv_bipush (v := nI 12) hx hb dX6_pegs_27 (by decide) ?_
      refine x_zge (u := (a : Nat)) (v := (12 : Int)) (tgt := 81) hx hb (nI_toInt (by omega)) (rfl) dX6_pegs_29 (by decide) (fun h_10 => (by omega : False).elim) (fun h_10 => ?_)
      refine lv_iload_n hx hb dX6_pegs_32 rfl (lv_at hl 1 rfl) ?_
      refine lv_aload_n hx hb dX6_pegs_33 rfl (lv_at hl 2 rfl) ?_
      refine x_getr CF hK hP 0 (by decide) dR_0 rfl uX6 0 (by decide) (j := 1) rfl wd3_96 rfl dX6_pegs_34 ?_
      refine lv_iconst (v := nI 1) hx hb dX6_pegs_37 (by decide) ?_
      refine lv_bipush (v := nI 12) hx hb dX6_pegs_38 (by decide) ?_
      refine lv_aload_n hx hb dX6_pegs_40 rfl (lv_at hl 2 rfl) ?_
      refine x_getr CF hK hP 0 (by decide) dR_0 rfl uX6 0 (by decide) (j := 1) rfl wd3_96 rfl dX6_pegs_41 ?_
      refine lv_bipush (v := nI 79) hx hb dX6_pegs_44 (by decide) ?_
      refine lv_iload_n hx hb dX6_pegs_46 rfl (lv_at hl 3 rfl) ?_
      refine x_iadd hx hb dX6_pegs_47 ?_
      refine x_iald CF hK hP 1 (by decide) dR_1 (79 + k) (by omega) (by decide) dX6_pegs_48 ?_
      refine x_imul hx hb dX6_pegs_49 ?_
      refine x_iadd hx hb dX6_pegs_50 ?_
      refine lv_iload hx hb dX6_pegs_51 (lv_at hl 0 rfl) ?_
      refine x_iadd hx hb dX6_pegs_53 ?_
      refine x_iald CF hK hP 1 (by decide) dR_1 ((1 + (12 * (M 1 (79 + k)))) + a) (by omega) (by decide) dX6_pegs_54 ?_
      refine lv_aload_n hx hb dX6_pegs_55 rfl (lv_at hl 2 rfl) ?_
      refine x_getr CF hK hP 0 (by decide) dR_0 rfl uX6 0 (by decide) (j := 1) rfl wd3_96 rfl dX6_pegs_56 ?_
      refine lv_bipush (v := nI 104) hx hb dX6_pegs_59 (by decide) ?_
      refine x_iald CF hK hP 1 (by decide) dR_1 104 (by omega) (by decide) dX6_pegs_61 ?_
      refine x_zlt (u := (M 1 ((1 + (12 * (M 1 (79 + k)))) + a) : Nat)) (v := (M 1 104 : Nat)) (tgt := 72) hx hb (nI_toInt (by omega)) (nI_toInt (by omega)) dX6_pegs_62 (by decide) (fun h_11 => ?_) (fun h_11 => ?_)
      · refine lv_iconst (v := nI 0) hx hb dX6_pegs_72 (by decide) ?_
        refine x_ior hx hb dX6_pegs_73 ?_
        refine lv_istore_n (lv' := [(3, .int (nI ((setN (fun i => decide (M 1 104 ≤ M 1 (1 + 12 * M 1 (79 + k) + i))) a) ||| 0))), (4, .int (nI a)), (0, .ref (ad 0)), (1, .int (nI k)), (2, .int (nI 0))]) hx hb dX6_pegs_74 rfl hl (by decide) rfl (fun ls hl => ?_)
        refine lv_iinc (v := nI (a + 1)) (lv' := [(4, .int (nI (a + 1))), (3, .int (nI ((setN (fun i => decide (M 1 104 ≤ M 1 (1 + 12 * M 1 (79 + k) + i))) a) ||| 0))), (0, .ref (ad 0)), (1, .int (nI k)), (2, .int (nI 0))]) hx hb dX6_pegs_75 hl (k := 1) rfl (n_inc a 1) (by decide) rfl (fun ls hl => ?_)
        refine lv_goto (tgt := 25) hx hb dX6_pegs_78 (by decide) ?_
        have hl0 : lv_has ls 8 [(4, .int (nI (a + 1))), (3, .int (nI (setN (fun i => decide (M 1 104 ≤ M 1 (1 + 12 * M 1 (79 + k) + i))) (a + 1)))), (0, .ref (ad 0)), (1, .int (nI k)), (2, .int (nI 0))] := by rw [(show nI (setN (fun i => decide (M 1 104 ≤ M 1 (1 + 12 * M 1 (79 + k) + i))) (a + 1)) = nI ((setN (fun i => decide (M 1 104 ≤ M 1 (1 + 12 * M 1 (79 + k) + i))) a) ||| 0) from by first | rfl | (congr 1; omega) | (refine congrArg nI ?_; first | rfl | (exact (setN_t (decide_eq_true (by omega)))) | (exact (setN_f (decide_eq_false (by omega)))) | (rw [Nat.or_zero]; exact (setN_f (decide_eq_false (by omega))))))]; exact lv_sub hl [0, 1, 2, 3, 4] rfl
        exact ih25 (a + 1) (by omega) _ _ _ (hP) hS hl0
      · refine lv_iconst (v := nI 1) hx hb dX6_pegs_65 (by decide) ?_
        refine lv_iload hx hb dX6_pegs_66 (lv_at hl 0 rfl) ?_
        refine x_ishl hx hb (by omega) dX6_pegs_68 ?_
        refine lv_goto (tgt := 73) hx hb dX6_pegs_69 (by decide) ?_
        refine x_ior hx hb dX6_pegs_73 ?_
        refine lv_istore_n (lv' := [(3, .int (nI ((setN (fun i => decide (M 1 104 ≤ M 1 (1 + 12 * M 1 (79 + k) + i))) a) ||| (1 <<< a)))), (4, .int (nI a)), (0, .ref (ad 0)), (1, .int (nI k)), (2, .int (nI 0))]) hx hb dX6_pegs_74 rfl hl (by decide) rfl (fun ls hl => ?_)
        refine lv_iinc (v := nI (a + 1)) (lv' := [(4, .int (nI (a + 1))), (3, .int (nI ((setN (fun i => decide (M 1 104 ≤ M 1 (1 + 12 * M 1 (79 + k) + i))) a) ||| (1 <<< a)))), (0, .ref (ad 0)), (1, .int (nI k)), (2, .int (nI 0))]) hx hb dX6_pegs_75 hl (k := 1) rfl (n_inc a 1) (by decide) rfl (fun ls hl => ?_)
        refine lv_goto (tgt := 25) hx hb dX6_pegs_78 (by decide) ?_
        have hl0 : lv_has ls 8 [(4, .int (nI (a + 1))), (3, .int (nI (setN (fun i => decide (M 1 104 ≤ M 1 (1 + 12 * M 1 (79 + k) + i))) (a + 1)))), (0, .ref (ad 0)), (1, .int (nI k)), (2, .int (nI 0))] := by rw [(show nI (setN (fun i => decide (M 1 104 ≤ M 1 (1 + 12 * M 1 (79 + k) + i))) (a + 1)) = nI ((setN (fun i => decide (M 1 104 ≤ M 1 (1 + 12 * M 1 (79 + k) + i))) a) ||| (1 <<< a)) from by first | rfl | (congr 1; omega) | (refine congrArg nI ?_; first | rfl | (exact (setN_t (decide_eq_true (by omega)))) | (exact (setN_f (decide_eq_false (by omega)))) | (rw [Nat.or_zero]; exact (setN_f (decide_eq_false (by omega))))))]; exact lv_sub hl [0, 1, 2, 3, 4] rfl
        exact ih25 (a + 1) (by omega) _ _ _ (hP) hS hl0
  have hl0 : lv_has ls 8 [(4, .int (nI 0)), (3, .int (nI (setN (fun i => decide (M 1 104 ≤ M 1 (1 + 12 * M 1 (79 + k) + i))) 0))), (0, .ref (ad 0)), (1, .int (nI k)), (2, .int (nI 0))] := by rw [(show nI (setN (fun i => decide (M 1 104 ≤ M 1 (1 + 12 * M 1 (79 + k) + i))) 0) = nI 0 from rfl)]; exact lv_sub hl [0, 1, 2, 3, 4] rfl
  exact L25 12 0 (by omega) _ _ _ (hP) hS hl0
set_option maxHeartbeats 4000000 in
set_option maxRecDepth 100000 in
theorem r_pegs_1 {l : Launch} {g : gE} {ad : Nat → Nat} (hI : g_inj ad 14) (M : gMem) (J : gMeL) (hw : wfR M) (k : Nat) (hk : k < M 1 73) : CI l g ad dsR 14 yX6_pegs cX6_pegs 8 (some .int) 3 [.ref (ad 0), .int (nI k), .int (nI 1)] M J (nI (best (pegR M k) 12).2) M J := by
  refine CI.of (plainFor_of_name (by decide)) (Nat.le_of_ble_eq_true rfl) (fun p9 e9 s9 m9 args9 below9 meth9 c9 CF hK hr9 hlk9 hP hS ls hl => ?_)
  have hx := CF.1
  have hb := CF.2.1
  have hA : ∀ q, g_A ad 14 q → g_A ad 14 q := fun _ h => h
  have hl : lv_has ls 8 [(0, .ref (ad 0)), (1, .int (nI k)), (2, .int (nI 1))] := hl
  have hnc := hw.nc
  have hnf := hw.nf
  have hwy := hw.way
  have hf := hw.fig (show k < 5 by omega)
  have hln := hw.line
  refine lv_aload_n hx hb dX6_pegs_0 rfl (lv_at hl 0 rfl) ?_
  refine lv_iload_n hx hb dX6_pegs_1 rfl (lv_at hl 1 rfl) ?_
  refine x_callVI CF hK hP hS hA hl (As := [.int (nI k)]) (rest := []) (r_isFigure_t hI M J k (by omega) (by omega)) kw_X6_isFigure wd3_196 (by decide) dR_0 rfl rfl ⟨Nat.le_of_ble_eq_true rfl, Nat.le_of_ble_eq_true rfl⟩ ⟨Nat.le_refl _, Nat.le_refl _⟩ (Nat.le_of_ble_eq_true rfl) dX6_pegs_2 (fun H locs hP hS => ?_)
  refine x_yeq (u := (1 : Int)) (tgt := 18) hx hb (rfl) dX6_pegs_5 (by decide) (fun h_1 => (by omega : False).elim) (fun h_1 => ?_)
  refine lv_iload_n hx hb dX6_pegs_8 rfl (lv_at hl 2 rfl) ?_
  refine lv_i2l hx hb dX6_pegs_9 (nI_l (by omega)) ?_
  refine lv_lconst (v := (0 : Int64)) hx hb dX6_pegs_10 rfl ?_
  refine lv_lconst (v := (1 : Int64)) hx hb dX6_pegs_11 rfl ?_
  refine x_callSP CF hK hP hS hl (As := [.long (lN 1), .long (0 : Int64), .long (1 : Int64)]) (rest := []) (r_in_t _ _ _ (il_in (lo := 0) (hi := 1) (by omega) (by omega) (by omega))) kw_X6_in wd3_147 rfl ⟨Nat.le_of_ble_eq_true rfl, Nat.le_of_ble_eq_true rfl⟩ ⟨Nat.le_refl _, Nat.le_refl _⟩ (Nat.le_of_ble_eq_true rfl) dX6_pegs_12 (fun H locs hP hS => ?_)
  refine x_yne (u := (1 : Int)) (tgt := 20) hx hb (rfl) dX6_pegs_15 (by decide) (fun h_2 => ?_) (fun h_2 => (by omega : False).elim)
  refine lv_iconst (v := nI 0) hx hb dX6_pegs_20 (by decide) ?_
  refine lv_istore_n (lv' := [(3, .int (nI 0)), (0, .ref (ad 0)), (1, .int (nI k)), (2, .int (nI 1))]) hx hb dX6_pegs_21 rfl hl (by decide) rfl (fun ls hl => ?_)
  refine lv_iconst (v := nI 0) hx hb dX6_pegs_22 (by decide) ?_
  refine lv_istore (lv' := [(4, .int (nI 0)), (3, .int (nI 0)), (0, .ref (ad 0)), (1, .int (nI k)), (2, .int (nI 1))]) hx hb dX6_pegs_23 hl (by decide) rfl (fun ls hl => ?_)
  have L25 : ∀ (d25 : Nat) (a : Nat), (a + d25 = 12) → (∀ (H : Heap) (locs : List Loc) (ls : Array Slot), g_P g ad dsR 14 M J H → va_S (g_A ad 14) s9.heap H locs → lv_has ls 8 [(4, .int (nI a)), (3, .int (nI (setN (fun i => decide (M 1 104 ≤ M 1 (1 + 12 * M 1 (79 + k) + i))) a))), (0, .ref (ad 0)), (1, .int (nI k)), (2, .int (nI 1))] → W p9 l e9 (g_rm 3) s9 m9 args9 below9 meth9 c9 H locs 0 0 (MQ below9 (va_Qi (fun r' (_ : Unit) => r' = (nI (best (pegR M k) 12).2)) (fun _ t => g_P g ad dsR 14 M J t.heap) (g_A ad 14)) args9 s9 0 0 (g_A ad 14)) (F0 m9 25 ls [])) := by
    intro d25
    induction d25 with
    | zero =>
      intro a h_a H locs ls hP hS hl
      have e12 : a = 12 := by omega
      refine lv_iload hx hb dX6_pegs_25 (lv_at hl 0 rfl) ?_
      refine lv_bipush (v := nI 12) hx hb dX6_pegs_27 (by decide) ?_
      refine x_zge (u := (a : Nat)) (v := (12 : Int)) (tgt := 81) hx hb (nI_toInt (by omega)) (rfl) dX6_pegs_29 (by decide) (fun h_3 => ?_) (fun h_3 => (by omega : False).elim)
      refine lv_iconst (v := nI 0) hx hb dX6_pegs_81 (by decide) ?_
      refine lv_istore (lv' := [(4, .int (nI 0)), (3, .int (nI (setN (fun i => decide (M 1 104 ≤ M 1 (1 + 12 * M 1 (79 + k) + i))) a))), (0, .ref (ad 0)), (1, .int (nI k)), (2, .int (nI 1))]) hx hb dX6_pegs_82 hl (by decide) rfl (fun ls hl => ?_)
      refine lv_bipush (v := nI 13) hx hb dX6_pegs_84 (by decide) ?_
      refine lv_istore (lv' := [(5, .int (nI 13)), (4, .int (nI 0)), (3, .int (nI (setN (fun i => decide (M 1 104 ≤ M 1 (1 + 12 * M 1 (79 + k) + i))) a))), (0, .ref (ad 0)), (1, .int (nI k)), (2, .int (nI 1))]) hx hb dX6_pegs_86 hl (by decide) rfl (fun ls hl => ?_)
      refine lv_iconst (v := nI 0) hx hb dX6_pegs_88 (by decide) ?_
      refine lv_istore (lv' := [(6, .int (nI 0)), (5, .int (nI 13)), (4, .int (nI 0)), (3, .int (nI (setN (fun i => decide (M 1 104 ≤ M 1 (1 + 12 * M 1 (79 + k) + i))) a))), (0, .ref (ad 0)), (1, .int (nI k)), (2, .int (nI 1))]) hx hb dX6_pegs_89 hl (by decide) rfl (fun ls hl => ?_)
      have L91 : ∀ (d91 : Nat) (z : Nat), (z + d91 = 12) → (∀ (H : Heap) (locs : List Loc) (ls : Array Slot), g_P g ad dsR 14 M J H → va_S (g_A ad 14) s9.heap H locs → lv_has ls 8 [(6, .int (nI z)), (5, .int (nI ((best (pegR M k) z).1))), (4, .int (nI ((best (pegR M k) z).2))), (3, .int (nI (setN (fun i => decide (M 1 104 ≤ M 1 (1 + 12 * M 1 (79 + k) + i))) a))), (0, .ref (ad 0)), (1, .int (nI k)), (2, .int (nI 1))] → W p9 l e9 (g_rm 3) s9 m9 args9 below9 meth9 c9 H locs 0 0 (MQ below9 (va_Qi (fun r' (_ : Unit) => r' = (nI (best (pegR M k) 12).2)) (fun _ t => g_P g ad dsR 14 M J t.heap) (g_A ad 14)) args9 s9 0 0 (g_A ad 14)) (F0 m9 91 ls [])) := by
        intro d91
        induction d91 with
        | zero =>
          intro z h_z H locs ls hP hS hl
          refine lv_iload hx hb dX6_pegs_91 (lv_at hl 0 rfl) ?_
          refine lv_bipush (v := nI 12) hx hb dX6_pegs_93 (by decide) ?_
          refine x_zge (u := (z : Nat)) (v := (12 : Int)) (tgt := 176) hx hb (nI_toInt (by omega)) (rfl) dX6_pegs_95 (by decide) (fun h_4 => ?_) (fun h_4 => (by omega : False).elim)
          refine lv_iload_n hx hb dX6_pegs_176 rfl (lv_at hl 6 rfl) ?_
          refine x_yne (u := (1 : Int)) (tgt := 185) hx hb (rfl) dX6_pegs_177 (by decide) (fun h_5 => ?_) (fun h_5 => (by omega : False).elim)
          refine lv_iload hx hb dX6_pegs_185 (lv_at hl 2 rfl) ?_
          exact x_reti hx hb hr9 hlk9 hS hP (by rw [show z = 12 by omega]) dX6_pegs_187
        | succ d91 ih91 =>
          intro z h_z H locs ls hP hS hl
          have b1 := best_le (pegR M k) z
          have b2 := best_2 (pegR M k) z
          have b3 : pegR M k z ≤ 12 := cntN_le _ _
          have bm : misd (rot (M 1 (94 + k)) z) (rot (M 1 (99 + k)) z) (setN (fun i => decide (M 1 104 ≤ M 1 (1 + 12 * M 1 (79 + k) + i))) 12) < 4096 := misd_lt _ (rot_lt _ _) (rot_lt _ _)
          refine lv_iload hx hb dX6_pegs_91 (lv_at hl 0 rfl) ?_
          refine lv_bipush (v := nI 12) hx hb dX6_pegs_93 (by decide) ?_
          refine x_zge (u := (z : Nat)) (v := (12 : Int)) (tgt := 176) hx hb (nI_toInt (by omega)) (rfl) dX6_pegs_95 (by decide) (fun h_6 => (by omega : False).elim) (fun h_6 => ?_)
          refine lv_aload_n hx hb dX6_pegs_98 rfl (lv_at hl 4 rfl) ?_
          refine x_getr CF hK hP 0 (by decide) dR_0 rfl uX6 0 (by decide) (j := 1) rfl wd3_96 rfl dX6_pegs_99 ?_
          refine lv_bipush (v := nI 94) hx hb dX6_pegs_102 (by decide) ?_
          refine lv_iload_n hx hb dX6_pegs_104 rfl (lv_at hl 5 rfl) ?_
          refine x_iadd hx hb dX6_pegs_105 ?_
          refine x_iald CF hK hP 1 (by decide) dR_1 (94 + k) (by omega) (by decide) dX6_pegs_106 ?_
          refine lv_iload hx hb dX6_pegs_107 (lv_at hl 0 rfl) ?_
          refine x_callSP CF hK hP hS hl (As := [.int (nI (M 1 (94 + k))), .int (nI z)]) (rest := []) (r_turned (M 1 (94 + k)) z (by omega) (by omega)) kw_X6_turned wd4_44 rfl ⟨Nat.le_of_ble_eq_true rfl, Nat.le_of_ble_eq_true rfl⟩ ⟨Nat.le_refl _, Nat.le_refl _⟩ (Nat.le_of_ble_eq_true rfl) dX6_pegs_109 (fun H locs hP hS => ?_)
          refine lv_iload_n hx hb dX6_pegs_112 rfl (lv_at hl 3 rfl) ?_
          refine lv_iconst (v := nI 4294967295) hx hb dX6_pegs_113 (by decide) ?_
          refine x_ixor hx hb dX6_pegs_114 ?_
          refine x_iand hx hb dX6_pegs_115 ?_
          refine lv_aload_n hx hb dX6_pegs_116 rfl (lv_at hl 4 rfl) ?_
          refine x_getr CF hK hP 0 (by decide) dR_0 rfl uX6 0 (by decide) (j := 1) rfl wd3_96 rfl dX6_pegs_117 ?_
          refine lv_bipush (v := nI 99) hx hb dX6_pegs_120 (by decide) ?_
          refine lv_iload_n hx hb dX6_pegs_122 rfl (lv_at hl 5 rfl) ?_
          refine x_iadd hx hb dX6_pegs_123 ?_
          refine x_iald CF hK hP 1 (by decide) dR_1 (99 + k) (by omega) (by decide) dX6_pegs_124 ?_
          refine lv_iload hx hb dX6_pegs_125 (lv_at hl 0 rfl) ?_
          refine x_callSP CF hK hP hS hl (As := [.int (nI (M 1 (99 + k))), .int (nI z)]) (rest := [.int (nI ((rot (M 1 (94 + k)) z) &&& ((setN (fun i => decide (M 1 104 ≤ M 1 (1 + 12 * M 1 (79 + k) + i))) a) ^^^ 4294967295)))]) (r_turned (M 1 (99 + k)) z (by omega) (by omega)) kw_X6_turned wd4_44 rfl ⟨Nat.le_of_ble_eq_true rfl, Nat.le_of_ble_eq_true rfl⟩ ⟨Nat.le_refl _, Nat.le_refl _⟩ (Nat.le_of_ble_eq_true rfl) dX6_pegs_127 (fun H locs hP hS => ?_)
          refine lv_iload_n hx hb dX6_pegs_130 rfl (lv_at hl 3 rfl) ?_
          refine x_iand hx hb dX6_pegs_131 ?_
          refine x_ior hx hb dX6_pegs_132 ?_
          refine x_ri (show (nI (((rot (M 1 (94 + k)) z) &&& ((setN (fun i => decide (M 1 104 ≤ M 1 (1 + 12 * M 1 (79 + k) + i))) a) ^^^ 4294967295)) ||| ((rot (M 1 (99 + k)) z) &&& (setN (fun i => decide (M 1 104 ≤ M 1 (1 + 12 * M 1 (79 + k) + i))) a)))) = nI (misd (rot (M 1 (94 + k)) z) (rot (M 1 (99 + k)) z) (setN (fun i => decide (M 1 104 ≤ M 1 (1 + 12 * M 1 (79 + k) + i))) 12)) from by rw [e12]; rfl) ?_
          refine x_callSP CF hK hP hS hl (As := [.int (nI (misd (rot (M 1 (94 + k)) z) (rot (M 1 (99 + k)) z) (setN (fun i => decide (M 1 104 ≤ M 1 (1 + 12 * M 1 (79 + k) + i))) 12)))]) (rest := []) (r_ones (misd (rot (M 1 (94 + k)) z) (rot (M 1 (99 + k)) z) (setN (fun i => decide (M 1 104 ≤ M 1 (1 + 12 * M 1 (79 + k) + i))) 12)) (by omega)) kw_X6_ones wd3_204 rfl ⟨Nat.le_of_ble_eq_true rfl, Nat.le_of_ble_eq_true rfl⟩ ⟨Nat.le_refl _, Nat.le_refl _⟩ (Nat.le_of_ble_eq_true rfl) dX6_pegs_133 (fun H locs hP hS => ?_)
          refine x_ri (show (nI (pop (misd (rot (M 1 (94 + k)) z) (rot (M 1 (99 + k)) z) (setN (fun i => decide (M 1 104 ≤ M 1 (1 + 12 * M 1 (79 + k) + i))) 12)))) = nI (pegR M k z) from rfl) ?_
          refine lv_istore (lv' := [(7, .int (nI (pegR M k z))), (6, .int (nI z)), (5, .int (nI ((best (pegR M k) z).1))), (4, .int (nI ((best (pegR M k) z).2))), (3, .int (nI (setN (fun i => decide (M 1 104 ≤ M 1 (1 + 12 * M 1 (79 + k) + i))) a))), (0, .ref (ad 0)), (1, .int (nI k)), (2, .int (nI 1))]) hx hb dX6_pegs_136 hl (by decide) rfl (fun ls hl => ?_)
          refine lv_iload hx hb dX6_pegs_138 (lv_at hl 0 rfl) ?_
          refine lv_iload hx hb dX6_pegs_140 (lv_at hl 2 rfl) ?_
          refine x_zge (u := (pegR M k z : Nat)) (v := ((best (pegR M k) z).1 : Nat)) (tgt := 150) hx hb (nI_toInt (by omega)) (nI_toInt (by omega)) dX6_pegs_142 (by decide) (fun h_7 => ?_) (fun h_7 => ?_)
          · refine lv_iload hx hb dX6_pegs_150 (lv_at hl 3 rfl) ?_
            refine lv_istore (lv' := [(4, .int (nI ((best (pegR M k) z).2))), (7, .int (nI (pegR M k z))), (6, .int (nI z)), (5, .int (nI ((best (pegR M k) z).1))), (3, .int (nI (setN (fun i => decide (M 1 104 ≤ M 1 (1 + 12 * M 1 (79 + k) + i))) a))), (0, .ref (ad 0)), (1, .int (nI k)), (2, .int (nI 1))]) hx hb dX6_pegs_152 hl (by decide) rfl (fun ls hl => ?_)
            refine lv_iload hx hb dX6_pegs_154 (lv_at hl 1 rfl) ?_
            refine lv_iload hx hb dX6_pegs_156 (lv_at hl 3 rfl) ?_
            refine x_zge (u := (pegR M k z : Nat)) (v := ((best (pegR M k) z).1 : Nat)) (tgt := 166) hx hb (nI_toInt (by omega)) (nI_toInt (by omega)) dX6_pegs_158 (by decide) (fun h_8 => ?_) (fun h_8 => (by omega : False).elim)
            refine lv_iload hx hb dX6_pegs_166 (lv_at hl 3 rfl) ?_
            refine lv_istore (lv' := [(5, .int (nI ((best (pegR M k) z).1))), (4, .int (nI ((best (pegR M k) z).2))), (7, .int (nI (pegR M k z))), (6, .int (nI z)), (3, .int (nI (setN (fun i => decide (M 1 104 ≤ M 1 (1 + 12 * M 1 (79 + k) + i))) a))), (0, .ref (ad 0)), (1, .int (nI k)), (2, .int (nI 1))]) hx hb dX6_pegs_168 hl (by decide) rfl (fun ls hl => ?_)
            refine lv_iinc (v := nI (z + 1)) (lv' := [(6, .int (nI (z + 1))), (5, .int (nI ((best (pegR M k) z).1))), (4, .int (nI ((best (pegR M k) z).2))), (7, .int (nI (pegR M k z))), (3, .int (nI (setN (fun i => decide (M 1 104 ≤ M 1 (1 + 12 * M 1 (79 + k) + i))) a))), (0, .ref (ad 0)), (1, .int (nI k)), (2, .int (nI 1))]) hx hb dX6_pegs_170 hl (k := 3) rfl (n_inc z 1) (by decide) rfl (fun ls hl => ?_)
            refine lv_goto (tgt := 91) hx hb dX6_pegs_173 (by decide) ?_
            have hl0 : lv_has ls 8 [(6, .int (nI (z + 1))), (5, .int (nI ((best (pegR M k) (z + 1)).1))), (4, .int (nI ((best (pegR M k) (z + 1)).2))), (3, .int (nI (setN (fun i => decide (M 1 104 ≤ M 1 (1 + 12 * M 1 (79 + k) + i))) a))), (0, .ref (ad 0)), (1, .int (nI k)), (2, .int (nI 1))] := by rw [(show nI ((best (pegR M k) (z + 1)).1) = nI ((best (pegR M k) z).1) from by rw [best_f (by omega)]), (show nI ((best (pegR M k) (z + 1)).2) = nI ((best (pegR M k) z).2) from by rw [best_f (by omega)])]; exact lv_sub hl [0, 1, 2, 4, 5, 6, 7] rfl
            exact ih91 (z + 1) (by omega) _ _ _ (hP) hS hl0
          · refine lv_iload hx hb dX6_pegs_145 (lv_at hl 1 rfl) ?_
            refine lv_goto (tgt := 152) hx hb dX6_pegs_147 (by decide) ?_
            refine lv_istore (lv' := [(4, .int (nI z)), (7, .int (nI (pegR M k z))), (6, .int (nI z)), (5, .int (nI ((best (pegR M k) z).1))), (3, .int (nI (setN (fun i => decide (M 1 104 ≤ M 1 (1 + 12 * M 1 (79 + k) + i))) a))), (0, .ref (ad 0)), (1, .int (nI k)), (2, .int (nI 1))]) hx hb dX6_pegs_152 hl (by decide) rfl (fun ls hl => ?_)
            refine lv_iload hx hb dX6_pegs_154 (lv_at hl 1 rfl) ?_
            refine lv_iload hx hb dX6_pegs_156 (lv_at hl 3 rfl) ?_
            refine x_zge (u := (pegR M k z : Nat)) (v := ((best (pegR M k) z).1 : Nat)) (tgt := 166) hx hb (nI_toInt (by omega)) (nI_toInt (by omega)) dX6_pegs_158 (by decide) (fun h_9 => (by omega : False).elim) (fun h_9 => ?_)
            refine lv_iload hx hb dX6_pegs_161 (lv_at hl 1 rfl) ?_
            refine lv_goto (tgt := 168) hx hb dX6_pegs_163 (by decide) ?_
            refine lv_istore (lv' := [(5, .int (nI (pegR M k z))), (4, .int (nI z)), (7, .int (nI (pegR M k z))), (6, .int (nI z)), (3, .int (nI (setN (fun i => decide (M 1 104 ≤ M 1 (1 + 12 * M 1 (79 + k) + i))) a))), (0, .ref (ad 0)), (1, .int (nI k)), (2, .int (nI 1))]) hx hb dX6_pegs_168 hl (by decide) rfl (fun ls hl => ?_)
            refine lv_iinc (v := nI (z + 1)) (lv' := [(6, .int (nI (z + 1))), (5, .int (nI (pegR M k z))), (4, .int (nI z)), (7, .int (nI (pegR M k z))), (3, .int (nI (setN (fun i => decide (M 1 104 ≤ M 1 (1 + 12 * M 1 (79 + k) + i))) a))), (0, .ref (ad 0)), (1, .int (nI k)), (2, .int (nI 1))]) hx hb dX6_pegs_170 hl (k := 3) rfl (n_inc z 1) (by decide) rfl (fun ls hl => ?_)
            refine lv_goto (tgt := 91) hx hb dX6_pegs_173 (by decide) ?_
            have hl0 : lv_has ls 8 [(6, .int (nI (z + 1))), (5, .int (nI ((best (pegR M k) (z + 1)).1))), (4, .int (nI ((best (pegR M k) (z + 1)).2))), (3, .int (nI (setN (fun i => decide (M 1 104 ≤ M 1 (1 + 12 * M 1 (79 + k) + i))) a))), (0, .ref (ad 0)), (1, .int (nI k)), (2, .int (nI 1))] := by rw [(show nI ((best (pegR M k) (z + 1)).1) = nI (pegR M k z) from by rw [best_t (by omega)]), (show nI ((best (pegR M k) (z + 1)).2) = nI z from by rw [best_t (by omega)])]; exact lv_sub hl [0, 1, 2, 4, 5, 6, 7] rfl
            exact ih91 (z + 1) (by omega) _ _ _ (hP) hS hl0
      have hl0 : lv_has ls 8 [(6, .int (nI 0)), (5, .int (nI ((best (pegR M k) 0).1))), (4, .int (nI ((best (pegR M k) 0).2))), (3, .int (nI (setN (fun i => decide (M 1 104 ≤ M 1 (1 + 12 * M 1 (79 + k) + i))) a))), (0, .ref (ad 0)), (1, .int (nI k)), (2, .int (nI 1))] := by rw [(show nI ((best (pegR M k) 0).1) = nI 13 from rfl), (show nI ((best (pegR M k) 0).2) = nI 0 from rfl)]; exact lv_sub hl [0, 1, 2, 3, 4, 5, 6] rfl
      exact L91 12 0 (by omega) _ _ _ (hP) hS hl0
    | succ d25 ih25 =>
      intro a h_a H locs ls hP hS hl
      have b1 := hw.row (show M 1 (79 + k) < 6 by omega) (show a < 12 by omega)
      refine lv_iload hx hb dX6_pegs_25 (lv_at hl 0 rfl) ?_
      refine lv_bipush (v := nI 12) hx hb dX6_pegs_27 (by decide) ?_
      refine x_zge (u := (a : Nat)) (v := (12 : Int)) (tgt := 81) hx hb (nI_toInt (by omega)) (rfl) dX6_pegs_29 (by decide) (fun h_10 => (by omega : False).elim) (fun h_10 => ?_)
      refine lv_iload_n hx hb dX6_pegs_32 rfl (lv_at hl 1 rfl) ?_
      refine lv_aload_n hx hb dX6_pegs_33 rfl (lv_at hl 2 rfl) ?_
      refine x_getr CF hK hP 0 (by decide) dR_0 rfl uX6 0 (by decide) (j := 1) rfl wd3_96 rfl dX6_pegs_34 ?_
      refine lv_iconst (v := nI 1) hx hb dX6_pegs_37 (by decide) ?_
      refine lv_bipush (v := nI 12) hx hb dX6_pegs_38 (by decide) ?_
      refine lv_aload_n hx hb dX6_pegs_40 rfl (lv_at hl 2 rfl) ?_
      refine x_getr CF hK hP 0 (by decide) dR_0 rfl uX6 0 (by decide) (j := 1) rfl wd3_96 rfl dX6_pegs_41 ?_
      refine lv_bipush (v := nI 79) hx hb dX6_pegs_44 (by decide) ?_
      refine lv_iload_n hx hb dX6_pegs_46 rfl (lv_at hl 3 rfl) ?_
      refine x_iadd hx hb dX6_pegs_47 ?_
      refine x_iald CF hK hP 1 (by decide) dR_1 (79 + k) (by omega) (by decide) dX6_pegs_48 ?_
      refine x_imul hx hb dX6_pegs_49 ?_
      refine x_iadd hx hb dX6_pegs_50 ?_
      refine lv_iload hx hb dX6_pegs_51 (lv_at hl 0 rfl) ?_
      refine x_iadd hx hb dX6_pegs_53 ?_
      refine x_iald CF hK hP 1 (by decide) dR_1 ((1 + (12 * (M 1 (79 + k)))) + a) (by omega) (by decide) dX6_pegs_54 ?_
      refine lv_aload_n hx hb dX6_pegs_55 rfl (lv_at hl 2 rfl) ?_
      refine x_getr CF hK hP 0 (by decide) dR_0 rfl uX6 0 (by decide) (j := 1) rfl wd3_96 rfl dX6_pegs_56 ?_
      refine lv_bipush (v := nI 104) hx hb dX6_pegs_59 (by decide) ?_
      refine x_iald CF hK hP 1 (by decide) dR_1 104 (by omega) (by decide) dX6_pegs_61 ?_
      refine x_zlt (u := (M 1 ((1 + (12 * (M 1 (79 + k)))) + a) : Nat)) (v := (M 1 104 : Nat)) (tgt := 72) hx hb (nI_toInt (by omega)) (nI_toInt (by omega)) dX6_pegs_62 (by decide) (fun h_11 => ?_) (fun h_11 => ?_)
      · refine lv_iconst (v := nI 0) hx hb dX6_pegs_72 (by decide) ?_
        refine x_ior hx hb dX6_pegs_73 ?_
        refine lv_istore_n (lv' := [(3, .int (nI ((setN (fun i => decide (M 1 104 ≤ M 1 (1 + 12 * M 1 (79 + k) + i))) a) ||| 0))), (4, .int (nI a)), (0, .ref (ad 0)), (1, .int (nI k)), (2, .int (nI 1))]) hx hb dX6_pegs_74 rfl hl (by decide) rfl (fun ls hl => ?_)
        refine lv_iinc (v := nI (a + 1)) (lv' := [(4, .int (nI (a + 1))), (3, .int (nI ((setN (fun i => decide (M 1 104 ≤ M 1 (1 + 12 * M 1 (79 + k) + i))) a) ||| 0))), (0, .ref (ad 0)), (1, .int (nI k)), (2, .int (nI 1))]) hx hb dX6_pegs_75 hl (k := 1) rfl (n_inc a 1) (by decide) rfl (fun ls hl => ?_)
        refine lv_goto (tgt := 25) hx hb dX6_pegs_78 (by decide) ?_
        have hl0 : lv_has ls 8 [(4, .int (nI (a + 1))), (3, .int (nI (setN (fun i => decide (M 1 104 ≤ M 1 (1 + 12 * M 1 (79 + k) + i))) (a + 1)))), (0, .ref (ad 0)), (1, .int (nI k)), (2, .int (nI 1))] := by rw [(show nI (setN (fun i => decide (M 1 104 ≤ M 1 (1 + 12 * M 1 (79 + k) + i))) (a + 1)) = nI ((setN (fun i => decide (M 1 104 ≤ M 1 (1 + 12 * M 1 (79 + k) + i))) a) ||| 0) from by first | rfl | (congr 1; omega) | (refine congrArg nI ?_; first | rfl | (exact (setN_t (decide_eq_true (by omega)))) | (exact (setN_f (decide_eq_false (by omega)))) | (rw [Nat.or_zero]; exact (setN_f (decide_eq_false (by omega))))))]; exact lv_sub hl [0, 1, 2, 3, 4] rfl
        exact ih25 (a + 1) (by omega) _ _ _ (hP) hS hl0
      · refine lv_iconst (v := nI 1) hx hb dX6_pegs_65 (by decide) ?_
        refine lv_iload hx hb dX6_pegs_66 (lv_at hl 0 rfl) ?_
        refine x_ishl hx hb (by omega) dX6_pegs_68 ?_
        refine lv_goto (tgt := 73) hx hb dX6_pegs_69 (by decide) ?_
        refine x_ior hx hb dX6_pegs_73 ?_
        refine lv_istore_n (lv' := [(3, .int (nI ((setN (fun i => decide (M 1 104 ≤ M 1 (1 + 12 * M 1 (79 + k) + i))) a) ||| (1 <<< a)))), (4, .int (nI a)), (0, .ref (ad 0)), (1, .int (nI k)), (2, .int (nI 1))]) hx hb dX6_pegs_74 rfl hl (by decide) rfl (fun ls hl => ?_)
        refine lv_iinc (v := nI (a + 1)) (lv' := [(4, .int (nI (a + 1))), (3, .int (nI ((setN (fun i => decide (M 1 104 ≤ M 1 (1 + 12 * M 1 (79 + k) + i))) a) ||| (1 <<< a)))), (0, .ref (ad 0)), (1, .int (nI k)), (2, .int (nI 1))]) hx hb dX6_pegs_75 hl (k := 1) rfl (n_inc a 1) (by decide) rfl (fun ls hl => ?_)
        refine lv_goto (tgt := 25) hx hb dX6_pegs_78 (by decide) ?_
        have hl0 : lv_has ls 8 [(4, .int (nI (a + 1))), (3, .int (nI (setN (fun i => decide (M 1 104 ≤ M 1 (1 + 12 * M 1 (79 + k) + i))) (a + 1)))), (0, .ref (ad 0)), (1, .int (nI k)), (2, .int (nI 1))] := by rw [(show nI (setN (fun i => decide (M 1 104 ≤ M 1 (1 + 12 * M 1 (79 + k) + i))) (a + 1)) = nI ((setN (fun i => decide (M 1 104 ≤ M 1 (1 + 12 * M 1 (79 + k) + i))) a) ||| (1 <<< a)) from by first | rfl | (congr 1; omega) | (refine congrArg nI ?_; first | rfl | (exact (setN_t (decide_eq_true (by omega)))) | (exact (setN_f (decide_eq_false (by omega)))) | (rw [Nat.or_zero]; exact (setN_f (decide_eq_false (by omega))))))]; exact lv_sub hl [0, 1, 2, 3, 4] rfl
        exact ih25 (a + 1) (by omega) _ _ _ (hP) hS hl0
  have hl0 : lv_has ls 8 [(4, .int (nI 0)), (3, .int (nI (setN (fun i => decide (M 1 104 ≤ M 1 (1 + 12 * M 1 (79 + k) + i))) 0))), (0, .ref (ad 0)), (1, .int (nI k)), (2, .int (nI 1))] := by rw [(show nI (setN (fun i => decide (M 1 104 ≤ M 1 (1 + 12 * M 1 (79 + k) + i))) 0) = nI 0 from rfl)]; exact lv_sub hl [0, 1, 2, 3, 4] rfl
  exact L25 12 0 (by omega) _ _ _ (hP) hS hl0
set_option maxHeartbeats 4000000 in
set_option maxRecDepth 100000 in
theorem r_pegs_bad {l : Launch} {g : gE} {ad : Nat → Nat} (hI : g_inj ad 14) (M : gMem) (J : gMeL) (hw : wfR M) (k w : Int32) (h : ¬ (inR k (M 1 73) ∧ inR w 2)) : CI l g ad dsR 14 yX6_pegs cX6_pegs 8 (some .int) 3 [.ref (ad 0), .int k, .int w] M J (nI 4294967295) M J := by
  refine CI.of (plainFor_of_name (by decide)) (Nat.le_of_ble_eq_true rfl) (fun p9 e9 s9 m9 args9 below9 meth9 c9 CF hK hr9 hlk9 hP hS ls hl => ?_)
  have hx := CF.1
  have hb := CF.2.1
  have hA : ∀ q, g_A ad 14 q → g_A ad 14 q := fun _ h => h
  have hl : lv_has ls 8 [(0, .ref (ad 0)), (1, .int k), (2, .int w)] := hl
  have hnc := hw.nc
  have hnf := hw.nf
  have hwy := hw.way
  refine lv_aload_n hx hb dX6_pegs_0 rfl (lv_at hl 0 rfl) ?_
  refine lv_iload_n hx hb dX6_pegs_1 rfl (lv_at hl 1 rfl) ?_
  rcases n_int (x := k) (n := M 1 73) (by omega) with ⟨k1, h_k1, rfl⟩ | ho_k
  · refine x_callVI CF hK hP hS hA hl (As := [.int (nI k1)]) (rest := []) (r_isFigure_t hI M J k1 (by omega) (by omega)) kw_X6_isFigure wd3_196 (by decide) dR_0 rfl rfl ⟨Nat.le_of_ble_eq_true rfl, Nat.le_of_ble_eq_true rfl⟩ ⟨Nat.le_refl _, Nat.le_refl _⟩ (Nat.le_of_ble_eq_true rfl) dX6_pegs_2 (fun H locs hP hS => ?_)
    refine x_yeq (u := (1 : Int)) (tgt := 18) hx hb (rfl) dX6_pegs_5 (by decide) (fun h_1 => (by omega : False).elim) (fun h_1 => ?_)
    refine lv_iload_n hx hb dX6_pegs_8 rfl (lv_at hl 2 rfl) ?_
    rcases n_int (x := w) (n := 2) (by omega) with ⟨w1, h_w1, rfl⟩ | ho_w
    · refine lv_i2l hx hb dX6_pegs_9 (nI_l (by omega)) ?_
      refine lv_lconst (v := (0 : Int64)) hx hb dX6_pegs_10 rfl ?_
      refine lv_lconst (v := (1 : Int64)) hx hb dX6_pegs_11 rfl ?_
      refine x_callSP CF hK hP hS hl (As := [.long (lN w1), .long (0 : Int64), .long (1 : Int64)]) (rest := []) (r_in_t _ _ _ (il_in (lo := 0) (hi := 1) (by omega) (by omega) (by omega))) kw_X6_in wd3_147 rfl ⟨Nat.le_of_ble_eq_true rfl, Nat.le_of_ble_eq_true rfl⟩ ⟨Nat.le_refl _, Nat.le_refl _⟩ (Nat.le_of_ble_eq_true rfl) dX6_pegs_12 (fun H locs hP hS => ?_)
      refine x_yne (u := (1 : Int)) (tgt := 20) hx hb (rfl) dX6_pegs_15 (by decide) (fun h_2 => ?_) (fun h_2 => (by omega : False).elim)
      exact absurd ⟨inR_n h_k1 (by omega), inR_n h_w1 (by decide)⟩ h
    · refine lv_i2l hx hb dX6_pegs_9 rfl ?_
      refine lv_lconst (v := (0 : Int64)) hx hb dX6_pegs_10 rfl ?_
      refine lv_lconst (v := (1 : Int64)) hx hb dX6_pegs_11 rfl ?_
      refine x_callSP CF hK hP hS hl (As := [.long w.toInt64, .long (0 : Int64), .long (1 : Int64)]) (rest := []) (r_in_f _ _ _ (il_out (lo := 0) (hi := 1) (by omega) (by omega) (by omega))) kw_X6_in wd3_147 rfl ⟨Nat.le_of_ble_eq_true rfl, Nat.le_of_ble_eq_true rfl⟩ ⟨Nat.le_refl _, Nat.le_refl _⟩ (Nat.le_of_ble_eq_true rfl) dX6_pegs_12 (fun H locs hP hS => ?_)
      refine x_yne (u := (0 : Int)) (tgt := 20) hx hb (rfl) dX6_pegs_15 (by decide) (fun h_3 => (by omega : False).elim) (fun h_3 => ?_)
      refine lv_iconst (v := nI 4294967295) hx hb dX6_pegs_18 (by decide) ?_
      exact x_reti hx hb hr9 hlk9 hS hP (by first | rfl | (show nI 4294967295 = nI 4294967295; first | rfl | omega)) dX6_pegs_19
  · refine x_callVI CF hK hP hS hA hl (As := [.int k]) (rest := []) (r_isFigure_f hI M J k ho_k (by omega)) kw_X6_isFigure wd3_196 (by decide) dR_0 rfl rfl ⟨Nat.le_of_ble_eq_true rfl, Nat.le_of_ble_eq_true rfl⟩ ⟨Nat.le_refl _, Nat.le_refl _⟩ (Nat.le_of_ble_eq_true rfl) dX6_pegs_2 (fun H locs hP hS => ?_)
    refine x_yeq (u := (0 : Int)) (tgt := 18) hx hb (rfl) dX6_pegs_5 (by decide) (fun h_4 => ?_) (fun h_4 => (by omega : False).elim)
    refine lv_iconst (v := nI 4294967295) hx hb dX6_pegs_18 (by decide) ?_
    exact x_reti hx hb hr9 hlk9 hS hP (by first | rfl | (show nI 4294967295 = nI 4294967295; first | rfl | omega)) dX6_pegs_19
set_option maxHeartbeats 4000000 in
set_option maxRecDepth 100000 in
theorem r_beats_ok {l : Launch} {g : gE} {ad : Nat → Nat} (hI : g_inj ad 14) (M : gMem) (J : gMeL) (hw : wfR M) (a v : Nat) (ha : a < 12) (h1 : 1 ≤ v) (h : v < 100) : CI l g ad dsR 14 yX6_beats cX6_beats 4 (some .int) 2 [.ref (ad 0), .int (nI a), .int (nI v)] M J (nI (M 1 (108 + a))) (u2 M 1 (108 + a) v) J := by
  refine CI.of (plainFor_of_name (by decide)) (Nat.le_of_ble_eq_true rfl) (fun p9 e9 s9 m9 args9 below9 meth9 c9 CF hK hr9 hlk9 hP hS ls hl => ?_)
  have hx := CF.1
  have hb := CF.2.1
  have hA : ∀ q, g_A ad 14 q → g_A ad 14 q := fun _ h => h
  have hl : lv_has ls 4 [(0, .ref (ad 0)), (1, .int (nI a)), (2, .int (nI v))] := hl
  have hnc := hw.nc
  have hnf := hw.nf
  have hwy := hw.way
  refine lv_iload_n hx hb dX6_beats_0 rfl (lv_at hl 1 rfl) ?_
  refine x_callSP CF hK hP hS hl (As := [.int (nI a)]) (rest := []) (r_isAngle_t a (by omega)) kw_X6_isAngle wd3_174 rfl ⟨Nat.le_of_ble_eq_true rfl, Nat.le_of_ble_eq_true rfl⟩ ⟨Nat.le_refl _, Nat.le_refl _⟩ (Nat.le_of_ble_eq_true rfl) dX6_beats_1 (fun H locs hP hS => ?_)
  refine x_yeq (u := (1 : Int)) (tgt := 19) hx hb (rfl) dX6_beats_4 (by decide) (fun h_1 => (by omega : False).elim) (fun h_1 => ?_)
  refine lv_iload_n hx hb dX6_beats_7 rfl (lv_at hl 2 rfl) ?_
  refine lv_i2l hx hb dX6_beats_8 (nI_l (by omega)) ?_
  refine lv_lconst (v := (1 : Int64)) hx hb dX6_beats_9 rfl ?_
  refine lv_ldc2 hx hb CF.2.2.2.1 (CF.2.2.2.2 _ (List.mem_cons_of_mem _ wd4_59)) dX6_beats_10 ?_
  refine x_callSP CF hK hP hS hl (As := [.long (lN v), .long (1 : Int64), .long (99 : Int64)]) (rest := []) (r_in_t _ _ _ (il_in (lo := 1) (hi := 99) (by omega) (by omega) (by omega))) kw_X6_in wd3_147 rfl ⟨Nat.le_of_ble_eq_true rfl, Nat.le_of_ble_eq_true rfl⟩ ⟨Nat.le_refl _, Nat.le_refl _⟩ (Nat.le_of_ble_eq_true rfl) dX6_beats_13 (fun H locs hP hS => ?_)
  refine x_yne (u := (1 : Int)) (tgt := 21) hx hb (rfl) dX6_beats_16 (by decide) (fun h_2 => ?_) (fun h_2 => (by omega : False).elim)
  refine lv_aload_n hx hb dX6_beats_21 rfl (lv_at hl 0 rfl) ?_
  refine x_getr CF hK hP 0 (by decide) dR_0 rfl uX6 0 (by decide) (j := 1) rfl wd3_96 rfl dX6_beats_22 ?_
  refine lv_bipush (v := nI 108) hx hb dX6_beats_25 (by decide) ?_
  refine lv_iload_n hx hb dX6_beats_27 rfl (lv_at hl 1 rfl) ?_
  refine x_iadd hx hb dX6_beats_28 ?_
  refine x_iald CF hK hP 1 (by decide) dR_1 (108 + a) (by omega) (by decide) dX6_beats_29 ?_
  refine lv_istore_n (lv' := [(3, .int (nI (M 1 (108 + a)))), (0, .ref (ad 0)), (1, .int (nI a)), (2, .int (nI v))]) hx hb dX6_beats_30 rfl hl (by decide) rfl (fun ls hl => ?_)
  refine lv_aload_n hx hb dX6_beats_31 rfl (lv_at hl 1 rfl) ?_
  refine x_getr CF hK hP 0 (by decide) dR_0 rfl uX6 0 (by decide) (j := 1) rfl wd3_96 rfl dX6_beats_32 ?_
  refine lv_bipush (v := nI 108) hx hb dX6_beats_35 (by decide) ?_
  refine lv_iload_n hx hb dX6_beats_37 rfl (lv_at hl 2 rfl) ?_
  refine x_iadd hx hb dX6_beats_38 ?_
  refine lv_iload_n hx hb dX6_beats_39 rfl (lv_at hl 3 rfl) ?_
  refine x_iast CF hK hI hA hP hS 1 (by decide) dR_1 (108 + a) (by omega) (by decide) v dX6_beats_40 (fun H locs hP hS => ?_)
  refine lv_iload_n hx hb dX6_beats_41 rfl (lv_at hl 0 rfl) ?_
  exact x_reti hx hb hr9 hlk9 hS hP (by first | rfl | (show nI (M 1 (108 + a)) = nI (M 1 (108 + a)); first | rfl | omega)) dX6_beats_42
set_option maxHeartbeats 4000000 in
set_option maxRecDepth 100000 in
theorem r_beats_bad {l : Launch} {g : gE} {ad : Nat → Nat} (hI : g_inj ad 14) (M : gMem) (J : gMeL) (a v : Int32) (h : ¬ (inR a 12 ∧ inR1 v 100)) : CI l g ad dsR 14 yX6_beats cX6_beats 4 (some .int) 2 [.ref (ad 0), .int a, .int v] M J (nI 4294967295) M J := by
  refine CI.of (plainFor_of_name (by decide)) (Nat.le_of_ble_eq_true rfl) (fun p9 e9 s9 m9 args9 below9 meth9 c9 CF hK hr9 hlk9 hP hS ls hl => ?_)
  have hx := CF.1
  have hb := CF.2.1
  have hA : ∀ q, g_A ad 14 q → g_A ad 14 q := fun _ h => h
  have hl : lv_has ls 4 [(0, .ref (ad 0)), (1, .int a), (2, .int v)] := hl
  refine lv_iload_n hx hb dX6_beats_0 rfl (lv_at hl 1 rfl) ?_
  rcases n_int (x := a) (n := 12) (by omega) with ⟨a1, h_a1, rfl⟩ | ho_a
  · refine x_callSP CF hK hP hS hl (As := [.int (nI a1)]) (rest := []) (r_isAngle_t a1 (by omega)) kw_X6_isAngle wd3_174 rfl ⟨Nat.le_of_ble_eq_true rfl, Nat.le_of_ble_eq_true rfl⟩ ⟨Nat.le_refl _, Nat.le_refl _⟩ (Nat.le_of_ble_eq_true rfl) dX6_beats_1 (fun H locs hP hS => ?_)
    refine x_yeq (u := (1 : Int)) (tgt := 19) hx hb (rfl) dX6_beats_4 (by decide) (fun h_1 => (by omega : False).elim) (fun h_1 => ?_)
    refine lv_iload_n hx hb dX6_beats_7 rfl (lv_at hl 2 rfl) ?_
    rcases n_int1 (x := v) (n := 100) (by omega) with ⟨v1, g_v1, h_v1, rfl⟩ | ho_v
    · refine lv_i2l hx hb dX6_beats_8 (nI_l (by omega)) ?_
      refine lv_lconst (v := (1 : Int64)) hx hb dX6_beats_9 rfl ?_
      refine lv_ldc2 hx hb CF.2.2.2.1 (CF.2.2.2.2 _ (List.mem_cons_of_mem _ wd4_59)) dX6_beats_10 ?_
      refine x_callSP CF hK hP hS hl (As := [.long (lN v1), .long (1 : Int64), .long (99 : Int64)]) (rest := []) (r_in_t _ _ _ (il_in (lo := 1) (hi := 99) (by omega) (by omega) (by omega))) kw_X6_in wd3_147 rfl ⟨Nat.le_of_ble_eq_true rfl, Nat.le_of_ble_eq_true rfl⟩ ⟨Nat.le_refl _, Nat.le_refl _⟩ (Nat.le_of_ble_eq_true rfl) dX6_beats_13 (fun H locs hP hS => ?_)
      refine x_yne (u := (1 : Int)) (tgt := 21) hx hb (rfl) dX6_beats_16 (by decide) (fun h_2 => ?_) (fun h_2 => (by omega : False).elim)
      exact absurd ⟨inR_n h_a1 (by decide), inR1_n g_v1 h_v1 (by decide)⟩ h
    · refine lv_i2l hx hb dX6_beats_8 rfl ?_
      refine lv_lconst (v := (1 : Int64)) hx hb dX6_beats_9 rfl ?_
      refine lv_ldc2 hx hb CF.2.2.2.1 (CF.2.2.2.2 _ (List.mem_cons_of_mem _ wd4_59)) dX6_beats_10 ?_
      refine x_callSP CF hK hP hS hl (As := [.long v.toInt64, .long (1 : Int64), .long (99 : Int64)]) (rest := []) (r_in_f _ _ _ (il_out (lo := 1) (hi := 99) (by omega) (by omega) (by omega))) kw_X6_in wd3_147 rfl ⟨Nat.le_of_ble_eq_true rfl, Nat.le_of_ble_eq_true rfl⟩ ⟨Nat.le_refl _, Nat.le_refl _⟩ (Nat.le_of_ble_eq_true rfl) dX6_beats_13 (fun H locs hP hS => ?_)
      refine x_yne (u := (0 : Int)) (tgt := 21) hx hb (rfl) dX6_beats_16 (by decide) (fun h_3 => (by omega : False).elim) (fun h_3 => ?_)
      refine lv_iconst (v := nI 4294967295) hx hb dX6_beats_19 (by decide) ?_
      exact x_reti hx hb hr9 hlk9 hS hP (by first | rfl | (show nI 4294967295 = nI 4294967295; first | rfl | omega)) dX6_beats_20
  · refine x_callSP CF hK hP hS hl (As := [.int a]) (rest := []) (r_isAngle_f a ho_a) kw_X6_isAngle wd3_174 rfl ⟨Nat.le_of_ble_eq_true rfl, Nat.le_of_ble_eq_true rfl⟩ ⟨Nat.le_refl _, Nat.le_refl _⟩ (Nat.le_of_ble_eq_true rfl) dX6_beats_1 (fun H locs hP hS => ?_)
    refine x_yeq (u := (0 : Int)) (tgt := 19) hx hb (rfl) dX6_beats_4 (by decide) (fun h_4 => ?_) (fun h_4 => (by omega : False).elim)
    refine lv_iconst (v := nI 4294967295) hx hb dX6_beats_19 (by decide) ?_
    exact x_reti hx hb hr9 hlk9 hS hP (by first | rfl | (show nI 4294967295 = nI 4294967295; first | rfl | omega)) dX6_beats_20
set_option maxHeartbeats 4000000 in
set_option maxRecDepth 100000 in
theorem r_when_ok {l : Launch} {g : gE} {ad : Nat → Nat} (hI : g_inj ad 14) (M : gMem) (J : gMeL) (hw : wfR M) (t : Nat) (ht : t < 12) : CI l g ad dsR 14 yX6_when cX6_when 4 (some .int) 2 [.ref (ad 0), .int (nI t)] M J (nI (bts (btR M) (M 1 105) t (M 1 106) 12)) M J := by
  refine CI.of (plainFor_of_name (by decide)) (Nat.le_of_ble_eq_true rfl) (fun p9 e9 s9 m9 args9 below9 meth9 c9 CF hK hr9 hlk9 hP hS ls hl => ?_)
  have hx := CF.1
  have hb := CF.2.1
  have hA : ∀ q, g_A ad 14 q → g_A ad 14 q := fun _ h => h
  have hl : lv_has ls 4 [(0, .ref (ad 0)), (1, .int (nI t))] := hl
  have hnc := hw.nc
  have hnf := hw.nf
  have hwy := hw.way
  have hat := hw.at
  refine lv_iload_n hx hb dX6_when_0 rfl (lv_at hl 1 rfl) ?_
  refine x_callSP CF hK hP hS hl (As := [.int (nI t)]) (rest := []) (r_isAngle_t t (by omega)) kw_X6_isAngle wd3_174 rfl ⟨Nat.le_of_ble_eq_true rfl, Nat.le_of_ble_eq_true rfl⟩ ⟨Nat.le_refl _, Nat.le_refl _⟩ (Nat.le_of_ble_eq_true rfl) dX6_when_1 (fun H locs hP hS => ?_)
  refine x_yne (u := (1 : Int)) (tgt := 9) hx hb (rfl) dX6_when_4 (by decide) (fun h_1 => ?_) (fun h_1 => (by omega : False).elim)
  refine lv_iconst (v := nI 0) hx hb dX6_when_9 (by decide) ?_
  refine lv_istore_n (lv' := [(2, .int (nI 0)), (0, .ref (ad 0)), (1, .int (nI t))]) hx hb dX6_when_10 rfl hl (by decide) rfl (fun ls hl => ?_)
  refine lv_aload_n hx hb dX6_when_11 rfl (lv_at hl 1 rfl) ?_
  refine x_getr CF hK hP 0 (by decide) dR_0 rfl uX6 0 (by decide) (j := 1) rfl wd3_96 rfl dX6_when_12 ?_
  refine lv_bipush (v := nI 106) hx hb dX6_when_15 (by decide) ?_
  refine x_iald CF hK hP 1 (by decide) dR_1 106 (by omega) (by decide) dX6_when_17 ?_
  refine lv_istore_n (lv' := [(3, .int (nI (M 1 106))), (2, .int (nI 0)), (0, .ref (ad 0)), (1, .int (nI t))]) hx hb dX6_when_18 rfl hl (by decide) rfl (fun ls hl => ?_)
  have L19 : ∀ (d19 : Nat) (a : Nat) (y : Nat), (a < 12) → (dst (M 1 105) t a = d19) → (y + bts (btR M) (M 1 105) t a d19 = bts (btR M) (M 1 105) t (M 1 106) 12) → (∀ (H : Heap) (locs : List Loc) (ls : Array Slot), g_P g ad dsR 14 M J H → va_S (g_A ad 14) s9.heap H locs → lv_has ls 4 [(3, .int (nI a)), (2, .int (nI y)), (0, .ref (ad 0)), (1, .int (nI t))] → W p9 l e9 (g_rm 2) s9 m9 args9 below9 meth9 c9 H locs 0 0 (MQ below9 (va_Qi (fun r' (_ : Unit) => r' = (nI (bts (btR M) (M 1 105) t (M 1 106) 12))) (fun _ t => g_P g ad dsR 14 M J t.heap) (g_A ad 14)) args9 s9 0 0 (g_A ad 14)) (F0 m9 19 ls [])) := by
    intro d19
    induction d19 with
    | zero =>
      intro a y ha hd hR H locs ls hP hS hl
      have b0 := dst_0 ha ht hd
      refine lv_iload_n hx hb dX6_when_19 rfl (lv_at hl 0 rfl) ?_
      refine lv_iload_n hx hb dX6_when_20 rfl (lv_at hl 3 rfl) ?_
      refine x_zeq (u := (a : Nat)) (v := (t : Nat)) (tgt := 45) hx hb (nI_toInt (by omega)) (nI_toInt (by omega)) dX6_when_21 (by decide) (fun h_2 => ?_) (fun h_2 => (by omega : False).elim)
      refine lv_iload_n hx hb dX6_when_45 rfl (lv_at hl 1 rfl) ?_
      exact x_reti hx hb hr9 hlk9 hS hP (congrArg nI (by simpa [bts] using hR)) dX6_when_46
    | succ d19 ih19 =>
      intro a y ha hd hR H locs ls hP hS hl
      have b1 := bhd_lt (M 1 105) a
      have b2 := hw.beat ha
      have b3 := dst_ne ha ht hd
      rw [show bts (btR M) (M 1 105) t a (d19 + 1) = if a = t then 0 else M 1 (108 + a) + bts (btR M) (M 1 105) t (bhd (M 1 105) a) d19 from rfl, if_neg b3] at hR
      refine lv_iload_n hx hb dX6_when_19 rfl (lv_at hl 0 rfl) ?_
      refine lv_iload_n hx hb dX6_when_20 rfl (lv_at hl 3 rfl) ?_
      refine x_zeq (u := (a : Nat)) (v := (t : Nat)) (tgt := 45) hx hb (nI_toInt (by omega)) (nI_toInt (by omega)) dX6_when_21 (by decide) (fun h_3 => (by omega : False).elim) (fun h_3 => ?_)
      refine lv_iload_n hx hb dX6_when_24 rfl (lv_at hl 1 rfl) ?_
      refine lv_aload_n hx hb dX6_when_25 rfl (lv_at hl 2 rfl) ?_
      refine x_getr CF hK hP 0 (by decide) dR_0 rfl uX6 0 (by decide) (j := 1) rfl wd3_96 rfl dX6_when_26 ?_
      refine lv_bipush (v := nI 108) hx hb dX6_when_29 (by decide) ?_
      refine lv_iload_n hx hb dX6_when_31 rfl (lv_at hl 0 rfl) ?_
      refine x_iadd hx hb dX6_when_32 ?_
      refine x_iald CF hK hP 1 (by decide) dR_1 (108 + a) (by omega) (by decide) dX6_when_33 ?_
      refine x_iadd hx hb dX6_when_34 ?_
      refine lv_istore_n (lv' := [(2, .int (nI (y + (M 1 (108 + a))))), (3, .int (nI a)), (0, .ref (ad 0)), (1, .int (nI t))]) hx hb dX6_when_35 rfl hl (by decide) rfl (fun ls hl => ?_)
      refine lv_aload_n hx hb dX6_when_36 rfl (lv_at hl 2 rfl) ?_
      refine lv_iload_n hx hb dX6_when_37 rfl (lv_at hl 1 rfl) ?_
      refine x_callVI CF hK hP hS hA hl (As := [.int (nI a)]) (rest := []) (r_behind hI M J hw a (by omega)) kw_X6_behind wd4_15 (by decide) dR_0 rfl rfl ⟨Nat.le_of_ble_eq_true rfl, Nat.le_of_ble_eq_true rfl⟩ ⟨Nat.le_refl _, Nat.le_refl _⟩ (Nat.le_of_ble_eq_true rfl) dX6_when_38 (fun H locs hP hS => ?_)
      refine lv_istore_n (lv' := [(3, .int (nI (bhd (M 1 105) a))), (2, .int (nI (y + (M 1 (108 + a))))), (0, .ref (ad 0)), (1, .int (nI t))]) hx hb dX6_when_41 rfl hl (by decide) rfl (fun ls hl => ?_)
      refine lv_goto (tgt := 19) hx hb dX6_when_42 (by decide) ?_
      have hl0 : lv_has ls 4 [(3, .int (nI (bhd (M 1 105) a))), (2, .int (nI (y + M 1 (108 + a)))), (0, .ref (ad 0)), (1, .int (nI t))] := by rw [(show nI (y + M 1 (108 + a)) = nI (y + (M 1 (108 + a))) from by first | rfl | (congr 1; omega) | (refine congrArg nI ?_; first | rfl | (exact (setN_t (decide_eq_true (by omega)))) | (exact (setN_f (decide_eq_false (by omega)))) | (rw [Nat.or_zero]; exact (setN_f (decide_eq_false (by omega))))))]; exact lv_sub hl [0, 1, 2, 3] rfl
      exact ih19 (bhd (M 1 105) a) (y + M 1 (108 + a)) (b1) (dst_s ha ht hd) (by omega) _ _ _ (hP) hS hl0
  have hl0 : lv_has ls 4 [(3, .int (nI (M 1 106))), (2, .int (nI 0)), (0, .ref (ad 0)), (1, .int (nI t))] := lv_sub hl [0, 1, 2, 3] rfl
  exact L19 (dst (M 1 105) t (M 1 106)) (M 1 106) 0 (by omega) (rfl) (by rw [Nat.zero_add]; exact (bts_fuel ht _ 12 _ (by omega) rfl (Nat.le_of_lt (dst_lt _ _ _))).symm) _ _ _ (hP) hS hl0
set_option maxHeartbeats 4000000 in
set_option maxRecDepth 100000 in
theorem r_when_bad {l : Launch} {g : gE} {ad : Nat → Nat} (hI : g_inj ad 14) (M : gMem) (J : gMeL) (t : Int32) (h : ¬ inR t 12) : CI l g ad dsR 14 yX6_when cX6_when 4 (some .int) 2 [.ref (ad 0), .int t] M J (nI 4294967295) M J := by
  refine CI.of (plainFor_of_name (by decide)) (Nat.le_of_ble_eq_true rfl) (fun p9 e9 s9 m9 args9 below9 meth9 c9 CF hK hr9 hlk9 hP hS ls hl => ?_)
  have hx := CF.1
  have hb := CF.2.1
  have hA : ∀ q, g_A ad 14 q → g_A ad 14 q := fun _ h => h
  have hl : lv_has ls 4 [(0, .ref (ad 0)), (1, .int t)] := hl
  refine lv_iload_n hx hb dX6_when_0 rfl (lv_at hl 1 rfl) ?_
  rcases n_int (x := t) (n := 12) (by omega) with ⟨t1, h_t1, rfl⟩ | ho_t
  · refine x_callSP CF hK hP hS hl (As := [.int (nI t1)]) (rest := []) (r_isAngle_t t1 (by omega)) kw_X6_isAngle wd3_174 rfl ⟨Nat.le_of_ble_eq_true rfl, Nat.le_of_ble_eq_true rfl⟩ ⟨Nat.le_refl _, Nat.le_refl _⟩ (Nat.le_of_ble_eq_true rfl) dX6_when_1 (fun H locs hP hS => ?_)
    refine x_yne (u := (1 : Int)) (tgt := 9) hx hb (rfl) dX6_when_4 (by decide) (fun h_1 => ?_) (fun h_1 => (by omega : False).elim)
    exact absurd (inR_n h_t1 (by decide)) h
  · refine x_callSP CF hK hP hS hl (As := [.int t]) (rest := []) (r_isAngle_f t ho_t) kw_X6_isAngle wd3_174 rfl ⟨Nat.le_of_ble_eq_true rfl, Nat.le_of_ble_eq_true rfl⟩ ⟨Nat.le_refl _, Nat.le_refl _⟩ (Nat.le_of_ble_eq_true rfl) dX6_when_1 (fun H locs hP hS => ?_)
    refine x_yne (u := (0 : Int)) (tgt := 9) hx hb (rfl) dX6_when_4 (by decide) (fun h_2 => (by omega : False).elim) (fun h_2 => ?_)
    refine lv_iconst (v := nI 4294967295) hx hb dX6_when_7 (by decide) ?_
    exact x_reti hx hb hr9 hlk9 hS hP (by first | rfl | (show nI 4294967295 = nI 4294967295; first | rfl | omega)) dX6_when_8
set_option maxHeartbeats 4000000 in
set_option maxRecDepth 100000 in
theorem r_at_ok {l : Launch} {g : gE} {ad : Nat → Nat} (hI : g_inj ad 14) (M : gMem) (J : gMeL) (hw : wfR M) (b : Nat) (hb9 : b < 100000) : CI l g ad dsR 14 yX6_at cX6_at 5 (some .int) 2 [.ref (ad 0), .int (nI b)] M J (nI (aft (btR M) (M 1 105) (b % sumN (btR M) 12) (M 1 106) 12)) M J := by
  refine CI.of (plainFor_of_name (by decide)) (Nat.le_of_ble_eq_true rfl) (fun p9 e9 s9 m9 args9 below9 meth9 c9 CF hK hr9 hlk9 hP hS ls hl => ?_)
  have hx := CF.1
  have hb := CF.2.1
  have hA : ∀ q, g_A ad 14 q → g_A ad 14 q := fun _ h => h
  have hl : lv_has ls 5 [(0, .ref (ad 0)), (1, .int (nI b))] := hl
  have hnc := hw.nc
  have hnf := hw.nf
  have hwy := hw.way
  have hat := hw.at
  refine lv_iload_n hx hb dX6_at_0 rfl (lv_at hl 1 rfl) ?_
  refine lv_i2l hx hb dX6_at_1 (nI_l (by omega)) ?_
  refine lv_lconst (v := (0 : Int64)) hx hb dX6_at_2 rfl ?_
  refine lv_ldc2 hx hb CF.2.2.2.1 (CF.2.2.2.2 _ (List.mem_cons_of_mem _ wd4_68)) dX6_at_3 ?_
  refine x_callSP CF hK hP hS hl (As := [.long (lN b), .long (0 : Int64), .long (99999 : Int64)]) (rest := []) (r_in_t _ _ _ (il_in (lo := 0) (hi := 99999) (by omega) (by omega) (by omega))) kw_X6_in wd3_147 rfl ⟨Nat.le_of_ble_eq_true rfl, Nat.le_of_ble_eq_true rfl⟩ ⟨Nat.le_refl _, Nat.le_refl _⟩ (Nat.le_of_ble_eq_true rfl) dX6_at_6 (fun H locs hP hS => ?_)
  refine x_yne (u := (1 : Int)) (tgt := 14) hx hb (rfl) dX6_at_9 (by decide) (fun h_1 => ?_) (fun h_1 => (by omega : False).elim)
  refine lv_iconst (v := nI 0) hx hb dX6_at_14 (by decide) ?_
  refine lv_istore_n (lv' := [(2, .int (nI 0)), (0, .ref (ad 0)), (1, .int (nI b))]) hx hb dX6_at_15 rfl hl (by decide) rfl (fun ls hl => ?_)
  refine lv_iconst (v := nI 0) hx hb dX6_at_16 (by decide) ?_
  refine lv_istore_n (lv' := [(3, .int (nI 0)), (2, .int (nI 0)), (0, .ref (ad 0)), (1, .int (nI b))]) hx hb dX6_at_17 rfl hl (by decide) rfl (fun ls hl => ?_)
  have L18 : ∀ (d18 : Nat) (i : Nat), (i + d18 = 12) → (∀ (H : Heap) (locs : List Loc) (ls : Array Slot), g_P g ad dsR 14 M J H → va_S (g_A ad 14) s9.heap H locs → lv_has ls 5 [(3, .int (nI i)), (2, .int (nI (sumN (btR M) i))), (0, .ref (ad 0)), (1, .int (nI b))] → W p9 l e9 (g_rm 2) s9 m9 args9 below9 meth9 c9 H locs 0 0 (MQ below9 (va_Qi (fun r' (_ : Unit) => r' = (nI (aft (btR M) (M 1 105) (b % sumN (btR M) 12) (M 1 106) 12))) (fun _ t => g_P g ad dsR 14 M J t.heap) (g_A ad 14)) args9 s9 0 0 (g_A ad 14)) (F0 m9 18 ls [])) := by
    intro d18
    induction d18 with
    | zero =>
      intro i h_i H locs ls hP hS hl
      have e12 : i = 12 := by omega
      have s1 := sumN_ge (f := btR M) (n := i) (fun k hk => (hw.beat (show k < 12 by omega)).1)
      have s2 := sumN_le (f := btR M) (n := i) (B := 99) (fun k hk => (hw.beat (show k < 12 by omega)).2)
      refine lv_iload_n hx hb dX6_at_18 rfl (lv_at hl 0 rfl) ?_
      refine lv_bipush (v := nI 12) hx hb dX6_at_19 (by decide) ?_
      refine x_zge (u := (i : Nat)) (v := (12 : Int)) (tgt := 42) hx hb (nI_toInt (by omega)) (rfl) dX6_at_21 (by decide) (fun h_2 => ?_) (fun h_2 => (by omega : False).elim)
      refine lv_iload_n hx hb dX6_at_42 rfl (lv_at hl 3 rfl) ?_
      refine lv_iload_n hx hb dX6_at_43 rfl (lv_at hl 1 rfl) ?_
      refine x_irem hx hb (by omega) (by omega) (by omega) dX6_at_44 ?_
      refine lv_istore_n (lv' := [(3, .int (nI (b % (sumN (btR M) i)))), (2, .int (nI (sumN (btR M) i))), (0, .ref (ad 0)), (1, .int (nI b))]) hx hb dX6_at_45 rfl hl (by decide) rfl (fun ls hl => ?_)
      refine lv_aload_n hx hb dX6_at_46 rfl (lv_at hl 2 rfl) ?_
      refine x_getr CF hK hP 0 (by decide) dR_0 rfl uX6 0 (by decide) (j := 1) rfl wd3_96 rfl dX6_at_47 ?_
      refine lv_bipush (v := nI 106) hx hb dX6_at_50 (by decide) ?_
      refine x_iald CF hK hP 1 (by decide) dR_1 106 (by omega) (by decide) dX6_at_52 ?_
      refine lv_istore (lv' := [(4, .int (nI (M 1 106))), (3, .int (nI (b % (sumN (btR M) i)))), (2, .int (nI (sumN (btR M) i))), (0, .ref (ad 0)), (1, .int (nI b))]) hx hb dX6_at_53 hl (by decide) rfl (fun ls hl => ?_)
      have L55 : ∀ (d55 : Nat) (a : Nat) (y : Nat), (a < 12) → (y < rsm (btR M) (M 1 105) a d55) → (y < 100000) → (aft (btR M) (M 1 105) y a d55 = aft (btR M) (M 1 105) (b % sumN (btR M) 12) (M 1 106) 12) → (∀ (H : Heap) (locs : List Loc) (ls : Array Slot), g_P g ad dsR 14 M J H → va_S (g_A ad 14) s9.heap H locs → lv_has ls 5 [(4, .int (nI a)), (3, .int (nI y)), (0, .ref (ad 0)), (1, .int (nI b))] → W p9 l e9 (g_rm 2) s9 m9 args9 below9 meth9 c9 H locs 0 0 (MQ below9 (va_Qi (fun r' (_ : Unit) => r' = (nI (aft (btR M) (M 1 105) (b % sumN (btR M) 12) (M 1 106) 12))) (fun _ t => g_P g ad dsR 14 M J t.heap) (g_A ad 14)) args9 s9 0 0 (g_A ad 14)) (F0 m9 55 ls [])) := by
        intro d55
        induction d55 with
        | zero =>
          intro a y ha hy hy2 hR H locs ls hP hS hl
          exact absurd (show y < 0 from hy) (by omega)
        | succ d55 ih55 =>
          intro a y ha hy hy2 hR H locs ls hP hS hl
          have b1 := bhd_lt (M 1 105) a
          have b2 := hw.beat ha
          rw [rsm_ge] at hy
          rw [show aft (btR M) (M 1 105) y a (d55 + 1) = if y < M 1 (108 + a) then a else aft (btR M) (M 1 105) (y - M 1 (108 + a)) (bhd (M 1 105) a) d55 from rfl] at hR
          simp only [btR] at hy
          refine lv_iload_n hx hb dX6_at_55 rfl (lv_at hl 1 rfl) ?_
          refine lv_aload_n hx hb dX6_at_56 rfl (lv_at hl 2 rfl) ?_
          refine x_getr CF hK hP 0 (by decide) dR_0 rfl uX6 0 (by decide) (j := 1) rfl wd3_96 rfl dX6_at_57 ?_
          refine lv_bipush (v := nI 108) hx hb dX6_at_60 (by decide) ?_
          refine lv_iload hx hb dX6_at_62 (lv_at hl 0 rfl) ?_
          refine x_iadd hx hb dX6_at_64 ?_
          refine x_iald CF hK hP 1 (by decide) dR_1 (108 + a) (by omega) (by decide) dX6_at_65 ?_
          refine x_zlt (u := (y : Nat)) (v := (M 1 (108 + a) : Nat)) (tgt := 93) hx hb (nI_toInt (by omega)) (nI_toInt (by omega)) dX6_at_66 (by decide) (fun h_3 => ?_) (fun h_3 => ?_)
          · refine lv_iload hx hb dX6_at_93 (lv_at hl 0 rfl) ?_
            exact x_reti hx hb hr9 hlk9 hS hP (congrArg nI (by rw [if_pos (by omega)] at hR; exact hR)) dX6_at_95
          · refine lv_iload_n hx hb dX6_at_69 rfl (lv_at hl 1 rfl) ?_
            refine lv_aload_n hx hb dX6_at_70 rfl (lv_at hl 2 rfl) ?_
            refine x_getr CF hK hP 0 (by decide) dR_0 rfl uX6 0 (by decide) (j := 1) rfl wd3_96 rfl dX6_at_71 ?_
            refine lv_bipush (v := nI 108) hx hb dX6_at_74 (by decide) ?_
            refine lv_iload hx hb dX6_at_76 (lv_at hl 0 rfl) ?_
            refine x_iadd hx hb dX6_at_78 ?_
            refine x_iald CF hK hP 1 (by decide) dR_1 (108 + a) (by omega) (by decide) dX6_at_79 ?_
            refine x_isub hx hb (by omega) dX6_at_80 ?_
            refine lv_istore_n (lv' := [(3, .int (nI (y - (M 1 (108 + a))))), (4, .int (nI a)), (0, .ref (ad 0)), (1, .int (nI b))]) hx hb dX6_at_81 rfl hl (by decide) rfl (fun ls hl => ?_)
            refine lv_aload_n hx hb dX6_at_82 rfl (lv_at hl 2 rfl) ?_
            refine lv_iload hx hb dX6_at_83 (lv_at hl 1 rfl) ?_
            refine x_callVI CF hK hP hS hA hl (As := [.int (nI a)]) (rest := []) (r_behind hI M J hw a (by omega)) kw_X6_behind wd4_15 (by decide) dR_0 rfl rfl ⟨Nat.le_of_ble_eq_true rfl, Nat.le_of_ble_eq_true rfl⟩ ⟨Nat.le_refl _, Nat.le_refl _⟩ (Nat.le_of_ble_eq_true rfl) dX6_at_85 (fun H locs hP hS => ?_)
            refine lv_istore (lv' := [(4, .int (nI (bhd (M 1 105) a))), (3, .int (nI (y - (M 1 (108 + a))))), (0, .ref (ad 0)), (1, .int (nI b))]) hx hb dX6_at_88 hl (by decide) rfl (fun ls hl => ?_)
            refine lv_goto (tgt := 55) hx hb dX6_at_90 (by decide) ?_
            have hl0 : lv_has ls 5 [(4, .int (nI (bhd (M 1 105) a))), (3, .int (nI (y - M 1 (108 + a)))), (0, .ref (ad 0)), (1, .int (nI b))] := by rw [(show nI (y - M 1 (108 + a)) = nI (y - (M 1 (108 + a))) from by first | rfl | (congr 1; omega) | (refine congrArg nI ?_; first | rfl | (exact (setN_t (decide_eq_true (by omega)))) | (exact (setN_f (decide_eq_false (by omega)))) | (rw [Nat.or_zero]; exact (setN_f (decide_eq_false (by omega))))))]; exact lv_sub hl [0, 1, 2, 3] rfl
            exact ih55 (bhd (M 1 105) a) (y - M 1 (108 + a)) (b1) (by omega) (by omega) (by rw [if_neg (by omega)] at hR; exact hR) _ _ _ (hP) hS hl0
      have hl0 : lv_has ls 5 [(4, .int (nI (M 1 106))), (3, .int (nI (b % sumN (btR M) i))), (0, .ref (ad 0)), (1, .int (nI b))] := by rw [(show nI (b % sumN (btR M) i) = nI (b % (sumN (btR M) i)) from by first | rfl | (congr 1; omega) | (refine congrArg nI ?_; first | rfl | (exact (setN_t (decide_eq_true (by omega)))) | (exact (setN_f (decide_eq_false (by omega)))) | (rw [Nat.or_zero]; exact (setN_f (decide_eq_false (by omega))))))]; exact lv_sub hl [0, 1, 3, 4] rfl
      exact L55 12 (M 1 106) (b % sumN (btR M) i) (by omega) (by rw [rsm_all _ (by omega), ← e12]; exact Nat.mod_lt _ (by omega)) (Nat.lt_of_le_of_lt (Nat.mod_le _ _) (by omega)) (by rw [e12]) _ _ _ (hP) hS hl0
    | succ d18 ih18 =>
      intro i h_i H locs ls hP hS hl
      have b2 := hw.beat (show i < 12 by omega)
      refine lv_iload_n hx hb dX6_at_18 rfl (lv_at hl 0 rfl) ?_
      refine lv_bipush (v := nI 12) hx hb dX6_at_19 (by decide) ?_
      refine x_zge (u := (i : Nat)) (v := (12 : Int)) (tgt := 42) hx hb (nI_toInt (by omega)) (rfl) dX6_at_21 (by decide) (fun h_4 => (by omega : False).elim) (fun h_4 => ?_)
      refine lv_iload_n hx hb dX6_at_24 rfl (lv_at hl 1 rfl) ?_
      refine lv_aload_n hx hb dX6_at_25 rfl (lv_at hl 2 rfl) ?_
      refine x_getr CF hK hP 0 (by decide) dR_0 rfl uX6 0 (by decide) (j := 1) rfl wd3_96 rfl dX6_at_26 ?_
      refine lv_bipush (v := nI 108) hx hb dX6_at_29 (by decide) ?_
      refine lv_iload_n hx hb dX6_at_31 rfl (lv_at hl 0 rfl) ?_
      refine x_iadd hx hb dX6_at_32 ?_
      refine x_iald CF hK hP 1 (by decide) dR_1 (108 + i) (by omega) (by decide) dX6_at_33 ?_
      refine x_iadd hx hb dX6_at_34 ?_
      refine lv_istore_n (lv' := [(2, .int (nI ((sumN (btR M) i) + (M 1 (108 + i))))), (3, .int (nI i)), (0, .ref (ad 0)), (1, .int (nI b))]) hx hb dX6_at_35 rfl hl (by decide) rfl (fun ls hl => ?_)
      refine lv_iinc (v := nI (i + 1)) (lv' := [(3, .int (nI (i + 1))), (2, .int (nI ((sumN (btR M) i) + (M 1 (108 + i))))), (0, .ref (ad 0)), (1, .int (nI b))]) hx hb dX6_at_36 hl (k := 1) rfl (n_inc i 1) (by decide) rfl (fun ls hl => ?_)
      refine lv_goto (tgt := 18) hx hb dX6_at_39 (by decide) ?_
      have hl0 : lv_has ls 5 [(3, .int (nI (i + 1))), (2, .int (nI (sumN (btR M) (i + 1)))), (0, .ref (ad 0)), (1, .int (nI b))] := by rw [(show nI (sumN (btR M) (i + 1)) = nI ((sumN (btR M) i) + (M 1 (108 + i))) from rfl)]; exact lv_sub hl [0, 1, 2, 3] rfl
      exact ih18 (i + 1) (by omega) _ _ _ (hP) hS hl0
  have hl0 : lv_has ls 5 [(3, .int (nI 0)), (2, .int (nI (sumN (btR M) 0))), (0, .ref (ad 0)), (1, .int (nI b))] := by rw [(show nI (sumN (btR M) 0) = nI 0 from rfl)]; exact lv_sub hl [0, 1, 2, 3] rfl
  exact L18 12 0 (by omega) _ _ _ (hP) hS hl0
set_option maxHeartbeats 4000000 in
set_option maxRecDepth 100000 in
theorem r_at_bad {l : Launch} {g : gE} {ad : Nat → Nat} (hI : g_inj ad 14) (M : gMem) (J : gMeL) (b : Int32) (h : ¬ inR b 100000) : CI l g ad dsR 14 yX6_at cX6_at 5 (some .int) 2 [.ref (ad 0), .int b] M J (nI 4294967295) M J := by
  refine CI.of (plainFor_of_name (by decide)) (Nat.le_of_ble_eq_true rfl) (fun p9 e9 s9 m9 args9 below9 meth9 c9 CF hK hr9 hlk9 hP hS ls hl => ?_)
  have hx := CF.1
  have hb := CF.2.1
  have hA : ∀ q, g_A ad 14 q → g_A ad 14 q := fun _ h => h
  have hl : lv_has ls 5 [(0, .ref (ad 0)), (1, .int b)] := hl
  refine lv_iload_n hx hb dX6_at_0 rfl (lv_at hl 1 rfl) ?_
  rcases n_int (x := b) (n := 100000) (by omega) with ⟨b1, h_b1, rfl⟩ | ho_b
  · refine lv_i2l hx hb dX6_at_1 (nI_l (by omega)) ?_
    refine lv_lconst (v := (0 : Int64)) hx hb dX6_at_2 rfl ?_
    refine lv_ldc2 hx hb CF.2.2.2.1 (CF.2.2.2.2 _ (List.mem_cons_of_mem _ wd4_68)) dX6_at_3 ?_
    refine x_callSP CF hK hP hS hl (As := [.long (lN b1), .long (0 : Int64), .long (99999 : Int64)]) (rest := []) (r_in_t _ _ _ (il_in (lo := 0) (hi := 99999) (by omega) (by omega) (by omega))) kw_X6_in wd3_147 rfl ⟨Nat.le_of_ble_eq_true rfl, Nat.le_of_ble_eq_true rfl⟩ ⟨Nat.le_refl _, Nat.le_refl _⟩ (Nat.le_of_ble_eq_true rfl) dX6_at_6 (fun H locs hP hS => ?_)
    refine x_yne (u := (1 : Int)) (tgt := 14) hx hb (rfl) dX6_at_9 (by decide) (fun h_1 => ?_) (fun h_1 => (by omega : False).elim)
    exact absurd (inR_n h_b1 (by decide)) h
  · refine lv_i2l hx hb dX6_at_1 rfl ?_
    refine lv_lconst (v := (0 : Int64)) hx hb dX6_at_2 rfl ?_
    refine lv_ldc2 hx hb CF.2.2.2.1 (CF.2.2.2.2 _ (List.mem_cons_of_mem _ wd4_68)) dX6_at_3 ?_
    refine x_callSP CF hK hP hS hl (As := [.long b.toInt64, .long (0 : Int64), .long (99999 : Int64)]) (rest := []) (r_in_f _ _ _ (il_out (lo := 0) (hi := 99999) (by omega) (by omega) (by omega))) kw_X6_in wd3_147 rfl ⟨Nat.le_of_ble_eq_true rfl, Nat.le_of_ble_eq_true rfl⟩ ⟨Nat.le_refl _, Nat.le_refl _⟩ (Nat.le_of_ble_eq_true rfl) dX6_at_6 (fun H locs hP hS => ?_)
    refine x_yne (u := (0 : Int)) (tgt := 14) hx hb (rfl) dX6_at_9 (by decide) (fun h_2 => (by omega : False).elim) (fun h_2 => ?_)
    refine lv_iconst (v := nI 4294967295) hx hb dX6_at_12 (by decide) ?_
    exact x_reti hx hb hr9 hlk9 hS hP (by first | rfl | (show nI 4294967295 = nI 4294967295; first | rfl | omega)) dX6_at_13
set_option maxHeartbeats 4000000 in
set_option maxRecDepth 100000 in
theorem r_hand_ok {l : Launch} {g : gE} {ad : Nat → Nat} (hI : g_inj ad 14) (M : gMem) (J : gMeL) (hw : wfR M) (k v : Nat) (hk : k < 4) (h : v < 1024) : CI l g ad dsR 14 yX6_hand cX6_hand 4 (some .int) 2 [.ref (ad 0), .int (nI k), .int (nI v)] M J (nI (M 1 (120 + k))) (u2 M 1 (120 + k) v) J := by
  refine CI.of (plainFor_of_name (by decide)) (Nat.le_of_ble_eq_true rfl) (fun p9 e9 s9 m9 args9 below9 meth9 c9 CF hK hr9 hlk9 hP hS ls hl => ?_)
  have hx := CF.1
  have hb := CF.2.1
  have hA : ∀ q, g_A ad 14 q → g_A ad 14 q := fun _ h => h
  have hl : lv_has ls 4 [(0, .ref (ad 0)), (1, .int (nI k)), (2, .int (nI v))] := hl
  have hnc := hw.nc
  have hnf := hw.nf
  have hwy := hw.way
  refine lv_iload_n hx hb dX6_hand_0 rfl (lv_at hl 1 rfl) ?_
  refine lv_i2l hx hb dX6_hand_1 (nI_l (by omega)) ?_
  refine lv_lconst (v := (0 : Int64)) hx hb dX6_hand_2 rfl ?_
  refine lv_ldc2 hx hb CF.2.2.2.1 (CF.2.2.2.2 _ (List.mem_cons_of_mem _ wd3_191)) dX6_hand_3 ?_
  refine x_callSP CF hK hP hS hl (As := [.long (lN k), .long (0 : Int64), .long (3 : Int64)]) (rest := []) (r_in_t _ _ _ (il_in (lo := 0) (hi := 3) (by omega) (by omega) (by omega))) kw_X6_in wd3_147 rfl ⟨Nat.le_of_ble_eq_true rfl, Nat.le_of_ble_eq_true rfl⟩ ⟨Nat.le_refl _, Nat.le_refl _⟩ (Nat.le_of_ble_eq_true rfl) dX6_hand_6 (fun H locs hP hS => ?_)
  refine x_yeq (u := (1 : Int)) (tgt := 24) hx hb (rfl) dX6_hand_9 (by decide) (fun h_1 => (by omega : False).elim) (fun h_1 => ?_)
  refine lv_iload_n hx hb dX6_hand_12 rfl (lv_at hl 2 rfl) ?_
  refine lv_i2l hx hb dX6_hand_13 (nI_l (by omega)) ?_
  refine lv_lconst (v := (0 : Int64)) hx hb dX6_hand_14 rfl ?_
  refine lv_ldc2 hx hb CF.2.2.2.1 (CF.2.2.2.2 _ (List.mem_cons_of_mem _ wd4_73)) dX6_hand_15 ?_
  refine x_callSP CF hK hP hS hl (As := [.long (lN v), .long (0 : Int64), .long (1023 : Int64)]) (rest := []) (r_in_t _ _ _ (il_in (lo := 0) (hi := 1023) (by omega) (by omega) (by omega))) kw_X6_in wd3_147 rfl ⟨Nat.le_of_ble_eq_true rfl, Nat.le_of_ble_eq_true rfl⟩ ⟨Nat.le_refl _, Nat.le_refl _⟩ (Nat.le_of_ble_eq_true rfl) dX6_hand_18 (fun H locs hP hS => ?_)
  refine x_yne (u := (1 : Int)) (tgt := 26) hx hb (rfl) dX6_hand_21 (by decide) (fun h_2 => ?_) (fun h_2 => (by omega : False).elim)
  refine lv_aload_n hx hb dX6_hand_26 rfl (lv_at hl 0 rfl) ?_
  refine x_getr CF hK hP 0 (by decide) dR_0 rfl uX6 0 (by decide) (j := 1) rfl wd3_96 rfl dX6_hand_27 ?_
  refine lv_bipush (v := nI 120) hx hb dX6_hand_30 (by decide) ?_
  refine lv_iload_n hx hb dX6_hand_32 rfl (lv_at hl 1 rfl) ?_
  refine x_iadd hx hb dX6_hand_33 ?_
  refine x_iald CF hK hP 1 (by decide) dR_1 (120 + k) (by omega) (by decide) dX6_hand_34 ?_
  refine lv_istore_n (lv' := [(3, .int (nI (M 1 (120 + k)))), (0, .ref (ad 0)), (1, .int (nI k)), (2, .int (nI v))]) hx hb dX6_hand_35 rfl hl (by decide) rfl (fun ls hl => ?_)
  refine lv_aload_n hx hb dX6_hand_36 rfl (lv_at hl 1 rfl) ?_
  refine x_getr CF hK hP 0 (by decide) dR_0 rfl uX6 0 (by decide) (j := 1) rfl wd3_96 rfl dX6_hand_37 ?_
  refine lv_bipush (v := nI 120) hx hb dX6_hand_40 (by decide) ?_
  refine lv_iload_n hx hb dX6_hand_42 rfl (lv_at hl 2 rfl) ?_
  refine x_iadd hx hb dX6_hand_43 ?_
  refine lv_iload_n hx hb dX6_hand_44 rfl (lv_at hl 3 rfl) ?_
  refine x_iast CF hK hI hA hP hS 1 (by decide) dR_1 (120 + k) (by omega) (by decide) v dX6_hand_45 (fun H locs hP hS => ?_)
  refine lv_iload_n hx hb dX6_hand_46 rfl (lv_at hl 0 rfl) ?_
  exact x_reti hx hb hr9 hlk9 hS hP (by first | rfl | (show nI (M 1 (120 + k)) = nI (M 1 (120 + k)); first | rfl | omega)) dX6_hand_47
set_option maxHeartbeats 4000000 in
set_option maxRecDepth 100000 in
theorem r_hand_bad {l : Launch} {g : gE} {ad : Nat → Nat} (hI : g_inj ad 14) (M : gMem) (J : gMeL) (k v : Int32) (h : ¬ (inR k 4 ∧ inR v 1024)) : CI l g ad dsR 14 yX6_hand cX6_hand 4 (some .int) 2 [.ref (ad 0), .int k, .int v] M J (nI 4294967295) M J := by
  refine CI.of (plainFor_of_name (by decide)) (Nat.le_of_ble_eq_true rfl) (fun p9 e9 s9 m9 args9 below9 meth9 c9 CF hK hr9 hlk9 hP hS ls hl => ?_)
  have hx := CF.1
  have hb := CF.2.1
  have hA : ∀ q, g_A ad 14 q → g_A ad 14 q := fun _ h => h
  have hl : lv_has ls 4 [(0, .ref (ad 0)), (1, .int k), (2, .int v)] := hl
  refine lv_iload_n hx hb dX6_hand_0 rfl (lv_at hl 1 rfl) ?_
  rcases n_int (x := k) (n := 4) (by omega) with ⟨k1, h_k1, rfl⟩ | ho_k
  · refine lv_i2l hx hb dX6_hand_1 (nI_l (by omega)) ?_
    refine lv_lconst (v := (0 : Int64)) hx hb dX6_hand_2 rfl ?_
    refine lv_ldc2 hx hb CF.2.2.2.1 (CF.2.2.2.2 _ (List.mem_cons_of_mem _ wd3_191)) dX6_hand_3 ?_
    refine x_callSP CF hK hP hS hl (As := [.long (lN k1), .long (0 : Int64), .long (3 : Int64)]) (rest := []) (r_in_t _ _ _ (il_in (lo := 0) (hi := 3) (by omega) (by omega) (by omega))) kw_X6_in wd3_147 rfl ⟨Nat.le_of_ble_eq_true rfl, Nat.le_of_ble_eq_true rfl⟩ ⟨Nat.le_refl _, Nat.le_refl _⟩ (Nat.le_of_ble_eq_true rfl) dX6_hand_6 (fun H locs hP hS => ?_)
    refine x_yeq (u := (1 : Int)) (tgt := 24) hx hb (rfl) dX6_hand_9 (by decide) (fun h_1 => (by omega : False).elim) (fun h_1 => ?_)
    refine lv_iload_n hx hb dX6_hand_12 rfl (lv_at hl 2 rfl) ?_
    rcases n_int (x := v) (n := 1024) (by omega) with ⟨v1, h_v1, rfl⟩ | ho_v
    · refine lv_i2l hx hb dX6_hand_13 (nI_l (by omega)) ?_
      refine lv_lconst (v := (0 : Int64)) hx hb dX6_hand_14 rfl ?_
      refine lv_ldc2 hx hb CF.2.2.2.1 (CF.2.2.2.2 _ (List.mem_cons_of_mem _ wd4_73)) dX6_hand_15 ?_
      refine x_callSP CF hK hP hS hl (As := [.long (lN v1), .long (0 : Int64), .long (1023 : Int64)]) (rest := []) (r_in_t _ _ _ (il_in (lo := 0) (hi := 1023) (by omega) (by omega) (by omega))) kw_X6_in wd3_147 rfl ⟨Nat.le_of_ble_eq_true rfl, Nat.le_of_ble_eq_true rfl⟩ ⟨Nat.le_refl _, Nat.le_refl _⟩ (Nat.le_of_ble_eq_true rfl) dX6_hand_18 (fun H locs hP hS => ?_)
      refine x_yne (u := (1 : Int)) (tgt := 26) hx hb (rfl) dX6_hand_21 (by decide) (fun h_2 => ?_) (fun h_2 => (by omega : False).elim)
      exact absurd ⟨inR_n h_k1 (by decide), inR_n h_v1 (by decide)⟩ h
    · refine lv_i2l hx hb dX6_hand_13 rfl ?_
      refine lv_lconst (v := (0 : Int64)) hx hb dX6_hand_14 rfl ?_
      refine lv_ldc2 hx hb CF.2.2.2.1 (CF.2.2.2.2 _ (List.mem_cons_of_mem _ wd4_73)) dX6_hand_15 ?_
      refine x_callSP CF hK hP hS hl (As := [.long v.toInt64, .long (0 : Int64), .long (1023 : Int64)]) (rest := []) (r_in_f _ _ _ (il_out (lo := 0) (hi := 1023) (by omega) (by omega) (by omega))) kw_X6_in wd3_147 rfl ⟨Nat.le_of_ble_eq_true rfl, Nat.le_of_ble_eq_true rfl⟩ ⟨Nat.le_refl _, Nat.le_refl _⟩ (Nat.le_of_ble_eq_true rfl) dX6_hand_18 (fun H locs hP hS => ?_)
      refine x_yne (u := (0 : Int)) (tgt := 26) hx hb (rfl) dX6_hand_21 (by decide) (fun h_3 => (by omega : False).elim) (fun h_3 => ?_)
      refine lv_iconst (v := nI 4294967295) hx hb dX6_hand_24 (by decide) ?_
      exact x_reti hx hb hr9 hlk9 hS hP (by first | rfl | (show nI 4294967295 = nI 4294967295; first | rfl | omega)) dX6_hand_25
  · refine lv_i2l hx hb dX6_hand_1 rfl ?_
    refine lv_lconst (v := (0 : Int64)) hx hb dX6_hand_2 rfl ?_
    refine lv_ldc2 hx hb CF.2.2.2.1 (CF.2.2.2.2 _ (List.mem_cons_of_mem _ wd3_191)) dX6_hand_3 ?_
    refine x_callSP CF hK hP hS hl (As := [.long k.toInt64, .long (0 : Int64), .long (3 : Int64)]) (rest := []) (r_in_f _ _ _ (il_out (lo := 0) (hi := 3) (by omega) (by omega) (by omega))) kw_X6_in wd3_147 rfl ⟨Nat.le_of_ble_eq_true rfl, Nat.le_of_ble_eq_true rfl⟩ ⟨Nat.le_refl _, Nat.le_refl _⟩ (Nat.le_of_ble_eq_true rfl) dX6_hand_6 (fun H locs hP hS => ?_)
    refine x_yeq (u := (0 : Int)) (tgt := 24) hx hb (rfl) dX6_hand_9 (by decide) (fun h_4 => ?_) (fun h_4 => (by omega : False).elim)
    refine lv_iconst (v := nI 4294967295) hx hb dX6_hand_24 (by decide) ?_
    exact x_reti hx hb hr9 hlk9 hS hP (by first | rfl | (show nI 4294967295 = nI 4294967295; first | rfl | omega)) dX6_hand_25
set_option maxHeartbeats 4000000 in
set_option maxRecDepth 100000 in
theorem r_whose_ok {l : Launch} {g : gE} {ad : Nat → Nat} (hI : g_inj ad 14) (M : gMem) (J : gMeL) (hw : wfR M) (c : Nat) (hc : c < M 1 0) : CI l g ad dsR 14 yX6_whose cX6_whose 5 (some .int) 2 [.ref (ad 0), .int (nI c)] M J (nI (whoS (stpS (rowR M c) 12) (fun i => M 1 (120 + i)))) M J := by
  refine CI.of (plainFor_of_name (by decide)) (Nat.le_of_ble_eq_true rfl) (fun p9 e9 s9 m9 args9 below9 meth9 c9 CF hK hr9 hlk9 hP hS ls hl => ?_)
  have hx := CF.1
  have hb := CF.2.1
  have hA : ∀ q, g_A ad 14 q → g_A ad 14 q := fun _ h => h
  have hl : lv_has ls 5 [(0, .ref (ad 0)), (1, .int (nI c))] := hl
  have hnc := hw.nc
  have hnf := hw.nf
  have hwy := hw.way
  have hst := stpS_lt (r := rowR M c) (k := 12) (fun a ha => hw.row (show c < 6 by omega) ha) (by omega)
  refine lv_aload_n hx hb dX6_whose_0 rfl (lv_at hl 0 rfl) ?_
  refine lv_iload_n hx hb dX6_whose_1 rfl (lv_at hl 1 rfl) ?_
  refine x_callVI CF hK hP hS hA hl (As := [.int (nI c)]) (rest := []) (r_isCam_t hI M J c (by omega) (by omega)) kw_X6_isCam wd3_170 (by decide) dR_0 rfl rfl ⟨Nat.le_of_ble_eq_true rfl, Nat.le_of_ble_eq_true rfl⟩ ⟨Nat.le_refl _, Nat.le_refl _⟩ (Nat.le_of_ble_eq_true rfl) dX6_whose_2 (fun H locs hP hS => ?_)
  refine x_yne (u := (1 : Int)) (tgt := 10) hx hb (rfl) dX6_whose_5 (by decide) (fun h_1 => ?_) (fun h_1 => (by omega : False).elim)
  refine lv_iconst (v := nI 0) hx hb dX6_whose_10 (by decide) ?_
  refine lv_istore_n (lv' := [(2, .int (nI 0)), (0, .ref (ad 0)), (1, .int (nI c))]) hx hb dX6_whose_11 rfl hl (by decide) rfl (fun ls hl => ?_)
  refine lv_iconst (v := nI 0) hx hb dX6_whose_12 (by decide) ?_
  refine lv_istore_n (lv' := [(3, .int (nI 0)), (2, .int (nI 0)), (0, .ref (ad 0)), (1, .int (nI c))]) hx hb dX6_whose_13 rfl hl (by decide) rfl (fun ls hl => ?_)
  have L14 : ∀ (d14 : Nat) (q : Nat), (q + d14 = 12) → (∀ (H : Heap) (locs : List Loc) (ls : Array Slot), g_P g ad dsR 14 M J H → va_S (g_A ad 14) s9.heap H locs → lv_has ls 5 [(3, .int (nI q)), (2, .int (nI (stpS (rowR M c) q))), (0, .ref (ad 0)), (1, .int (nI c))] → W p9 l e9 (g_rm 2) s9 m9 args9 below9 meth9 c9 H locs 0 0 (MQ below9 (va_Qi (fun r' (_ : Unit) => r' = (nI (whoS (stpS (rowR M c) 12) (fun i => M 1 (120 + i))))) (fun _ t => g_P g ad dsR 14 M J t.heap) (g_A ad 14)) args9 s9 0 0 (g_A ad 14)) (F0 m9 14 ls [])) := by
    intro d14
    induction d14 with
    | zero =>
      intro q h_q H locs ls hP hS hl
      refine lv_iload_n hx hb dX6_whose_14 rfl (lv_at hl 0 rfl) ?_
      refine lv_bipush (v := nI 12) hx hb dX6_whose_15 (by decide) ?_
      refine x_zge (u := (q : Nat)) (v := (12 : Int)) (tgt := 78) hx hb (nI_toInt (by omega)) (rfl) dX6_whose_17 (by decide) (fun h_2 => ?_) (fun h_2 => (by omega : False).elim)
      refine lv_iconst (v := nI 0) hx hb dX6_whose_78 (by decide) ?_
      refine lv_istore_n (lv' := [(3, .int (nI 0)), (2, .int (nI (stpS (rowR M c) q))), (0, .ref (ad 0)), (1, .int (nI c))]) hx hb dX6_whose_79 rfl hl (by decide) rfl (fun ls hl => ?_)
      refine lv_iconst (v := nI 0) hx hb dX6_whose_80 (by decide) ?_
      refine lv_istore (lv' := [(4, .int (nI 0)), (3, .int (nI 0)), (2, .int (nI (stpS (rowR M c) q))), (0, .ref (ad 0)), (1, .int (nI c))]) hx hb dX6_whose_81 hl (by decide) rfl (fun ls hl => ?_)
      have L83 : ∀ (d83 : Nat) (z : Nat), (z + d83 = 4) → (∀ (H : Heap) (locs : List Loc) (ls : Array Slot), g_P g ad dsR 14 M J H → va_S (g_A ad 14) s9.heap H locs → lv_has ls 5 [(4, .int (nI z)), (3, .int (nI (setN (fun i => decide ((stpS (rowR M c) 12) &&& (M 1 (120 + i) ^^^ 4294967295) = 0)) z))), (2, .int (nI (stpS (rowR M c) 12))), (0, .ref (ad 0)), (1, .int (nI c))] → W p9 l e9 (g_rm 2) s9 m9 args9 below9 meth9 c9 H locs 0 0 (MQ below9 (va_Qi (fun r' (_ : Unit) => r' = (nI (whoS (stpS (rowR M c) 12) (fun i => M 1 (120 + i))))) (fun _ t => g_P g ad dsR 14 M J t.heap) (g_A ad 14)) args9 s9 0 0 (g_A ad 14)) (F0 m9 83 ls [])) := by
        intro d83
        induction d83 with
        | zero =>
          intro z h_z H locs ls hP hS hl
          refine lv_iload hx hb dX6_whose_83 (lv_at hl 0 rfl) ?_
          refine lv_iconst (v := nI 4) hx hb dX6_whose_85 (by decide) ?_
          refine x_zge (u := (z : Nat)) (v := (4 : Int)) (tgt := 123) hx hb (nI_toInt (by omega)) (rfl) dX6_whose_86 (by decide) (fun h_3 => ?_) (fun h_3 => (by omega : False).elim)
          refine lv_iload_n hx hb dX6_whose_123 rfl (lv_at hl 1 rfl) ?_
          exact x_reti hx hb hr9 hlk9 hS hP (by rw [show z = 4 by omega]; rfl) dX6_whose_124
        | succ d83 ih83 =>
          intro z h_z H locs ls hP hS hl
          have b1 : (stpS (rowR M c) 12) &&& (M 1 (120 + z) ^^^ 4294967295) < 4096 := and_lt _ hst
          refine lv_iload hx hb dX6_whose_83 (lv_at hl 0 rfl) ?_
          refine lv_iconst (v := nI 4) hx hb dX6_whose_85 (by decide) ?_
          refine x_zge (u := (z : Nat)) (v := (4 : Int)) (tgt := 123) hx hb (nI_toInt (by omega)) (rfl) dX6_whose_86 (by decide) (fun h_4 => (by omega : False).elim) (fun h_4 => ?_)
          refine lv_iload_n hx hb dX6_whose_89 rfl (lv_at hl 1 rfl) ?_
          refine lv_iload_n hx hb dX6_whose_90 rfl (lv_at hl 2 rfl) ?_
          refine lv_aload_n hx hb dX6_whose_91 rfl (lv_at hl 3 rfl) ?_
          refine x_getr CF hK hP 0 (by decide) dR_0 rfl uX6 0 (by decide) (j := 1) rfl wd3_96 rfl dX6_whose_92 ?_
          refine lv_bipush (v := nI 120) hx hb dX6_whose_95 (by decide) ?_
          refine lv_iload hx hb dX6_whose_97 (lv_at hl 0 rfl) ?_
          refine x_iadd hx hb dX6_whose_99 ?_
          refine x_iald CF hK hP 1 (by decide) dR_1 (120 + z) (by omega) (by decide) dX6_whose_100 ?_
          refine lv_iconst (v := nI 4294967295) hx hb dX6_whose_101 (by decide) ?_
          refine x_ixor hx hb dX6_whose_102 ?_
          refine x_iand hx hb dX6_whose_103 ?_
          refine x_yne (u := ((stpS (rowR M c) 12) &&& ((M 1 (120 + z)) ^^^ 4294967295) : Nat)) (tgt := 114) hx hb (nI_toInt (by omega)) dX6_whose_104 (by decide) (fun h_5 => ?_) (fun h_5 => ?_)
          · refine lv_iconst (v := nI 0) hx hb dX6_whose_114 (by decide) ?_
            refine x_ior hx hb dX6_whose_115 ?_
            refine lv_istore_n (lv' := [(3, .int (nI ((setN (fun i => decide ((stpS (rowR M c) 12) &&& (M 1 (120 + i) ^^^ 4294967295) = 0)) z) ||| 0))), (4, .int (nI z)), (2, .int (nI (stpS (rowR M c) 12))), (0, .ref (ad 0)), (1, .int (nI c))]) hx hb dX6_whose_116 rfl hl (by decide) rfl (fun ls hl => ?_)
            refine lv_iinc (v := nI (z + 1)) (lv' := [(4, .int (nI (z + 1))), (3, .int (nI ((setN (fun i => decide ((stpS (rowR M c) 12) &&& (M 1 (120 + i) ^^^ 4294967295) = 0)) z) ||| 0))), (2, .int (nI (stpS (rowR M c) 12))), (0, .ref (ad 0)), (1, .int (nI c))]) hx hb dX6_whose_117 hl (k := 1) rfl (n_inc z 1) (by decide) rfl (fun ls hl => ?_)
            refine lv_goto (tgt := 83) hx hb dX6_whose_120 (by decide) ?_
            have hl0 : lv_has ls 5 [(4, .int (nI (z + 1))), (3, .int (nI (setN (fun i => decide ((stpS (rowR M c) 12) &&& (M 1 (120 + i) ^^^ 4294967295) = 0)) (z + 1)))), (2, .int (nI (stpS (rowR M c) 12))), (0, .ref (ad 0)), (1, .int (nI c))] := by rw [(show nI (setN (fun i => decide ((stpS (rowR M c) 12) &&& (M 1 (120 + i) ^^^ 4294967295) = 0)) (z + 1)) = nI ((setN (fun i => decide ((stpS (rowR M c) 12) &&& (M 1 (120 + i) ^^^ 4294967295) = 0)) z) ||| 0) from by first | rfl | (congr 1; omega) | (refine congrArg nI ?_; first | rfl | (exact (setN_t (decide_eq_true (by omega)))) | (exact (setN_f (decide_eq_false (by omega)))) | (rw [Nat.or_zero]; exact (setN_f (decide_eq_false (by omega))))))]; exact lv_sub hl [0, 1, 2, 3, 4] rfl
            exact ih83 (z + 1) (by omega) _ _ _ (hP) hS hl0
          · refine lv_iconst (v := nI 1) hx hb dX6_whose_107 (by decide) ?_
            refine lv_iload hx hb dX6_whose_108 (lv_at hl 0 rfl) ?_
            refine x_ishl hx hb (by omega) dX6_whose_110 ?_
            refine lv_goto (tgt := 115) hx hb dX6_whose_111 (by decide) ?_
            refine x_ior hx hb dX6_whose_115 ?_
            refine lv_istore_n (lv' := [(3, .int (nI ((setN (fun i => decide ((stpS (rowR M c) 12) &&& (M 1 (120 + i) ^^^ 4294967295) = 0)) z) ||| (1 <<< z)))), (4, .int (nI z)), (2, .int (nI (stpS (rowR M c) 12))), (0, .ref (ad 0)), (1, .int (nI c))]) hx hb dX6_whose_116 rfl hl (by decide) rfl (fun ls hl => ?_)
            refine lv_iinc (v := nI (z + 1)) (lv' := [(4, .int (nI (z + 1))), (3, .int (nI ((setN (fun i => decide ((stpS (rowR M c) 12) &&& (M 1 (120 + i) ^^^ 4294967295) = 0)) z) ||| (1 <<< z)))), (2, .int (nI (stpS (rowR M c) 12))), (0, .ref (ad 0)), (1, .int (nI c))]) hx hb dX6_whose_117 hl (k := 1) rfl (n_inc z 1) (by decide) rfl (fun ls hl => ?_)
            refine lv_goto (tgt := 83) hx hb dX6_whose_120 (by decide) ?_
            have hl0 : lv_has ls 5 [(4, .int (nI (z + 1))), (3, .int (nI (setN (fun i => decide ((stpS (rowR M c) 12) &&& (M 1 (120 + i) ^^^ 4294967295) = 0)) (z + 1)))), (2, .int (nI (stpS (rowR M c) 12))), (0, .ref (ad 0)), (1, .int (nI c))] := by rw [(show nI (setN (fun i => decide ((stpS (rowR M c) 12) &&& (M 1 (120 + i) ^^^ 4294967295) = 0)) (z + 1)) = nI ((setN (fun i => decide ((stpS (rowR M c) 12) &&& (M 1 (120 + i) ^^^ 4294967295) = 0)) z) ||| (1 <<< z)) from by first | rfl | (congr 1; omega) | (refine congrArg nI ?_; first | rfl | (exact (setN_t (decide_eq_true (by omega)))) | (exact (setN_f (decide_eq_false (by omega)))) | (rw [Nat.or_zero]; exact (setN_f (decide_eq_false (by omega))))))]; exact lv_sub hl [0, 1, 2, 3, 4] rfl
            exact ih83 (z + 1) (by omega) _ _ _ (hP) hS hl0
      have hl0 : lv_has ls 5 [(4, .int (nI 0)), (3, .int (nI (setN (fun i => decide ((stpS (rowR M c) 12) &&& (M 1 (120 + i) ^^^ 4294967295) = 0)) 0))), (2, .int (nI (stpS (rowR M c) 12))), (0, .ref (ad 0)), (1, .int (nI c))] := by rw [(show nI (setN (fun i => decide ((stpS (rowR M c) 12) &&& (M 1 (120 + i) ^^^ 4294967295) = 0)) 0) = nI 0 from rfl), (show nI (stpS (rowR M c) 12) = nI (stpS (rowR M c) q) from by rw [show q = 12 by omega])]; exact lv_sub hl [0, 1, 2, 3, 4] rfl
      exact L83 4 0 (by omega) _ _ _ (hP) hS hl0
    | succ d14 ih14 =>
      intro q h_q H locs ls hP hS hl
      have b1 := hw.row (show c < 6 by omega) (show q < 12 by omega)
      have b2 := hw.row (show c < 6 by omega) (show (q + 1) % 12 < 12 by omega)
      have b4 : stp (rowR M c) q ≤ 9 := by simp only [stp, rowR]; omega
      refine lv_iload_n hx hb dX6_whose_14 rfl (lv_at hl 0 rfl) ?_
      refine lv_bipush (v := nI 12) hx hb dX6_whose_15 (by decide) ?_
      refine x_zge (u := (q : Nat)) (v := (12 : Int)) (tgt := 78) hx hb (nI_toInt (by omega)) (rfl) dX6_whose_17 (by decide) (fun h_6 => (by omega : False).elim) (fun h_6 => ?_)
      refine lv_aload_n hx hb dX6_whose_20 rfl (lv_at hl 2 rfl) ?_
      refine x_getr CF hK hP 0 (by decide) dR_0 rfl uX6 0 (by decide) (j := 1) rfl wd3_96 rfl dX6_whose_21 ?_
      refine lv_iconst (v := nI 1) hx hb dX6_whose_24 (by decide) ?_
      refine lv_bipush (v := nI 12) hx hb dX6_whose_25 (by decide) ?_
      refine lv_iload_n hx hb dX6_whose_27 rfl (lv_at hl 3 rfl) ?_
      refine x_imul hx hb dX6_whose_28 ?_
      refine x_iadd hx hb dX6_whose_29 ?_
      refine lv_iload_n hx hb dX6_whose_30 rfl (lv_at hl 0 rfl) ?_
      refine x_iadd hx hb dX6_whose_31 ?_
      refine x_iald CF hK hP 1 (by decide) dR_1 ((1 + (12 * c)) + q) (by omega) (by decide) dX6_whose_32 ?_
      refine lv_aload_n hx hb dX6_whose_33 rfl (lv_at hl 2 rfl) ?_
      refine x_getr CF hK hP 0 (by decide) dR_0 rfl uX6 0 (by decide) (j := 1) rfl wd3_96 rfl dX6_whose_34 ?_
      refine lv_iconst (v := nI 1) hx hb dX6_whose_37 (by decide) ?_
      refine lv_bipush (v := nI 12) hx hb dX6_whose_38 (by decide) ?_
      refine lv_iload_n hx hb dX6_whose_40 rfl (lv_at hl 3 rfl) ?_
      refine x_imul hx hb dX6_whose_41 ?_
      refine x_iadd hx hb dX6_whose_42 ?_
      refine lv_iload_n hx hb dX6_whose_43 rfl (lv_at hl 0 rfl) ?_
      refine lv_iconst (v := nI 1) hx hb dX6_whose_44 (by decide) ?_
      refine x_iadd hx hb dX6_whose_45 ?_
      refine lv_bipush (v := nI 12) hx hb dX6_whose_46 (by decide) ?_
      refine x_irem hx hb (by omega) (by omega) (by omega) dX6_whose_48 ?_
      refine x_iadd hx hb dX6_whose_49 ?_
      refine x_iald CF hK hP 1 (by decide) dR_1 ((1 + (12 * c)) + ((q + 1) % 12)) (by omega) (by decide) dX6_whose_50 ?_
      refine lv_isub hx hb dX6_whose_51 ?_
      refine lv_istore (lv' := [(4, .int (nI (M 1 ((1 + (12 * c)) + q)) - nI (M 1 ((1 + (12 * c)) + ((q + 1) % 12))))), (3, .int (nI q)), (2, .int (nI (stpS (rowR M c) q))), (0, .ref (ad 0)), (1, .int (nI c))]) hx hb dX6_whose_52 hl (by decide) rfl (fun ls hl => ?_)
      refine lv_iload_n hx hb dX6_whose_54 rfl (lv_at hl 2 rfl) ?_
      refine lv_iconst (v := nI 1) hx hb dX6_whose_55 (by decide) ?_
      refine lv_iload hx hb dX6_whose_56 (lv_at hl 0 rfl) ?_
      refine x_yge (u := _) (tgt := 67) hx hb (rfl) dX6_whose_58 (by decide) (fun h_7 => ?_) (fun h_7 => ?_)
      · refine lv_iload hx hb dX6_whose_67 (lv_at hl 0 rfl) ?_
        refine x_ri (show (nI (M 1 ((1 + (12 * c)) + q)) - nI (M 1 ((1 + (12 * c)) + ((q + 1) % 12)))) = nI (stp (rowR M c) q) from n_abs2 (by omega) (by omega) (by omega)) ?_
        refine x_ishl hx hb (by omega) dX6_whose_69 ?_
        refine x_ior hx hb dX6_whose_70 ?_
        refine lv_istore_n (lv' := [(2, .int (nI ((stpS (rowR M c) q) ||| (1 <<< (stp (rowR M c) q))))), (4, .int (nI (M 1 ((1 + (12 * c)) + q)) - nI (M 1 ((1 + (12 * c)) + ((q + 1) % 12))))), (3, .int (nI q)), (0, .ref (ad 0)), (1, .int (nI c))]) hx hb dX6_whose_71 rfl hl (by decide) rfl (fun ls hl => ?_)
        refine lv_iinc (v := nI (q + 1)) (lv' := [(3, .int (nI (q + 1))), (2, .int (nI ((stpS (rowR M c) q) ||| (1 <<< (stp (rowR M c) q))))), (4, .int (nI (M 1 ((1 + (12 * c)) + q)) - nI (M 1 ((1 + (12 * c)) + ((q + 1) % 12))))), (0, .ref (ad 0)), (1, .int (nI c))]) hx hb dX6_whose_72 hl (k := 2) rfl (n_inc q 1) (by decide) rfl (fun ls hl => ?_)
        refine lv_goto (tgt := 14) hx hb dX6_whose_75 (by decide) ?_
        have hl0 : lv_has ls 5 [(3, .int (nI (q + 1))), (2, .int (nI (stpS (rowR M c) (q + 1)))), (0, .ref (ad 0)), (1, .int (nI c))] := by rw [(show nI (stpS (rowR M c) (q + 1)) = nI ((stpS (rowR M c) q) ||| (1 <<< (stp (rowR M c) q))) from rfl)]; exact lv_sub hl [0, 1, 3, 4] rfl
        exact ih14 (q + 1) (by omega) _ _ _ (hP) hS hl0
      · refine lv_iload hx hb dX6_whose_61 (lv_at hl 0 rfl) ?_
        refine lv_ineg hx hb dX6_whose_63 ?_
        refine x_ri (show (-(nI (M 1 ((1 + (12 * c)) + q)) - nI (M 1 ((1 + (12 * c)) + ((q + 1) % 12))))) = nI (stp (rowR M c) q) from n_abs (by omega) (by omega) (by omega)) ?_
        refine lv_goto (tgt := 69) hx hb dX6_whose_64 (by decide) ?_
        refine x_ishl hx hb (by omega) dX6_whose_69 ?_
        refine x_ior hx hb dX6_whose_70 ?_
        refine lv_istore_n (lv' := [(2, .int (nI ((stpS (rowR M c) q) ||| (1 <<< (stp (rowR M c) q))))), (4, .int (nI (M 1 ((1 + (12 * c)) + q)) - nI (M 1 ((1 + (12 * c)) + ((q + 1) % 12))))), (3, .int (nI q)), (0, .ref (ad 0)), (1, .int (nI c))]) hx hb dX6_whose_71 rfl hl (by decide) rfl (fun ls hl => ?_)
        refine lv_iinc (v := nI (q + 1)) (lv' := [(3, .int (nI (q + 1))), (2, .int (nI ((stpS (rowR M c) q) ||| (1 <<< (stp (rowR M c) q))))), (4, .int (nI (M 1 ((1 + (12 * c)) + q)) - nI (M 1 ((1 + (12 * c)) + ((q + 1) % 12))))), (0, .ref (ad 0)), (1, .int (nI c))]) hx hb dX6_whose_72 hl (k := 2) rfl (n_inc q 1) (by decide) rfl (fun ls hl => ?_)
        refine lv_goto (tgt := 14) hx hb dX6_whose_75 (by decide) ?_
        have hl0 : lv_has ls 5 [(3, .int (nI (q + 1))), (2, .int (nI (stpS (rowR M c) (q + 1)))), (0, .ref (ad 0)), (1, .int (nI c))] := by rw [(show nI (stpS (rowR M c) (q + 1)) = nI ((stpS (rowR M c) q) ||| (1 <<< (stp (rowR M c) q))) from rfl)]; exact lv_sub hl [0, 1, 3, 4] rfl
        exact ih14 (q + 1) (by omega) _ _ _ (hP) hS hl0
  have hl0 : lv_has ls 5 [(3, .int (nI 0)), (2, .int (nI (stpS (rowR M c) 0))), (0, .ref (ad 0)), (1, .int (nI c))] := by rw [(show nI (stpS (rowR M c) 0) = nI 0 from rfl)]; exact lv_sub hl [0, 1, 2, 3] rfl
  exact L14 12 0 (by omega) _ _ _ (hP) hS hl0
set_option maxHeartbeats 4000000 in
set_option maxRecDepth 100000 in
theorem r_whose_bad {l : Launch} {g : gE} {ad : Nat → Nat} (hI : g_inj ad 14) (M : gMem) (J : gMeL) (hw : wfR M) (c : Int32) (h : ¬ inR c (M 1 0)) : CI l g ad dsR 14 yX6_whose cX6_whose 5 (some .int) 2 [.ref (ad 0), .int c] M J (nI 4294967295) M J := by
  refine CI.of (plainFor_of_name (by decide)) (Nat.le_of_ble_eq_true rfl) (fun p9 e9 s9 m9 args9 below9 meth9 c9 CF hK hr9 hlk9 hP hS ls hl => ?_)
  have hx := CF.1
  have hb := CF.2.1
  have hA : ∀ q, g_A ad 14 q → g_A ad 14 q := fun _ h => h
  have hl : lv_has ls 5 [(0, .ref (ad 0)), (1, .int c)] := hl
  have hnc := hw.nc
  have hnf := hw.nf
  have hwy := hw.way
  refine lv_aload_n hx hb dX6_whose_0 rfl (lv_at hl 0 rfl) ?_
  refine lv_iload_n hx hb dX6_whose_1 rfl (lv_at hl 1 rfl) ?_
  rcases n_int (x := c) (n := M 1 0) (by omega) with ⟨c1, h_c1, rfl⟩ | ho_c
  · refine x_callVI CF hK hP hS hA hl (As := [.int (nI c1)]) (rest := []) (r_isCam_t hI M J c1 (by omega) (by omega)) kw_X6_isCam wd3_170 (by decide) dR_0 rfl rfl ⟨Nat.le_of_ble_eq_true rfl, Nat.le_of_ble_eq_true rfl⟩ ⟨Nat.le_refl _, Nat.le_refl _⟩ (Nat.le_of_ble_eq_true rfl) dX6_whose_2 (fun H locs hP hS => ?_)
    refine x_yne (u := (1 : Int)) (tgt := 10) hx hb (rfl) dX6_whose_5 (by decide) (fun h_1 => ?_) (fun h_1 => (by omega : False).elim)
    exact absurd (inR_n h_c1 (by omega)) h
  · refine x_callVI CF hK hP hS hA hl (As := [.int c]) (rest := []) (r_isCam_f hI M J c ho_c (by omega)) kw_X6_isCam wd3_170 (by decide) dR_0 rfl rfl ⟨Nat.le_of_ble_eq_true rfl, Nat.le_of_ble_eq_true rfl⟩ ⟨Nat.le_refl _, Nat.le_refl _⟩ (Nat.le_of_ble_eq_true rfl) dX6_whose_2 (fun H locs hP hS => ?_)
    refine x_yne (u := (0 : Int)) (tgt := 10) hx hb (rfl) dX6_whose_5 (by decide) (fun h_2 => (by omega : False).elim) (fun h_2 => ?_)
    refine lv_iconst (v := nI 4294967295) hx hb dX6_whose_8 (by decide) ?_
    exact x_reti hx hb hr9 hlk9 hS hP (by first | rfl | (show nI 4294967295 = nI 4294967295; first | rfl | omega)) dX6_whose_9
set_option maxHeartbeats 4000000 in
set_option maxRecDepth 100000 in
theorem r_image {l : Launch} {g : gE} {ad : Nat → Nat} (hI : g_inj ad 14) (M : gMem) (J : gMeL)  : CI l g ad dsR 14 yX6_image cX6_image 2 (some .int) 0 [.ref (ad 0)] M J (nI 1) (u2 (imR M) 0 1 1) J := by
  refine CI.of (plainFor_of_name (by decide)) (Nat.le_of_ble_eq_true rfl) (fun p9 e9 s9 m9 args9 below9 meth9 c9 CF hK hr9 hlk9 hP hS ls hl => ?_)
  have hx := CF.1
  have hb := CF.2.1
  have hA : ∀ q, g_A ad 14 q → g_A ad 14 q := fun _ h => h
  have hl : lv_has ls 2 [(0, .ref (ad 0))] := hl
  refine lv_iconst (v := nI 0) hx hb dX6_image_0 (by decide) ?_
  refine lv_istore_n (lv' := [(1, .int (nI 0)), (0, .ref (ad 0))]) hx hb dX6_image_1 rfl hl (by decide) rfl (fun ls hl => ?_)
  have L2 : ∀ (d2 : Nat) (i : Nat), (i + d2 = 124) → (∀ (H : Heap) (locs : List Loc) (ls : Array Slot), g_P g ad dsR 14 (rowO M 1 124 i (M 1)) J H → va_S (g_A ad 14) s9.heap H locs → lv_has ls 2 [(1, .int (nI i)), (0, .ref (ad 0))] → W p9 l e9 (g_rm 0) s9 m9 args9 below9 meth9 c9 H locs 0 0 (MQ below9 (va_Qi (fun r' (_ : Unit) => r' = (nI 1)) (fun _ t => g_P g ad dsR 14 (u2 (imR M) 0 1 1) J t.heap) (g_A ad 14)) args9 s9 0 0 (g_A ad 14)) (F0 m9 2 ls [])) := by
    intro d2
    induction d2 with
    | zero =>
      intro i h_i H locs ls hP hS hl
      refine lv_iload_n hx hb dX6_image_2 rfl (lv_at hl 0 rfl) ?_
      refine lv_bipush (v := nI 124) hx hb dX6_image_3 (by decide) ?_
      refine x_zge (u := (i : Nat)) (v := (124 : Int)) (tgt := 29) hx hb (nI_toInt (by omega)) (rfl) dX6_image_5 (by decide) (fun h_1 => ?_) (fun h_1 => (by omega : False).elim)
      refine lv_aload_n hx hb dX6_image_29 rfl (lv_at hl 1 rfl) ?_
      refine lv_iconst (v := nI 1) hx hb dX6_image_30 (by decide) ?_
      refine x_puti CF hK hI hA hP hS 0 (by decide) dR_0 rfl uX6 tyX6 tyX6_ok nmX6 1 (by decide) rfl wd3_97 rfl rfl 1 (ty := .boolean) rfl (by decide) (by decide) dX6_image_31 (fun H locs hP hS => ?_)
      refine lv_iconst (v := nI 1) hx hb dX6_image_34 (by decide) ?_
      exact x_reti hx hb hr9 hlk9 hS (by rw [show i = 124 by omega] at hP; exact hP) (by first | rfl | (show nI 1 = nI 1; first | rfl | omega)) dX6_image_35
    | succ d2 ih2 =>
      intro i h_i H locs ls hP hS hl
      refine lv_iload_n hx hb dX6_image_2 rfl (lv_at hl 0 rfl) ?_
      refine lv_bipush (v := nI 124) hx hb dX6_image_3 (by decide) ?_
      refine x_zge (u := (i : Nat)) (v := (124 : Int)) (tgt := 29) hx hb (nI_toInt (by omega)) (rfl) dX6_image_5 (by decide) (fun h_2 => (by omega : False).elim) (fun h_2 => ?_)
      refine lv_aload_n hx hb dX6_image_8 rfl (lv_at hl 1 rfl) ?_
      refine x_getr CF hK hP 0 (by decide) dR_0 rfl uX6 0 (by decide) (j := 1) rfl wd3_96 rfl dX6_image_9 ?_
      refine lv_bipush (v := nI 124) hx hb dX6_image_12 (by decide) ?_
      refine lv_iload_n hx hb dX6_image_14 rfl (lv_at hl 0 rfl) ?_
      refine x_iadd hx hb dX6_image_15 ?_
      refine lv_aload_n hx hb dX6_image_16 rfl (lv_at hl 1 rfl) ?_
      refine x_getr CF hK hP 0 (by decide) dR_0 rfl uX6 0 (by decide) (j := 1) rfl wd3_96 rfl dX6_image_17 ?_
      refine lv_iload_n hx hb dX6_image_20 rfl (lv_at hl 0 rfl) ?_
      refine x_iald CF hK hP 1 (by decide) dR_1 i (by omega) (by decide) dX6_image_21 ?_
      refine x_ri (show (nI ((rowO M 1 124 i (M 1)) 1 i)) = nI (M 1 i) from congrArg nI (rowO_no (by omega))) ?_
      refine x_iast CF hK hI hA hP hS 1 (by decide) dR_1 (124 + i) (by omega) (by decide) (M 1 i) dX6_image_22 (fun H locs hP hS => ?_)
      refine lv_iinc (v := nI (i + 1)) (lv' := [(1, .int (nI (i + 1))), (0, .ref (ad 0))]) hx hb dX6_image_23 hl (k := 0) rfl (n_inc i 1) (by decide) rfl (fun ls hl => ?_)
      refine lv_goto (tgt := 2) hx hb dX6_image_26 (by decide) ?_
      have hl0 : lv_has ls 2 [(1, .int (nI (i + 1))), (0, .ref (ad 0))] := lv_sub hl [0, 1] rfl
      exact ih2 (i + 1) (by omega) _ _ _ (by rw [rowO_s rfl (h := rfl)] at hP; exact hP) hS hl0
  have hl0 : lv_has ls 2 [(1, .int (nI 0)), (0, .ref (ad 0))] := lv_sub hl [0, 1] rfl
  exact L2 124 0 (by omega) _ _ _ (by rw [rowO_0]; exact hP) hS hl0
set_option maxHeartbeats 4000000 in
set_option maxRecDepth 100000 in
theorem r_restore_ok {l : Launch} {g : gE} {ad : Nat → Nat} (hI : g_inj ad 14) (M : gMem) (J : gMeL) (h : M 0 1 = 1) : CI l g ad dsR 14 yX6_restore cX6_restore 2 (some .int) 0 [.ref (ad 0)] M J (nI 1) (reR M) J := by
  refine CI.of (plainFor_of_name (by decide)) (Nat.le_of_ble_eq_true rfl) (fun p9 e9 s9 m9 args9 below9 meth9 c9 CF hK hr9 hlk9 hP hS ls hl => ?_)
  have hx := CF.1
  have hb := CF.2.1
  have hA : ∀ q, g_A ad 14 q → g_A ad 14 q := fun _ h => h
  have hl : lv_has ls 2 [(0, .ref (ad 0))] := hl
  refine lv_aload_n hx hb dX6_restore_0 rfl (lv_at hl 0 rfl) ?_
  refine x_geti CF hK hP 0 (by decide) dR_0 rfl uX6 1 (by decide) rfl wd3_97 rfl dX6_restore_1 ?_
  refine x_ri (show (nI (M 0 1)) = nI 1 from congrArg nI h) ?_
  refine x_yne (u := (1 : Int)) (tgt := 10) hx hb (rfl) dX6_restore_4 (by decide) (fun h_1 => ?_) (fun h_1 => (by omega : False).elim)
  refine lv_iconst (v := nI 0) hx hb dX6_restore_10 (by decide) ?_
  refine lv_istore_n (lv' := [(1, .int (nI 0)), (0, .ref (ad 0))]) hx hb dX6_restore_11 rfl hl (by decide) rfl (fun ls hl => ?_)
  have L12 : ∀ (d12 : Nat) (i : Nat), (i + d12 = 124) → (∀ (H : Heap) (locs : List Loc) (ls : Array Slot), g_P g ad dsR 14 (rowO M 1 0 i (fun q => M 1 (124 + q))) J H → va_S (g_A ad 14) s9.heap H locs → lv_has ls 2 [(1, .int (nI i)), (0, .ref (ad 0))] → W p9 l e9 (g_rm 0) s9 m9 args9 below9 meth9 c9 H locs 0 0 (MQ below9 (va_Qi (fun r' (_ : Unit) => r' = (nI 1)) (fun _ t => g_P g ad dsR 14 (reR M) J t.heap) (g_A ad 14)) args9 s9 0 0 (g_A ad 14)) (F0 m9 12 ls [])) := by
    intro d12
    induction d12 with
    | zero =>
      intro i h_i H locs ls hP hS hl
      refine lv_iload_n hx hb dX6_restore_12 rfl (lv_at hl 0 rfl) ?_
      refine lv_bipush (v := nI 124) hx hb dX6_restore_13 (by decide) ?_
      refine x_zge (u := (i : Nat)) (v := (124 : Int)) (tgt := 39) hx hb (nI_toInt (by omega)) (rfl) dX6_restore_15 (by decide) (fun h_2 => ?_) (fun h_2 => (by omega : False).elim)
      refine lv_iconst (v := nI 1) hx hb dX6_restore_39 (by decide) ?_
      exact x_reti hx hb hr9 hlk9 hS (by rw [show i = 124 by omega] at hP; exact hP) (by first | rfl | (show nI 1 = nI 1; first | rfl | omega)) dX6_restore_40
    | succ d12 ih12 =>
      intro i h_i H locs ls hP hS hl
      refine lv_iload_n hx hb dX6_restore_12 rfl (lv_at hl 0 rfl) ?_
      refine lv_bipush (v := nI 124) hx hb dX6_restore_13 (by decide) ?_
      refine x_zge (u := (i : Nat)) (v := (124 : Int)) (tgt := 39) hx hb (nI_toInt (by omega)) (rfl) dX6_restore_15 (by decide) (fun h_3 => (by omega : False).elim) (fun h_3 => ?_)
      refine lv_aload_n hx hb dX6_restore_18 rfl (lv_at hl 1 rfl) ?_
      refine x_getr CF hK hP 0 (by decide) dR_0 rfl uX6 0 (by decide) (j := 1) rfl wd3_96 rfl dX6_restore_19 ?_
      refine lv_iload_n hx hb dX6_restore_22 rfl (lv_at hl 0 rfl) ?_
      refine lv_aload_n hx hb dX6_restore_23 rfl (lv_at hl 1 rfl) ?_
      refine x_getr CF hK hP 0 (by decide) dR_0 rfl uX6 0 (by decide) (j := 1) rfl wd3_96 rfl dX6_restore_24 ?_
      refine lv_bipush (v := nI 124) hx hb dX6_restore_27 (by decide) ?_
      refine lv_iload_n hx hb dX6_restore_29 rfl (lv_at hl 0 rfl) ?_
      refine x_iadd hx hb dX6_restore_30 ?_
      refine x_iald CF hK hP 1 (by decide) dR_1 (124 + i) (by omega) (by decide) dX6_restore_31 ?_
      refine x_ri (show (nI ((rowO M 1 0 i (fun q => M 1 (124 + q))) 1 (124 + i))) = nI (M 1 (124 + i)) from congrArg nI (rowO_no (by omega))) ?_
      refine x_iast CF hK hI hA hP hS 1 (by decide) dR_1 i (by omega) (by decide) (M 1 (124 + i)) dX6_restore_32 (fun H locs hP hS => ?_)
      refine lv_iinc (v := nI (i + 1)) (lv' := [(1, .int (nI (i + 1))), (0, .ref (ad 0))]) hx hb dX6_restore_33 hl (k := 0) rfl (n_inc i 1) (by decide) rfl (fun ls hl => ?_)
      refine lv_goto (tgt := 12) hx hb dX6_restore_36 (by decide) ?_
      have hl0 : lv_has ls 2 [(1, .int (nI (i + 1))), (0, .ref (ad 0))] := lv_sub hl [0, 1] rfl
      exact ih12 (i + 1) (by omega) _ _ _ (by rw [rowO_s (by omega) (h := rfl)] at hP; exact hP) hS hl0
  have hl0 : lv_has ls 2 [(1, .int (nI 0)), (0, .ref (ad 0))] := lv_sub hl [0, 1] rfl
  exact L12 124 0 (by omega) _ _ _ (by rw [rowO_0]; exact hP) hS hl0
set_option maxHeartbeats 4000000 in
set_option maxRecDepth 100000 in
theorem r_restore_none {l : Launch} {g : gE} {ad : Nat → Nat} (hI : g_inj ad 14) (M : gMem) (J : gMeL) (h : M 0 1 = 0) : CI l g ad dsR 14 yX6_restore cX6_restore 2 (some .int) 0 [.ref (ad 0)] M J (nI 4294967292) M J := by
  refine CI.of (plainFor_of_name (by decide)) (Nat.le_of_ble_eq_true rfl) (fun p9 e9 s9 m9 args9 below9 meth9 c9 CF hK hr9 hlk9 hP hS ls hl => ?_)
  have hx := CF.1
  have hb := CF.2.1
  have hA : ∀ q, g_A ad 14 q → g_A ad 14 q := fun _ h => h
  have hl : lv_has ls 2 [(0, .ref (ad 0))] := hl
  refine lv_aload_n hx hb dX6_restore_0 rfl (lv_at hl 0 rfl) ?_
  refine x_geti CF hK hP 0 (by decide) dR_0 rfl uX6 1 (by decide) rfl wd3_97 rfl dX6_restore_1 ?_
  refine x_ri (show (nI (M 0 1)) = nI 0 from congrArg nI h) ?_
  refine x_yne (u := (0 : Int)) (tgt := 10) hx hb (rfl) dX6_restore_4 (by decide) (fun h_1 => (by omega : False).elim) (fun h_1 => ?_)
  refine lv_bipush (v := nI 4294967292) hx hb dX6_restore_7 (by decide) ?_
  exact x_reti hx hb hr9 hlk9 hS hP (by first | rfl | (show nI 4294967292 = nI 4294967292; first | rfl | omega)) dX6_restore_9
set_option maxHeartbeats 4000000 in
set_option maxRecDepth 100000 in
theorem r_count_0 {l : Launch} {g : gE} {ad : Nat → Nat} (hI : g_inj ad 14) (M : gMem) (J : gMeL) (hw : wfR M) : CI l g ad dsR 14 yX6_count cX6_count 4 (some .int) 2 [.ref (ad 0), .int (nI 0)] M J (nI (M 1 0)) M J := by
  refine CI.of (plainFor_of_name (by decide)) (Nat.le_of_ble_eq_true rfl) (fun p9 e9 s9 m9 args9 below9 meth9 c9 CF hK hr9 hlk9 hP hS ls hl => ?_)
  have hx := CF.1
  have hb := CF.2.1
  have hA : ∀ q, g_A ad 14 q → g_A ad 14 q := fun _ h => h
  have hl : lv_has ls 4 [(0, .ref (ad 0)), (1, .int (nI 0))] := hl
  have hnc := hw.nc
  have hnf := hw.nf
  have hwy := hw.way
  have hat := hw.at
  have hln := hw.line
  refine lv_iconst (v := nI 0) hx hb dX6_count_0 (by decide) ?_
  refine lv_istore_n (lv' := [(2, .int (nI 0)), (0, .ref (ad 0)), (1, .int (nI 0))]) hx hb dX6_count_1 rfl hl (by decide) rfl (fun ls hl => ?_)
  refine lv_iconst (v := nI 0) hx hb dX6_count_2 (by decide) ?_
  refine lv_istore_n (lv' := [(3, .int (nI 0)), (2, .int (nI 0)), (0, .ref (ad 0)), (1, .int (nI 0))]) hx hb dX6_count_3 rfl hl (by decide) rfl (fun ls hl => ?_)
  have L4 : ∀ (d4 : Nat) (k : Nat), (k + d4 = (M 1 73)) → (∀ (H : Heap) (locs : List Loc) (ls : Array Slot), g_P g ad dsR 14 M J H → va_S (g_A ad 14) s9.heap H locs → lv_has ls 4 [(3, .int (nI k)), (2, .int (nI (setN (fun q => decide (M 1 104 ≤ hgtR M q (M 1 106))) k))), (0, .ref (ad 0)), (1, .int (nI 0))] → W p9 l e9 (g_rm 2) s9 m9 args9 below9 meth9 c9 H locs 0 0 (MQ below9 (va_Qi (fun r' (_ : Unit) => r' = (nI (M 1 0))) (fun _ t => g_P g ad dsR 14 M J t.heap) (g_A ad 14)) args9 s9 0 0 (g_A ad 14)) (F0 m9 4 ls [])) := by
    intro d4
    induction d4 with
    | zero =>
      intro k h_k H locs ls hP hS hl
      refine lv_iload_n hx hb dX6_count_4 rfl (lv_at hl 0 rfl) ?_
      refine lv_aload_n hx hb dX6_count_5 rfl (lv_at hl 2 rfl) ?_
      refine x_getr CF hK hP 0 (by decide) dR_0 rfl uX6 0 (by decide) (j := 1) rfl wd3_96 rfl dX6_count_6 ?_
      refine lv_bipush (v := nI 73) hx hb dX6_count_9 (by decide) ?_
      refine x_iald CF hK hP 1 (by decide) dR_1 73 (by omega) (by decide) dX6_count_11 ?_
      refine x_zge (u := (k : Nat)) (v := (M 1 73 : Nat)) (tgt := 53) hx hb (nI_toInt (by omega)) (nI_toInt (by omega)) dX6_count_12 (by decide) (fun h_1 => ?_) (fun h_1 => (by omega : False).elim)
      refine lv_iload_n hx hb dX6_count_53 rfl (lv_at hl 3 rfl) ?_
      refine lv_tableIn (tgt := 92) hx hb dX6_count_54 (by decide) (by decide) (off := 38) (by decide) (by decide) ?_
      refine lv_aload_n hx hb dX6_count_92 rfl (lv_at hl 2 rfl) ?_
      refine x_getr CF hK hP 0 (by decide) dR_0 rfl uX6 0 (by decide) (j := 1) rfl wd3_96 rfl dX6_count_93 ?_
      refine lv_iconst (v := nI 0) hx hb dX6_count_96 (by decide) ?_
      refine x_iald CF hK hP 1 (by decide) dR_1 0 (by omega) (by decide) dX6_count_97 ?_
      exact x_reti hx hb hr9 hlk9 hS hP (by first | rfl | (show nI (M 1 0) = nI (M 1 0); first | rfl | omega)) dX6_count_98
    | succ d4 ih4 =>
      intro k h_k H locs ls hP hS hl
      have b1 := hgtR_le hw (show k < 5 by omega) (M 1 106)
      refine lv_iload_n hx hb dX6_count_4 rfl (lv_at hl 0 rfl) ?_
      refine lv_aload_n hx hb dX6_count_5 rfl (lv_at hl 2 rfl) ?_
      refine x_getr CF hK hP 0 (by decide) dR_0 rfl uX6 0 (by decide) (j := 1) rfl wd3_96 rfl dX6_count_6 ?_
      refine lv_bipush (v := nI 73) hx hb dX6_count_9 (by decide) ?_
      refine x_iald CF hK hP 1 (by decide) dR_1 73 (by omega) (by decide) dX6_count_11 ?_
      refine x_zge (u := (k : Nat)) (v := (M 1 73 : Nat)) (tgt := 53) hx hb (nI_toInt (by omega)) (nI_toInt (by omega)) dX6_count_12 (by decide) (fun h_2 => (by omega : False).elim) (fun h_2 => ?_)
      refine lv_iload_n hx hb dX6_count_15 rfl (lv_at hl 1 rfl) ?_
      refine lv_aload_n hx hb dX6_count_16 rfl (lv_at hl 2 rfl) ?_
      refine lv_iload_n hx hb dX6_count_17 rfl (lv_at hl 0 rfl) ?_
      refine lv_aload_n hx hb dX6_count_18 rfl (lv_at hl 2 rfl) ?_
      refine x_getr CF hK hP 0 (by decide) dR_0 rfl uX6 0 (by decide) (j := 1) rfl wd3_96 rfl dX6_count_19 ?_
      refine lv_bipush (v := nI 106) hx hb dX6_count_22 (by decide) ?_
      refine x_iald CF hK hP 1 (by decide) dR_1 106 (by omega) (by decide) dX6_count_24 ?_
      refine x_callVI CF hK hP hS hA hl (As := [.int (nI k), .int (nI (M 1 106))]) (rest := [.int (nI (setN (fun q => decide (M 1 104 ≤ hgtR M q (M 1 106))) k))]) (r_heightOf hI M J hw k (by omega) (M 1 106) (by omega)) kw_X6_heightOf wd3_219 (by decide) dR_0 rfl rfl ⟨Nat.le_of_ble_eq_true rfl, Nat.le_of_ble_eq_true rfl⟩ ⟨Nat.le_refl _, Nat.le_refl _⟩ (Nat.le_of_ble_eq_true rfl) dX6_count_25 (fun H locs hP hS => ?_)
      refine lv_aload_n hx hb dX6_count_28 rfl (lv_at hl 2 rfl) ?_
      refine x_getr CF hK hP 0 (by decide) dR_0 rfl uX6 0 (by decide) (j := 1) rfl wd3_96 rfl dX6_count_29 ?_
      refine lv_bipush (v := nI 104) hx hb dX6_count_32 (by decide) ?_
      refine x_iald CF hK hP 1 (by decide) dR_1 104 (by omega) (by decide) dX6_count_34 ?_
      refine x_zlt (u := (hgtR M k (M 1 106) : Nat)) (v := (M 1 104 : Nat)) (tgt := 44) hx hb (nI_toInt (by omega)) (nI_toInt (by omega)) dX6_count_35 (by decide) (fun h_3 => ?_) (fun h_3 => ?_)
      · refine lv_iconst (v := nI 0) hx hb dX6_count_44 (by decide) ?_
        refine x_ior hx hb dX6_count_45 ?_
        refine lv_istore_n (lv' := [(2, .int (nI ((setN (fun q => decide (M 1 104 ≤ hgtR M q (M 1 106))) k) ||| 0))), (3, .int (nI k)), (0, .ref (ad 0)), (1, .int (nI 0))]) hx hb dX6_count_46 rfl hl (by decide) rfl (fun ls hl => ?_)
        refine lv_iinc (v := nI (k + 1)) (lv' := [(3, .int (nI (k + 1))), (2, .int (nI ((setN (fun q => decide (M 1 104 ≤ hgtR M q (M 1 106))) k) ||| 0))), (0, .ref (ad 0)), (1, .int (nI 0))]) hx hb dX6_count_47 hl (k := 1) rfl (n_inc k 1) (by decide) rfl (fun ls hl => ?_)
        refine lv_goto (tgt := 4) hx hb dX6_count_50 (by decide) ?_
        have hl0 : lv_has ls 4 [(3, .int (nI (k + 1))), (2, .int (nI (setN (fun q => decide (M 1 104 ≤ hgtR M q (M 1 106))) (k + 1)))), (0, .ref (ad 0)), (1, .int (nI 0))] := by rw [(show nI (setN (fun q => decide (M 1 104 ≤ hgtR M q (M 1 106))) (k + 1)) = nI ((setN (fun q => decide (M 1 104 ≤ hgtR M q (M 1 106))) k) ||| 0) from by first | rfl | (congr 1; omega) | (refine congrArg nI ?_; first | rfl | (exact (setN_t (decide_eq_true (by omega)))) | (exact (setN_f (decide_eq_false (by omega)))) | (rw [Nat.or_zero]; exact (setN_f (decide_eq_false (by omega))))))]; exact lv_sub hl [0, 1, 2, 3] rfl
        exact ih4 (k + 1) (by omega) _ _ _ (hP) hS hl0
      · refine lv_iconst (v := nI 1) hx hb dX6_count_38 (by decide) ?_
        refine lv_iload_n hx hb dX6_count_39 rfl (lv_at hl 0 rfl) ?_
        refine x_ishl hx hb (by omega) dX6_count_40 ?_
        refine lv_goto (tgt := 45) hx hb dX6_count_41 (by decide) ?_
        refine x_ior hx hb dX6_count_45 ?_
        refine lv_istore_n (lv' := [(2, .int (nI ((setN (fun q => decide (M 1 104 ≤ hgtR M q (M 1 106))) k) ||| (1 <<< k)))), (3, .int (nI k)), (0, .ref (ad 0)), (1, .int (nI 0))]) hx hb dX6_count_46 rfl hl (by decide) rfl (fun ls hl => ?_)
        refine lv_iinc (v := nI (k + 1)) (lv' := [(3, .int (nI (k + 1))), (2, .int (nI ((setN (fun q => decide (M 1 104 ≤ hgtR M q (M 1 106))) k) ||| (1 <<< k)))), (0, .ref (ad 0)), (1, .int (nI 0))]) hx hb dX6_count_47 hl (k := 1) rfl (n_inc k 1) (by decide) rfl (fun ls hl => ?_)
        refine lv_goto (tgt := 4) hx hb dX6_count_50 (by decide) ?_
        have hl0 : lv_has ls 4 [(3, .int (nI (k + 1))), (2, .int (nI (setN (fun q => decide (M 1 104 ≤ hgtR M q (M 1 106))) (k + 1)))), (0, .ref (ad 0)), (1, .int (nI 0))] := by rw [(show nI (setN (fun q => decide (M 1 104 ≤ hgtR M q (M 1 106))) (k + 1)) = nI ((setN (fun q => decide (M 1 104 ≤ hgtR M q (M 1 106))) k) ||| (1 <<< k)) from by first | rfl | (congr 1; omega) | (refine congrArg nI ?_; first | rfl | (exact (setN_t (decide_eq_true (by omega)))) | (exact (setN_f (decide_eq_false (by omega)))) | (rw [Nat.or_zero]; exact (setN_f (decide_eq_false (by omega))))))]; exact lv_sub hl [0, 1, 2, 3] rfl
        exact ih4 (k + 1) (by omega) _ _ _ (hP) hS hl0
  have hl0 : lv_has ls 4 [(3, .int (nI 0)), (2, .int (nI (setN (fun q => decide (M 1 104 ≤ hgtR M q (M 1 106))) 0))), (0, .ref (ad 0)), (1, .int (nI 0))] := by rw [(show nI (setN (fun q => decide (M 1 104 ≤ hgtR M q (M 1 106))) 0) = nI 0 from rfl)]; exact lv_sub hl [0, 1, 2, 3] rfl
  exact L4 (M 1 73) 0 (by omega) _ _ _ (hP) hS hl0
set_option maxHeartbeats 4000000 in
set_option maxRecDepth 100000 in
theorem r_count_1 {l : Launch} {g : gE} {ad : Nat → Nat} (hI : g_inj ad 14) (M : gMem) (J : gMeL) (hw : wfR M) : CI l g ad dsR 14 yX6_count cX6_count 4 (some .int) 2 [.ref (ad 0), .int (nI 1)] M J (nI (M 1 73)) M J := by
  refine CI.of (plainFor_of_name (by decide)) (Nat.le_of_ble_eq_true rfl) (fun p9 e9 s9 m9 args9 below9 meth9 c9 CF hK hr9 hlk9 hP hS ls hl => ?_)
  have hx := CF.1
  have hb := CF.2.1
  have hA : ∀ q, g_A ad 14 q → g_A ad 14 q := fun _ h => h
  have hl : lv_has ls 4 [(0, .ref (ad 0)), (1, .int (nI 1))] := hl
  have hnc := hw.nc
  have hnf := hw.nf
  have hwy := hw.way
  have hat := hw.at
  have hln := hw.line
  refine lv_iconst (v := nI 0) hx hb dX6_count_0 (by decide) ?_
  refine lv_istore_n (lv' := [(2, .int (nI 0)), (0, .ref (ad 0)), (1, .int (nI 1))]) hx hb dX6_count_1 rfl hl (by decide) rfl (fun ls hl => ?_)
  refine lv_iconst (v := nI 0) hx hb dX6_count_2 (by decide) ?_
  refine lv_istore_n (lv' := [(3, .int (nI 0)), (2, .int (nI 0)), (0, .ref (ad 0)), (1, .int (nI 1))]) hx hb dX6_count_3 rfl hl (by decide) rfl (fun ls hl => ?_)
  have L4 : ∀ (d4 : Nat) (k : Nat), (k + d4 = (M 1 73)) → (∀ (H : Heap) (locs : List Loc) (ls : Array Slot), g_P g ad dsR 14 M J H → va_S (g_A ad 14) s9.heap H locs → lv_has ls 4 [(3, .int (nI k)), (2, .int (nI (setN (fun q => decide (M 1 104 ≤ hgtR M q (M 1 106))) k))), (0, .ref (ad 0)), (1, .int (nI 1))] → W p9 l e9 (g_rm 2) s9 m9 args9 below9 meth9 c9 H locs 0 0 (MQ below9 (va_Qi (fun r' (_ : Unit) => r' = (nI (M 1 73))) (fun _ t => g_P g ad dsR 14 M J t.heap) (g_A ad 14)) args9 s9 0 0 (g_A ad 14)) (F0 m9 4 ls [])) := by
    intro d4
    induction d4 with
    | zero =>
      intro k h_k H locs ls hP hS hl
      refine lv_iload_n hx hb dX6_count_4 rfl (lv_at hl 0 rfl) ?_
      refine lv_aload_n hx hb dX6_count_5 rfl (lv_at hl 2 rfl) ?_
      refine x_getr CF hK hP 0 (by decide) dR_0 rfl uX6 0 (by decide) (j := 1) rfl wd3_96 rfl dX6_count_6 ?_
      refine lv_bipush (v := nI 73) hx hb dX6_count_9 (by decide) ?_
      refine x_iald CF hK hP 1 (by decide) dR_1 73 (by omega) (by decide) dX6_count_11 ?_
      refine x_zge (u := (k : Nat)) (v := (M 1 73 : Nat)) (tgt := 53) hx hb (nI_toInt (by omega)) (nI_toInt (by omega)) dX6_count_12 (by decide) (fun h_1 => ?_) (fun h_1 => (by omega : False).elim)
      refine lv_iload_n hx hb dX6_count_53 rfl (lv_at hl 3 rfl) ?_
      refine lv_tableIn (tgt := 99) hx hb dX6_count_54 (by decide) (by decide) (off := 45) (by decide) (by decide) ?_
      refine lv_aload_n hx hb dX6_count_99 rfl (lv_at hl 2 rfl) ?_
      refine x_getr CF hK hP 0 (by decide) dR_0 rfl uX6 0 (by decide) (j := 1) rfl wd3_96 rfl dX6_count_100 ?_
      refine lv_bipush (v := nI 73) hx hb dX6_count_103 (by decide) ?_
      refine x_iald CF hK hP 1 (by decide) dR_1 73 (by omega) (by decide) dX6_count_105 ?_
      exact x_reti hx hb hr9 hlk9 hS hP (by first | rfl | (show nI (M 1 73) = nI (M 1 73); first | rfl | omega)) dX6_count_106
    | succ d4 ih4 =>
      intro k h_k H locs ls hP hS hl
      have b1 := hgtR_le hw (show k < 5 by omega) (M 1 106)
      refine lv_iload_n hx hb dX6_count_4 rfl (lv_at hl 0 rfl) ?_
      refine lv_aload_n hx hb dX6_count_5 rfl (lv_at hl 2 rfl) ?_
      refine x_getr CF hK hP 0 (by decide) dR_0 rfl uX6 0 (by decide) (j := 1) rfl wd3_96 rfl dX6_count_6 ?_
      refine lv_bipush (v := nI 73) hx hb dX6_count_9 (by decide) ?_
      refine x_iald CF hK hP 1 (by decide) dR_1 73 (by omega) (by decide) dX6_count_11 ?_
      refine x_zge (u := (k : Nat)) (v := (M 1 73 : Nat)) (tgt := 53) hx hb (nI_toInt (by omega)) (nI_toInt (by omega)) dX6_count_12 (by decide) (fun h_2 => (by omega : False).elim) (fun h_2 => ?_)
      refine lv_iload_n hx hb dX6_count_15 rfl (lv_at hl 1 rfl) ?_
      refine lv_aload_n hx hb dX6_count_16 rfl (lv_at hl 2 rfl) ?_
      refine lv_iload_n hx hb dX6_count_17 rfl (lv_at hl 0 rfl) ?_
      refine lv_aload_n hx hb dX6_count_18 rfl (lv_at hl 2 rfl) ?_
      refine x_getr CF hK hP 0 (by decide) dR_0 rfl uX6 0 (by decide) (j := 1) rfl wd3_96 rfl dX6_count_19 ?_
      refine lv_bipush (v := nI 106) hx hb dX6_count_22 (by decide) ?_
      refine x_iald CF hK hP 1 (by decide) dR_1 106 (by omega) (by decide) dX6_count_24 ?_
      refine x_callVI CF hK hP hS hA hl (As := [.int (nI k), .int (nI (M 1 106))]) (rest := [.int (nI (setN (fun q => decide (M 1 104 ≤ hgtR M q (M 1 106))) k))]) (r_heightOf hI M J hw k (by omega) (M 1 106) (by omega)) kw_X6_heightOf wd3_219 (by decide) dR_0 rfl rfl ⟨Nat.le_of_ble_eq_true rfl, Nat.le_of_ble_eq_true rfl⟩ ⟨Nat.le_refl _, Nat.le_refl _⟩ (Nat.le_of_ble_eq_true rfl) dX6_count_25 (fun H locs hP hS => ?_)
      refine lv_aload_n hx hb dX6_count_28 rfl (lv_at hl 2 rfl) ?_
      refine x_getr CF hK hP 0 (by decide) dR_0 rfl uX6 0 (by decide) (j := 1) rfl wd3_96 rfl dX6_count_29 ?_
      refine lv_bipush (v := nI 104) hx hb dX6_count_32 (by decide) ?_
      refine x_iald CF hK hP 1 (by decide) dR_1 104 (by omega) (by decide) dX6_count_34 ?_
      refine x_zlt (u := (hgtR M k (M 1 106) : Nat)) (v := (M 1 104 : Nat)) (tgt := 44) hx hb (nI_toInt (by omega)) (nI_toInt (by omega)) dX6_count_35 (by decide) (fun h_3 => ?_) (fun h_3 => ?_)
      · refine lv_iconst (v := nI 0) hx hb dX6_count_44 (by decide) ?_
        refine x_ior hx hb dX6_count_45 ?_
        refine lv_istore_n (lv' := [(2, .int (nI ((setN (fun q => decide (M 1 104 ≤ hgtR M q (M 1 106))) k) ||| 0))), (3, .int (nI k)), (0, .ref (ad 0)), (1, .int (nI 1))]) hx hb dX6_count_46 rfl hl (by decide) rfl (fun ls hl => ?_)
        refine lv_iinc (v := nI (k + 1)) (lv' := [(3, .int (nI (k + 1))), (2, .int (nI ((setN (fun q => decide (M 1 104 ≤ hgtR M q (M 1 106))) k) ||| 0))), (0, .ref (ad 0)), (1, .int (nI 1))]) hx hb dX6_count_47 hl (k := 1) rfl (n_inc k 1) (by decide) rfl (fun ls hl => ?_)
        refine lv_goto (tgt := 4) hx hb dX6_count_50 (by decide) ?_
        have hl0 : lv_has ls 4 [(3, .int (nI (k + 1))), (2, .int (nI (setN (fun q => decide (M 1 104 ≤ hgtR M q (M 1 106))) (k + 1)))), (0, .ref (ad 0)), (1, .int (nI 1))] := by rw [(show nI (setN (fun q => decide (M 1 104 ≤ hgtR M q (M 1 106))) (k + 1)) = nI ((setN (fun q => decide (M 1 104 ≤ hgtR M q (M 1 106))) k) ||| 0) from by first | rfl | (congr 1; omega) | (refine congrArg nI ?_; first | rfl | (exact (setN_t (decide_eq_true (by omega)))) | (exact (setN_f (decide_eq_false (by omega)))) | (rw [Nat.or_zero]; exact (setN_f (decide_eq_false (by omega))))))]; exact lv_sub hl [0, 1, 2, 3] rfl
        exact ih4 (k + 1) (by omega) _ _ _ (hP) hS hl0
      · refine lv_iconst (v := nI 1) hx hb dX6_count_38 (by decide) ?_
        refine lv_iload_n hx hb dX6_count_39 rfl (lv_at hl 0 rfl) ?_
        refine x_ishl hx hb (by omega) dX6_count_40 ?_
        refine lv_goto (tgt := 45) hx hb dX6_count_41 (by decide) ?_
        refine x_ior hx hb dX6_count_45 ?_
        refine lv_istore_n (lv' := [(2, .int (nI ((setN (fun q => decide (M 1 104 ≤ hgtR M q (M 1 106))) k) ||| (1 <<< k)))), (3, .int (nI k)), (0, .ref (ad 0)), (1, .int (nI 1))]) hx hb dX6_count_46 rfl hl (by decide) rfl (fun ls hl => ?_)
        refine lv_iinc (v := nI (k + 1)) (lv' := [(3, .int (nI (k + 1))), (2, .int (nI ((setN (fun q => decide (M 1 104 ≤ hgtR M q (M 1 106))) k) ||| (1 <<< k)))), (0, .ref (ad 0)), (1, .int (nI 1))]) hx hb dX6_count_47 hl (k := 1) rfl (n_inc k 1) (by decide) rfl (fun ls hl => ?_)
        refine lv_goto (tgt := 4) hx hb dX6_count_50 (by decide) ?_
        have hl0 : lv_has ls 4 [(3, .int (nI (k + 1))), (2, .int (nI (setN (fun q => decide (M 1 104 ≤ hgtR M q (M 1 106))) (k + 1)))), (0, .ref (ad 0)), (1, .int (nI 1))] := by rw [(show nI (setN (fun q => decide (M 1 104 ≤ hgtR M q (M 1 106))) (k + 1)) = nI ((setN (fun q => decide (M 1 104 ≤ hgtR M q (M 1 106))) k) ||| (1 <<< k)) from by first | rfl | (congr 1; omega) | (refine congrArg nI ?_; first | rfl | (exact (setN_t (decide_eq_true (by omega)))) | (exact (setN_f (decide_eq_false (by omega)))) | (rw [Nat.or_zero]; exact (setN_f (decide_eq_false (by omega))))))]; exact lv_sub hl [0, 1, 2, 3] rfl
        exact ih4 (k + 1) (by omega) _ _ _ (hP) hS hl0
  have hl0 : lv_has ls 4 [(3, .int (nI 0)), (2, .int (nI (setN (fun q => decide (M 1 104 ≤ hgtR M q (M 1 106))) 0))), (0, .ref (ad 0)), (1, .int (nI 1))] := by rw [(show nI (setN (fun q => decide (M 1 104 ≤ hgtR M q (M 1 106))) 0) = nI 0 from rfl)]; exact lv_sub hl [0, 1, 2, 3] rfl
  exact L4 (M 1 73) 0 (by omega) _ _ _ (hP) hS hl0
set_option maxHeartbeats 4000000 in
set_option maxRecDepth 100000 in
theorem r_count_2 {l : Launch} {g : gE} {ad : Nat → Nat} (hI : g_inj ad 14) (M : gMem) (J : gMeL) (hw : wfR M) : CI l g ad dsR 14 yX6_count cX6_count 4 (some .int) 2 [.ref (ad 0), .int (nI 2)] M J (nI (M 1 106)) M J := by
  refine CI.of (plainFor_of_name (by decide)) (Nat.le_of_ble_eq_true rfl) (fun p9 e9 s9 m9 args9 below9 meth9 c9 CF hK hr9 hlk9 hP hS ls hl => ?_)
  have hx := CF.1
  have hb := CF.2.1
  have hA : ∀ q, g_A ad 14 q → g_A ad 14 q := fun _ h => h
  have hl : lv_has ls 4 [(0, .ref (ad 0)), (1, .int (nI 2))] := hl
  have hnc := hw.nc
  have hnf := hw.nf
  have hwy := hw.way
  have hat := hw.at
  have hln := hw.line
  refine lv_iconst (v := nI 0) hx hb dX6_count_0 (by decide) ?_
  refine lv_istore_n (lv' := [(2, .int (nI 0)), (0, .ref (ad 0)), (1, .int (nI 2))]) hx hb dX6_count_1 rfl hl (by decide) rfl (fun ls hl => ?_)
  refine lv_iconst (v := nI 0) hx hb dX6_count_2 (by decide) ?_
  refine lv_istore_n (lv' := [(3, .int (nI 0)), (2, .int (nI 0)), (0, .ref (ad 0)), (1, .int (nI 2))]) hx hb dX6_count_3 rfl hl (by decide) rfl (fun ls hl => ?_)
  have L4 : ∀ (d4 : Nat) (k : Nat), (k + d4 = (M 1 73)) → (∀ (H : Heap) (locs : List Loc) (ls : Array Slot), g_P g ad dsR 14 M J H → va_S (g_A ad 14) s9.heap H locs → lv_has ls 4 [(3, .int (nI k)), (2, .int (nI (setN (fun q => decide (M 1 104 ≤ hgtR M q (M 1 106))) k))), (0, .ref (ad 0)), (1, .int (nI 2))] → W p9 l e9 (g_rm 2) s9 m9 args9 below9 meth9 c9 H locs 0 0 (MQ below9 (va_Qi (fun r' (_ : Unit) => r' = (nI (M 1 106))) (fun _ t => g_P g ad dsR 14 M J t.heap) (g_A ad 14)) args9 s9 0 0 (g_A ad 14)) (F0 m9 4 ls [])) := by
    intro d4
    induction d4 with
    | zero =>
      intro k h_k H locs ls hP hS hl
      refine lv_iload_n hx hb dX6_count_4 rfl (lv_at hl 0 rfl) ?_
      refine lv_aload_n hx hb dX6_count_5 rfl (lv_at hl 2 rfl) ?_
      refine x_getr CF hK hP 0 (by decide) dR_0 rfl uX6 0 (by decide) (j := 1) rfl wd3_96 rfl dX6_count_6 ?_
      refine lv_bipush (v := nI 73) hx hb dX6_count_9 (by decide) ?_
      refine x_iald CF hK hP 1 (by decide) dR_1 73 (by omega) (by decide) dX6_count_11 ?_
      refine x_zge (u := (k : Nat)) (v := (M 1 73 : Nat)) (tgt := 53) hx hb (nI_toInt (by omega)) (nI_toInt (by omega)) dX6_count_12 (by decide) (fun h_1 => ?_) (fun h_1 => (by omega : False).elim)
      refine lv_iload_n hx hb dX6_count_53 rfl (lv_at hl 3 rfl) ?_
      refine lv_tableIn (tgt := 107) hx hb dX6_count_54 (by decide) (by decide) (off := 53) (by decide) (by decide) ?_
      refine lv_aload_n hx hb dX6_count_107 rfl (lv_at hl 2 rfl) ?_
      refine x_getr CF hK hP 0 (by decide) dR_0 rfl uX6 0 (by decide) (j := 1) rfl wd3_96 rfl dX6_count_108 ?_
      refine lv_bipush (v := nI 106) hx hb dX6_count_111 (by decide) ?_
      refine x_iald CF hK hP 1 (by decide) dR_1 106 (by omega) (by decide) dX6_count_113 ?_
      exact x_reti hx hb hr9 hlk9 hS hP (by first | rfl | (show nI (M 1 106) = nI (M 1 106); first | rfl | omega)) dX6_count_114
    | succ d4 ih4 =>
      intro k h_k H locs ls hP hS hl
      have b1 := hgtR_le hw (show k < 5 by omega) (M 1 106)
      refine lv_iload_n hx hb dX6_count_4 rfl (lv_at hl 0 rfl) ?_
      refine lv_aload_n hx hb dX6_count_5 rfl (lv_at hl 2 rfl) ?_
      refine x_getr CF hK hP 0 (by decide) dR_0 rfl uX6 0 (by decide) (j := 1) rfl wd3_96 rfl dX6_count_6 ?_
      refine lv_bipush (v := nI 73) hx hb dX6_count_9 (by decide) ?_
      refine x_iald CF hK hP 1 (by decide) dR_1 73 (by omega) (by decide) dX6_count_11 ?_
      refine x_zge (u := (k : Nat)) (v := (M 1 73 : Nat)) (tgt := 53) hx hb (nI_toInt (by omega)) (nI_toInt (by omega)) dX6_count_12 (by decide) (fun h_2 => (by omega : False).elim) (fun h_2 => ?_)
      refine lv_iload_n hx hb dX6_count_15 rfl (lv_at hl 1 rfl) ?_
      refine lv_aload_n hx hb dX6_count_16 rfl (lv_at hl 2 rfl) ?_
      refine lv_iload_n hx hb dX6_count_17 rfl (lv_at hl 0 rfl) ?_
      refine lv_aload_n hx hb dX6_count_18 rfl (lv_at hl 2 rfl) ?_
      refine x_getr CF hK hP 0 (by decide) dR_0 rfl uX6 0 (by decide) (j := 1) rfl wd3_96 rfl dX6_count_19 ?_
      refine lv_bipush (v := nI 106) hx hb dX6_count_22 (by decide) ?_
      refine x_iald CF hK hP 1 (by decide) dR_1 106 (by omega) (by decide) dX6_count_24 ?_
      refine x_callVI CF hK hP hS hA hl (As := [.int (nI k), .int (nI (M 1 106))]) (rest := [.int (nI (setN (fun q => decide (M 1 104 ≤ hgtR M q (M 1 106))) k))]) (r_heightOf hI M J hw k (by omega) (M 1 106) (by omega)) kw_X6_heightOf wd3_219 (by decide) dR_0 rfl rfl ⟨Nat.le_of_ble_eq_true rfl, Nat.le_of_ble_eq_true rfl⟩ ⟨Nat.le_refl _, Nat.le_refl _⟩ (Nat.le_of_ble_eq_true rfl) dX6_count_25 (fun H locs hP hS => ?_)
      refine lv_aload_n hx hb dX6_count_28 rfl (lv_at hl 2 rfl) ?_
      refine x_getr CF hK hP 0 (by decide) dR_0 rfl uX6 0 (by decide) (j := 1) rfl wd3_96 rfl dX6_count_29 ?_
      refine lv_bipush (v := nI 104) hx hb dX6_count_32 (by decide) ?_
      refine x_iald CF hK hP 1 (by decide) dR_1 104 (by omega) (by decide) dX6_count_34 ?_
      refine x_zlt (u := (hgtR M k (M 1 106) : Nat)) (v := (M 1 104 : Nat)) (tgt := 44) hx hb (nI_toInt (by omega)) (nI_toInt (by omega)) dX6_count_35 (by decide) (fun h_3 => ?_) (fun h_3 => ?_)
      · refine lv_iconst (v := nI 0) hx hb dX6_count_44 (by decide) ?_
        refine x_ior hx hb dX6_count_45 ?_
        refine lv_istore_n (lv' := [(2, .int (nI ((setN (fun q => decide (M 1 104 ≤ hgtR M q (M 1 106))) k) ||| 0))), (3, .int (nI k)), (0, .ref (ad 0)), (1, .int (nI 2))]) hx hb dX6_count_46 rfl hl (by decide) rfl (fun ls hl => ?_)
        refine lv_iinc (v := nI (k + 1)) (lv' := [(3, .int (nI (k + 1))), (2, .int (nI ((setN (fun q => decide (M 1 104 ≤ hgtR M q (M 1 106))) k) ||| 0))), (0, .ref (ad 0)), (1, .int (nI 2))]) hx hb dX6_count_47 hl (k := 1) rfl (n_inc k 1) (by decide) rfl (fun ls hl => ?_)
        refine lv_goto (tgt := 4) hx hb dX6_count_50 (by decide) ?_
        have hl0 : lv_has ls 4 [(3, .int (nI (k + 1))), (2, .int (nI (setN (fun q => decide (M 1 104 ≤ hgtR M q (M 1 106))) (k + 1)))), (0, .ref (ad 0)), (1, .int (nI 2))] := by rw [(show nI (setN (fun q => decide (M 1 104 ≤ hgtR M q (M 1 106))) (k + 1)) = nI ((setN (fun q => decide (M 1 104 ≤ hgtR M q (M 1 106))) k) ||| 0) from by first | rfl | (congr 1; omega) | (refine congrArg nI ?_; first | rfl | (exact (setN_t (decide_eq_true (by omega)))) | (exact (setN_f (decide_eq_false (by omega)))) | (rw [Nat.or_zero]; exact (setN_f (decide_eq_false (by omega))))))]; exact lv_sub hl [0, 1, 2, 3] rfl
        exact ih4 (k + 1) (by omega) _ _ _ (hP) hS hl0
      · refine lv_iconst (v := nI 1) hx hb dX6_count_38 (by decide) ?_
        refine lv_iload_n hx hb dX6_count_39 rfl (lv_at hl 0 rfl) ?_
        refine x_ishl hx hb (by omega) dX6_count_40 ?_
        refine lv_goto (tgt := 45) hx hb dX6_count_41 (by decide) ?_
        refine x_ior hx hb dX6_count_45 ?_
        refine lv_istore_n (lv' := [(2, .int (nI ((setN (fun q => decide (M 1 104 ≤ hgtR M q (M 1 106))) k) ||| (1 <<< k)))), (3, .int (nI k)), (0, .ref (ad 0)), (1, .int (nI 2))]) hx hb dX6_count_46 rfl hl (by decide) rfl (fun ls hl => ?_)
        refine lv_iinc (v := nI (k + 1)) (lv' := [(3, .int (nI (k + 1))), (2, .int (nI ((setN (fun q => decide (M 1 104 ≤ hgtR M q (M 1 106))) k) ||| (1 <<< k)))), (0, .ref (ad 0)), (1, .int (nI 2))]) hx hb dX6_count_47 hl (k := 1) rfl (n_inc k 1) (by decide) rfl (fun ls hl => ?_)
        refine lv_goto (tgt := 4) hx hb dX6_count_50 (by decide) ?_
        have hl0 : lv_has ls 4 [(3, .int (nI (k + 1))), (2, .int (nI (setN (fun q => decide (M 1 104 ≤ hgtR M q (M 1 106))) (k + 1)))), (0, .ref (ad 0)), (1, .int (nI 2))] := by rw [(show nI (setN (fun q => decide (M 1 104 ≤ hgtR M q (M 1 106))) (k + 1)) = nI ((setN (fun q => decide (M 1 104 ≤ hgtR M q (M 1 106))) k) ||| (1 <<< k)) from by first | rfl | (congr 1; omega) | (refine congrArg nI ?_; first | rfl | (exact (setN_t (decide_eq_true (by omega)))) | (exact (setN_f (decide_eq_false (by omega)))) | (rw [Nat.or_zero]; exact (setN_f (decide_eq_false (by omega))))))]; exact lv_sub hl [0, 1, 2, 3] rfl
        exact ih4 (k + 1) (by omega) _ _ _ (hP) hS hl0
  have hl0 : lv_has ls 4 [(3, .int (nI 0)), (2, .int (nI (setN (fun q => decide (M 1 104 ≤ hgtR M q (M 1 106))) 0))), (0, .ref (ad 0)), (1, .int (nI 2))] := by rw [(show nI (setN (fun q => decide (M 1 104 ≤ hgtR M q (M 1 106))) 0) = nI 0 from rfl)]; exact lv_sub hl [0, 1, 2, 3] rfl
  exact L4 (M 1 73) 0 (by omega) _ _ _ (hP) hS hl0
set_option maxHeartbeats 4000000 in
set_option maxRecDepth 100000 in
theorem r_count_3 {l : Launch} {g : gE} {ad : Nat → Nat} (hI : g_inj ad 14) (M : gMem) (J : gMeL) (hw : wfR M) : CI l g ad dsR 14 yX6_count cX6_count 4 (some .int) 2 [.ref (ad 0), .int (nI 3)] M J (nI (M 1 105)) M J := by
  refine CI.of (plainFor_of_name (by decide)) (Nat.le_of_ble_eq_true rfl) (fun p9 e9 s9 m9 args9 below9 meth9 c9 CF hK hr9 hlk9 hP hS ls hl => ?_)
  have hx := CF.1
  have hb := CF.2.1
  have hA : ∀ q, g_A ad 14 q → g_A ad 14 q := fun _ h => h
  have hl : lv_has ls 4 [(0, .ref (ad 0)), (1, .int (nI 3))] := hl
  have hnc := hw.nc
  have hnf := hw.nf
  have hwy := hw.way
  have hat := hw.at
  have hln := hw.line
  refine lv_iconst (v := nI 0) hx hb dX6_count_0 (by decide) ?_
  refine lv_istore_n (lv' := [(2, .int (nI 0)), (0, .ref (ad 0)), (1, .int (nI 3))]) hx hb dX6_count_1 rfl hl (by decide) rfl (fun ls hl => ?_)
  refine lv_iconst (v := nI 0) hx hb dX6_count_2 (by decide) ?_
  refine lv_istore_n (lv' := [(3, .int (nI 0)), (2, .int (nI 0)), (0, .ref (ad 0)), (1, .int (nI 3))]) hx hb dX6_count_3 rfl hl (by decide) rfl (fun ls hl => ?_)
  have L4 : ∀ (d4 : Nat) (k : Nat), (k + d4 = (M 1 73)) → (∀ (H : Heap) (locs : List Loc) (ls : Array Slot), g_P g ad dsR 14 M J H → va_S (g_A ad 14) s9.heap H locs → lv_has ls 4 [(3, .int (nI k)), (2, .int (nI (setN (fun q => decide (M 1 104 ≤ hgtR M q (M 1 106))) k))), (0, .ref (ad 0)), (1, .int (nI 3))] → W p9 l e9 (g_rm 2) s9 m9 args9 below9 meth9 c9 H locs 0 0 (MQ below9 (va_Qi (fun r' (_ : Unit) => r' = (nI (M 1 105))) (fun _ t => g_P g ad dsR 14 M J t.heap) (g_A ad 14)) args9 s9 0 0 (g_A ad 14)) (F0 m9 4 ls [])) := by
    intro d4
    induction d4 with
    | zero =>
      intro k h_k H locs ls hP hS hl
      refine lv_iload_n hx hb dX6_count_4 rfl (lv_at hl 0 rfl) ?_
      refine lv_aload_n hx hb dX6_count_5 rfl (lv_at hl 2 rfl) ?_
      refine x_getr CF hK hP 0 (by decide) dR_0 rfl uX6 0 (by decide) (j := 1) rfl wd3_96 rfl dX6_count_6 ?_
      refine lv_bipush (v := nI 73) hx hb dX6_count_9 (by decide) ?_
      refine x_iald CF hK hP 1 (by decide) dR_1 73 (by omega) (by decide) dX6_count_11 ?_
      refine x_zge (u := (k : Nat)) (v := (M 1 73 : Nat)) (tgt := 53) hx hb (nI_toInt (by omega)) (nI_toInt (by omega)) dX6_count_12 (by decide) (fun h_1 => ?_) (fun h_1 => (by omega : False).elim)
      refine lv_iload_n hx hb dX6_count_53 rfl (lv_at hl 3 rfl) ?_
      refine lv_tableIn (tgt := 115) hx hb dX6_count_54 (by decide) (by decide) (off := 61) (by decide) (by decide) ?_
      refine lv_aload_n hx hb dX6_count_115 rfl (lv_at hl 2 rfl) ?_
      refine x_getr CF hK hP 0 (by decide) dR_0 rfl uX6 0 (by decide) (j := 1) rfl wd3_96 rfl dX6_count_116 ?_
      refine lv_bipush (v := nI 105) hx hb dX6_count_119 (by decide) ?_
      refine x_iald CF hK hP 1 (by decide) dR_1 105 (by omega) (by decide) dX6_count_121 ?_
      exact x_reti hx hb hr9 hlk9 hS hP (by first | rfl | (show nI (M 1 105) = nI (M 1 105); first | rfl | omega)) dX6_count_122
    | succ d4 ih4 =>
      intro k h_k H locs ls hP hS hl
      have b1 := hgtR_le hw (show k < 5 by omega) (M 1 106)
      refine lv_iload_n hx hb dX6_count_4 rfl (lv_at hl 0 rfl) ?_
      refine lv_aload_n hx hb dX6_count_5 rfl (lv_at hl 2 rfl) ?_
      refine x_getr CF hK hP 0 (by decide) dR_0 rfl uX6 0 (by decide) (j := 1) rfl wd3_96 rfl dX6_count_6 ?_
      refine lv_bipush (v := nI 73) hx hb dX6_count_9 (by decide) ?_
      refine x_iald CF hK hP 1 (by decide) dR_1 73 (by omega) (by decide) dX6_count_11 ?_
      refine x_zge (u := (k : Nat)) (v := (M 1 73 : Nat)) (tgt := 53) hx hb (nI_toInt (by omega)) (nI_toInt (by omega)) dX6_count_12 (by decide) (fun h_2 => (by omega : False).elim) (fun h_2 => ?_)
      refine lv_iload_n hx hb dX6_count_15 rfl (lv_at hl 1 rfl) ?_
      refine lv_aload_n hx hb dX6_count_16 rfl (lv_at hl 2 rfl) ?_
      refine lv_iload_n hx hb dX6_count_17 rfl (lv_at hl 0 rfl) ?_
      refine lv_aload_n hx hb dX6_count_18 rfl (lv_at hl 2 rfl) ?_
      refine x_getr CF hK hP 0 (by decide) dR_0 rfl uX6 0 (by decide) (j := 1) rfl wd3_96 rfl dX6_count_19 ?_
      refine lv_bipush (v := nI 106) hx hb dX6_count_22 (by decide) ?_
      refine x_iald CF hK hP 1 (by decide) dR_1 106 (by omega) (by decide) dX6_count_24 ?_
      refine x_callVI CF hK hP hS hA hl (As := [.int (nI k), .int (nI (M 1 106))]) (rest := [.int (nI (setN (fun q => decide (M 1 104 ≤ hgtR M q (M 1 106))) k))]) (r_heightOf hI M J hw k (by omega) (M 1 106) (by omega)) kw_X6_heightOf wd3_219 (by decide) dR_0 rfl rfl ⟨Nat.le_of_ble_eq_true rfl, Nat.le_of_ble_eq_true rfl⟩ ⟨Nat.le_refl _, Nat.le_refl _⟩ (Nat.le_of_ble_eq_true rfl) dX6_count_25 (fun H locs hP hS => ?_)
      refine lv_aload_n hx hb dX6_count_28 rfl (lv_at hl 2 rfl) ?_
      refine x_getr CF hK hP 0 (by decide) dR_0 rfl uX6 0 (by decide) (j := 1) rfl wd3_96 rfl dX6_count_29 ?_
      refine lv_bipush (v := nI 104) hx hb dX6_count_32 (by decide) ?_
      refine x_iald CF hK hP 1 (by decide) dR_1 104 (by omega) (by decide) dX6_count_34 ?_
      refine x_zlt (u := (hgtR M k (M 1 106) : Nat)) (v := (M 1 104 : Nat)) (tgt := 44) hx hb (nI_toInt (by omega)) (nI_toInt (by omega)) dX6_count_35 (by decide) (fun h_3 => ?_) (fun h_3 => ?_)
      · refine lv_iconst (v := nI 0) hx hb dX6_count_44 (by decide) ?_
        refine x_ior hx hb dX6_count_45 ?_
        refine lv_istore_n (lv' := [(2, .int (nI ((setN (fun q => decide (M 1 104 ≤ hgtR M q (M 1 106))) k) ||| 0))), (3, .int (nI k)), (0, .ref (ad 0)), (1, .int (nI 3))]) hx hb dX6_count_46 rfl hl (by decide) rfl (fun ls hl => ?_)
        refine lv_iinc (v := nI (k + 1)) (lv' := [(3, .int (nI (k + 1))), (2, .int (nI ((setN (fun q => decide (M 1 104 ≤ hgtR M q (M 1 106))) k) ||| 0))), (0, .ref (ad 0)), (1, .int (nI 3))]) hx hb dX6_count_47 hl (k := 1) rfl (n_inc k 1) (by decide) rfl (fun ls hl => ?_)
        refine lv_goto (tgt := 4) hx hb dX6_count_50 (by decide) ?_
        have hl0 : lv_has ls 4 [(3, .int (nI (k + 1))), (2, .int (nI (setN (fun q => decide (M 1 104 ≤ hgtR M q (M 1 106))) (k + 1)))), (0, .ref (ad 0)), (1, .int (nI 3))] := by rw [(show nI (setN (fun q => decide (M 1 104 ≤ hgtR M q (M 1 106))) (k + 1)) = nI ((setN (fun q => decide (M 1 104 ≤ hgtR M q (M 1 106))) k) ||| 0) from by first | rfl | (congr 1; omega) | (refine congrArg nI ?_; first | rfl | (exact (setN_t (decide_eq_true (by omega)))) | (exact (setN_f (decide_eq_false (by omega)))) | (rw [Nat.or_zero]; exact (setN_f (decide_eq_false (by omega))))))]; exact lv_sub hl [0, 1, 2, 3] rfl
        exact ih4 (k + 1) (by omega) _ _ _ (hP) hS hl0
      · refine lv_iconst (v := nI 1) hx hb dX6_count_38 (by decide) ?_
        refine lv_iload_n hx hb dX6_count_39 rfl (lv_at hl 0 rfl) ?_
        refine x_ishl hx hb (by omega) dX6_count_40 ?_
        refine lv_goto (tgt := 45) hx hb dX6_count_41 (by decide) ?_
        refine x_ior hx hb dX6_count_45 ?_
        refine lv_istore_n (lv' := [(2, .int (nI ((setN (fun q => decide (M 1 104 ≤ hgtR M q (M 1 106))) k) ||| (1 <<< k)))), (3, .int (nI k)), (0, .ref (ad 0)), (1, .int (nI 3))]) hx hb dX6_count_46 rfl hl (by decide) rfl (fun ls hl => ?_)
        refine lv_iinc (v := nI (k + 1)) (lv' := [(3, .int (nI (k + 1))), (2, .int (nI ((setN (fun q => decide (M 1 104 ≤ hgtR M q (M 1 106))) k) ||| (1 <<< k)))), (0, .ref (ad 0)), (1, .int (nI 3))]) hx hb dX6_count_47 hl (k := 1) rfl (n_inc k 1) (by decide) rfl (fun ls hl => ?_)
        refine lv_goto (tgt := 4) hx hb dX6_count_50 (by decide) ?_
        have hl0 : lv_has ls 4 [(3, .int (nI (k + 1))), (2, .int (nI (setN (fun q => decide (M 1 104 ≤ hgtR M q (M 1 106))) (k + 1)))), (0, .ref (ad 0)), (1, .int (nI 3))] := by rw [(show nI (setN (fun q => decide (M 1 104 ≤ hgtR M q (M 1 106))) (k + 1)) = nI ((setN (fun q => decide (M 1 104 ≤ hgtR M q (M 1 106))) k) ||| (1 <<< k)) from by first | rfl | (congr 1; omega) | (refine congrArg nI ?_; first | rfl | (exact (setN_t (decide_eq_true (by omega)))) | (exact (setN_f (decide_eq_false (by omega)))) | (rw [Nat.or_zero]; exact (setN_f (decide_eq_false (by omega))))))]; exact lv_sub hl [0, 1, 2, 3] rfl
        exact ih4 (k + 1) (by omega) _ _ _ (hP) hS hl0
  have hl0 : lv_has ls 4 [(3, .int (nI 0)), (2, .int (nI (setN (fun q => decide (M 1 104 ≤ hgtR M q (M 1 106))) 0))), (0, .ref (ad 0)), (1, .int (nI 3))] := by rw [(show nI (setN (fun q => decide (M 1 104 ≤ hgtR M q (M 1 106))) 0) = nI 0 from rfl)]; exact lv_sub hl [0, 1, 2, 3] rfl
  exact L4 (M 1 73) 0 (by omega) _ _ _ (hP) hS hl0
set_option maxHeartbeats 4000000 in
set_option maxRecDepth 100000 in
theorem r_count_4 {l : Launch} {g : gE} {ad : Nat → Nat} (hI : g_inj ad 14) (M : gMem) (J : gMeL) (hw : wfR M) : CI l g ad dsR 14 yX6_count cX6_count 4 (some .int) 2 [.ref (ad 0), .int (nI 4)] M J (nI (M 1 107)) M J := by
  refine CI.of (plainFor_of_name (by decide)) (Nat.le_of_ble_eq_true rfl) (fun p9 e9 s9 m9 args9 below9 meth9 c9 CF hK hr9 hlk9 hP hS ls hl => ?_)
  have hx := CF.1
  have hb := CF.2.1
  have hA : ∀ q, g_A ad 14 q → g_A ad 14 q := fun _ h => h
  have hl : lv_has ls 4 [(0, .ref (ad 0)), (1, .int (nI 4))] := hl
  have hnc := hw.nc
  have hnf := hw.nf
  have hwy := hw.way
  have hat := hw.at
  have hln := hw.line
  refine lv_iconst (v := nI 0) hx hb dX6_count_0 (by decide) ?_
  refine lv_istore_n (lv' := [(2, .int (nI 0)), (0, .ref (ad 0)), (1, .int (nI 4))]) hx hb dX6_count_1 rfl hl (by decide) rfl (fun ls hl => ?_)
  refine lv_iconst (v := nI 0) hx hb dX6_count_2 (by decide) ?_
  refine lv_istore_n (lv' := [(3, .int (nI 0)), (2, .int (nI 0)), (0, .ref (ad 0)), (1, .int (nI 4))]) hx hb dX6_count_3 rfl hl (by decide) rfl (fun ls hl => ?_)
  have L4 : ∀ (d4 : Nat) (k : Nat), (k + d4 = (M 1 73)) → (∀ (H : Heap) (locs : List Loc) (ls : Array Slot), g_P g ad dsR 14 M J H → va_S (g_A ad 14) s9.heap H locs → lv_has ls 4 [(3, .int (nI k)), (2, .int (nI (setN (fun q => decide (M 1 104 ≤ hgtR M q (M 1 106))) k))), (0, .ref (ad 0)), (1, .int (nI 4))] → W p9 l e9 (g_rm 2) s9 m9 args9 below9 meth9 c9 H locs 0 0 (MQ below9 (va_Qi (fun r' (_ : Unit) => r' = (nI (M 1 107))) (fun _ t => g_P g ad dsR 14 M J t.heap) (g_A ad 14)) args9 s9 0 0 (g_A ad 14)) (F0 m9 4 ls [])) := by
    intro d4
    induction d4 with
    | zero =>
      intro k h_k H locs ls hP hS hl
      refine lv_iload_n hx hb dX6_count_4 rfl (lv_at hl 0 rfl) ?_
      refine lv_aload_n hx hb dX6_count_5 rfl (lv_at hl 2 rfl) ?_
      refine x_getr CF hK hP 0 (by decide) dR_0 rfl uX6 0 (by decide) (j := 1) rfl wd3_96 rfl dX6_count_6 ?_
      refine lv_bipush (v := nI 73) hx hb dX6_count_9 (by decide) ?_
      refine x_iald CF hK hP 1 (by decide) dR_1 73 (by omega) (by decide) dX6_count_11 ?_
      refine x_zge (u := (k : Nat)) (v := (M 1 73 : Nat)) (tgt := 53) hx hb (nI_toInt (by omega)) (nI_toInt (by omega)) dX6_count_12 (by decide) (fun h_1 => ?_) (fun h_1 => (by omega : False).elim)
      refine lv_iload_n hx hb dX6_count_53 rfl (lv_at hl 3 rfl) ?_
      refine lv_tableIn (tgt := 123) hx hb dX6_count_54 (by decide) (by decide) (off := 69) (by decide) (by decide) ?_
      refine lv_aload_n hx hb dX6_count_123 rfl (lv_at hl 2 rfl) ?_
      refine x_getr CF hK hP 0 (by decide) dR_0 rfl uX6 0 (by decide) (j := 1) rfl wd3_96 rfl dX6_count_124 ?_
      refine lv_bipush (v := nI 107) hx hb dX6_count_127 (by decide) ?_
      refine x_iald CF hK hP 1 (by decide) dR_1 107 (by omega) (by decide) dX6_count_129 ?_
      exact x_reti hx hb hr9 hlk9 hS hP (by first | rfl | (show nI (M 1 107) = nI (M 1 107); first | rfl | omega)) dX6_count_130
    | succ d4 ih4 =>
      intro k h_k H locs ls hP hS hl
      have b1 := hgtR_le hw (show k < 5 by omega) (M 1 106)
      refine lv_iload_n hx hb dX6_count_4 rfl (lv_at hl 0 rfl) ?_
      refine lv_aload_n hx hb dX6_count_5 rfl (lv_at hl 2 rfl) ?_
      refine x_getr CF hK hP 0 (by decide) dR_0 rfl uX6 0 (by decide) (j := 1) rfl wd3_96 rfl dX6_count_6 ?_
      refine lv_bipush (v := nI 73) hx hb dX6_count_9 (by decide) ?_
      refine x_iald CF hK hP 1 (by decide) dR_1 73 (by omega) (by decide) dX6_count_11 ?_
      refine x_zge (u := (k : Nat)) (v := (M 1 73 : Nat)) (tgt := 53) hx hb (nI_toInt (by omega)) (nI_toInt (by omega)) dX6_count_12 (by decide) (fun h_2 => (by omega : False).elim) (fun h_2 => ?_)
      refine lv_iload_n hx hb dX6_count_15 rfl (lv_at hl 1 rfl) ?_
      refine lv_aload_n hx hb dX6_count_16 rfl (lv_at hl 2 rfl) ?_
      refine lv_iload_n hx hb dX6_count_17 rfl (lv_at hl 0 rfl) ?_
      refine lv_aload_n hx hb dX6_count_18 rfl (lv_at hl 2 rfl) ?_
      refine x_getr CF hK hP 0 (by decide) dR_0 rfl uX6 0 (by decide) (j := 1) rfl wd3_96 rfl dX6_count_19 ?_
      refine lv_bipush (v := nI 106) hx hb dX6_count_22 (by decide) ?_
      refine x_iald CF hK hP 1 (by decide) dR_1 106 (by omega) (by decide) dX6_count_24 ?_
      refine x_callVI CF hK hP hS hA hl (As := [.int (nI k), .int (nI (M 1 106))]) (rest := [.int (nI (setN (fun q => decide (M 1 104 ≤ hgtR M q (M 1 106))) k))]) (r_heightOf hI M J hw k (by omega) (M 1 106) (by omega)) kw_X6_heightOf wd3_219 (by decide) dR_0 rfl rfl ⟨Nat.le_of_ble_eq_true rfl, Nat.le_of_ble_eq_true rfl⟩ ⟨Nat.le_refl _, Nat.le_refl _⟩ (Nat.le_of_ble_eq_true rfl) dX6_count_25 (fun H locs hP hS => ?_)
      refine lv_aload_n hx hb dX6_count_28 rfl (lv_at hl 2 rfl) ?_
      refine x_getr CF hK hP 0 (by decide) dR_0 rfl uX6 0 (by decide) (j := 1) rfl wd3_96 rfl dX6_count_29 ?_
      refine lv_bipush (v := nI 104) hx hb dX6_count_32 (by decide) ?_
      refine x_iald CF hK hP 1 (by decide) dR_1 104 (by omega) (by decide) dX6_count_34 ?_
      refine x_zlt (u := (hgtR M k (M 1 106) : Nat)) (v := (M 1 104 : Nat)) (tgt := 44) hx hb (nI_toInt (by omega)) (nI_toInt (by omega)) dX6_count_35 (by decide) (fun h_3 => ?_) (fun h_3 => ?_)
      · refine lv_iconst (v := nI 0) hx hb dX6_count_44 (by decide) ?_
        refine x_ior hx hb dX6_count_45 ?_
        refine lv_istore_n (lv' := [(2, .int (nI ((setN (fun q => decide (M 1 104 ≤ hgtR M q (M 1 106))) k) ||| 0))), (3, .int (nI k)), (0, .ref (ad 0)), (1, .int (nI 4))]) hx hb dX6_count_46 rfl hl (by decide) rfl (fun ls hl => ?_)
        refine lv_iinc (v := nI (k + 1)) (lv' := [(3, .int (nI (k + 1))), (2, .int (nI ((setN (fun q => decide (M 1 104 ≤ hgtR M q (M 1 106))) k) ||| 0))), (0, .ref (ad 0)), (1, .int (nI 4))]) hx hb dX6_count_47 hl (k := 1) rfl (n_inc k 1) (by decide) rfl (fun ls hl => ?_)
        refine lv_goto (tgt := 4) hx hb dX6_count_50 (by decide) ?_
        have hl0 : lv_has ls 4 [(3, .int (nI (k + 1))), (2, .int (nI (setN (fun q => decide (M 1 104 ≤ hgtR M q (M 1 106))) (k + 1)))), (0, .ref (ad 0)), (1, .int (nI 4))] := by rw [(show nI (setN (fun q => decide (M 1 104 ≤ hgtR M q (M 1 106))) (k + 1)) = nI ((setN (fun q => decide (M 1 104 ≤ hgtR M q (M 1 106))) k) ||| 0) from by first | rfl | (congr 1; omega) | (refine congrArg nI ?_; first | rfl | (exact (setN_t (decide_eq_true (by omega)))) | (exact (setN_f (decide_eq_false (by omega)))) | (rw [Nat.or_zero]; exact (setN_f (decide_eq_false (by omega))))))]; exact lv_sub hl [0, 1, 2, 3] rfl
        exact ih4 (k + 1) (by omega) _ _ _ (hP) hS hl0
      · refine lv_iconst (v := nI 1) hx hb dX6_count_38 (by decide) ?_
        refine lv_iload_n hx hb dX6_count_39 rfl (lv_at hl 0 rfl) ?_
        refine x_ishl hx hb (by omega) dX6_count_40 ?_
        refine lv_goto (tgt := 45) hx hb dX6_count_41 (by decide) ?_
        refine x_ior hx hb dX6_count_45 ?_
        refine lv_istore_n (lv' := [(2, .int (nI ((setN (fun q => decide (M 1 104 ≤ hgtR M q (M 1 106))) k) ||| (1 <<< k)))), (3, .int (nI k)), (0, .ref (ad 0)), (1, .int (nI 4))]) hx hb dX6_count_46 rfl hl (by decide) rfl (fun ls hl => ?_)
        refine lv_iinc (v := nI (k + 1)) (lv' := [(3, .int (nI (k + 1))), (2, .int (nI ((setN (fun q => decide (M 1 104 ≤ hgtR M q (M 1 106))) k) ||| (1 <<< k)))), (0, .ref (ad 0)), (1, .int (nI 4))]) hx hb dX6_count_47 hl (k := 1) rfl (n_inc k 1) (by decide) rfl (fun ls hl => ?_)
        refine lv_goto (tgt := 4) hx hb dX6_count_50 (by decide) ?_
        have hl0 : lv_has ls 4 [(3, .int (nI (k + 1))), (2, .int (nI (setN (fun q => decide (M 1 104 ≤ hgtR M q (M 1 106))) (k + 1)))), (0, .ref (ad 0)), (1, .int (nI 4))] := by rw [(show nI (setN (fun q => decide (M 1 104 ≤ hgtR M q (M 1 106))) (k + 1)) = nI ((setN (fun q => decide (M 1 104 ≤ hgtR M q (M 1 106))) k) ||| (1 <<< k)) from by first | rfl | (congr 1; omega) | (refine congrArg nI ?_; first | rfl | (exact (setN_t (decide_eq_true (by omega)))) | (exact (setN_f (decide_eq_false (by omega)))) | (rw [Nat.or_zero]; exact (setN_f (decide_eq_false (by omega))))))]; exact lv_sub hl [0, 1, 2, 3] rfl
        exact ih4 (k + 1) (by omega) _ _ _ (hP) hS hl0
  have hl0 : lv_has ls 4 [(3, .int (nI 0)), (2, .int (nI (setN (fun q => decide (M 1 104 ≤ hgtR M q (M 1 106))) 0))), (0, .ref (ad 0)), (1, .int (nI 4))] := by rw [(show nI (setN (fun q => decide (M 1 104 ≤ hgtR M q (M 1 106))) 0) = nI 0 from rfl)]; exact lv_sub hl [0, 1, 2, 3] rfl
  exact L4 (M 1 73) 0 (by omega) _ _ _ (hP) hS hl0
set_option maxHeartbeats 4000000 in
set_option maxRecDepth 100000 in
theorem r_count_5 {l : Launch} {g : gE} {ad : Nat → Nat} (hI : g_inj ad 14) (M : gMem) (J : gMeL) (hw : wfR M) : CI l g ad dsR 14 yX6_count cX6_count 4 (some .int) 2 [.ref (ad 0), .int (nI 5)] M J (nI (setN (fun q => decide (M 1 104 ≤ hgtR M q (M 1 106))) (M 1 73))) M J := by
  refine CI.of (plainFor_of_name (by decide)) (Nat.le_of_ble_eq_true rfl) (fun p9 e9 s9 m9 args9 below9 meth9 c9 CF hK hr9 hlk9 hP hS ls hl => ?_)
  have hx := CF.1
  have hb := CF.2.1
  have hA : ∀ q, g_A ad 14 q → g_A ad 14 q := fun _ h => h
  have hl : lv_has ls 4 [(0, .ref (ad 0)), (1, .int (nI 5))] := hl
  have hnc := hw.nc
  have hnf := hw.nf
  have hwy := hw.way
  have hat := hw.at
  have hln := hw.line
  refine lv_iconst (v := nI 0) hx hb dX6_count_0 (by decide) ?_
  refine lv_istore_n (lv' := [(2, .int (nI 0)), (0, .ref (ad 0)), (1, .int (nI 5))]) hx hb dX6_count_1 rfl hl (by decide) rfl (fun ls hl => ?_)
  refine lv_iconst (v := nI 0) hx hb dX6_count_2 (by decide) ?_
  refine lv_istore_n (lv' := [(3, .int (nI 0)), (2, .int (nI 0)), (0, .ref (ad 0)), (1, .int (nI 5))]) hx hb dX6_count_3 rfl hl (by decide) rfl (fun ls hl => ?_)
  have L4 : ∀ (d4 : Nat) (k : Nat), (k + d4 = (M 1 73)) → (∀ (H : Heap) (locs : List Loc) (ls : Array Slot), g_P g ad dsR 14 M J H → va_S (g_A ad 14) s9.heap H locs → lv_has ls 4 [(3, .int (nI k)), (2, .int (nI (setN (fun q => decide (M 1 104 ≤ hgtR M q (M 1 106))) k))), (0, .ref (ad 0)), (1, .int (nI 5))] → W p9 l e9 (g_rm 2) s9 m9 args9 below9 meth9 c9 H locs 0 0 (MQ below9 (va_Qi (fun r' (_ : Unit) => r' = (nI (setN (fun q => decide (M 1 104 ≤ hgtR M q (M 1 106))) (M 1 73)))) (fun _ t => g_P g ad dsR 14 M J t.heap) (g_A ad 14)) args9 s9 0 0 (g_A ad 14)) (F0 m9 4 ls [])) := by
    intro d4
    induction d4 with
    | zero =>
      intro k h_k H locs ls hP hS hl
      refine lv_iload_n hx hb dX6_count_4 rfl (lv_at hl 0 rfl) ?_
      refine lv_aload_n hx hb dX6_count_5 rfl (lv_at hl 2 rfl) ?_
      refine x_getr CF hK hP 0 (by decide) dR_0 rfl uX6 0 (by decide) (j := 1) rfl wd3_96 rfl dX6_count_6 ?_
      refine lv_bipush (v := nI 73) hx hb dX6_count_9 (by decide) ?_
      refine x_iald CF hK hP 1 (by decide) dR_1 73 (by omega) (by decide) dX6_count_11 ?_
      refine x_zge (u := (k : Nat)) (v := (M 1 73 : Nat)) (tgt := 53) hx hb (nI_toInt (by omega)) (nI_toInt (by omega)) dX6_count_12 (by decide) (fun h_1 => ?_) (fun h_1 => (by omega : False).elim)
      refine lv_iload_n hx hb dX6_count_53 rfl (lv_at hl 3 rfl) ?_
      refine lv_tableIn (tgt := 131) hx hb dX6_count_54 (by decide) (by decide) (off := 77) (by decide) (by decide) ?_
      refine lv_iload_n hx hb dX6_count_131 rfl (lv_at hl 1 rfl) ?_
      exact x_reti hx hb hr9 hlk9 hS hP (by rw [show k = M 1 73 by omega]) dX6_count_132
    | succ d4 ih4 =>
      intro k h_k H locs ls hP hS hl
      have b1 := hgtR_le hw (show k < 5 by omega) (M 1 106)
      refine lv_iload_n hx hb dX6_count_4 rfl (lv_at hl 0 rfl) ?_
      refine lv_aload_n hx hb dX6_count_5 rfl (lv_at hl 2 rfl) ?_
      refine x_getr CF hK hP 0 (by decide) dR_0 rfl uX6 0 (by decide) (j := 1) rfl wd3_96 rfl dX6_count_6 ?_
      refine lv_bipush (v := nI 73) hx hb dX6_count_9 (by decide) ?_
      refine x_iald CF hK hP 1 (by decide) dR_1 73 (by omega) (by decide) dX6_count_11 ?_
      refine x_zge (u := (k : Nat)) (v := (M 1 73 : Nat)) (tgt := 53) hx hb (nI_toInt (by omega)) (nI_toInt (by omega)) dX6_count_12 (by decide) (fun h_2 => (by omega : False).elim) (fun h_2 => ?_)
      refine lv_iload_n hx hb dX6_count_15 rfl (lv_at hl 1 rfl) ?_
      refine lv_aload_n hx hb dX6_count_16 rfl (lv_at hl 2 rfl) ?_
      refine lv_iload_n hx hb dX6_count_17 rfl (lv_at hl 0 rfl) ?_
      refine lv_aload_n hx hb dX6_count_18 rfl (lv_at hl 2 rfl) ?_
      refine x_getr CF hK hP 0 (by decide) dR_0 rfl uX6 0 (by decide) (j := 1) rfl wd3_96 rfl dX6_count_19 ?_
      refine lv_bipush (v := nI 106) hx hb dX6_count_22 (by decide) ?_
      refine x_iald CF hK hP 1 (by decide) dR_1 106 (by omega) (by decide) dX6_count_24 ?_
      refine x_callVI CF hK hP hS hA hl (As := [.int (nI k), .int (nI (M 1 106))]) (rest := [.int (nI (setN (fun q => decide (M 1 104 ≤ hgtR M q (M 1 106))) k))]) (r_heightOf hI M J hw k (by omega) (M 1 106) (by omega)) kw_X6_heightOf wd3_219 (by decide) dR_0 rfl rfl ⟨Nat.le_of_ble_eq_true rfl, Nat.le_of_ble_eq_true rfl⟩ ⟨Nat.le_refl _, Nat.le_refl _⟩ (Nat.le_of_ble_eq_true rfl) dX6_count_25 (fun H locs hP hS => ?_)
      refine lv_aload_n hx hb dX6_count_28 rfl (lv_at hl 2 rfl) ?_
      refine x_getr CF hK hP 0 (by decide) dR_0 rfl uX6 0 (by decide) (j := 1) rfl wd3_96 rfl dX6_count_29 ?_
      refine lv_bipush (v := nI 104) hx hb dX6_count_32 (by decide) ?_
      refine x_iald CF hK hP 1 (by decide) dR_1 104 (by omega) (by decide) dX6_count_34 ?_
      refine x_zlt (u := (hgtR M k (M 1 106) : Nat)) (v := (M 1 104 : Nat)) (tgt := 44) hx hb (nI_toInt (by omega)) (nI_toInt (by omega)) dX6_count_35 (by decide) (fun h_3 => ?_) (fun h_3 => ?_)
      · refine lv_iconst (v := nI 0) hx hb dX6_count_44 (by decide) ?_
        refine x_ior hx hb dX6_count_45 ?_
        refine lv_istore_n (lv' := [(2, .int (nI ((setN (fun q => decide (M 1 104 ≤ hgtR M q (M 1 106))) k) ||| 0))), (3, .int (nI k)), (0, .ref (ad 0)), (1, .int (nI 5))]) hx hb dX6_count_46 rfl hl (by decide) rfl (fun ls hl => ?_)
        refine lv_iinc (v := nI (k + 1)) (lv' := [(3, .int (nI (k + 1))), (2, .int (nI ((setN (fun q => decide (M 1 104 ≤ hgtR M q (M 1 106))) k) ||| 0))), (0, .ref (ad 0)), (1, .int (nI 5))]) hx hb dX6_count_47 hl (k := 1) rfl (n_inc k 1) (by decide) rfl (fun ls hl => ?_)
        refine lv_goto (tgt := 4) hx hb dX6_count_50 (by decide) ?_
        have hl0 : lv_has ls 4 [(3, .int (nI (k + 1))), (2, .int (nI (setN (fun q => decide (M 1 104 ≤ hgtR M q (M 1 106))) (k + 1)))), (0, .ref (ad 0)), (1, .int (nI 5))] := by rw [(show nI (setN (fun q => decide (M 1 104 ≤ hgtR M q (M 1 106))) (k + 1)) = nI ((setN (fun q => decide (M 1 104 ≤ hgtR M q (M 1 106))) k) ||| 0) from by first | rfl | (congr 1; omega) | (refine congrArg nI ?_; first | rfl | (exact (setN_t (decide_eq_true (by omega)))) | (exact (setN_f (decide_eq_false (by omega)))) | (rw [Nat.or_zero]; exact (setN_f (decide_eq_false (by omega))))))]; exact lv_sub hl [0, 1, 2, 3] rfl
        exact ih4 (k + 1) (by omega) _ _ _ (hP) hS hl0
      · refine lv_iconst (v := nI 1) hx hb dX6_count_38 (by decide) ?_
        refine lv_iload_n hx hb dX6_count_39 rfl (lv_at hl 0 rfl) ?_
        refine x_ishl hx hb (by omega) dX6_count_40 ?_
        refine lv_goto (tgt := 45) hx hb dX6_count_41 (by decide) ?_
        refine x_ior hx hb dX6_count_45 ?_
        refine lv_istore_n (lv' := [(2, .int (nI ((setN (fun q => decide (M 1 104 ≤ hgtR M q (M 1 106))) k) ||| (1 <<< k)))), (3, .int (nI k)), (0, .ref (ad 0)), (1, .int (nI 5))]) hx hb dX6_count_46 rfl hl (by decide) rfl (fun ls hl => ?_)
        refine lv_iinc (v := nI (k + 1)) (lv' := [(3, .int (nI (k + 1))), (2, .int (nI ((setN (fun q => decide (M 1 104 ≤ hgtR M q (M 1 106))) k) ||| (1 <<< k)))), (0, .ref (ad 0)), (1, .int (nI 5))]) hx hb dX6_count_47 hl (k := 1) rfl (n_inc k 1) (by decide) rfl (fun ls hl => ?_)
        refine lv_goto (tgt := 4) hx hb dX6_count_50 (by decide) ?_
        have hl0 : lv_has ls 4 [(3, .int (nI (k + 1))), (2, .int (nI (setN (fun q => decide (M 1 104 ≤ hgtR M q (M 1 106))) (k + 1)))), (0, .ref (ad 0)), (1, .int (nI 5))] := by rw [(show nI (setN (fun q => decide (M 1 104 ≤ hgtR M q (M 1 106))) (k + 1)) = nI ((setN (fun q => decide (M 1 104 ≤ hgtR M q (M 1 106))) k) ||| (1 <<< k)) from by first | rfl | (congr 1; omega) | (refine congrArg nI ?_; first | rfl | (exact (setN_t (decide_eq_true (by omega)))) | (exact (setN_f (decide_eq_false (by omega)))) | (rw [Nat.or_zero]; exact (setN_f (decide_eq_false (by omega))))))]; exact lv_sub hl [0, 1, 2, 3] rfl
        exact ih4 (k + 1) (by omega) _ _ _ (hP) hS hl0
  have hl0 : lv_has ls 4 [(3, .int (nI 0)), (2, .int (nI (setN (fun q => decide (M 1 104 ≤ hgtR M q (M 1 106))) 0))), (0, .ref (ad 0)), (1, .int (nI 5))] := by rw [(show nI (setN (fun q => decide (M 1 104 ≤ hgtR M q (M 1 106))) 0) = nI 0 from rfl)]; exact lv_sub hl [0, 1, 2, 3] rfl
  exact L4 (M 1 73) 0 (by omega) _ _ _ (hP) hS hl0
set_option maxHeartbeats 4000000 in
set_option maxRecDepth 100000 in
theorem r_count_bad {l : Launch} {g : gE} {ad : Nat → Nat} (hI : g_inj ad 14) (M : gMem) (J : gMeL) (hw : wfR M) (w : Int32) (h : w.toInt < 0 ∨ 5 < w.toInt) : CI l g ad dsR 14 yX6_count cX6_count 4 (some .int) 2 [.ref (ad 0), .int w] M J (nI 4294967295) M J := by
  refine CI.of (plainFor_of_name (by decide)) (Nat.le_of_ble_eq_true rfl) (fun p9 e9 s9 m9 args9 below9 meth9 c9 CF hK hr9 hlk9 hP hS ls hl => ?_)
  have hx := CF.1
  have hb := CF.2.1
  have hA : ∀ q, g_A ad 14 q → g_A ad 14 q := fun _ h => h
  have hl : lv_has ls 4 [(0, .ref (ad 0)), (1, .int w)] := hl
  have hnc := hw.nc
  have hnf := hw.nf
  have hwy := hw.way
  have hat := hw.at
  have hln := hw.line
  refine lv_iconst (v := nI 0) hx hb dX6_count_0 (by decide) ?_
  refine lv_istore_n (lv' := [(2, .int (nI 0)), (0, .ref (ad 0)), (1, .int w)]) hx hb dX6_count_1 rfl hl (by decide) rfl (fun ls hl => ?_)
  refine lv_iconst (v := nI 0) hx hb dX6_count_2 (by decide) ?_
  refine lv_istore_n (lv' := [(3, .int (nI 0)), (2, .int (nI 0)), (0, .ref (ad 0)), (1, .int w)]) hx hb dX6_count_3 rfl hl (by decide) rfl (fun ls hl => ?_)
  have L4 : ∀ (d4 : Nat) (k : Nat), (k + d4 = (M 1 73)) → (∀ (H : Heap) (locs : List Loc) (ls : Array Slot), g_P g ad dsR 14 M J H → va_S (g_A ad 14) s9.heap H locs → lv_has ls 4 [(3, .int (nI k)), (2, .int (nI (setN (fun q => decide (M 1 104 ≤ hgtR M q (M 1 106))) k))), (0, .ref (ad 0)), (1, .int w)] → W p9 l e9 (g_rm 2) s9 m9 args9 below9 meth9 c9 H locs 0 0 (MQ below9 (va_Qi (fun r' (_ : Unit) => r' = (nI 4294967295)) (fun _ t => g_P g ad dsR 14 M J t.heap) (g_A ad 14)) args9 s9 0 0 (g_A ad 14)) (F0 m9 4 ls [])) := by
    intro d4
    induction d4 with
    | zero =>
      intro k h_k H locs ls hP hS hl
      refine lv_iload_n hx hb dX6_count_4 rfl (lv_at hl 0 rfl) ?_
      refine lv_aload_n hx hb dX6_count_5 rfl (lv_at hl 2 rfl) ?_
      refine x_getr CF hK hP 0 (by decide) dR_0 rfl uX6 0 (by decide) (j := 1) rfl wd3_96 rfl dX6_count_6 ?_
      refine lv_bipush (v := nI 73) hx hb dX6_count_9 (by decide) ?_
      refine x_iald CF hK hP 1 (by decide) dR_1 73 (by omega) (by decide) dX6_count_11 ?_
      refine x_zge (u := (k : Nat)) (v := (M 1 73 : Nat)) (tgt := 53) hx hb (nI_toInt (by omega)) (nI_toInt (by omega)) dX6_count_12 (by decide) (fun h_1 => ?_) (fun h_1 => (by omega : False).elim)
      refine lv_iload_n hx hb dX6_count_53 rfl (lv_at hl 3 rfl) ?_
      refine lv_tableOut (tgt := 133) hx hb dX6_count_54 (by omega) (by decide) ?_
      refine lv_iconst (v := nI 4294967295) hx hb dX6_count_133 (by decide) ?_
      exact x_reti hx hb hr9 hlk9 hS hP (by first | rfl | (show nI 4294967295 = nI 4294967295; first | rfl | omega)) dX6_count_134
    | succ d4 ih4 =>
      intro k h_k H locs ls hP hS hl
      have b1 := hgtR_le hw (show k < 5 by omega) (M 1 106)
      refine lv_iload_n hx hb dX6_count_4 rfl (lv_at hl 0 rfl) ?_
      refine lv_aload_n hx hb dX6_count_5 rfl (lv_at hl 2 rfl) ?_
      refine x_getr CF hK hP 0 (by decide) dR_0 rfl uX6 0 (by decide) (j := 1) rfl wd3_96 rfl dX6_count_6 ?_
      refine lv_bipush (v := nI 73) hx hb dX6_count_9 (by decide) ?_
      refine x_iald CF hK hP 1 (by decide) dR_1 73 (by omega) (by decide) dX6_count_11 ?_
      refine x_zge (u := (k : Nat)) (v := (M 1 73 : Nat)) (tgt := 53) hx hb (nI_toInt (by omega)) (nI_toInt (by omega)) dX6_count_12 (by decide) (fun h_2 => (by omega : False).elim) (fun h_2 => ?_)
      refine lv_iload_n hx hb dX6_count_15 rfl (lv_at hl 1 rfl) ?_
      refine lv_aload_n hx hb dX6_count_16 rfl (lv_at hl 2 rfl) ?_
      refine lv_iload_n hx hb dX6_count_17 rfl (lv_at hl 0 rfl) ?_
      refine lv_aload_n hx hb dX6_count_18 rfl (lv_at hl 2 rfl) ?_
      refine x_getr CF hK hP 0 (by decide) dR_0 rfl uX6 0 (by decide) (j := 1) rfl wd3_96 rfl dX6_count_19 ?_
      refine lv_bipush (v := nI 106) hx hb dX6_count_22 (by decide) ?_
      refine x_iald CF hK hP 1 (by decide) dR_1 106 (by omega) (by decide) dX6_count_24 ?_
      refine x_callVI CF hK hP hS hA hl (As := [.int (nI k), .int (nI (M 1 106))]) (rest := [.int (nI (setN (fun q => decide (M 1 104 ≤ hgtR M q (M 1 106))) k))]) (r_heightOf hI M J hw k (by omega) (M 1 106) (by omega)) kw_X6_heightOf wd3_219 (by decide) dR_0 rfl rfl ⟨Nat.le_of_ble_eq_true rfl, Nat.le_of_ble_eq_true rfl⟩ ⟨Nat.le_refl _, Nat.le_refl _⟩ (Nat.le_of_ble_eq_true rfl) dX6_count_25 (fun H locs hP hS => ?_)
      refine lv_aload_n hx hb dX6_count_28 rfl (lv_at hl 2 rfl) ?_
      refine x_getr CF hK hP 0 (by decide) dR_0 rfl uX6 0 (by decide) (j := 1) rfl wd3_96 rfl dX6_count_29 ?_
      refine lv_bipush (v := nI 104) hx hb dX6_count_32 (by decide) ?_
      refine x_iald CF hK hP 1 (by decide) dR_1 104 (by omega) (by decide) dX6_count_34 ?_
      refine x_zlt (u := (hgtR M k (M 1 106) : Nat)) (v := (M 1 104 : Nat)) (tgt := 44) hx hb (nI_toInt (by omega)) (nI_toInt (by omega)) dX6_count_35 (by decide) (fun h_3 => ?_) (fun h_3 => ?_)
      · refine lv_iconst (v := nI 0) hx hb dX6_count_44 (by decide) ?_
        refine x_ior hx hb dX6_count_45 ?_
        refine lv_istore_n (lv' := [(2, .int (nI ((setN (fun q => decide (M 1 104 ≤ hgtR M q (M 1 106))) k) ||| 0))), (3, .int (nI k)), (0, .ref (ad 0)), (1, .int w)]) hx hb dX6_count_46 rfl hl (by decide) rfl (fun ls hl => ?_)
        refine lv_iinc (v := nI (k + 1)) (lv' := [(3, .int (nI (k + 1))), (2, .int (nI ((setN (fun q => decide (M 1 104 ≤ hgtR M q (M 1 106))) k) ||| 0))), (0, .ref (ad 0)), (1, .int w)]) hx hb dX6_count_47 hl (k := 1) rfl (n_inc k 1) (by decide) rfl (fun ls hl => ?_)
        refine lv_goto (tgt := 4) hx hb dX6_count_50 (by decide) ?_
        have hl0 : lv_has ls 4 [(3, .int (nI (k + 1))), (2, .int (nI (setN (fun q => decide (M 1 104 ≤ hgtR M q (M 1 106))) (k + 1)))), (0, .ref (ad 0)), (1, .int w)] := by rw [(show nI (setN (fun q => decide (M 1 104 ≤ hgtR M q (M 1 106))) (k + 1)) = nI ((setN (fun q => decide (M 1 104 ≤ hgtR M q (M 1 106))) k) ||| 0) from by first | rfl | (congr 1; omega) | (refine congrArg nI ?_; first | rfl | (exact (setN_t (decide_eq_true (by omega)))) | (exact (setN_f (decide_eq_false (by omega)))) | (rw [Nat.or_zero]; exact (setN_f (decide_eq_false (by omega))))))]; exact lv_sub hl [0, 1, 2, 3] rfl
        exact ih4 (k + 1) (by omega) _ _ _ (hP) hS hl0
      · refine lv_iconst (v := nI 1) hx hb dX6_count_38 (by decide) ?_
        refine lv_iload_n hx hb dX6_count_39 rfl (lv_at hl 0 rfl) ?_
        refine x_ishl hx hb (by omega) dX6_count_40 ?_
        refine lv_goto (tgt := 45) hx hb dX6_count_41 (by decide) ?_
        refine x_ior hx hb dX6_count_45 ?_
        refine lv_istore_n (lv' := [(2, .int (nI ((setN (fun q => decide (M 1 104 ≤ hgtR M q (M 1 106))) k) ||| (1 <<< k)))), (3, .int (nI k)), (0, .ref (ad 0)), (1, .int w)]) hx hb dX6_count_46 rfl hl (by decide) rfl (fun ls hl => ?_)
        refine lv_iinc (v := nI (k + 1)) (lv' := [(3, .int (nI (k + 1))), (2, .int (nI ((setN (fun q => decide (M 1 104 ≤ hgtR M q (M 1 106))) k) ||| (1 <<< k)))), (0, .ref (ad 0)), (1, .int w)]) hx hb dX6_count_47 hl (k := 1) rfl (n_inc k 1) (by decide) rfl (fun ls hl => ?_)
        refine lv_goto (tgt := 4) hx hb dX6_count_50 (by decide) ?_
        have hl0 : lv_has ls 4 [(3, .int (nI (k + 1))), (2, .int (nI (setN (fun q => decide (M 1 104 ≤ hgtR M q (M 1 106))) (k + 1)))), (0, .ref (ad 0)), (1, .int w)] := by rw [(show nI (setN (fun q => decide (M 1 104 ≤ hgtR M q (M 1 106))) (k + 1)) = nI ((setN (fun q => decide (M 1 104 ≤ hgtR M q (M 1 106))) k) ||| (1 <<< k)) from by first | rfl | (congr 1; omega) | (refine congrArg nI ?_; first | rfl | (exact (setN_t (decide_eq_true (by omega)))) | (exact (setN_f (decide_eq_false (by omega)))) | (rw [Nat.or_zero]; exact (setN_f (decide_eq_false (by omega))))))]; exact lv_sub hl [0, 1, 2, 3] rfl
        exact ih4 (k + 1) (by omega) _ _ _ (hP) hS hl0
  have hl0 : lv_has ls 4 [(3, .int (nI 0)), (2, .int (nI (setN (fun q => decide (M 1 104 ≤ hgtR M q (M 1 106))) 0))), (0, .ref (ad 0)), (1, .int w)] := by rw [(show nI (setN (fun q => decide (M 1 104 ≤ hgtR M q (M 1 106))) 0) = nI 0 from rfl)]; exact lv_sub hl [0, 1, 2, 3] rfl
  exact L4 (M 1 73) 0 (by omega) _ _ _ (hP) hS hl0
set_option maxHeartbeats 4000000 in
set_option maxRecDepth 100000 in
theorem r_wear_ok {l : Launch} {g : gE} {ad : Nat → Nat} (hI : g_inj ad 14) (M : gMem) (J : gMeL) (hw : wfR M) (n : Nat) (h1 : 1 ≤ n) (h : n < 10) : CI l g ad dsR 14 yX6_wear cX6_wear 6 (some .int) 1 [.ref (ad 0), .int (nI n)] M J (nI (sumN (fun i => b2n (decide ((wmT M (12 * M 1 0) n) 1 (1 + i) < M 1 (1 + i)))) (12 * M 1 0))) (wmT M (12 * M 1 0) n) J := by
  refine CI.of (plainFor_of_name (by decide)) (Nat.le_of_ble_eq_true rfl) (fun p9 e9 s9 m9 args9 below9 meth9 c9 CF hK hr9 hlk9 hP hS ls hl => ?_)
  have hx := CF.1
  have hb := CF.2.1
  have hA : ∀ q, g_A ad 14 q → g_A ad 14 q := fun _ h => h
  have hl : lv_has ls 6 [(0, .ref (ad 0)), (1, .int (nI n))] := hl
  have hnc := hw.nc
  have hnf := hw.nf
  have hwy := hw.way
  refine lv_iload_n hx hb dX6_wear_0 rfl (lv_at hl 1 rfl) ?_
  refine lv_i2l hx hb dX6_wear_1 (nI_l (by omega)) ?_
  refine lv_lconst (v := (1 : Int64)) hx hb dX6_wear_2 rfl ?_
  refine lv_ldc2 hx hb CF.2.2.2.1 (CF.2.2.2.2 _ (List.mem_cons_of_mem _ wd3_178)) dX6_wear_3 ?_
  refine x_callSP CF hK hP hS hl (As := [.long (lN n), .long (1 : Int64), .long (9 : Int64)]) (rest := []) (r_in_t _ _ _ (il_in (lo := 1) (hi := 9) (by omega) (by omega) (by omega))) kw_X6_in wd3_147 rfl ⟨Nat.le_of_ble_eq_true rfl, Nat.le_of_ble_eq_true rfl⟩ ⟨Nat.le_refl _, Nat.le_refl _⟩ (Nat.le_of_ble_eq_true rfl) dX6_wear_6 (fun H locs hP hS => ?_)
  refine x_yne (u := (1 : Int)) (tgt := 14) hx hb (rfl) dX6_wear_9 (by decide) (fun h_1 => ?_) (fun h_1 => (by omega : False).elim)
  refine lv_bipush (v := nI 12) hx hb dX6_wear_14 (by decide) ?_
  refine lv_aload_n hx hb dX6_wear_16 rfl (lv_at hl 0 rfl) ?_
  refine x_getr CF hK hP 0 (by decide) dR_0 rfl uX6 0 (by decide) (j := 1) rfl wd3_96 rfl dX6_wear_17 ?_
  refine lv_iconst (v := nI 0) hx hb dX6_wear_20 (by decide) ?_
  refine x_iald CF hK hP 1 (by decide) dR_1 0 (by omega) (by decide) dX6_wear_21 ?_
  refine x_imul hx hb dX6_wear_22 ?_
  refine lv_istore_n (lv' := [(2, .int (nI (12 * (M 1 0)))), (0, .ref (ad 0)), (1, .int (nI n))]) hx hb dX6_wear_23 rfl hl (by decide) rfl (fun ls hl => ?_)
  refine lv_iconst (v := nI 0) hx hb dX6_wear_24 (by decide) ?_
  refine lv_istore_n (lv' := [(3, .int (nI 0)), (2, .int (nI (12 * (M 1 0)))), (0, .ref (ad 0)), (1, .int (nI n))]) hx hb dX6_wear_25 rfl hl (by decide) rfl (fun ls hl => ?_)
  have L26 : ∀ (d26 : Nat) (q : Nat), (q + d26 = (12 * M 1 0)) → (∀ (H : Heap) (locs : List Loc) (ls : Array Slot), g_P g ad dsR 14 (rowN M 5 q (fun i => M 1 (1 + i))) J H → va_S (g_A ad 14) s9.heap H locs → lv_has ls 6 [(3, .int (nI q)), (2, .int (nI (12 * (M 1 0)))), (0, .ref (ad 0)), (1, .int (nI n))] → W p9 l e9 (g_rm 1) s9 m9 args9 below9 meth9 c9 H locs 0 0 (MQ below9 (va_Qi (fun r' (_ : Unit) => r' = (nI (sumN (fun i => b2n (decide ((wmT M (12 * M 1 0) n) 1 (1 + i) < M 1 (1 + i)))) (12 * M 1 0)))) (fun _ t => g_P g ad dsR 14 (wmT M (12 * M 1 0) n) J t.heap) (g_A ad 14)) args9 s9 0 0 (g_A ad 14)) (F0 m9 26 ls [])) := by
    intro d26
    induction d26 with
    | zero =>
      intro q h_q H locs ls hP hS hl
      refine lv_iload_n hx hb dX6_wear_26 rfl (lv_at hl 0 rfl) ?_
      refine lv_iload_n hx hb dX6_wear_27 rfl (lv_at hl 1 rfl) ?_
      refine x_zge (u := (q : Nat)) (v := (12 * (M 1 0) : Nat)) (tgt := 51) hx hb (nI_toInt (by omega)) (nI_toInt (by omega)) dX6_wear_28 (by decide) (fun h_2 => ?_) (fun h_2 => (by omega : False).elim)
      refine lv_iconst (v := nI 0) hx hb dX6_wear_51 (by decide) ?_
      refine lv_istore_n (lv' := [(3, .int (nI 0)), (2, .int (nI (12 * (M 1 0)))), (0, .ref (ad 0)), (1, .int (nI n))]) hx hb dX6_wear_52 rfl hl (by decide) rfl (fun ls hl => ?_)
      have L53 : ∀ (d53 : Nat) (t : Nat), (t + d53 = n) → (∀ (H : Heap) (locs : List Loc) (ls : Array Slot), g_P g ad dsR 14 (wmT M (12 * M 1 0) t) J H → va_S (g_A ad 14) s9.heap H locs → lv_has ls 6 [(3, .int (nI t)), (2, .int (nI (12 * (M 1 0)))), (0, .ref (ad 0)), (1, .int (nI n))] → W p9 l e9 (g_rm 1) s9 m9 args9 below9 meth9 c9 H locs 0 0 (MQ below9 (va_Qi (fun r' (_ : Unit) => r' = (nI (sumN (fun i => b2n (decide ((wmT M (12 * M 1 0) n) 1 (1 + i) < M 1 (1 + i)))) (12 * M 1 0)))) (fun _ t => g_P g ad dsR 14 (wmT M (12 * M 1 0) n) J t.heap) (g_A ad 14)) args9 s9 0 0 (g_A ad 14)) (F0 m9 53 ls [])) := by
        intro d53
        induction d53 with
        | zero =>
          intro t h_t H locs ls hP hS hl
          refine lv_iload_n hx hb dX6_wear_53 rfl (lv_at hl 0 rfl) ?_
          refine lv_iload_n hx hb dX6_wear_54 rfl (lv_at hl 3 rfl) ?_
          refine x_zge (u := (t : Nat)) (v := (n : Nat)) (tgt := 164) hx hb (nI_toInt (by omega)) (nI_toInt (by omega)) dX6_wear_55 (by decide) (fun h_3 => ?_) (fun h_3 => (by omega : False).elim)
          refine lv_iconst (v := nI 0) hx hb dX6_wear_164 (by decide) ?_
          refine lv_istore_n (lv' := [(3, .int (nI 0)), (2, .int (nI (12 * (M 1 0)))), (0, .ref (ad 0)), (1, .int (nI n))]) hx hb dX6_wear_165 rfl hl (by decide) rfl (fun ls hl => ?_)
          refine lv_iconst (v := nI 0) hx hb dX6_wear_166 (by decide) ?_
          refine lv_istore (lv' := [(4, .int (nI 0)), (3, .int (nI 0)), (2, .int (nI (12 * (M 1 0)))), (0, .ref (ad 0)), (1, .int (nI n))]) hx hb dX6_wear_167 hl (by decide) rfl (fun ls hl => ?_)
          have L169 : ∀ (d169 : Nat) (j : Nat), (j + d169 = (12 * M 1 0)) → (∀ (H : Heap) (locs : List Loc) (ls : Array Slot), g_P g ad dsR 14 (wmT M (12 * M 1 0) n) J H → va_S (g_A ad 14) s9.heap H locs → lv_has ls 6 [(4, .int (nI j)), (3, .int (nI (sumN (fun i => b2n (decide ((wmT M (12 * M 1 0) n) 1 (1 + i) < M 1 (1 + i)))) j))), (2, .int (nI (12 * (M 1 0)))), (0, .ref (ad 0)), (1, .int (nI n))] → W p9 l e9 (g_rm 1) s9 m9 args9 below9 meth9 c9 H locs 0 0 (MQ below9 (va_Qi (fun r' (_ : Unit) => r' = (nI (sumN (fun i => b2n (decide ((wmT M (12 * M 1 0) n) 1 (1 + i) < M 1 (1 + i)))) (12 * M 1 0)))) (fun _ t => g_P g ad dsR 14 (wmT M (12 * M 1 0) n) J t.heap) (g_A ad 14)) args9 s9 0 0 (g_A ad 14)) (F0 m9 169 ls [])) := by
            intro d169
            induction d169 with
            | zero =>
              intro j h_j H locs ls hP hS hl
              refine lv_iload hx hb dX6_wear_169 (lv_at hl 0 rfl) ?_
              refine lv_iload_n hx hb dX6_wear_171 rfl (lv_at hl 2 rfl) ?_
              refine x_zge (u := (j : Nat)) (v := (12 * (M 1 0) : Nat)) (tgt := 208) hx hb (nI_toInt (by omega)) (nI_toInt (by omega)) dX6_wear_172 (by decide) (fun h_4 => ?_) (fun h_4 => (by omega : False).elim)
              refine lv_iload_n hx hb dX6_wear_208 rfl (lv_at hl 1 rfl) ?_
              exact x_reti hx hb hr9 hlk9 hS (by exact hP) (by rw [show j = (12 * M 1 0) by omega]) dX6_wear_209
            | succ d169 ih169 =>
              intro j h_j H locs ls hP hS hl
              have b1 : (wmT M (12 * M 1 0) n) 1 (1 + j) ≤ 9 := wmT_le n (by rw [Nat.add_comm]; have := hw.hair (show j < 72 by omega); rwa [Nat.add_comm] at this)
              have b2 : M 1 (1 + j) ≤ 9 := hw.hair (show j < 72 by omega)
              refine lv_iload hx hb dX6_wear_169 (lv_at hl 0 rfl) ?_
              refine lv_iload_n hx hb dX6_wear_171 rfl (lv_at hl 2 rfl) ?_
              refine x_zge (u := (j : Nat)) (v := (12 * (M 1 0) : Nat)) (tgt := 208) hx hb (nI_toInt (by omega)) (nI_toInt (by omega)) dX6_wear_172 (by decide) (fun h_5 => (by omega : False).elim) (fun h_5 => ?_)
              refine lv_iload_n hx hb dX6_wear_175 rfl (lv_at hl 1 rfl) ?_
              refine lv_aload_n hx hb dX6_wear_176 rfl (lv_at hl 3 rfl) ?_
              refine x_getr CF hK hP 0 (by decide) dR_0 rfl uX6 0 (by decide) (j := 1) rfl wd3_96 rfl dX6_wear_177 ?_
              refine lv_iconst (v := nI 1) hx hb dX6_wear_180 (by decide) ?_
              refine lv_iload hx hb dX6_wear_181 (lv_at hl 0 rfl) ?_
              refine x_iadd hx hb dX6_wear_183 ?_
              refine x_iald CF hK hP 1 (by decide) dR_1 (1 + j) (by omega) (by decide) dX6_wear_184 ?_
              refine x_ri (show (nI ((wmT M (12 * M 1 0) n) 1 (1 + j))) = nI ((wmT M (12 * M 1 0) n) 1 (1 + j)) from rfl) ?_
              refine lv_aload_n hx hb dX6_wear_185 rfl (lv_at hl 3 rfl) ?_
              refine x_getr CF hK hP 0 (by decide) dR_0 rfl uX6 6 (by decide) (j := 5) rfl wd3_102 rfl dX6_wear_186 ?_
              refine lv_iload hx hb dX6_wear_189 (lv_at hl 0 rfl) ?_
              refine x_iald CF hK hP 5 (by decide) dR_5 j (by omega) (by decide) dX6_wear_191 ?_
              refine x_ri (show (nI ((wmT M (12 * M 1 0) n) 5 j)) = nI (M 1 (1 + j)) from congrArg nI (by rw [wmT_5, rowN_in (by omega)])) ?_
              refine x_zge (u := ((wmT M (12 * M 1 0) n) 1 (1 + j) : Nat)) (v := (M 1 (1 + j) : Nat)) (tgt := 199) hx hb (nI_toInt (by omega)) (nI_toInt (by omega)) dX6_wear_192 (by decide) (fun h_6 => ?_) (fun h_6 => ?_)
              · refine lv_iconst (v := nI 0) hx hb dX6_wear_199 (by decide) ?_
                refine x_iadd hx hb dX6_wear_200 ?_
                refine lv_istore_n (lv' := [(3, .int (nI ((sumN (fun i => b2n (decide ((wmT M (12 * M 1 0) n) 1 (1 + i) < M 1 (1 + i)))) j) + 0))), (4, .int (nI j)), (2, .int (nI (12 * (M 1 0)))), (0, .ref (ad 0)), (1, .int (nI n))]) hx hb dX6_wear_201 rfl hl (by decide) rfl (fun ls hl => ?_)
                refine lv_iinc (v := nI (j + 1)) (lv' := [(4, .int (nI (j + 1))), (3, .int (nI ((sumN (fun i => b2n (decide ((wmT M (12 * M 1 0) n) 1 (1 + i) < M 1 (1 + i)))) j) + 0))), (2, .int (nI (12 * (M 1 0)))), (0, .ref (ad 0)), (1, .int (nI n))]) hx hb dX6_wear_202 hl (k := 1) rfl (n_inc j 1) (by decide) rfl (fun ls hl => ?_)
                refine lv_goto (tgt := 169) hx hb dX6_wear_205 (by decide) ?_
                have hl0 : lv_has ls 6 [(4, .int (nI (j + 1))), (3, .int (nI (sumN (fun i => b2n (decide ((wmT M (12 * M 1 0) n) 1 (1 + i) < M 1 (1 + i)))) (j + 1)))), (2, .int (nI (12 * (M 1 0)))), (0, .ref (ad 0)), (1, .int (nI n))] := by rw [(show nI (sumN (fun i => b2n (decide ((wmT M (12 * M 1 0) n) 1 (1 + i) < M 1 (1 + i)))) (j + 1)) = nI ((sumN (fun i => b2n (decide ((wmT M (12 * M 1 0) n) 1 (1 + i) < M 1 (1 + i)))) j) + 0) from by refine congrArg nI ?_; show sumN (fun i => b2n (decide ((wmT M (12 * M 1 0) n) 1 (1 + i) < M 1 (1 + i)))) j + b2n (decide ((wmT M (12 * M 1 0) n) 1 (1 + j) < M 1 (1 + j))) = _; rw [b2n_f (by omega)])]; exact lv_sub hl [0, 1, 2, 3, 4] rfl
                exact ih169 (j + 1) (by omega) _ _ _ (hP) hS hl0
              · refine lv_iconst (v := nI 1) hx hb dX6_wear_195 (by decide) ?_
                refine lv_goto (tgt := 200) hx hb dX6_wear_196 (by decide) ?_
                refine x_iadd hx hb dX6_wear_200 ?_
                refine lv_istore_n (lv' := [(3, .int (nI ((sumN (fun i => b2n (decide ((wmT M (12 * M 1 0) n) 1 (1 + i) < M 1 (1 + i)))) j) + 1))), (4, .int (nI j)), (2, .int (nI (12 * (M 1 0)))), (0, .ref (ad 0)), (1, .int (nI n))]) hx hb dX6_wear_201 rfl hl (by decide) rfl (fun ls hl => ?_)
                refine lv_iinc (v := nI (j + 1)) (lv' := [(4, .int (nI (j + 1))), (3, .int (nI ((sumN (fun i => b2n (decide ((wmT M (12 * M 1 0) n) 1 (1 + i) < M 1 (1 + i)))) j) + 1))), (2, .int (nI (12 * (M 1 0)))), (0, .ref (ad 0)), (1, .int (nI n))]) hx hb dX6_wear_202 hl (k := 1) rfl (n_inc j 1) (by decide) rfl (fun ls hl => ?_)
                refine lv_goto (tgt := 169) hx hb dX6_wear_205 (by decide) ?_
                have hl0 : lv_has ls 6 [(4, .int (nI (j + 1))), (3, .int (nI (sumN (fun i => b2n (decide ((wmT M (12 * M 1 0) n) 1 (1 + i) < M 1 (1 + i)))) (j + 1)))), (2, .int (nI (12 * (M 1 0)))), (0, .ref (ad 0)), (1, .int (nI n))] := by rw [(show nI (sumN (fun i => b2n (decide ((wmT M (12 * M 1 0) n) 1 (1 + i) < M 1 (1 + i)))) (j + 1)) = nI ((sumN (fun i => b2n (decide ((wmT M (12 * M 1 0) n) 1 (1 + i) < M 1 (1 + i)))) j) + 1) from by refine congrArg nI ?_; show sumN (fun i => b2n (decide ((wmT M (12 * M 1 0) n) 1 (1 + i) < M 1 (1 + i)))) j + b2n (decide ((wmT M (12 * M 1 0) n) 1 (1 + j) < M 1 (1 + j))) = _; rw [b2n_t (by omega)])]; exact lv_sub hl [0, 1, 2, 3, 4] rfl
                exact ih169 (j + 1) (by omega) _ _ _ (hP) hS hl0
          have hl0 : lv_has ls 6 [(4, .int (nI 0)), (3, .int (nI (sumN (fun i => b2n (decide ((wmT M (12 * M 1 0) n) 1 (1 + i) < M 1 (1 + i)))) 0))), (2, .int (nI (12 * (M 1 0)))), (0, .ref (ad 0)), (1, .int (nI n))] := by rw [(show nI (sumN (fun i => b2n (decide ((wmT M (12 * M 1 0) n) 1 (1 + i) < M 1 (1 + i)))) 0) = nI 0 from rfl)]; exact lv_sub hl [0, 1, 2, 3, 4] rfl
          exact L169 (12 * M 1 0) 0 (by omega) _ _ _ (by rw [show t = n by omega] at hP; exact hP) hS hl0
        | succ d53 ih53 =>
          intro t h_t H locs ls hP hS hl
          have hq9 : ∀ i, i < 72 → (wmT M (12 * M 1 0) t) 1 (1 + i) ≤ 9 := fun i hi => wmT_le t (by rw [Nat.add_comm]; have := hw.hair hi; rwa [Nat.add_comm] at this)
          refine lv_iload_n hx hb dX6_wear_53 rfl (lv_at hl 0 rfl) ?_
          refine lv_iload_n hx hb dX6_wear_54 rfl (lv_at hl 3 rfl) ?_
          refine x_zge (u := (t : Nat)) (v := (n : Nat)) (tgt := 164) hx hb (nI_toInt (by omega)) (nI_toInt (by omega)) dX6_wear_55 (by decide) (fun h_7 => (by omega : False).elim) (fun h_7 => ?_)
          refine lv_iconst (v := nI 0) hx hb dX6_wear_58 (by decide) ?_
          refine lv_istore (lv' := [(4, .int (nI 0)), (3, .int (nI t)), (2, .int (nI (12 * (M 1 0)))), (0, .ref (ad 0)), (1, .int (nI n))]) hx hb dX6_wear_59 hl (by decide) rfl (fun ls hl => ?_)
          have L61 : ∀ (d61 : Nat) (y : Nat), (y + d61 = (12 * M 1 0)) → (∀ (H : Heap) (locs : List Loc) (ls : Array Slot), g_P g ad dsR 14 (rowN (wmT M (12 * M 1 0) t) 4 y (fun i => (wmT M (12 * M 1 0) t) 1 (1 + i))) J H → va_S (g_A ad 14) s9.heap H locs → lv_has ls 6 [(4, .int (nI y)), (3, .int (nI t)), (2, .int (nI (12 * (M 1 0)))), (0, .ref (ad 0)), (1, .int (nI n))] → W p9 l e9 (g_rm 1) s9 m9 args9 below9 meth9 c9 H locs 0 0 (MQ below9 (va_Qi (fun r' (_ : Unit) => r' = (nI (sumN (fun i => b2n (decide ((wmT M (12 * M 1 0) n) 1 (1 + i) < M 1 (1 + i)))) (12 * M 1 0)))) (fun _ t => g_P g ad dsR 14 (wmT M (12 * M 1 0) n) J t.heap) (g_A ad 14)) args9 s9 0 0 (g_A ad 14)) (F0 m9 61 ls [])) := by
            intro d61
            induction d61 with
            | zero =>
              intro y h_y H locs ls hP hS hl
              refine lv_iload hx hb dX6_wear_61 (lv_at hl 0 rfl) ?_
              refine lv_iload_n hx hb dX6_wear_63 rfl (lv_at hl 2 rfl) ?_
              refine x_zge (u := (y : Nat)) (v := (12 * (M 1 0) : Nat)) (tgt := 89) hx hb (nI_toInt (by omega)) (nI_toInt (by omega)) dX6_wear_64 (by decide) (fun h_8 => ?_) (fun h_8 => (by omega : False).elim)
              refine lv_iconst (v := nI 0) hx hb dX6_wear_89 (by decide) ?_
              refine lv_istore (lv' := [(4, .int (nI 0)), (3, .int (nI t)), (2, .int (nI (12 * (M 1 0)))), (0, .ref (ad 0)), (1, .int (nI n))]) hx hb dX6_wear_90 hl (by decide) rfl (fun ls hl => ?_)
              have L92 : ∀ (d92 : Nat) (z : Nat), (z + d92 = (12 * M 1 0)) → (∀ (H : Heap) (locs : List Loc) (ls : Array Slot), g_P g ad dsR 14 (rowO (rowN (wmT M (12 * M 1 0) t) 4 (12 * M 1 0) (fun i => (wmT M (12 * M 1 0) t) 1 (1 + i))) 1 1 z (w1F (fun i => (wmT M (12 * M 1 0) t) 1 (1 + i)))) J H → va_S (g_A ad 14) s9.heap H locs → lv_has ls 6 [(4, .int (nI z)), (3, .int (nI t)), (2, .int (nI (12 * (M 1 0)))), (0, .ref (ad 0)), (1, .int (nI n))] → W p9 l e9 (g_rm 1) s9 m9 args9 below9 meth9 c9 H locs 0 0 (MQ below9 (va_Qi (fun r' (_ : Unit) => r' = (nI (sumN (fun i => b2n (decide ((wmT M (12 * M 1 0) n) 1 (1 + i) < M 1 (1 + i)))) (12 * M 1 0)))) (fun _ t => g_P g ad dsR 14 (wmT M (12 * M 1 0) n) J t.heap) (g_A ad 14)) args9 s9 0 0 (g_A ad 14)) (F0 m9 92 ls [])) := by
                intro d92
                induction d92 with
                | zero =>
                  intro z h_z H locs ls hP hS hl
                  refine lv_iload hx hb dX6_wear_92 (lv_at hl 0 rfl) ?_
                  refine lv_iload_n hx hb dX6_wear_94 rfl (lv_at hl 2 rfl) ?_
                  refine x_zge (u := (z : Nat)) (v := (12 * (M 1 0) : Nat)) (tgt := 158) hx hb (nI_toInt (by omega)) (nI_toInt (by omega)) dX6_wear_95 (by decide) (fun h_9 => ?_) (fun h_9 => (by omega : False).elim)
                  refine lv_iinc (v := nI (t + 1)) (lv' := [(3, .int (nI (t + 1))), (4, .int (nI z)), (2, .int (nI (12 * (M 1 0)))), (0, .ref (ad 0)), (1, .int (nI n))]) hx hb dX6_wear_158 hl (k := 1) rfl (n_inc t 1) (by decide) rfl (fun ls hl => ?_)
                  refine lv_goto (tgt := 53) hx hb dX6_wear_161 (by decide) ?_
                  have hl0 : lv_has ls 6 [(3, .int (nI (t + 1))), (2, .int (nI (12 * (M 1 0)))), (0, .ref (ad 0)), (1, .int (nI n))] := lv_sub hl [0, 2, 3, 4] rfl
                  exact ih53 (t + 1) (by omega) _ _ _ (by rw [show z = (12 * M 1 0) by omega] at hP; exact hP) hS hl0
                | succ d92 ih92 =>
                  intro z h_z H locs ls hP hS hl
                  have b1 := hq9 z (by omega)
                  have b2 := hq9 (z / 12 * 12 + (z + 1) % 12) (by omega)
                  refine lv_iload hx hb dX6_wear_92 (lv_at hl 0 rfl) ?_
                  refine lv_iload_n hx hb dX6_wear_94 rfl (lv_at hl 2 rfl) ?_
                  refine x_zge (u := (z : Nat)) (v := (12 * (M 1 0) : Nat)) (tgt := 158) hx hb (nI_toInt (by omega)) (nI_toInt (by omega)) dX6_wear_95 (by decide) (fun h_10 => (by omega : False).elim) (fun h_10 => ?_)
                  refine lv_iload hx hb dX6_wear_98 (lv_at hl 0 rfl) ?_
                  refine lv_bipush (v := nI 12) hx hb dX6_wear_100 (by decide) ?_
                  refine x_idiv hx hb (by omega) (by omega) (by omega) dX6_wear_102 ?_
                  refine lv_bipush (v := nI 12) hx hb dX6_wear_103 (by decide) ?_
                  refine x_imul hx hb dX6_wear_105 ?_
                  refine lv_iload hx hb dX6_wear_106 (lv_at hl 0 rfl) ?_
                  refine lv_iconst (v := nI 1) hx hb dX6_wear_108 (by decide) ?_
                  refine x_iadd hx hb dX6_wear_109 ?_
                  refine lv_bipush (v := nI 12) hx hb dX6_wear_110 (by decide) ?_
                  refine x_irem hx hb (by omega) (by omega) (by omega) dX6_wear_112 ?_
                  refine x_iadd hx hb dX6_wear_113 ?_
                  refine lv_istore (lv' := [(5, .int (nI (((z / 12) * 12) + ((z + 1) % 12)))), (4, .int (nI z)), (3, .int (nI t)), (2, .int (nI (12 * (M 1 0)))), (0, .ref (ad 0)), (1, .int (nI n))]) hx hb dX6_wear_114 hl (by decide) rfl (fun ls hl => ?_)
                  refine lv_aload_n hx hb dX6_wear_116 rfl (lv_at hl 4 rfl) ?_
                  refine x_getr CF hK hP 0 (by decide) dR_0 rfl uX6 0 (by decide) (j := 1) rfl wd3_96 rfl dX6_wear_117 ?_
                  refine lv_iconst (v := nI 1) hx hb dX6_wear_120 (by decide) ?_
                  refine lv_iload hx hb dX6_wear_121 (lv_at hl 1 rfl) ?_
                  refine x_iadd hx hb dX6_wear_123 ?_
                  refine lv_dup2_11 hx hb dX6_wear_124 rfl rfl ?_
                  refine x_iald CF hK hP 1 (by decide) dR_1 (1 + z) (by omega) (by decide) dX6_wear_125 ?_
                  refine x_ri (show (nI ((rowO (rowN (wmT M (12 * M 1 0) t) 4 (12 * M 1 0) (fun i => (wmT M (12 * M 1 0) t) 1 (1 + i))) 1 1 z (w1F (fun i => (wmT M (12 * M 1 0) t) 1 (1 + i)))) 1 (1 + z))) = nI ((wmT M (12 * M 1 0) t) 1 (1 + z)) from congrArg nI (by rw [rowO_no (by omega), rowN_out (by decide)])) ?_
                  refine lv_aload_n hx hb dX6_wear_126 rfl (lv_at hl 4 rfl) ?_
                  refine x_getr CF hK hP 0 (by decide) dR_0 rfl uX6 5 (by decide) (j := 4) rfl wd3_101 rfl dX6_wear_127 ?_
                  refine lv_iload hx hb dX6_wear_130 (lv_at hl 1 rfl) ?_
                  refine x_iald CF hK hP 4 (by decide) dR_4 z (by omega) (by decide) dX6_wear_132 ?_
                  refine x_ri (show (nI ((rowO (rowN (wmT M (12 * M 1 0) t) 4 (12 * M 1 0) (fun i => (wmT M (12 * M 1 0) t) 1 (1 + i))) 1 1 z (w1F (fun i => (wmT M (12 * M 1 0) t) 1 (1 + i)))) 4 z)) = nI ((wmT M (12 * M 1 0) t) 1 (1 + z)) from congrArg nI (by rw [rowO_out (by decide), rowN_in (by omega)])) ?_
                  refine lv_aload_n hx hb dX6_wear_133 rfl (lv_at hl 4 rfl) ?_
                  refine x_getr CF hK hP 0 (by decide) dR_0 rfl uX6 5 (by decide) (j := 4) rfl wd3_101 rfl dX6_wear_134 ?_
                  refine lv_iload hx hb dX6_wear_137 (lv_at hl 0 rfl) ?_
                  refine x_iald CF hK hP 4 (by decide) dR_4 (((z / 12) * 12) + ((z + 1) % 12)) (by omega) (by decide) dX6_wear_139 ?_
                  refine x_ri (show (nI ((rowO (rowN (wmT M (12 * M 1 0) t) 4 (12 * M 1 0) (fun i => (wmT M (12 * M 1 0) t) 1 (1 + i))) 1 1 z (w1F (fun i => (wmT M (12 * M 1 0) t) 1 (1 + i)))) 4 (((z / 12) * 12) + ((z + 1) % 12)))) = nI ((wmT M (12 * M 1 0) t) 1 (1 + (z / 12 * 12 + (z + 1) % 12))) from congrArg nI (by rw [rowO_out (by decide), rowN_in (by omega)])) ?_
                  refine lv_isub hx hb dX6_wear_140 ?_
                  refine lv_iconst (v := nI 2) hx hb dX6_wear_141 (by decide) ?_
                  refine x_zle (u := ((wmT M (12 * M 1 0) t) 1 (1 + z) : Int) - (((wmT M (12 * M 1 0) t) 1 (1 + (z / 12 * 12 + (z + 1) % 12)) : Nat) : Int)) (v := (2 : Int)) (tgt := 149) hx hb (z_sub (by omega) (by omega)) (rfl) dX6_wear_142 (by decide) (fun h_11 => ?_) (fun h_11 => ?_)
                  · refine lv_iconst (v := nI 0) hx hb dX6_wear_149 (by decide) ?_
                    refine x_isub hx hb (by omega) dX6_wear_150 ?_
                    refine x_iast CF hK hI hA hP hS 1 (by decide) dR_1 (1 + z) (by omega) (by decide) (((wmT M (12 * M 1 0) t) 1 (1 + z)) - 0) dX6_wear_151 (fun H locs hP hS => ?_)
                    refine lv_iinc (v := nI (z + 1)) (lv' := [(4, .int (nI (z + 1))), (5, .int (nI (((z / 12) * 12) + ((z + 1) % 12)))), (3, .int (nI t)), (2, .int (nI (12 * (M 1 0)))), (0, .ref (ad 0)), (1, .int (nI n))]) hx hb dX6_wear_152 hl (k := 1) rfl (n_inc z 1) (by decide) rfl (fun ls hl => ?_)
                    refine lv_goto (tgt := 92) hx hb dX6_wear_155 (by decide) ?_
                    have hl0 : lv_has ls 6 [(4, .int (nI (z + 1))), (3, .int (nI t)), (2, .int (nI (12 * (M 1 0)))), (0, .ref (ad 0)), (1, .int (nI n))] := lv_sub hl [0, 2, 3, 4, 5] rfl
                    exact ih92 (z + 1) (by omega) _ _ _ (by rw [rowO_s (n := z) rfl (w1F_f (r := (fun i => (wmT M (12 * M 1 0) t) 1 (1 + i))) (by show ¬ (wmT M (12 * M 1 0) t) 1 (1 + (z / 12 * 12 + (z + 1) % 12)) + 2 < (wmT M (12 * M 1 0) t) 1 (1 + z); omega))] at hP; exact hP) hS hl0
                  · refine lv_iconst (v := nI 1) hx hb dX6_wear_145 (by decide) ?_
                    refine lv_goto (tgt := 150) hx hb dX6_wear_146 (by decide) ?_
                    refine x_isub hx hb (by omega) dX6_wear_150 ?_
                    refine x_iast CF hK hI hA hP hS 1 (by decide) dR_1 (1 + z) (by omega) (by decide) (((wmT M (12 * M 1 0) t) 1 (1 + z)) - 1) dX6_wear_151 (fun H locs hP hS => ?_)
                    refine lv_iinc (v := nI (z + 1)) (lv' := [(4, .int (nI (z + 1))), (5, .int (nI (((z / 12) * 12) + ((z + 1) % 12)))), (3, .int (nI t)), (2, .int (nI (12 * (M 1 0)))), (0, .ref (ad 0)), (1, .int (nI n))]) hx hb dX6_wear_152 hl (k := 1) rfl (n_inc z 1) (by decide) rfl (fun ls hl => ?_)
                    refine lv_goto (tgt := 92) hx hb dX6_wear_155 (by decide) ?_
                    have hl0 : lv_has ls 6 [(4, .int (nI (z + 1))), (3, .int (nI t)), (2, .int (nI (12 * (M 1 0)))), (0, .ref (ad 0)), (1, .int (nI n))] := lv_sub hl [0, 2, 3, 4, 5] rfl
                    exact ih92 (z + 1) (by omega) _ _ _ (by rw [rowO_s (n := z) rfl (w1F_t (r := (fun i => (wmT M (12 * M 1 0) t) 1 (1 + i))) (by show (wmT M (12 * M 1 0) t) 1 (1 + (z / 12 * 12 + (z + 1) % 12)) + 2 < (wmT M (12 * M 1 0) t) 1 (1 + z); omega))] at hP; exact hP) hS hl0
              have hl0 : lv_has ls 6 [(4, .int (nI 0)), (3, .int (nI t)), (2, .int (nI (12 * (M 1 0)))), (0, .ref (ad 0)), (1, .int (nI n))] := lv_sub hl [0, 1, 2, 3, 4] rfl
              exact L92 (12 * M 1 0) 0 (by omega) _ _ _ (by rw [show y = (12 * M 1 0) by omega] at hP; rw [rowO_0]; exact hP) hS hl0
            | succ d61 ih61 =>
              intro y h_y H locs ls hP hS hl
              refine lv_iload hx hb dX6_wear_61 (lv_at hl 0 rfl) ?_
              refine lv_iload_n hx hb dX6_wear_63 rfl (lv_at hl 2 rfl) ?_
              refine x_zge (u := (y : Nat)) (v := (12 * (M 1 0) : Nat)) (tgt := 89) hx hb (nI_toInt (by omega)) (nI_toInt (by omega)) dX6_wear_64 (by decide) (fun h_12 => (by omega : False).elim) (fun h_12 => ?_)
              refine lv_aload_n hx hb dX6_wear_67 rfl (lv_at hl 3 rfl) ?_
              refine x_getr CF hK hP 0 (by decide) dR_0 rfl uX6 5 (by decide) (j := 4) rfl wd3_101 rfl dX6_wear_68 ?_
              refine lv_iload hx hb dX6_wear_71 (lv_at hl 0 rfl) ?_
              refine lv_aload_n hx hb dX6_wear_73 rfl (lv_at hl 3 rfl) ?_
              refine x_getr CF hK hP 0 (by decide) dR_0 rfl uX6 0 (by decide) (j := 1) rfl wd3_96 rfl dX6_wear_74 ?_
              refine lv_iconst (v := nI 1) hx hb dX6_wear_77 (by decide) ?_
              refine lv_iload hx hb dX6_wear_78 (lv_at hl 0 rfl) ?_
              refine x_iadd hx hb dX6_wear_80 ?_
              refine x_iald CF hK hP 1 (by decide) dR_1 (1 + y) (by omega) (by decide) dX6_wear_81 ?_
              refine x_ri (show (nI ((rowN (wmT M (12 * M 1 0) t) 4 y (fun i => (wmT M (12 * M 1 0) t) 1 (1 + i))) 1 (1 + y))) = nI ((wmT M (12 * M 1 0) t) 1 (1 + y)) from congrArg nI (by rw [rowN_out (by decide)])) ?_
              refine x_iast CF hK hI hA hP hS 4 (by decide) dR_4 y (by omega) (by decide) ((wmT M (12 * M 1 0) t) 1 (1 + y)) dX6_wear_82 (fun H locs hP hS => ?_)
              refine lv_iinc (v := nI (y + 1)) (lv' := [(4, .int (nI (y + 1))), (3, .int (nI t)), (2, .int (nI (12 * (M 1 0)))), (0, .ref (ad 0)), (1, .int (nI n))]) hx hb dX6_wear_83 hl (k := 0) rfl (n_inc y 1) (by decide) rfl (fun ls hl => ?_)
              refine lv_goto (tgt := 61) hx hb dX6_wear_86 (by decide) ?_
              have hl0 : lv_has ls 6 [(4, .int (nI (y + 1))), (3, .int (nI t)), (2, .int (nI (12 * (M 1 0)))), (0, .ref (ad 0)), (1, .int (nI n))] := lv_sub hl [0, 1, 2, 3, 4] rfl
              exact ih61 (y + 1) (by omega) _ _ _ (by rw [rowN_s (f := (fun i => (wmT M (12 * M 1 0) t) 1 (1 + i))) rfl] at hP; exact hP) hS hl0
          have hl0 : lv_has ls 6 [(4, .int (nI 0)), (3, .int (nI t)), (2, .int (nI (12 * (M 1 0)))), (0, .ref (ad 0)), (1, .int (nI n))] := lv_sub hl [0, 1, 2, 3, 4] rfl
          exact L61 (12 * M 1 0) 0 (by omega) _ _ _ (by rw [rowN_0]; exact hP) hS hl0
      have hl0 : lv_has ls 6 [(3, .int (nI 0)), (2, .int (nI (12 * (M 1 0)))), (0, .ref (ad 0)), (1, .int (nI n))] := lv_sub hl [0, 1, 2, 3] rfl
      exact L53 n 0 (by omega) _ _ _ (by rw [show q = (12 * M 1 0) by omega] at hP; exact hP) hS hl0
    | succ d26 ih26 =>
      intro q h_q H locs ls hP hS hl
      refine lv_iload_n hx hb dX6_wear_26 rfl (lv_at hl 0 rfl) ?_
      refine lv_iload_n hx hb dX6_wear_27 rfl (lv_at hl 1 rfl) ?_
      refine x_zge (u := (q : Nat)) (v := (12 * (M 1 0) : Nat)) (tgt := 51) hx hb (nI_toInt (by omega)) (nI_toInt (by omega)) dX6_wear_28 (by decide) (fun h_13 => (by omega : False).elim) (fun h_13 => ?_)
      refine lv_aload_n hx hb dX6_wear_31 rfl (lv_at hl 2 rfl) ?_
      refine x_getr CF hK hP 0 (by decide) dR_0 rfl uX6 6 (by decide) (j := 5) rfl wd3_102 rfl dX6_wear_32 ?_
      refine lv_iload_n hx hb dX6_wear_35 rfl (lv_at hl 0 rfl) ?_
      refine lv_aload_n hx hb dX6_wear_36 rfl (lv_at hl 2 rfl) ?_
      refine x_getr CF hK hP 0 (by decide) dR_0 rfl uX6 0 (by decide) (j := 1) rfl wd3_96 rfl dX6_wear_37 ?_
      refine lv_iconst (v := nI 1) hx hb dX6_wear_40 (by decide) ?_
      refine lv_iload_n hx hb dX6_wear_41 rfl (lv_at hl 0 rfl) ?_
      refine x_iadd hx hb dX6_wear_42 ?_
      refine x_iald CF hK hP 1 (by decide) dR_1 (1 + q) (by omega) (by decide) dX6_wear_43 ?_
      refine x_ri (show (nI ((rowN M 5 q (fun i => M 1 (1 + i))) 1 (1 + q))) = nI (M 1 (1 + q)) from congrArg nI (by rw [rowN_out (by decide)])) ?_
      refine x_iast CF hK hI hA hP hS 5 (by decide) dR_5 q (by omega) (by decide) (M 1 (1 + q)) dX6_wear_44 (fun H locs hP hS => ?_)
      refine lv_iinc (v := nI (q + 1)) (lv' := [(3, .int (nI (q + 1))), (2, .int (nI (12 * (M 1 0)))), (0, .ref (ad 0)), (1, .int (nI n))]) hx hb dX6_wear_45 hl (k := 0) rfl (n_inc q 1) (by decide) rfl (fun ls hl => ?_)
      refine lv_goto (tgt := 26) hx hb dX6_wear_48 (by decide) ?_
      have hl0 : lv_has ls 6 [(3, .int (nI (q + 1))), (2, .int (nI (12 * (M 1 0)))), (0, .ref (ad 0)), (1, .int (nI n))] := lv_sub hl [0, 1, 2, 3] rfl
      exact ih26 (q + 1) (by omega) _ _ _ (by rw [rowN_s (f := fun i => M 1 (1 + i)) rfl] at hP; exact hP) hS hl0
  have hl0 : lv_has ls 6 [(3, .int (nI 0)), (2, .int (nI (12 * (M 1 0)))), (0, .ref (ad 0)), (1, .int (nI n))] := lv_sub hl [0, 1, 2, 3] rfl
  exact L26 (12 * M 1 0) 0 (by omega) _ _ _ (by rw [rowN_0]; exact hP) hS hl0
set_option maxHeartbeats 4000000 in
set_option maxRecDepth 100000 in
theorem r_wear_bad {l : Launch} {g : gE} {ad : Nat → Nat} (hI : g_inj ad 14) (M : gMem) (J : gMeL) (n : Int32) (h : ¬ inR1 n 10) : CI l g ad dsR 14 yX6_wear cX6_wear 6 (some .int) 1 [.ref (ad 0), .int n] M J (nI 4294967295) M J := by
  refine CI.of (plainFor_of_name (by decide)) (Nat.le_of_ble_eq_true rfl) (fun p9 e9 s9 m9 args9 below9 meth9 c9 CF hK hr9 hlk9 hP hS ls hl => ?_)
  have hx := CF.1
  have hb := CF.2.1
  have hA : ∀ q, g_A ad 14 q → g_A ad 14 q := fun _ h => h
  have hl : lv_has ls 6 [(0, .ref (ad 0)), (1, .int n)] := hl
  refine lv_iload_n hx hb dX6_wear_0 rfl (lv_at hl 1 rfl) ?_
  rcases n_int1 (x := n) (n := 10) (by omega) with ⟨n1, g_n1, h_n1, rfl⟩ | ho_n
  · refine lv_i2l hx hb dX6_wear_1 (nI_l (by omega)) ?_
    refine lv_lconst (v := (1 : Int64)) hx hb dX6_wear_2 rfl ?_
    refine lv_ldc2 hx hb CF.2.2.2.1 (CF.2.2.2.2 _ (List.mem_cons_of_mem _ wd3_178)) dX6_wear_3 ?_
    refine x_callSP CF hK hP hS hl (As := [.long (lN n1), .long (1 : Int64), .long (9 : Int64)]) (rest := []) (r_in_t _ _ _ (il_in (lo := 1) (hi := 9) (by omega) (by omega) (by omega))) kw_X6_in wd3_147 rfl ⟨Nat.le_of_ble_eq_true rfl, Nat.le_of_ble_eq_true rfl⟩ ⟨Nat.le_refl _, Nat.le_refl _⟩ (Nat.le_of_ble_eq_true rfl) dX6_wear_6 (fun H locs hP hS => ?_)
    refine x_yne (u := (1 : Int)) (tgt := 14) hx hb (rfl) dX6_wear_9 (by decide) (fun h_1 => ?_) (fun h_1 => (by omega : False).elim)
    exact absurd (inR1_n g_n1 h_n1 (by decide)) h
  · refine lv_i2l hx hb dX6_wear_1 rfl ?_
    refine lv_lconst (v := (1 : Int64)) hx hb dX6_wear_2 rfl ?_
    refine lv_ldc2 hx hb CF.2.2.2.1 (CF.2.2.2.2 _ (List.mem_cons_of_mem _ wd3_178)) dX6_wear_3 ?_
    refine x_callSP CF hK hP hS hl (As := [.long n.toInt64, .long (1 : Int64), .long (9 : Int64)]) (rest := []) (r_in_f _ _ _ (il_out (lo := 1) (hi := 9) (by omega) (by omega) (by omega))) kw_X6_in wd3_147 rfl ⟨Nat.le_of_ble_eq_true rfl, Nat.le_of_ble_eq_true rfl⟩ ⟨Nat.le_refl _, Nat.le_refl _⟩ (Nat.le_of_ble_eq_true rfl) dX6_wear_6 (fun H locs hP hS => ?_)
    refine x_yne (u := (0 : Int)) (tgt := 14) hx hb (rfl) dX6_wear_9 (by decide) (fun h_2 => (by omega : False).elim) (fun h_2 => ?_)
    refine lv_iconst (v := nI 4294967295) hx hb dX6_wear_12 (by decide) ?_
    exact x_reti hx hb hr9 hlk9 hS hP (by first | rfl | (show nI 4294967295 = nI 4294967295; first | rfl | omega)) dX6_wear_13
