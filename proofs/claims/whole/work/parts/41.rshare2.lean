theorem r_sharesB {l : Launch} {g : gE} {ad : Nat → Nat} (hI : g_inj ad 14) (M : gMem) (J : gMeL) (hw : wfR M) (most : Nat) (hms : most ≤ 5) (h8 : lt8 M) : CI l g ad dsR 14 yX6_sharesBy cX6_sharesBy 5 (some .boolean) 2 [.ref (ad 0), .int (nI most)] M J (nI (b2n (shB M most).1)) (shB M most).2 J := by
  obtain ⟨n0, hn⟩ := itR_shB h8 (show most ≤ 6 by omega)
  exact r_sharesBy hI M J hw most hms _ n0 hn (shI_ini h8)
set_option maxHeartbeats 4000000 in
set_option maxRecDepth 100000 in
theorem r_fewest {l : Launch} {g : gE} {ad : Nat → Nat} (hI : g_inj ad 14) (M : gMem) (J : gMeL) (hw : wfR M) (h80 : lt8 M) : CI l g ad dsR 14 yX6_fewest cX6_fewest 2 (some .int) 3 [.ref (ad 0)] M J (nI (feR M).1) ((feR M).2) J := by
  refine CI.of (plainFor_of_name (by decide)) (Nat.le_of_ble_eq_true rfl) (fun p9 e9 s9 m9 args9 below9 meth9 c9 CF hK hr9 hlk9 hP hS ls hl => ?_)
  have hx := CF.1
  have hb := CF.2.1
  have hA : ∀ q, g_A ad 14 q → g_A ad 14 q := fun _ h => h
  have hl : lv_has ls 2 [(0, .ref (ad 0))] := hl
  have hnc := hw.nc
  have hnf := hw.nf
  have hwy := hw.way
  refine lv_iconst (v := nI 0) hx hb dX6_fewest_0 (by decide) ?_
  refine lv_istore_n (lv' := [(1, .int (nI 0)), (0, .ref (ad 0))]) hx hb dX6_fewest_1 rfl hl (by decide) rfl (fun ls hl => ?_)
  have L2 : ∀ (d2 : Nat) (most : Nat) (m : gMem), (most + d2 = M 1 73) → (m 1 = M 1) → (lt8 m) → (fwR (M 1 73) d2 most m = feR M) → (∀ (H : Heap) (locs : List Loc) (ls : Array Slot), g_P g ad dsR 14 m J H → va_S (g_A ad 14) s9.heap H locs → lv_has ls 2 [(1, .int (nI most)), (0, .ref (ad 0))] → W p9 l e9 (g_rm 3) s9 m9 args9 below9 meth9 c9 H locs 0 0 (MQ below9 (va_Qi (fun r' (_ : Unit) => r' = (nI (feR M).1)) (fun _ t => g_P g ad dsR 14 ((feR M).2) J t.heap) (g_A ad 14)) args9 s9 0 0 (g_A ad 14)) (F0 m9 2 ls [])) := by
    intro d2
    induction d2 with
    | zero =>
      intro most m hm h1 h8 hR H locs ls hP hS hl
      refine lv_iload_n hx hb dX6_fewest_2 rfl (lv_at hl 0 rfl) ?_
      refine lv_aload_n hx hb dX6_fewest_3 rfl (lv_at hl 1 rfl) ?_
      refine x_getr CF hK hP 0 (by decide) dR_0 rfl uX6 0 (by decide) (j := 1) rfl wd3_96 rfl dX6_fewest_4 ?_
      refine lv_bipush (v := nI 73) hx hb dX6_fewest_7 (by decide) ?_
      refine x_iald CF hK hP 1 (by decide) dR_1 73 (by omega) (by decide) dX6_fewest_9 ?_
      refine x_ri (show (nI (m 1 73)) = nI (M 1 73) from congrArg nI (by rw [h1])) ?_
      refine x_zge (u := (most : Nat)) (v := (M 1 73 : Nat)) (tgt := 29) hx hb (nI_toInt (by omega)) (nI_toInt (by omega)) dX6_fewest_10 (by decide) (fun h_1 => ?_) (fun h_1 => (by omega : False).elim)
      refine lv_aload_n hx hb dX6_fewest_29 rfl (lv_at hl 1 rfl) ?_
      refine x_getr CF hK hP 0 (by decide) dR_0 rfl uX6 0 (by decide) (j := 1) rfl wd3_96 rfl dX6_fewest_30 ?_
      refine lv_bipush (v := nI 73) hx hb dX6_fewest_33 (by decide) ?_
      refine x_iald CF hK hP 1 (by decide) dR_1 73 (by omega) (by decide) dX6_fewest_35 ?_
      refine x_ri (show (nI (m 1 73)) = nI (M 1 73) from congrArg nI (by rw [h1])) ?_
      exact x_reti hx hb hr9 hlk9 hS (by rw [← hR]; exact hP) (by rw [← hR]; rfl) dX6_fewest_36
    | succ d2 ih2 =>
      intro most m hm h1 h8 hR H locs ls hP hS hl
      rw [fwR_s] at hR
      refine lv_iload_n hx hb dX6_fewest_2 rfl (lv_at hl 0 rfl) ?_
      refine lv_aload_n hx hb dX6_fewest_3 rfl (lv_at hl 1 rfl) ?_
      refine x_getr CF hK hP 0 (by decide) dR_0 rfl uX6 0 (by decide) (j := 1) rfl wd3_96 rfl dX6_fewest_4 ?_
      refine lv_bipush (v := nI 73) hx hb dX6_fewest_7 (by decide) ?_
      refine x_iald CF hK hP 1 (by decide) dR_1 73 (by omega) (by decide) dX6_fewest_9 ?_
      refine x_ri (show (nI (m 1 73)) = nI (M 1 73) from congrArg nI (by rw [h1])) ?_
      refine x_zge (u := (most : Nat)) (v := (M 1 73 : Nat)) (tgt := 29) hx hb (nI_toInt (by omega)) (nI_toInt (by omega)) dX6_fewest_10 (by decide) (fun h_2 => (by omega : False).elim) (fun h_2 => ?_)
      refine lv_aload_n hx hb dX6_fewest_13 rfl (lv_at hl 1 rfl) ?_
      refine lv_iload_n hx hb dX6_fewest_14 rfl (lv_at hl 0 rfl) ?_
      refine x_callVI CF hK hP hS hA hl (As := [.int (nI most)]) (rest := []) (r_sharesB hI m J (hw.of h1) most (by omega) h8) kw_X6_sharesBy wd4_32 (by decide) dR_0 rfl rfl ⟨Nat.le_of_ble_eq_true rfl, Nat.le_of_ble_eq_true rfl⟩ ⟨Nat.le_refl _, Nat.le_refl _⟩ (Nat.le_of_ble_eq_true rfl) dX6_fewest_15 (fun H locs hP hS => ?_)
      refine x_yeq (u := (b2n (shB m most).1 : Nat)) (tgt := 23) hx hb (nI_toInt (Nat.lt_of_le_of_lt (b2n_le _) (by decide))) dX6_fewest_18 (by decide) (fun h_3 => ?_) (fun h_3 => ?_)
      · refine lv_iinc (v := nI (most + 1)) (lv' := [(1, .int (nI (most + 1))), (0, .ref (ad 0))]) hx hb dX6_fewest_23 hl (k := 0) rfl (n_inc most 1) (by decide) rfl (fun ls hl => ?_)
        refine lv_goto (tgt := 2) hx hb dX6_fewest_26 (by decide) ?_
        have hl0 : lv_has ls 2 [(1, .int (nI (most + 1))), (0, .ref (ad 0))] := lv_sub hl [0, 1] rfl
        exact ih2 (most + 1) ((shB m most).2) (by omega) (by rw [shB_1]; exact h1) (shB_lt8 h8 most) (by rw [if_neg (by rw [b2n_0 h_3]; decide)] at hR; exact hR) _ _ _ (hP) hS hl0
      · refine lv_iload_n hx hb dX6_fewest_21 rfl (lv_at hl 0 rfl) ?_
        exact x_reti hx hb hr9 hlk9 hS (by rw [if_pos (b2n_1 h_3)] at hR; rw [← hR]; exact hP) (by rw [if_pos (b2n_1 h_3)] at hR; rw [← hR]) dX6_fewest_22
  have hl0 : lv_has ls 2 [(1, .int (nI 0)), (0, .ref (ad 0))] := lv_sub hl [0, 1] rfl
  exact L2 (M 1 73) 0 M (by omega) (rfl) (h80) (rfl) _ _ _ (hP) hS hl0
set_option maxHeartbeats 4000000 in
set_option maxRecDepth 100000 in
theorem r_share_0 {l : Launch} {g : gE} {ad : Nat → Nat} (hI : g_inj ad 14) (M : gMem) (J : gMeL) (hw : wfR M) (h80 : lt8 M) (k : Nat) (hk : k < M 1 73) (r : gMem) (hR0 : skR 5 1 M = some r) : CI l g ad dsR 14 yX6_share cX6_share 4 (some .int) 3 [.ref (ad 0), .int (nI k), .int (nI 0)] M J (nI (r 6 k)) r J := by
  refine CI.of (plainFor_of_name (by decide)) (Nat.le_of_ble_eq_true rfl) (fun p9 e9 s9 m9 args9 below9 meth9 c9 CF hK hr9 hlk9 hP hS ls hl => ?_)
  have hx := CF.1
  have hb := CF.2.1
  have hA : ∀ q, g_A ad 14 q → g_A ad 14 q := fun _ h => h
  have hl : lv_has ls 4 [(0, .ref (ad 0)), (1, .int (nI k)), (2, .int (nI 0))] := hl
  have hnc := hw.nc
  have hnf := hw.nf
  have hwy := hw.way
  refine lv_aload_n hx hb dX6_share_0 rfl (lv_at hl 0 rfl) ?_
  refine lv_iload_n hx hb dX6_share_1 rfl (lv_at hl 1 rfl) ?_
  refine x_callVI CF hK hP hS hA hl (As := [.int (nI k)]) (rest := []) (r_isFigure_t hI M J k (by omega) (by omega)) kw_X6_isFigure wd3_196 (by decide) dR_0 rfl rfl ⟨Nat.le_of_ble_eq_true rfl, Nat.le_of_ble_eq_true rfl⟩ ⟨Nat.le_refl _, Nat.le_refl _⟩ (Nat.le_of_ble_eq_true rfl) dX6_share_2 (fun H locs hP hS => ?_)
  refine x_yeq (u := (1 : Int)) (tgt := 18) hx hb (rfl) dX6_share_5 (by decide) (fun h_1 => (by omega : False).elim) (fun h_1 => ?_)
  refine lv_iload_n hx hb dX6_share_8 rfl (lv_at hl 2 rfl) ?_
  refine lv_i2l hx hb dX6_share_9 (nI_l (by omega)) ?_
  refine lv_lconst (v := (0 : Int64)) hx hb dX6_share_10 rfl ?_
  refine lv_lconst (v := (1 : Int64)) hx hb dX6_share_11 rfl ?_
  refine x_callSP CF hK hP hS hl (As := [.long (lN 0), .long (0 : Int64), .long (1 : Int64)]) (rest := []) (r_in_t _ _ _ (il_in (lo := 0) (hi := 1) (by omega) (by omega) (by omega))) kw_X6_in wd3_147 rfl ⟨Nat.le_of_ble_eq_true rfl, Nat.le_of_ble_eq_true rfl⟩ ⟨Nat.le_refl _, Nat.le_refl _⟩ (Nat.le_of_ble_eq_true rfl) dX6_share_12 (fun H locs hP hS => ?_)
  refine x_yne (u := (1 : Int)) (tgt := 20) hx hb (rfl) dX6_share_15 (by decide) (fun h_2 => ?_) (fun h_2 => (by omega : False).elim)
  refine lv_iconst (v := nI 1) hx hb dX6_share_20 (by decide) ?_
  refine lv_istore_n (lv' := [(3, .int (nI 1)), (0, .ref (ad 0)), (1, .int (nI k)), (2, .int (nI 0))]) hx hb dX6_share_21 rfl hl (by decide) rfl (fun ls hl => ?_)
  have L22 : ∀ (d22 : Nat) (most : Nat) (m : gMem), (most + d22 = 6) → (m 1 = M 1) → (lt8 m) → (skR d22 most m = some r) → (∀ (H : Heap) (locs : List Loc) (ls : Array Slot), g_P g ad dsR 14 m J H → va_S (g_A ad 14) s9.heap H locs → lv_has ls 4 [(3, .int (nI most)), (0, .ref (ad 0)), (1, .int (nI k)), (2, .int (nI 0))] → W p9 l e9 (g_rm 3) s9 m9 args9 below9 meth9 c9 H locs 0 0 (MQ below9 (va_Qi (fun r' (_ : Unit) => r' = (nI (r 6 k))) (fun _ t => g_P g ad dsR 14 r J t.heap) (g_A ad 14)) args9 s9 0 0 (g_A ad 14)) (F0 m9 22 ls [])) := by
    intro d22
    induction d22 with
    | zero =>
      intro most m hm h1 h8 hR H locs ls hP hS hl
      exact absurd (show 1 = 0 from absurd hR (by simp [skR])) (by omega)
    | succ d22 ih22 =>
      intro most m hm h1 h8 hR H locs ls hP hS hl
      rw [skR_s] at hR
      refine lv_aload_n hx hb dX6_share_22 rfl (lv_at hl 1 rfl) ?_
      refine lv_iload_n hx hb dX6_share_23 rfl (lv_at hl 0 rfl) ?_
      refine x_callVI CF hK hP hS hA hl (As := [.int (nI most)]) (rest := []) (r_sharesB hI m J (hw.of h1) most (by omega) h8) kw_X6_sharesBy wd4_32 (by decide) dR_0 rfl rfl ⟨Nat.le_of_ble_eq_true rfl, Nat.le_of_ble_eq_true rfl⟩ ⟨Nat.le_refl _, Nat.le_refl _⟩ (Nat.le_of_ble_eq_true rfl) dX6_share_24 (fun H locs hP hS => ?_)
      refine x_yne (u := (b2n (shB m most).1 : Nat)) (tgt := 36) hx hb (nI_toInt (Nat.lt_of_le_of_lt (b2n_le _) (by decide))) dX6_share_27 (by decide) (fun h_3 => ?_) (fun h_3 => ?_)
      · refine lv_iload_n hx hb dX6_share_36 rfl (lv_at hl 3 rfl) ?_
        refine x_yne (u := (0 : Int)) (tgt := 49) hx hb (rfl) dX6_share_37 (by decide) (fun h_4 => (by omega : False).elim) (fun h_4 => ?_)
        refine lv_aload_n hx hb dX6_share_40 rfl (lv_at hl 1 rfl) ?_
        refine x_getr CF hK hP 0 (by decide) dR_0 rfl uX6 7 (by decide) (j := 6) rfl wd3_103 rfl dX6_share_41 ?_
        refine lv_iload_n hx hb dX6_share_44 rfl (lv_at hl 2 rfl) ?_
        refine x_iald CF hK hP 6 (by decide) dR_6 k (by omega) (by decide) dX6_share_45 ?_
        refine lv_goto (tgt := 55) hx hb dX6_share_46 (by decide) ?_
        exact x_reti hx hb hr9 hlk9 hS (by rw [if_pos (b2n_1 h_3)] at hR; rw [← Option.some.inj hR]; exact hP) (by rw [if_pos (b2n_1 h_3)] at hR; rw [Option.some.inj hR]) dX6_share_55
      · refine lv_iinc (v := nI (most + 1)) (lv' := [(3, .int (nI (most + 1))), (0, .ref (ad 0)), (1, .int (nI k)), (2, .int (nI 0))]) hx hb dX6_share_30 hl (k := 0) rfl (n_inc most 1) (by decide) rfl (fun ls hl => ?_)
        refine lv_goto (tgt := 22) hx hb dX6_share_33 (by decide) ?_
        have hl0 : lv_has ls 4 [(3, .int (nI (most + 1))), (0, .ref (ad 0)), (1, .int (nI k)), (2, .int (nI 0))] := lv_sub hl [0, 1, 2, 3] rfl
        exact ih22 (most + 1) ((shB m most).2) (by omega) (by rw [shB_1]; exact h1) (shB_lt8 h8 most) (by rw [if_neg (by rw [b2n_0 h_3]; decide)] at hR; exact hR) _ _ _ (hP) hS hl0
  have hl0 : lv_has ls 4 [(3, .int (nI 1)), (0, .ref (ad 0)), (1, .int (nI k)), (2, .int (nI 0))] := lv_sub hl [0, 1, 2, 3] rfl
  exact L22 5 1 M (by omega) (rfl) (h80) (hR0) _ _ _ (hP) hS hl0
set_option maxHeartbeats 4000000 in
set_option maxRecDepth 100000 in
theorem r_share_1 {l : Launch} {g : gE} {ad : Nat → Nat} (hI : g_inj ad 14) (M : gMem) (J : gMeL) (hw : wfR M) (h80 : lt8 M) (k : Nat) (hk : k < M 1 73) (r : gMem) (hR0 : skR 5 1 M = some r) : CI l g ad dsR 14 yX6_share cX6_share 4 (some .int) 3 [.ref (ad 0), .int (nI k), .int (nI 1)] M J (nI (r 7 k)) r J := by
  refine CI.of (plainFor_of_name (by decide)) (Nat.le_of_ble_eq_true rfl) (fun p9 e9 s9 m9 args9 below9 meth9 c9 CF hK hr9 hlk9 hP hS ls hl => ?_)
  have hx := CF.1
  have hb := CF.2.1
  have hA : ∀ q, g_A ad 14 q → g_A ad 14 q := fun _ h => h
  have hl : lv_has ls 4 [(0, .ref (ad 0)), (1, .int (nI k)), (2, .int (nI 1))] := hl
  have hnc := hw.nc
  have hnf := hw.nf
  have hwy := hw.way
  refine lv_aload_n hx hb dX6_share_0 rfl (lv_at hl 0 rfl) ?_
  refine lv_iload_n hx hb dX6_share_1 rfl (lv_at hl 1 rfl) ?_
  refine x_callVI CF hK hP hS hA hl (As := [.int (nI k)]) (rest := []) (r_isFigure_t hI M J k (by omega) (by omega)) kw_X6_isFigure wd3_196 (by decide) dR_0 rfl rfl ⟨Nat.le_of_ble_eq_true rfl, Nat.le_of_ble_eq_true rfl⟩ ⟨Nat.le_refl _, Nat.le_refl _⟩ (Nat.le_of_ble_eq_true rfl) dX6_share_2 (fun H locs hP hS => ?_)
  refine x_yeq (u := (1 : Int)) (tgt := 18) hx hb (rfl) dX6_share_5 (by decide) (fun h_1 => (by omega : False).elim) (fun h_1 => ?_)
  refine lv_iload_n hx hb dX6_share_8 rfl (lv_at hl 2 rfl) ?_
  refine lv_i2l hx hb dX6_share_9 (nI_l (by omega)) ?_
  refine lv_lconst (v := (0 : Int64)) hx hb dX6_share_10 rfl ?_
  refine lv_lconst (v := (1 : Int64)) hx hb dX6_share_11 rfl ?_
  refine x_callSP CF hK hP hS hl (As := [.long (lN 1), .long (0 : Int64), .long (1 : Int64)]) (rest := []) (r_in_t _ _ _ (il_in (lo := 0) (hi := 1) (by omega) (by omega) (by omega))) kw_X6_in wd3_147 rfl ⟨Nat.le_of_ble_eq_true rfl, Nat.le_of_ble_eq_true rfl⟩ ⟨Nat.le_refl _, Nat.le_refl _⟩ (Nat.le_of_ble_eq_true rfl) dX6_share_12 (fun H locs hP hS => ?_)
  refine x_yne (u := (1 : Int)) (tgt := 20) hx hb (rfl) dX6_share_15 (by decide) (fun h_2 => ?_) (fun h_2 => (by omega : False).elim)
  refine lv_iconst (v := nI 1) hx hb dX6_share_20 (by decide) ?_
  refine lv_istore_n (lv' := [(3, .int (nI 1)), (0, .ref (ad 0)), (1, .int (nI k)), (2, .int (nI 1))]) hx hb dX6_share_21 rfl hl (by decide) rfl (fun ls hl => ?_)
  have L22 : ∀ (d22 : Nat) (most : Nat) (m : gMem), (most + d22 = 6) → (m 1 = M 1) → (lt8 m) → (skR d22 most m = some r) → (∀ (H : Heap) (locs : List Loc) (ls : Array Slot), g_P g ad dsR 14 m J H → va_S (g_A ad 14) s9.heap H locs → lv_has ls 4 [(3, .int (nI most)), (0, .ref (ad 0)), (1, .int (nI k)), (2, .int (nI 1))] → W p9 l e9 (g_rm 3) s9 m9 args9 below9 meth9 c9 H locs 0 0 (MQ below9 (va_Qi (fun r' (_ : Unit) => r' = (nI (r 7 k))) (fun _ t => g_P g ad dsR 14 r J t.heap) (g_A ad 14)) args9 s9 0 0 (g_A ad 14)) (F0 m9 22 ls [])) := by
    intro d22
    induction d22 with
    | zero =>
      intro most m hm h1 h8 hR H locs ls hP hS hl
      exact absurd (show 1 = 0 from absurd hR (by simp [skR])) (by omega)
    | succ d22 ih22 =>
      intro most m hm h1 h8 hR H locs ls hP hS hl
      rw [skR_s] at hR
      refine lv_aload_n hx hb dX6_share_22 rfl (lv_at hl 1 rfl) ?_
      refine lv_iload_n hx hb dX6_share_23 rfl (lv_at hl 0 rfl) ?_
      refine x_callVI CF hK hP hS hA hl (As := [.int (nI most)]) (rest := []) (r_sharesB hI m J (hw.of h1) most (by omega) h8) kw_X6_sharesBy wd4_32 (by decide) dR_0 rfl rfl ⟨Nat.le_of_ble_eq_true rfl, Nat.le_of_ble_eq_true rfl⟩ ⟨Nat.le_refl _, Nat.le_refl _⟩ (Nat.le_of_ble_eq_true rfl) dX6_share_24 (fun H locs hP hS => ?_)
      refine x_yne (u := (b2n (shB m most).1 : Nat)) (tgt := 36) hx hb (nI_toInt (Nat.lt_of_le_of_lt (b2n_le _) (by decide))) dX6_share_27 (by decide) (fun h_3 => ?_) (fun h_3 => ?_)
      · refine lv_iload_n hx hb dX6_share_36 rfl (lv_at hl 3 rfl) ?_
        refine x_yne (u := (1 : Int)) (tgt := 49) hx hb (rfl) dX6_share_37 (by decide) (fun h_4 => ?_) (fun h_4 => (by omega : False).elim)
        refine lv_aload_n hx hb dX6_share_49 rfl (lv_at hl 1 rfl) ?_
        refine x_getr CF hK hP 0 (by decide) dR_0 rfl uX6 8 (by decide) (j := 7) rfl wd3_104 rfl dX6_share_50 ?_
        refine lv_iload_n hx hb dX6_share_53 rfl (lv_at hl 2 rfl) ?_
        refine x_iald CF hK hP 7 (by decide) dR_7 k (by omega) (by decide) dX6_share_54 ?_
        exact x_reti hx hb hr9 hlk9 hS (by rw [if_pos (b2n_1 h_3)] at hR; rw [← Option.some.inj hR]; exact hP) (by rw [if_pos (b2n_1 h_3)] at hR; rw [Option.some.inj hR]) dX6_share_55
      · refine lv_iinc (v := nI (most + 1)) (lv' := [(3, .int (nI (most + 1))), (0, .ref (ad 0)), (1, .int (nI k)), (2, .int (nI 1))]) hx hb dX6_share_30 hl (k := 0) rfl (n_inc most 1) (by decide) rfl (fun ls hl => ?_)
        refine lv_goto (tgt := 22) hx hb dX6_share_33 (by decide) ?_
        have hl0 : lv_has ls 4 [(3, .int (nI (most + 1))), (0, .ref (ad 0)), (1, .int (nI k)), (2, .int (nI 1))] := lv_sub hl [0, 1, 2, 3] rfl
        exact ih22 (most + 1) ((shB m most).2) (by omega) (by rw [shB_1]; exact h1) (shB_lt8 h8 most) (by rw [if_neg (by rw [b2n_0 h_3]; decide)] at hR; exact hR) _ _ _ (hP) hS hl0
  have hl0 : lv_has ls 4 [(3, .int (nI 1)), (0, .ref (ad 0)), (1, .int (nI k)), (2, .int (nI 1))] := lv_sub hl [0, 1, 2, 3] rfl
  exact L22 5 1 M (by omega) (rfl) (h80) (hR0) _ _ _ (hP) hS hl0
set_option maxHeartbeats 4000000 in
set_option maxRecDepth 100000 in
theorem r_share_bad {l : Launch} {g : gE} {ad : Nat → Nat} (hI : g_inj ad 14) (M : gMem) (J : gMeL) (hw : wfR M) (k w : Int32) (h : ¬ (inR k (M 1 73) ∧ inR w 2)) : CI l g ad dsR 14 yX6_share cX6_share 4 (some .int) 3 [.ref (ad 0), .int k, .int w] M J (nI 4294967295) M J := by
  refine CI.of (plainFor_of_name (by decide)) (Nat.le_of_ble_eq_true rfl) (fun p9 e9 s9 m9 args9 below9 meth9 c9 CF hK hr9 hlk9 hP hS ls hl => ?_)
  have hx := CF.1
  have hb := CF.2.1
  have hA : ∀ q, g_A ad 14 q → g_A ad 14 q := fun _ h => h
  have hl : lv_has ls 4 [(0, .ref (ad 0)), (1, .int k), (2, .int w)] := hl
  have hnc := hw.nc
  have hnf := hw.nf
  have hwy := hw.way
  refine lv_aload_n hx hb dX6_share_0 rfl (lv_at hl 0 rfl) ?_
  refine lv_iload_n hx hb dX6_share_1 rfl (lv_at hl 1 rfl) ?_
  rcases n_int (x := k) (n := M 1 73) (by omega) with ⟨k1, h_k1, rfl⟩ | ho_k
  · refine x_callVI CF hK hP hS hA hl (As := [.int (nI k1)]) (rest := []) (r_isFigure_t hI M J k1 (by omega) (by omega)) kw_X6_isFigure wd3_196 (by decide) dR_0 rfl rfl ⟨Nat.le_of_ble_eq_true rfl, Nat.le_of_ble_eq_true rfl⟩ ⟨Nat.le_refl _, Nat.le_refl _⟩ (Nat.le_of_ble_eq_true rfl) dX6_share_2 (fun H locs hP hS => ?_)
    refine x_yeq (u := (1 : Int)) (tgt := 18) hx hb (rfl) dX6_share_5 (by decide) (fun h_1 => (by omega : False).elim) (fun h_1 => ?_)
    refine lv_iload_n hx hb dX6_share_8 rfl (lv_at hl 2 rfl) ?_
    rcases n_int (x := w) (n := 2) (by omega) with ⟨w1, h_w1, rfl⟩ | ho_w
    · refine lv_i2l hx hb dX6_share_9 (nI_l (by omega)) ?_
      refine lv_lconst (v := (0 : Int64)) hx hb dX6_share_10 rfl ?_
      refine lv_lconst (v := (1 : Int64)) hx hb dX6_share_11 rfl ?_
      refine x_callSP CF hK hP hS hl (As := [.long (lN w1), .long (0 : Int64), .long (1 : Int64)]) (rest := []) (r_in_t _ _ _ (il_in (lo := 0) (hi := 1) (by omega) (by omega) (by omega))) kw_X6_in wd3_147 rfl ⟨Nat.le_of_ble_eq_true rfl, Nat.le_of_ble_eq_true rfl⟩ ⟨Nat.le_refl _, Nat.le_refl _⟩ (Nat.le_of_ble_eq_true rfl) dX6_share_12 (fun H locs hP hS => ?_)
      refine x_yne (u := (1 : Int)) (tgt := 20) hx hb (rfl) dX6_share_15 (by decide) (fun h_2 => ?_) (fun h_2 => (by omega : False).elim)
      exact absurd ⟨inR_n h_k1 (by omega), inR_n h_w1 (by decide)⟩ h
    · refine lv_i2l hx hb dX6_share_9 rfl ?_
      refine lv_lconst (v := (0 : Int64)) hx hb dX6_share_10 rfl ?_
      refine lv_lconst (v := (1 : Int64)) hx hb dX6_share_11 rfl ?_
      refine x_callSP CF hK hP hS hl (As := [.long w.toInt64, .long (0 : Int64), .long (1 : Int64)]) (rest := []) (r_in_f _ _ _ (il_out (lo := 0) (hi := 1) (by omega) (by omega) (by omega))) kw_X6_in wd3_147 rfl ⟨Nat.le_of_ble_eq_true rfl, Nat.le_of_ble_eq_true rfl⟩ ⟨Nat.le_refl _, Nat.le_refl _⟩ (Nat.le_of_ble_eq_true rfl) dX6_share_12 (fun H locs hP hS => ?_)
      refine x_yne (u := (0 : Int)) (tgt := 20) hx hb (rfl) dX6_share_15 (by decide) (fun h_3 => (by omega : False).elim) (fun h_3 => ?_)
      refine lv_iconst (v := nI 4294967295) hx hb dX6_share_18 (by decide) ?_
      exact x_reti hx hb hr9 hlk9 hS hP (by first | rfl | (show nI 4294967295 = nI 4294967295; first | rfl | omega)) dX6_share_19
  · refine x_callVI CF hK hP hS hA hl (As := [.int k]) (rest := []) (r_isFigure_f hI M J k ho_k (by omega)) kw_X6_isFigure wd3_196 (by decide) dR_0 rfl rfl ⟨Nat.le_of_ble_eq_true rfl, Nat.le_of_ble_eq_true rfl⟩ ⟨Nat.le_refl _, Nat.le_refl _⟩ (Nat.le_of_ble_eq_true rfl) dX6_share_2 (fun H locs hP hS => ?_)
    refine x_yeq (u := (0 : Int)) (tgt := 18) hx hb (rfl) dX6_share_5 (by decide) (fun h_4 => ?_) (fun h_4 => (by omega : False).elim)
    refine lv_iconst (v := nI 4294967295) hx hb dX6_share_18 (by decide) ?_
    exact x_reti hx hb hr9 hlk9 hS hP (by first | rfl | (show nI 4294967295 = nI 4294967295; first | rfl | omega)) dX6_share_19
