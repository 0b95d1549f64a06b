set_option maxHeartbeats 4000000 in
set_option maxRecDepth 100000 in
theorem f_sheet_ok {l : Launch} {g : gE} {ad : Nat → Nat} (hI : g_inj ad 55) (M : gMem) (J : gMeL) (s ln : Nat) (hs : s < 4) (hln : ln < 3) (n : Nat) (h : n ≤ 24) : CI l g ad dsX 55 yX5_sheet cX5_sheet 4 (some .int) 2 [.ref (ad 0), .int (nI s), .int (nI ln), .int (nI n)] M J (nI n) (u2 (u2 M (5 + s) 1 ln) (5 + s) 2 n) (rowL J (9 + s) 24 (fun _ => (0 : Int64))) := by
  refine CI.of (plainFor_of_name (by decide)) (Nat.le_of_ble_eq_true rfl) (fun p9 e9 s9 m9 args9 below9 meth9 c9 CF hK hr9 hlk9 hP hS ls hl => ?_)
  have hx := CF.1
  have hb := CF.2.1
  have hA : ∀ q, g_A ad 55 q → g_A ad 55 q := fun _ h => h
  have hl : lv_has ls 4 [(0, .ref (ad 0)), (1, .int (nI s)), (2, .int (nI ln)), (3, .int (nI n))] := hl
  refine lv_iload_n hx hb dX5_sheet_0 rfl (lv_at hl 1 rfl) ?_
  refine x_callSP CF hK hP hS hl (As := [.int (nI s)]) (rest := []) (c_isSheet_t s (by omega)) kw_X5_isSheet wd3_32 rfl ⟨Nat.le_of_ble_eq_true rfl, Nat.le_of_ble_eq_true rfl⟩ ⟨Nat.le_refl _, Nat.le_refl _⟩ (Nat.le_of_ble_eq_true rfl) dX5_sheet_1 (fun H locs hP hS => ?_)
  refine x_yeq (u := (1 : Int)) (tgt := 20) hx hb (rfl) dX5_sheet_4 (by decide) (fun h_1 => (by omega : False).elim) (fun h_1 => ?_)
  refine lv_iload_n hx hb dX5_sheet_7 rfl (lv_at hl 2 rfl) ?_
  refine x_callSP CF hK hP hS hl (As := [.int (nI ln)]) (rest := []) (c_isLane_t ln (by omega)) kw_X5_isLane wd3_35 rfl ⟨Nat.le_of_ble_eq_true rfl, Nat.le_of_ble_eq_true rfl⟩ ⟨Nat.le_refl _, Nat.le_refl _⟩ (Nat.le_of_ble_eq_true rfl) dX5_sheet_8 (fun H locs hP hS => ?_)
  refine x_yeq (u := (1 : Int)) (tgt := 20) hx hb (rfl) dX5_sheet_11 (by decide) (fun h_2 => (by omega : False).elim) (fun h_2 => ?_)
  refine lv_iload_n hx hb dX5_sheet_14 rfl (lv_at hl 3 rfl) ?_
  refine lv_bipush (v := nI 24) hx hb dX5_sheet_15 (by decide) ?_
  refine x_zle (u := (n : Nat)) (v := (24 : Int)) (tgt := 22) hx hb (nI_toInt (by omega)) (rfl) dX5_sheet_17 (by decide) (fun h_3 => ?_) (fun h_3 => (by omega : False).elim)
  refine lv_iload_n hx hb dX5_sheet_22 rfl (lv_at hl 3 rfl) ?_
  refine x_yge (u := (n : Nat)) (tgt := 29) hx hb (nI_toInt (by omega)) dX5_sheet_23 (by decide) (fun h_4 => ?_) (fun h_4 => (by omega : False).elim)
  refine lv_aload_n hx hb dX5_sheet_29 rfl (lv_at hl 0 rfl) ?_
  refine x_getr CF hK hP 0 (by decide) dX_0 rfl uX5 4 (by decide) (j := 4) rfl wd1_168 rfl dX5_sheet_30 ?_
  refine lv_iload_n hx hb dX5_sheet_33 rfl (lv_at hl 1 rfl) ?_
  refine x_aald CF hK hP 4 (by decide) (t := 1) dX_4 (by decide) s (by omega) (by decide) (j := (5 + s)) (oX_sheet s (by omega)) dX5_sheet_34 ?_
  refine lv_iload_n hx hb dX5_sheet_35 rfl (lv_at hl 2 rfl) ?_
  refine lv_iload_n hx hb dX5_sheet_36 rfl (lv_at hl 3 rfl) ?_
  refine x_callVV CF hK hP hS hA hl (As := [.int (nI ln), .int (nI n)]) (rest := []) (c_begin hI M J s (by omega) ln n) kw_X3_begin wd3_66 (by omega) (dX_sheet s (by omega)) rfl rfl ⟨Nat.le_of_ble_eq_true rfl, Nat.le_of_ble_eq_true rfl⟩ ⟨Nat.le_refl _, Nat.le_refl _⟩ (Nat.le_of_ble_eq_true rfl) dX5_sheet_37 (fun H locs hP hS => ?_)
  refine lv_iload_n hx hb dX5_sheet_40 rfl (lv_at hl 3 rfl) ?_
  exact x_reti hx hb hr9 hlk9 hS hP (by first | rfl | (show nI n = nI n; first | rfl | omega)) dX5_sheet_41
set_option maxHeartbeats 4000000 in
set_option maxRecDepth 100000 in
theorem f_sheet_neg {l : Launch} {g : gE} {ad : Nat → Nat} (hI : g_inj ad 55) (M : gMem) (J : gMeL) (s ln : Nat) (hs : s < 4) (hln : ln < 3) (n : Int32) (h : n.toInt < 0) : CI l g ad dsX 55 yX5_sheet cX5_sheet 4 (some .int) 2 [.ref (ad 0), .int (nI s), .int (nI ln), .int n] M J (nI 4294967282) M J := by
  refine CI.of (plainFor_of_name (by decide)) (Nat.le_of_ble_eq_true rfl) (fun p9 e9 s9 m9 args9 below9 meth9 c9 CF hK hr9 hlk9 hP hS ls hl => ?_)
  have hx := CF.1
  have hb := CF.2.1
  have hA : ∀ q, g_A ad 55 q → g_A ad 55 q := fun _ h => h
  have hl : lv_has ls 4 [(0, .ref (ad 0)), (1, .int (nI s)), (2, .int (nI ln)), (3, .int n)] := hl
  refine lv_iload_n hx hb dX5_sheet_0 rfl (lv_at hl 1 rfl) ?_
  refine x_callSP CF hK hP hS hl (As := [.int (nI s)]) (rest := []) (c_isSheet_t s (by omega)) kw_X5_isSheet wd3_32 rfl ⟨Nat.le_of_ble_eq_true rfl, Nat.le_of_ble_eq_true rfl⟩ ⟨Nat.le_refl _, Nat.le_refl _⟩ (Nat.le_of_ble_eq_true rfl) dX5_sheet_1 (fun H locs hP hS => ?_)
  refine x_yeq (u := (1 : Int)) (tgt := 20) hx hb (rfl) dX5_sheet_4 (by decide) (fun h_1 => (by omega : False).elim) (fun h_1 => ?_)
  refine lv_iload_n hx hb dX5_sheet_7 rfl (lv_at hl 2 rfl) ?_
  refine x_callSP CF hK hP hS hl (As := [.int (nI ln)]) (rest := []) (c_isLane_t ln (by omega)) kw_X5_isLane wd3_35 rfl ⟨Nat.le_of_ble_eq_true rfl, Nat.le_of_ble_eq_true rfl⟩ ⟨Nat.le_refl _, Nat.le_refl _⟩ (Nat.le_of_ble_eq_true rfl) dX5_sheet_8 (fun H locs hP hS => ?_)
  refine x_yeq (u := (1 : Int)) (tgt := 20) hx hb (rfl) dX5_sheet_11 (by decide) (fun h_2 => (by omega : False).elim) (fun h_2 => ?_)
  refine lv_iload_n hx hb dX5_sheet_14 rfl (lv_at hl 3 rfl) ?_
  refine lv_bipush (v := nI 24) hx hb dX5_sheet_15 (by decide) ?_
  refine x_zle (u := _) (v := (24 : Int)) (tgt := 22) hx hb (rfl) (rfl) dX5_sheet_17 (by decide) (fun h_3 => ?_) (fun h_3 => (by omega : False).elim)
  refine lv_iload_n hx hb dX5_sheet_22 rfl (lv_at hl 3 rfl) ?_
  refine x_yge (u := _) (tgt := 29) hx hb (rfl) dX5_sheet_23 (by decide) (fun h_4 => (by omega : False).elim) (fun h_4 => ?_)
  refine lv_bipush (v := nI 4294967282) hx hb dX5_sheet_26 (by decide) ?_
  exact x_reti hx hb hr9 hlk9 hS hP (by first | rfl | (show nI 4294967282 = nI 4294967282; first | rfl | omega)) dX5_sheet_28
set_option maxHeartbeats 4000000 in
set_option maxRecDepth 100000 in
theorem f_sheet_bad {l : Launch} {g : gE} {ad : Nat → Nat} (hI : g_inj ad 55) (M : gMem) (J : gMeL) (s ln n : Int32) (h : ¬ (inR s 4 ∧ inR ln 3) ∨ 24 < n.toInt) : CI l g ad dsX 55 yX5_sheet cX5_sheet 4 (some .int) 2 [.ref (ad 0), .int s, .int ln, .int n] M J (nI 4294967295) M J := by
  refine CI.of (plainFor_of_name (by decide)) (Nat.le_of_ble_eq_true rfl) (fun p9 e9 s9 m9 args9 below9 meth9 c9 CF hK hr9 hlk9 hP hS ls hl => ?_)
  have hx := CF.1
  have hb := CF.2.1
  have hA : ∀ q, g_A ad 55 q → g_A ad 55 q := fun _ h => h
  have hl : lv_has ls 4 [(0, .ref (ad 0)), (1, .int s), (2, .int ln), (3, .int n)] := hl
  refine lv_iload_n hx hb dX5_sheet_0 rfl (lv_at hl 1 rfl) ?_
  rcases n_int (x := s) (n := 4) (by omega) with ⟨s1, h_s1, rfl⟩ | ho_s
  · refine x_callSP CF hK hP hS hl (As := [.int (nI s1)]) (rest := []) (c_isSheet_t s1 (by omega)) kw_X5_isSheet wd3_32 rfl ⟨Nat.le_of_ble_eq_true rfl, Nat.le_of_ble_eq_true rfl⟩ ⟨Nat.le_refl _, Nat.le_refl _⟩ (Nat.le_of_ble_eq_true rfl) dX5_sheet_1 (fun H locs hP hS => ?_)
    refine x_yeq (u := (1 : Int)) (tgt := 20) hx hb (rfl) dX5_sheet_4 (by decide) (fun h_1 => (by omega : False).elim) (fun h_1 => ?_)
    refine lv_iload_n hx hb dX5_sheet_7 rfl (lv_at hl 2 rfl) ?_
    rcases n_int (x := ln) (n := 3) (by omega) with ⟨l1, h_l1, rfl⟩ | ho_ln
    · refine x_callSP CF hK hP hS hl (As := [.int (nI l1)]) (rest := []) (c_isLane_t l1 (by omega)) kw_X5_isLane wd3_35 rfl ⟨Nat.le_of_ble_eq_true rfl, Nat.le_of_ble_eq_true rfl⟩ ⟨Nat.le_refl _, Nat.le_refl _⟩ (Nat.le_of_ble_eq_true rfl) dX5_sheet_8 (fun H locs hP hS => ?_)
      refine x_yeq (u := (1 : Int)) (tgt := 20) hx hb (rfl) dX5_sheet_11 (by decide) (fun h_2 => (by omega : False).elim) (fun h_2 => ?_)
      refine lv_iload_n hx hb dX5_sheet_14 rfl (lv_at hl 3 rfl) ?_
      refine lv_bipush (v := nI 24) hx hb dX5_sheet_15 (by decide) ?_
      refine x_zle (u := _) (v := (24 : Int)) (tgt := 22) hx hb (rfl) (rfl) dX5_sheet_17 (by decide) (fun h_3 => ?_) (fun h_3 => ?_)
      · exact (h.elim (fun h => h ⟨inR_n h_s1 (by decide), inR_n h_l1 (by decide)⟩) (fun h => by omega) : False).elim
      · refine lv_iconst (v := nI 4294967295) hx hb dX5_sheet_20 (by decide) ?_
        exact x_reti hx hb hr9 hlk9 hS hP (by first | rfl | (show nI 4294967295 = nI 4294967295; first | rfl | omega)) dX5_sheet_21
    · refine x_callSP CF hK hP hS hl (As := [.int ln]) (rest := []) (c_isLane_f ln ho_ln) kw_X5_isLane wd3_35 rfl ⟨Nat.le_of_ble_eq_true rfl, Nat.le_of_ble_eq_true rfl⟩ ⟨Nat.le_refl _, Nat.le_refl _⟩ (Nat.le_of_ble_eq_true rfl) dX5_sheet_8 (fun H locs hP hS => ?_)
      refine x_yeq (u := (0 : Int)) (tgt := 20) hx hb (rfl) dX5_sheet_11 (by decide) (fun h_4 => ?_) (fun h_4 => (by omega : False).elim)
      refine lv_iconst (v := nI 4294967295) hx hb dX5_sheet_20 (by decide) ?_
      exact x_reti hx hb hr9 hlk9 hS hP (by first | rfl | (show nI 4294967295 = nI 4294967295; first | rfl | omega)) dX5_sheet_21
  · refine x_callSP CF hK hP hS hl (As := [.int s]) (rest := []) (c_isSheet_f s ho_s) kw_X5_isSheet wd3_32 rfl ⟨Nat.le_of_ble_eq_true rfl, Nat.le_of_ble_eq_true rfl⟩ ⟨Nat.le_refl _, Nat.le_refl _⟩ (Nat.le_of_ble_eq_true rfl) dX5_sheet_1 (fun H locs hP hS => ?_)
    refine x_yeq (u := (0 : Int)) (tgt := 20) hx hb (rfl) dX5_sheet_4 (by decide) (fun h_5 => ?_) (fun h_5 => (by omega : False).elim)
    refine lv_iconst (v := nI 4294967295) hx hb dX5_sheet_20 (by decide) ?_
    exact x_reti hx hb hr9 hlk9 hS hP (by first | rfl | (show nI 4294967295 = nI 4294967295; first | rfl | omega)) dX5_sheet_21
set_option maxHeartbeats 4000000 in
set_option maxRecDepth 100000 in
theorem f_drop_ok {l : Launch} {g : gE} {ad : Nat → Nat} (hI : g_inj ad 55) (M : gMem) (J : gMeL) (s : Nat) (hs : s < 4) (h : M (5 + s) 1 ≤ 2) : CI l g ad dsX 55 yX5_drop cX5_drop 2 (some .int) 2 [.ref (ad 0), .int (nI s)] M J (nI (M (5 + s) 2)) (u2 M (5 + s) 1 4294967295) J := by
  refine CI.of (plainFor_of_name (by decide)) (Nat.le_of_ble_eq_true rfl) (fun p9 e9 s9 m9 args9 below9 meth9 c9 CF hK hr9 hlk9 hP hS ls hl => ?_)
  have hx := CF.1
  have hb := CF.2.1
  have hA : ∀ q, g_A ad 55 q → g_A ad 55 q := fun _ h => h
  have hl : lv_has ls 2 [(0, .ref (ad 0)), (1, .int (nI s))] := hl
  refine lv_iload_n hx hb dX5_drop_0 rfl (lv_at hl 1 rfl) ?_
  refine x_callSP CF hK hP hS hl (As := [.int (nI s)]) (rest := []) (c_isSheet_t s (by omega)) kw_X5_isSheet wd3_32 rfl ⟨Nat.le_of_ble_eq_true rfl, Nat.le_of_ble_eq_true rfl⟩ ⟨Nat.le_refl _, Nat.le_refl _⟩ (Nat.le_of_ble_eq_true rfl) dX5_drop_1 (fun H locs hP hS => ?_)
  refine x_yne (u := (1 : Int)) (tgt := 9) hx hb (rfl) dX5_drop_4 (by decide) (fun h_1 => ?_) (fun h_1 => (by omega : False).elim)
  refine lv_aload_n hx hb dX5_drop_9 rfl (lv_at hl 0 rfl) ?_
  refine x_getr CF hK hP 0 (by decide) dX_0 rfl uX5 4 (by decide) (j := 4) rfl wd1_168 rfl dX5_drop_10 ?_
  refine lv_iload_n hx hb dX5_drop_13 rfl (lv_at hl 1 rfl) ?_
  refine x_aald CF hK hP 4 (by decide) (t := 1) dX_4 (by decide) s (by omega) (by decide) (j := (5 + s)) (oX_sheet s (by omega)) dX5_drop_14 ?_
  refine x_callVI CF hK hP hS hA hl (As := []) (rest := []) (c_isNothing_f hI M J s (by omega) h) kw_X3_isNothing wd3_38 (by omega) (dX_sheet s (by omega)) rfl rfl ⟨Nat.le_of_ble_eq_true rfl, Nat.le_of_ble_eq_true rfl⟩ ⟨Nat.le_refl _, Nat.le_refl _⟩ (Nat.le_of_ble_eq_true rfl) dX5_drop_15 (fun H locs hP hS => ?_)
  refine x_yeq (u := (0 : Int)) (tgt := 24) hx hb (rfl) dX5_drop_18 (by decide) (fun h_2 => ?_) (fun h_2 => (by omega : False).elim)
  refine lv_aload_n hx hb dX5_drop_24 rfl (lv_at hl 0 rfl) ?_
  refine x_getr CF hK hP 0 (by decide) dX_0 rfl uX5 4 (by decide) (j := 4) rfl wd1_168 rfl dX5_drop_25 ?_
  refine lv_iload_n hx hb dX5_drop_28 rfl (lv_at hl 1 rfl) ?_
  refine x_aald CF hK hP 4 (by decide) (t := 1) dX_4 (by decide) s (by omega) (by decide) (j := (5 + s)) (oX_sheet s (by omega)) dX5_drop_29 ?_
  refine x_callVI CF hK hP hS hA hl (As := []) (rest := []) (c_end hI M J s (by omega)) kw_X3_end wd3_77 (by omega) (dX_sheet s (by omega)) rfl rfl ⟨Nat.le_of_ble_eq_true rfl, Nat.le_of_ble_eq_true rfl⟩ ⟨Nat.le_refl _, Nat.le_refl _⟩ (Nat.le_of_ble_eq_true rfl) dX5_drop_30 (fun H locs hP hS => ?_)
  exact x_reti hx hb hr9 hlk9 hS hP (by first | rfl | (show nI (M (5 + s) 2) = nI (M (5 + s) 2); first | rfl | omega)) dX5_drop_33
set_option maxHeartbeats 4000000 in
set_option maxRecDepth 100000 in
theorem f_drop_null {l : Launch} {g : gE} {ad : Nat → Nat} (hI : g_inj ad 55) (M : gMem) (J : gMeL) (s : Nat) (hs : s < 4) (h : M (5 + s) 1 = 4294967295) : CI l g ad dsX 55 yX5_drop cX5_drop 2 (some .int) 2 [.ref (ad 0), .int (nI s)] M J (nI 4294967285) M J := by
  refine CI.of (plainFor_of_name (by decide)) (Nat.le_of_ble_eq_true rfl) (fun p9 e9 s9 m9 args9 below9 meth9 c9 CF hK hr9 hlk9 hP hS ls hl => ?_)
  have hx := CF.1
  have hb := CF.2.1
  have hA : ∀ q, g_A ad 55 q → g_A ad 55 q := fun _ h => h
  have hl : lv_has ls 2 [(0, .ref (ad 0)), (1, .int (nI s))] := hl
  refine lv_iload_n hx hb dX5_drop_0 rfl (lv_at hl 1 rfl) ?_
  refine x_callSP CF hK hP hS hl (As := [.int (nI s)]) (rest := []) (c_isSheet_t s (by omega)) kw_X5_isSheet wd3_32 rfl ⟨Nat.le_of_ble_eq_true rfl, Nat.le_of_ble_eq_true rfl⟩ ⟨Nat.le_refl _, Nat.le_refl _⟩ (Nat.le_of_ble_eq_true rfl) dX5_drop_1 (fun H locs hP hS => ?_)
  refine x_yne (u := (1 : Int)) (tgt := 9) hx hb (rfl) dX5_drop_4 (by decide) (fun h_1 => ?_) (fun h_1 => (by omega : False).elim)
  refine lv_aload_n hx hb dX5_drop_9 rfl (lv_at hl 0 rfl) ?_
  refine x_getr CF hK hP 0 (by decide) dX_0 rfl uX5 4 (by decide) (j := 4) rfl wd1_168 rfl dX5_drop_10 ?_
  refine lv_iload_n hx hb dX5_drop_13 rfl (lv_at hl 1 rfl) ?_
  refine x_aald CF hK hP 4 (by decide) (t := 1) dX_4 (by decide) s (by omega) (by decide) (j := (5 + s)) (oX_sheet s (by omega)) dX5_drop_14 ?_
  refine x_callVI CF hK hP hS hA hl (As := []) (rest := []) (c_isNothing_t hI M J s (by omega) h) kw_X3_isNothing wd3_38 (by omega) (dX_sheet s (by omega)) rfl rfl ⟨Nat.le_of_ble_eq_true rfl, Nat.le_of_ble_eq_true rfl⟩ ⟨Nat.le_refl _, Nat.le_refl _⟩ (Nat.le_of_ble_eq_true rfl) dX5_drop_15 (fun H locs hP hS => ?_)
  refine x_yeq (u := (1 : Int)) (tgt := 24) hx hb (rfl) dX5_drop_18 (by decide) (fun h_2 => (by omega : False).elim) (fun h_2 => ?_)
  refine lv_bipush (v := nI 4294967285) hx hb dX5_drop_21 (by decide) ?_
  exact x_reti hx hb hr9 hlk9 hS hP (by first | rfl | (show nI 4294967285 = nI 4294967285; first | rfl | omega)) dX5_drop_23
set_option maxHeartbeats 4000000 in
set_option maxRecDepth 100000 in
theorem f_drop_bad {l : Launch} {g : gE} {ad : Nat → Nat} (hI : g_inj ad 55) (M : gMem) (J : gMeL) (s : Int32) (h : ¬ inR s 4) : CI l g ad dsX 55 yX5_drop cX5_drop 2 (some .int) 2 [.ref (ad 0), .int s] M J (nI 4294967295) M J := by
  refine CI.of (plainFor_of_name (by decide)) (Nat.le_of_ble_eq_true rfl) (fun p9 e9 s9 m9 args9 below9 meth9 c9 CF hK hr9 hlk9 hP hS ls hl => ?_)
  have hx := CF.1
  have hb := CF.2.1
  have hA : ∀ q, g_A ad 55 q → g_A ad 55 q := fun _ h => h
  have hl : lv_has ls 2 [(0, .ref (ad 0)), (1, .int s)] := hl
  refine lv_iload_n hx hb dX5_drop_0 rfl (lv_at hl 1 rfl) ?_
  rcases n_int (x := s) (n := 4) (by omega) with ⟨s1, h_s1, rfl⟩ | ho_s
  · refine x_callSP CF hK hP hS hl (As := [.int (nI s1)]) (rest := []) (c_isSheet_t s1 (by omega)) kw_X5_isSheet wd3_32 rfl ⟨Nat.le_of_ble_eq_true rfl, Nat.le_of_ble_eq_true rfl⟩ ⟨Nat.le_refl _, Nat.le_refl _⟩ (Nat.le_of_ble_eq_true rfl) dX5_drop_1 (fun H locs hP hS => ?_)
    refine x_yne (u := (1 : Int)) (tgt := 9) hx hb (rfl) dX5_drop_4 (by decide) (fun h_1 => ?_) (fun h_1 => (by omega : False).elim)
    exact absurd (inR_n h_s1 (by decide)) h
  · refine x_callSP CF hK hP hS hl (As := [.int s]) (rest := []) (c_isSheet_f s ho_s) kw_X5_isSheet wd3_32 rfl ⟨Nat.le_of_ble_eq_true rfl, Nat.le_of_ble_eq_true rfl⟩ ⟨Nat.le_refl _, Nat.le_refl _⟩ (Nat.le_of_ble_eq_true rfl) dX5_drop_1 (fun H locs hP hS => ?_)
    refine x_yne (u := (0 : Int)) (tgt := 9) hx hb (rfl) dX5_drop_4 (by decide) (fun h_2 => (by omega : False).elim) (fun h_2 => ?_)
    refine lv_iconst (v := nI 4294967295) hx hb dX5_drop_7 (by decide) ?_
    exact x_reti hx hb hr9 hlk9 hS hP (by first | rfl | (show nI 4294967295 = nI 4294967295; first | rfl | omega)) dX5_drop_8
set_option maxHeartbeats 4000000 in
set_option maxRecDepth 100000 in
theorem f_item_ok {l : Launch} {g : gE} {ad : Nat → Nat} (hI : g_inj ad 55) (M : gMem) (J : gMeL) (s ln : Nat) (hs : s < 4) (hln : ln < 3) (i : Nat) (v : Int64) (hl9 : M (5 + s) 1 = ln) (h : i + 1 ≤ M (5 + s) 2) (h2 : M (5 + s) 2 ≤ 24) : CI l g ad dsX 55 yX5_item cX5_item 7 (some .int) 4 [.ref (ad 0), .int (nI s), .int (nI ln), .int (nI i), .long v] M J (nI 1) M (u2L J (9 + s) i (cutv (M (5 + s) 1) v)) := by
  refine CI.of (plainFor_of_name (by decide)) (Nat.le_of_ble_eq_true rfl) (fun p9 e9 s9 m9 args9 below9 meth9 c9 CF hK hr9 hlk9 hP hS ls hl => ?_)
  have hx := CF.1
  have hb := CF.2.1
  have hA : ∀ q, g_A ad 55 q → g_A ad 55 q := fun _ h => h
  have hl : lv_has ls 7 [(0, .ref (ad 0)), (1, .int (nI s)), (2, .int (nI ln)), (3, .int (nI i)), (4, .long v)] := hl
  refine lv_aload_n hx hb dX5_item_0 rfl (lv_at hl 0 rfl) ?_
  refine lv_iload_n hx hb dX5_item_1 rfl (lv_at hl 1 rfl) ?_
  refine lv_iload_n hx hb dX5_item_2 rfl (lv_at hl 2 rfl) ?_
  refine lv_iload_n hx hb dX5_item_3 rfl (lv_at hl 3 rfl) ?_
  refine lv_iconst (v := nI 1) hx hb dX5_item_4 (by decide) ?_
  refine x_callVI CF hK hP hS hA hl (As := [.int (nI s), .int (nI ln), .int (nI i), .int (nI 1)]) (rest := []) (c_ref_ok hI M J s ln (by omega) (by omega) i 1 hl9 h h2) kw_X5_refusalOf wd3_28 (by decide) dX_0 rfl rfl ⟨Nat.le_of_ble_eq_true rfl, Nat.le_of_ble_eq_true rfl⟩ ⟨Nat.le_refl _, Nat.le_refl _⟩ (Nat.le_of_ble_eq_true rfl) dX5_item_5 (fun H locs hP hS => ?_)
  refine lv_istore (lv' := [(6, .int (nI 0)), (0, .ref (ad 0)), (1, .int (nI s)), (2, .int (nI ln)), (3, .int (nI i)), (4, .long v)]) hx hb dX5_item_8 hl (by decide) rfl (fun ls hl => ?_)
  refine lv_iload hx hb dX5_item_10 (lv_at hl 0 rfl) ?_
  refine x_yge (u := (0 : Int)) (tgt := 18) hx hb (rfl) dX5_item_12 (by decide) (fun h_1 => ?_) (fun h_1 => (by omega : False).elim)
  refine lv_aload_n hx hb dX5_item_18 rfl (lv_at hl 1 rfl) ?_
  refine x_getr CF hK hP 0 (by decide) dX_0 rfl uX5 4 (by decide) (j := 4) rfl wd1_168 rfl dX5_item_19 ?_
  refine lv_iload_n hx hb dX5_item_22 rfl (lv_at hl 2 rfl) ?_
  refine x_aald CF hK hP 4 (by decide) (t := 1) dX_4 (by decide) s (by omega) (by decide) (j := (5 + s)) (oX_sheet s (by omega)) dX5_item_23 ?_
  refine lv_iload_n hx hb dX5_item_24 rfl (lv_at hl 4 rfl) ?_
  refine lv_lload hx hb dX5_item_25 (lv_at hl 5 rfl) ?_
  refine x_callVV CF hK hP hS hA hl (As := [.int (nI i), .long v]) (rest := []) (c_put hI M J s (by omega) i (by omega) (v) (by omega)) kw_X3_put wd3_58 (by omega) (dX_sheet s (by omega)) rfl rfl ⟨Nat.le_of_ble_eq_true rfl, Nat.le_of_ble_eq_true rfl⟩ ⟨Nat.le_refl _, Nat.le_refl _⟩ (Nat.le_of_ble_eq_true rfl) dX5_item_27 (fun H locs hP hS => ?_)
  refine lv_iconst (v := nI 1) hx hb dX5_item_30 (by decide) ?_
  exact x_reti hx hb hr9 hlk9 hS (by exact hP) (by first | rfl | (show nI 1 = nI 1; first | rfl | omega)) dX5_item_31
set_option maxHeartbeats 4000000 in
set_option maxRecDepth 100000 in
theorem f_item_null {l : Launch} {g : gE} {ad : Nat → Nat} (hI : g_inj ad 55) (M : gMem) (J : gMeL) (s ln : Nat) (hs : s < 4) (hln : ln < 3) (i : Int32) (v : Int64) (h : M (5 + s) 1 = 4294967295) : CI l g ad dsX 55 yX5_item cX5_item 7 (some .int) 4 [.ref (ad 0), .int (nI s), .int (nI ln), .int i, .long v] M J (nI 4294967285) M J := by
  refine CI.of (plainFor_of_name (by decide)) (Nat.le_of_ble_eq_true rfl) (fun p9 e9 s9 m9 args9 below9 meth9 c9 CF hK hr9 hlk9 hP hS ls hl => ?_)
  have hx := CF.1
  have hb := CF.2.1
  have hA : ∀ q, g_A ad 55 q → g_A ad 55 q := fun _ h => h
  have hl : lv_has ls 7 [(0, .ref (ad 0)), (1, .int (nI s)), (2, .int (nI ln)), (3, .int i), (4, .long v)] := hl
  refine lv_aload_n hx hb dX5_item_0 rfl (lv_at hl 0 rfl) ?_
  refine lv_iload_n hx hb dX5_item_1 rfl (lv_at hl 1 rfl) ?_
  refine lv_iload_n hx hb dX5_item_2 rfl (lv_at hl 2 rfl) ?_
  refine lv_iload_n hx hb dX5_item_3 rfl (lv_at hl 3 rfl) ?_
  refine lv_iconst (v := nI 1) hx hb dX5_item_4 (by decide) ?_
  refine x_callVI CF hK hP hS hA hl (As := [.int (nI s), .int (nI ln), .int i, .int (nI 1)]) (rest := []) (c_ref_null hI M J s ln (by omega) (by omega) i (nI 1) h) kw_X5_refusalOf wd3_28 (by decide) dX_0 rfl rfl ⟨Nat.le_of_ble_eq_true rfl, Nat.le_of_ble_eq_true rfl⟩ ⟨Nat.le_refl _, Nat.le_refl _⟩ (Nat.le_of_ble_eq_true rfl) dX5_item_5 (fun H locs hP hS => ?_)
  refine lv_istore (lv' := [(6, .int (nI 4294967285)), (0, .ref (ad 0)), (1, .int (nI s)), (2, .int (nI ln)), (3, .int i), (4, .long v)]) hx hb dX5_item_8 hl (by decide) rfl (fun ls hl => ?_)
  refine lv_iload hx hb dX5_item_10 (lv_at hl 0 rfl) ?_
  refine x_yge (u := (-11 : Int)) (tgt := 18) hx hb (rfl) dX5_item_12 (by decide) (fun h_1 => (by omega : False).elim) (fun h_1 => ?_)
  refine lv_iload hx hb dX5_item_15 (lv_at hl 0 rfl) ?_
  exact x_reti hx hb hr9 hlk9 hS hP (by first | rfl | (show nI 4294967285 = nI 4294967285; first | rfl | omega)) dX5_item_17
set_option maxHeartbeats 4000000 in
set_option maxRecDepth 100000 in
theorem f_item_cast {l : Launch} {g : gE} {ad : Nat → Nat} (hI : g_inj ad 55) (M : gMem) (J : gMeL) (s ln : Nat) (hs : s < 4) (hln : ln < 3) (i : Int32) (v : Int64) (h : M (5 + s) 1 ≤ 2) (h3 : ¬ M (5 + s) 1 = ln) : CI l g ad dsX 55 yX5_item cX5_item 7 (some .int) 4 [.ref (ad 0), .int (nI s), .int (nI ln), .int i, .long v] M J (nI 4294967284) M J := by
  refine CI.of (plainFor_of_name (by decide)) (Nat.le_of_ble_eq_true rfl) (fun p9 e9 s9 m9 args9 below9 meth9 c9 CF hK hr9 hlk9 hP hS ls hl => ?_)
  have hx := CF.1
  have hb := CF.2.1
  have hA : ∀ q, g_A ad 55 q → g_A ad 55 q := fun _ h => h
  have hl : lv_has ls 7 [(0, .ref (ad 0)), (1, .int (nI s)), (2, .int (nI ln)), (3, .int i), (4, .long v)] := hl
  refine lv_aload_n hx hb dX5_item_0 rfl (lv_at hl 0 rfl) ?_
  refine lv_iload_n hx hb dX5_item_1 rfl (lv_at hl 1 rfl) ?_
  refine lv_iload_n hx hb dX5_item_2 rfl (lv_at hl 2 rfl) ?_
  refine lv_iload_n hx hb dX5_item_3 rfl (lv_at hl 3 rfl) ?_
  refine lv_iconst (v := nI 1) hx hb dX5_item_4 (by decide) ?_
  refine x_callVI CF hK hP hS hA hl (As := [.int (nI s), .int (nI ln), .int i, .int (nI 1)]) (rest := []) (c_ref_cast hI M J s ln (by omega) (by omega) i (nI 1) h h3) kw_X5_refusalOf wd3_28 (by decide) dX_0 rfl rfl ⟨Nat.le_of_ble_eq_true rfl, Nat.le_of_ble_eq_true rfl⟩ ⟨Nat.le_refl _, Nat.le_refl _⟩ (Nat.le_of_ble_eq_true rfl) dX5_item_5 (fun H locs hP hS => ?_)
  refine lv_istore (lv' := [(6, .int (nI 4294967284)), (0, .ref (ad 0)), (1, .int (nI s)), (2, .int (nI ln)), (3, .int i), (4, .long v)]) hx hb dX5_item_8 hl (by decide) rfl (fun ls hl => ?_)
  refine lv_iload hx hb dX5_item_10 (lv_at hl 0 rfl) ?_
  refine x_yge (u := (-12 : Int)) (tgt := 18) hx hb (rfl) dX5_item_12 (by decide) (fun h_1 => (by omega : False).elim) (fun h_1 => ?_)
  refine lv_iload hx hb dX5_item_15 (lv_at hl 0 rfl) ?_
  exact x_reti hx hb hr9 hlk9 hS hP (by first | rfl | (show nI 4294967284 = nI 4294967284; first | rfl | omega)) dX5_item_17
set_option maxHeartbeats 4000000 in
set_option maxRecDepth 100000 in
theorem f_item_index {l : Launch} {g : gE} {ad : Nat → Nat} (hI : g_inj ad 55) (M : gMem) (J : gMeL) (s ln : Nat) (hs : s < 4) (hln : ln < 3) (i : Int32) (v : Int64) (hl9 : M (5 + s) 1 = ln) (h : ¬ (0 ≤ i.toInt ∧ i.toInt + 1 ≤ M (5 + s) 2)) (h2 : M (5 + s) 2 ≤ 24) : CI l g ad dsX 55 yX5_item cX5_item 7 (some .int) 4 [.ref (ad 0), .int (nI s), .int (nI ln), .int i, .long v] M J (nI 4294967283) M J := by
  refine CI.of (plainFor_of_name (by decide)) (Nat.le_of_ble_eq_true rfl) (fun p9 e9 s9 m9 args9 below9 meth9 c9 CF hK hr9 hlk9 hP hS ls hl => ?_)
  have hx := CF.1
  have hb := CF.2.1
  have hA : ∀ q, g_A ad 55 q → g_A ad 55 q := fun _ h => h
  have hl : lv_has ls 7 [(0, .ref (ad 0)), (1, .int (nI s)), (2, .int (nI ln)), (3, .int i), (4, .long v)] := hl
  refine lv_aload_n hx hb dX5_item_0 rfl (lv_at hl 0 rfl) ?_
  refine lv_iload_n hx hb dX5_item_1 rfl (lv_at hl 1 rfl) ?_
  refine lv_iload_n hx hb dX5_item_2 rfl (lv_at hl 2 rfl) ?_
  refine lv_iload_n hx hb dX5_item_3 rfl (lv_at hl 3 rfl) ?_
  refine lv_iconst (v := nI 1) hx hb dX5_item_4 (by decide) ?_
  refine x_callVI CF hK hP hS hA hl (As := [.int (nI s), .int (nI ln), .int i, .int (nI 1)]) (rest := []) (c_ref_index hI M J s ln (by omega) (by omega) i (nI 1) hl9 (by rw [tz (by omega)]; omega) h2) kw_X5_refusalOf wd3_28 (by decide) dX_0 rfl rfl ⟨Nat.le_of_ble_eq_true rfl, Nat.le_of_ble_eq_true rfl⟩ ⟨Nat.le_refl _, Nat.le_refl _⟩ (Nat.le_of_ble_eq_true rfl) dX5_item_5 (fun H locs hP hS => ?_)
  refine lv_istore (lv' := [(6, .int (nI 4294967283)), (0, .ref (ad 0)), (1, .int (nI s)), (2, .int (nI ln)), (3, .int i), (4, .long v)]) hx hb dX5_item_8 hl (by decide) rfl (fun ls hl => ?_)
  refine lv_iload hx hb dX5_item_10 (lv_at hl 0 rfl) ?_
  refine x_yge (u := (-13 : Int)) (tgt := 18) hx hb (rfl) dX5_item_12 (by decide) (fun h_1 => (by omega : False).elim) (fun h_1 => ?_)
  refine lv_iload hx hb dX5_item_15 (lv_at hl 0 rfl) ?_
  exact x_reti hx hb hr9 hlk9 hS hP (by first | rfl | (show nI 4294967283 = nI 4294967283; first | rfl | omega)) dX5_item_17
set_option maxHeartbeats 4000000 in
set_option maxRecDepth 100000 in
theorem f_item_bad {l : Launch} {g : gE} {ad : Nat → Nat} (hI : g_inj ad 55) (M : gMem) (J : gMeL) (s ln : Int32) (i : Int32) (v : Int64) (h : ¬ (inR s 4 ∧ inR ln 3)) : CI l g ad dsX 55 yX5_item cX5_item 7 (some .int) 4 [.ref (ad 0), .int s, .int ln, .int i, .long v] M J (nI 4294967295) M J := by
  refine CI.of (plainFor_of_name (by decide)) (Nat.le_of_ble_eq_true rfl) (fun p9 e9 s9 m9 args9 below9 meth9 c9 CF hK hr9 hlk9 hP hS ls hl => ?_)
  have hx := CF.1
  have hb := CF.2.1
  have hA : ∀ q, g_A ad 55 q → g_A ad 55 q := fun _ h => h
  have hl : lv_has ls 7 [(0, .ref (ad 0)), (1, .int s), (2, .int ln), (3, .int i), (4, .long v)] := hl
  refine lv_aload_n hx hb dX5_item_0 rfl (lv_at hl 0 rfl) ?_
  refine lv_iload_n hx hb dX5_item_1 rfl (lv_at hl 1 rfl) ?_
  refine lv_iload_n hx hb dX5_item_2 rfl (lv_at hl 2 rfl) ?_
  refine lv_iload_n hx hb dX5_item_3 rfl (lv_at hl 3 rfl) ?_
  refine lv_iconst (v := nI 1) hx hb dX5_item_4 (by decide) ?_
  refine x_callVI CF hK hP hS hA hl (As := [.int s, .int ln, .int i, .int (nI 1)]) (rest := []) (c_ref_bad hI M J s ln i (nI 1) h) kw_X5_refusalOf wd3_28 (by decide) dX_0 rfl rfl ⟨Nat.le_of_ble_eq_true rfl, Nat.le_of_ble_eq_true rfl⟩ ⟨Nat.le_refl _, Nat.le_refl _⟩ (Nat.le_of_ble_eq_true rfl) dX5_item_5 (fun H locs hP hS => ?_)
  refine lv_istore (lv' := [(6, .int (nI 4294967295)), (0, .ref (ad 0)), (1, .int s), (2, .int ln), (3, .int i), (4, .long v)]) hx hb dX5_item_8 hl (by decide) rfl (fun ls hl => ?_)
  refine lv_iload hx hb dX5_item_10 (lv_at hl 0 rfl) ?_
  refine x_yge (u := (-1 : Int)) (tgt := 18) hx hb (rfl) dX5_item_12 (by decide) (fun h_1 => (by omega : False).elim) (fun h_1 => ?_)
  refine lv_iload hx hb dX5_item_15 (lv_at hl 0 rfl) ?_
  exact x_reti hx hb hr9 hlk9 hS hP (by first | rfl | (show nI 4294967295 = nI 4294967295; first | rfl | omega)) dX5_item_17
set_option maxHeartbeats 4000000 in
set_option maxRecDepth 100000 in
theorem f_film_ok {l : Launch} {g : gE} {ad : Nat → Nat} (hI : g_inj ad 55) (M : gMem) (J : gMeL) (hw : wfX M) (k : Nat) (hk : k < M 23 3) (s ln : Nat) (hs : s < 4) (hln : ln < 3) (i : Nat) (hl9 : M (5 + s) 1 = ln) (h : i + 12 ≤ M (5 + s) 2) (h2 : M (5 + s) 2 ≤ 24) : CI l g ad dsX 55 yX5_film cX5_film 8 (some .int) 7 [.ref (ad 0), .int (nI k), .int (nI s), .int (nI ln), .int (nI i)] M J (nI 12) M (flm M J k s i 12) := by
  refine CI.of (plainFor_of_name (by decide)) (Nat.le_of_ble_eq_true rfl) (fun p9 e9 s9 m9 args9 below9 meth9 c9 CF hK hr9 hlk9 hP hS ls hl => ?_)
  have hx := CF.1
  have hb := CF.2.1
  have hA : ∀ q, g_A ad 55 q → g_A ad 55 q := fun _ h => h
  have hl : lv_has ls 8 [(0, .ref (ad 0)), (1, .int (nI k)), (2, .int (nI s)), (3, .int (nI ln)), (4, .int (nI i))] := hl
  have hnc := hw.nc
  have hnf := hw.nf
  have hf := hw.fig (show k < 5 by have := hw.nf; omega)
  refine lv_aload_n hx hb dX5_film_0 rfl (lv_at hl 0 rfl) ?_
  refine lv_iload_n hx hb dX5_film_1 rfl (lv_at hl 1 rfl) ?_
  refine x_callVI CF hK hP hS hA hl (As := [.int (nI k)]) (rest := []) (c_isFigure_t hI M J k (by omega) (by omega)) kw_X5_isFigure wd2_27 (by decide) dX_0 rfl rfl ⟨Nat.le_of_ble_eq_true rfl, Nat.le_of_ble_eq_true rfl⟩ ⟨Nat.le_refl _, Nat.le_refl _⟩ (Nat.le_of_ble_eq_true rfl) dX5_film_2 (fun H locs hP hS => ?_)
  refine x_yne (u := (1 : Int)) (tgt := 10) hx hb (rfl) dX5_film_5 (by decide) (fun h_1 => ?_) (fun h_1 => (by omega : False).elim)
  refine lv_aload_n hx hb dX5_film_10 rfl (lv_at hl 0 rfl) ?_
  refine lv_iload_n hx hb dX5_film_11 rfl (lv_at hl 2 rfl) ?_
  refine lv_iload_n hx hb dX5_film_12 rfl (lv_at hl 3 rfl) ?_
  refine lv_iload hx hb dX5_film_13 (lv_at hl 4 rfl) ?_
  refine lv_bipush (v := nI 12) hx hb dX5_film_15 (by decide) ?_
  refine x_callVI CF hK hP hS hA hl (As := [.int (nI s), .int (nI ln), .int (nI i), .int (nI 12)]) (rest := []) (c_ref_ok hI M J s ln (by omega) (by omega) i 12 hl9 h h2) kw_X5_refusalOf wd3_28 (by decide) dX_0 rfl rfl ⟨Nat.le_of_ble_eq_true rfl, Nat.le_of_ble_eq_true rfl⟩ ⟨Nat.le_refl _, Nat.le_refl _⟩ (Nat.le_of_ble_eq_true rfl) dX5_film_17 (fun H locs hP hS => ?_)
  refine lv_istore (lv' := [(5, .int (nI 0)), (0, .ref (ad 0)), (1, .int (nI k)), (2, .int (nI s)), (3, .int (nI ln)), (4, .int (nI i))]) hx hb dX5_film_20 hl (by decide) rfl (fun ls hl => ?_)
  refine lv_iload hx hb dX5_film_22 (lv_at hl 0 rfl) ?_
  refine x_yge (u := (0 : Int)) (tgt := 30) hx hb (rfl) dX5_film_24 (by decide) (fun h_2 => ?_) (fun h_2 => (by omega : False).elim)
  refine lv_aload_n hx hb dX5_film_30 rfl (lv_at hl 1 rfl) ?_
  refine x_getr CF hK hP 0 (by decide) dX_0 rfl uX5 0 (by decide) (j := 23) rfl wd1_164 rfl dX5_film_31 ?_
  refine x_getr CF hK hP 23 (by decide) dX_23 rfl uX1 2 (by decide) (j := 31) rfl wd1_72 rfl dX5_film_34 ?_
  refine lv_iload_n hx hb dX5_film_37 rfl (lv_at hl 2 rfl) ?_
  refine x_aald CF hK hP 31 (by decide) (t := 0) dX_31 (by decide) k (by omega) (by decide) (j := (32 + k)) (oX_fig k (by omega)) dX5_film_38 ?_
  refine lv_astore (lv' := [(6, .ref (ad (32 + k))), (5, .int (nI 0)), (0, .ref (ad 0)), (1, .int (nI k)), (2, .int (nI s)), (3, .int (nI ln)), (4, .int (nI i))]) hx hb dX5_film_39 hl (by decide) rfl (fun ls hl => ?_)
  refine lv_iconst (v := nI 0) hx hb dX5_film_41 (by decide) ?_
  refine lv_istore (lv' := [(7, .int (nI 0)), (6, .ref (ad (32 + k))), (5, .int (nI 0)), (0, .ref (ad 0)), (1, .int (nI k)), (2, .int (nI s)), (3, .int (nI ln)), (4, .int (nI i))]) hx hb dX5_film_42 hl (by decide) rfl (fun ls hl => ?_)
  have L44 : ∀ (d44 : Nat) (q : Nat), (q + d44 = 12) → (∀ (H : Heap) (locs : List Loc) (ls : Array Slot), g_P g ad dsX 55 M (flm M J k s i q) H → va_S (g_A ad 55) s9.heap H locs → lv_has ls 8 [(7, .int (nI q)), (6, .ref (ad (32 + k))), (5, .int (nI 0)), (0, .ref (ad 0)), (1, .int (nI k)), (2, .int (nI s)), (3, .int (nI ln)), (4, .int (nI i))] → W p9 l e9 (g_rm 7) s9 m9 args9 below9 meth9 c9 H locs 0 0 (MQ below9 (va_Qi (fun r' (_ : Unit) => r' = (nI 12)) (fun _ t => g_P g ad dsX 55 M (flm M J k s i 12) t.heap) (g_A ad 55)) args9 s9 0 0 (g_A ad 55)) (F0 m9 44 ls [])) := by
    intro d44
    induction d44 with
    | zero =>
      intro q h_q H locs ls hP hS hl
      refine lv_iload hx hb dX5_film_44 (lv_at hl 0 rfl) ?_
      refine lv_bipush (v := nI 12) hx hb dX5_film_46 (by decide) ?_
      refine x_zge (u := (q : Nat)) (v := (12 : Int)) (tgt := 96) hx hb (nI_toInt (by omega)) (rfl) dX5_film_48 (by decide) (fun h_3 => ?_) (fun h_3 => (by omega : False).elim)
      refine lv_bipush (v := nI 12) hx hb dX5_film_96 (by decide) ?_
      exact x_reti hx hb hr9 hlk9 hS (by rw [show 12 = q by omega]; exact hP) (by first | rfl | (show nI 12 = nI 12; first | rfl | omega)) dX5_film_98
    | succ d44 ih44 =>
      intro q h_q H locs ls hP hS hl
      refine lv_iload hx hb dX5_film_44 (lv_at hl 0 rfl) ?_
      refine lv_bipush (v := nI 12) hx hb dX5_film_46 (by decide) ?_
      refine x_zge (u := (q : Nat)) (v := (12 : Int)) (tgt := 96) hx hb (nI_toInt (by omega)) (rfl) dX5_film_48 (by decide) (fun h_4 => (by omega : False).elim) (fun h_4 => ?_)
      refine lv_aload_n hx hb dX5_film_51 rfl (lv_at hl 3 rfl) ?_
      refine x_getr CF hK hP 0 (by decide) dX_0 rfl uX5 4 (by decide) (j := 4) rfl wd1_168 rfl dX5_film_52 ?_
      refine lv_iload_n hx hb dX5_film_55 rfl (lv_at hl 5 rfl) ?_
      refine x_aald CF hK hP 4 (by decide) (t := 1) dX_4 (by decide) s (by omega) (by decide) (j := (5 + s)) (oX_sheet s (by omega)) dX5_film_56 ?_
      refine lv_iload hx hb dX5_film_57 (lv_at hl 7 rfl) ?_
      refine lv_iload hx hb dX5_film_59 (lv_at hl 0 rfl) ?_
      refine x_iadd hx hb dX5_film_61 ?_
      refine lv_aload_n hx hb dX5_film_62 rfl (lv_at hl 3 rfl) ?_
      refine x_getr CF hK hP 0 (by decide) dX_0 rfl uX5 0 (by decide) (j := 23) rfl wd1_164 rfl dX5_film_63 ?_
      refine lv_aload_n hx hb dX5_film_66 rfl (lv_at hl 3 rfl) ?_
      refine x_getr CF hK hP 0 (by decide) dX_0 rfl uX5 0 (by decide) (j := 23) rfl wd1_164 rfl dX5_film_67 ?_
      refine x_getr CF hK hP 23 (by decide) dX_23 rfl uX1 0 (by decide) (j := 24) rfl wd1_68 rfl dX5_film_70 ?_
      refine lv_aload hx hb dX5_film_73 (lv_at hl 1 rfl) ?_
      refine x_geti CF hK hP (32 + k) (by omega) (dX_fig k (by omega)) rfl uX0 1 (by decide) rfl wd1_39 rfl dX5_film_75 ?_
      refine x_aald CF hK hP 24 (by decide) (t := 2) dX_24 (by decide) (M (32 + k) 1) (by omega) (by decide) (j := (25 + (M (32 + k) 1))) (oX_hair (M (32 + k) 1) (by omega)) dX5_film_78 ?_
      refine lv_aload hx hb dX5_film_79 (lv_at hl 1 rfl) ?_
      refine lv_iload hx hb dX5_film_81 (lv_at hl 0 rfl) ?_
      refine x_callVI CF hK hP hS hA hl (As := [.ref (ad (25 + (M (32 + k) 1))), .ref (ad (32 + k)), .int (nI q)]) (rest := [.int (nI (i + q)), .ref (ad (5 + s))]) (c_heightOn_h hI M (flm M J k s i q) hw (M (32 + k) 1) (by omega) k (by omega) q (by omega)) kw_X1_heightOn wd2_102 (by decide) dX_23 rfl rfl ⟨Nat.le_of_ble_eq_true rfl, Nat.le_of_ble_eq_true rfl⟩ ⟨Nat.le_refl _, Nat.le_refl _⟩ (Nat.le_of_ble_eq_true rfl) dX5_film_83 (fun H locs hP hS => ?_)
      refine x_ri (show (nI (hgt (M (25 + (M (32 + k) 1))) (M (32 + k) 2) (M 23 5) (M (32 + k) 0) q)) = nI (hgtX M k q) from rfl) ?_
      refine lv_i2l hx hb dX5_film_86 (nI_l (Nat.lt_of_le_of_lt (hgt_le (fun a ha => hw.hair (by omega) ha) _ _ _ _) (by decide))) ?_
      refine x_callVV CF hK hP hS hA hl (As := [.int (nI (i + q)), .long (lN (hgtX M k q))]) (rest := []) (c_put hI M (flm M J k s i q) s (by omega) (i + q) (by omega) (lN (hgtX M k q)) (by omega)) kw_X3_put wd3_58 (by omega) (dX_sheet s (by omega)) rfl rfl ⟨Nat.le_of_ble_eq_true rfl, Nat.le_of_ble_eq_true rfl⟩ ⟨Nat.le_refl _, Nat.le_refl _⟩ (Nat.le_of_ble_eq_true rfl) dX5_film_87 (fun H locs hP hS => ?_)
      have hP : g_P g ad dsX 55 M (flm M J k s i (q + 1)) H := (by rw [← flm_s]; exact hP)
      refine lv_iinc (v := nI (q + 1)) (lv' := [(7, .int (nI (q + 1))), (6, .ref (ad (32 + k))), (5, .int (nI 0)), (0, .ref (ad 0)), (1, .int (nI k)), (2, .int (nI s)), (3, .int (nI ln)), (4, .int (nI i))]) hx hb dX5_film_90 hl (k := 0) rfl (n_inc q 1) (by decide) rfl (fun ls hl => ?_)
      refine lv_goto (tgt := 44) hx hb dX5_film_93 (by decide) ?_
      have hl0 : lv_has ls 8 [(7, .int (nI (q + 1))), (6, .ref (ad (32 + k))), (5, .int (nI 0)), (0, .ref (ad 0)), (1, .int (nI k)), (2, .int (nI s)), (3, .int (nI ln)), (4, .int (nI i))] := lv_sub hl [0, 1, 2, 3, 4, 5, 6, 7] rfl
      exact ih44 (q + 1) (by omega) _ _ _ (hP) hS hl0
  have hl0 : lv_has ls 8 [(7, .int (nI 0)), (6, .ref (ad (32 + k))), (5, .int (nI 0)), (0, .ref (ad 0)), (1, .int (nI k)), (2, .int (nI s)), (3, .int (nI ln)), (4, .int (nI i))] := lv_sub hl [0, 1, 2, 3, 4, 5, 6, 7] rfl
  exact L44 12 0 (by omega) _ _ _ (by rw [flm_0]; exact hP) hS hl0
set_option maxHeartbeats 4000000 in
set_option maxRecDepth 100000 in
theorem f_film_null {l : Launch} {g : gE} {ad : Nat → Nat} (hI : g_inj ad 55) (M : gMem) (J : gMeL) (hw : wfX M) (k : Nat) (hk : k < M 23 3) (s ln : Nat) (hs : s < 4) (hln : ln < 3) (i : Int32) (h : M (5 + s) 1 = 4294967295) : CI l g ad dsX 55 yX5_film cX5_film 8 (some .int) 7 [.ref (ad 0), .int (nI k), .int (nI s), .int (nI ln), .int i] M J (nI 4294967285) M J := by
  refine CI.of (plainFor_of_name (by decide)) (Nat.le_of_ble_eq_true rfl) (fun p9 e9 s9 m9 args9 below9 meth9 c9 CF hK hr9 hlk9 hP hS ls hl => ?_)
  have hx := CF.1
  have hb := CF.2.1
  have hA : ∀ q, g_A ad 55 q → g_A ad 55 q := fun _ h => h
  have hl : lv_has ls 8 [(0, .ref (ad 0)), (1, .int (nI k)), (2, .int (nI s)), (3, .int (nI ln)), (4, .int i)] := hl
  have hnc := hw.nc
  have hnf := hw.nf
  refine lv_aload_n hx hb dX5_film_0 rfl (lv_at hl 0 rfl) ?_
  refine lv_iload_n hx hb dX5_film_1 rfl (lv_at hl 1 rfl) ?_
  refine x_callVI CF hK hP hS hA hl (As := [.int (nI k)]) (rest := []) (c_isFigure_t hI M J k (by omega) (by omega)) kw_X5_isFigure wd2_27 (by decide) dX_0 rfl rfl ⟨Nat.le_of_ble_eq_true rfl, Nat.le_of_ble_eq_true rfl⟩ ⟨Nat.le_refl _, Nat.le_refl _⟩ (Nat.le_of_ble_eq_true rfl) dX5_film_2 (fun H locs hP hS => ?_)
  refine x_yne (u := (1 : Int)) (tgt := 10) hx hb (rfl) dX5_film_5 (by decide) (fun h_1 => ?_) (fun h_1 => (by omega : False).elim)
  refine lv_aload_n hx hb dX5_film_10 rfl (lv_at hl 0 rfl) ?_
  refine lv_iload_n hx hb dX5_film_11 rfl (lv_at hl 2 rfl) ?_
  refine lv_iload_n hx hb dX5_film_12 rfl (lv_at hl 3 rfl) ?_
  refine lv_iload hx hb dX5_film_13 (lv_at hl 4 rfl) ?_
  refine lv_bipush (v := nI 12) hx hb dX5_film_15 (by decide) ?_
  refine x_callVI CF hK hP hS hA hl (As := [.int (nI s), .int (nI ln), .int i, .int (nI 12)]) (rest := []) (c_ref_null hI M J s ln (by omega) (by omega) i (nI 12) h) kw_X5_refusalOf wd3_28 (by decide) dX_0 rfl rfl ⟨Nat.le_of_ble_eq_true rfl, Nat.le_of_ble_eq_true rfl⟩ ⟨Nat.le_refl _, Nat.le_refl _⟩ (Nat.le_of_ble_eq_true rfl) dX5_film_17 (fun H locs hP hS => ?_)
  refine lv_istore (lv' := [(5, .int (nI 4294967285)), (0, .ref (ad 0)), (1, .int (nI k)), (2, .int (nI s)), (3, .int (nI ln)), (4, .int i)]) hx hb dX5_film_20 hl (by decide) rfl (fun ls hl => ?_)
  refine lv_iload hx hb dX5_film_22 (lv_at hl 0 rfl) ?_
  refine x_yge (u := (-11 : Int)) (tgt := 30) hx hb (rfl) dX5_film_24 (by decide) (fun h_2 => (by omega : False).elim) (fun h_2 => ?_)
  refine lv_iload hx hb dX5_film_27 (lv_at hl 0 rfl) ?_
  exact x_reti hx hb hr9 hlk9 hS hP (by first | rfl | (show nI 4294967285 = nI 4294967285; first | rfl | omega)) dX5_film_29
set_option maxHeartbeats 4000000 in
set_option maxRecDepth 100000 in
theorem f_film_cast {l : Launch} {g : gE} {ad : Nat → Nat} (hI : g_inj ad 55) (M : gMem) (J : gMeL) (hw : wfX M) (k : Nat) (hk : k < M 23 3) (s ln : Nat) (hs : s < 4) (hln : ln < 3) (i : Int32) (h : M (5 + s) 1 ≤ 2) (h3 : ¬ M (5 + s) 1 = ln) : CI l g ad dsX 55 yX5_film cX5_film 8 (some .int) 7 [.ref (ad 0), .int (nI k), .int (nI s), .int (nI ln), .int i] M J (nI 4294967284) M J := by
  refine CI.of (plainFor_of_name (by decide)) (Nat.le_of_ble_eq_true rfl) (fun p9 e9 s9 m9 args9 below9 meth9 c9 CF hK hr9 hlk9 hP hS ls hl => ?_)
  have hx := CF.1
  have hb := CF.2.1
  have hA : ∀ q, g_A ad 55 q → g_A ad 55 q := fun _ h => h
  have hl : lv_has ls 8 [(0, .ref (ad 0)), (1, .int (nI k)), (2, .int (nI s)), (3, .int (nI ln)), (4, .int i)] := hl
  have hnc := hw.nc
  have hnf := hw.nf
  refine lv_aload_n hx hb dX5_film_0 rfl (lv_at hl 0 rfl) ?_
  refine lv_iload_n hx hb dX5_film_1 rfl (lv_at hl 1 rfl) ?_
  refine x_callVI CF hK hP hS hA hl (As := [.int (nI k)]) (rest := []) (c_isFigure_t hI M J k (by omega) (by omega)) kw_X5_isFigure wd2_27 (by decide) dX_0 rfl rfl ⟨Nat.le_of_ble_eq_true rfl, Nat.le_of_ble_eq_true rfl⟩ ⟨Nat.le_refl _, Nat.le_refl _⟩ (Nat.le_of_ble_eq_true rfl) dX5_film_2 (fun H locs hP hS => ?_)
  refine x_yne (u := (1 : Int)) (tgt := 10) hx hb (rfl) dX5_film_5 (by decide) (fun h_1 => ?_) (fun h_1 => (by omega : False).elim)
  refine lv_aload_n hx hb dX5_film_10 rfl (lv_at hl 0 rfl) ?_
  refine lv_iload_n hx hb dX5_film_11 rfl (lv_at hl 2 rfl) ?_
  refine lv_iload_n hx hb dX5_film_12 rfl (lv_at hl 3 rfl) ?_
  refine lv_iload hx hb dX5_film_13 (lv_at hl 4 rfl) ?_
  refine lv_bipush (v := nI 12) hx hb dX5_film_15 (by decide) ?_
  refine x_callVI CF hK hP hS hA hl (As := [.int (nI s), .int (nI ln), .int i, .int (nI 12)]) (rest := []) (c_ref_cast hI M J s ln (by omega) (by omega) i (nI 12) h h3) kw_X5_refusalOf wd3_28 (by decide) dX_0 rfl rfl ⟨Nat.le_of_ble_eq_true rfl, Nat.le_of_ble_eq_true rfl⟩ ⟨Nat.le_refl _, Nat.le_refl _⟩ (Nat.le_of_ble_eq_true rfl) dX5_film_17 (fun H locs hP hS => ?_)
  refine lv_istore (lv' := [(5, .int (nI 4294967284)), (0, .ref (ad 0)), (1, .int (nI k)), (2, .int (nI s)), (3, .int (nI ln)), (4, .int i)]) hx hb dX5_film_20 hl (by decide) rfl (fun ls hl => ?_)
  refine lv_iload hx hb dX5_film_22 (lv_at hl 0 rfl) ?_
  refine x_yge (u := (-12 : Int)) (tgt := 30) hx hb (rfl) dX5_film_24 (by decide) (fun h_2 => (by omega : False).elim) (fun h_2 => ?_)
  refine lv_iload hx hb dX5_film_27 (lv_at hl 0 rfl) ?_
  exact x_reti hx hb hr9 hlk9 hS hP (by first | rfl | (show nI 4294967284 = nI 4294967284; first | rfl | omega)) dX5_film_29
set_option maxHeartbeats 4000000 in
set_option maxRecDepth 100000 in
theorem f_film_index {l : Launch} {g : gE} {ad : Nat → Nat} (hI : g_inj ad 55) (M : gMem) (J : gMeL) (hw : wfX M) (k : Nat) (hk : k < M 23 3) (s ln : Nat) (hs : s < 4) (hln : ln < 3) (i : Int32) (hl9 : M (5 + s) 1 = ln) (h : ¬ (0 ≤ i.toInt ∧ i.toInt + 12 ≤ M (5 + s) 2)) (h2 : M (5 + s) 2 ≤ 24) : CI l g ad dsX 55 yX5_film cX5_film 8 (some .int) 7 [.ref (ad 0), .int (nI k), .int (nI s), .int (nI ln), .int i] M J (nI 4294967283) M J := by
  refine CI.of (plainFor_of_name (by decide)) (Nat.le_of_ble_eq_true rfl) (fun p9 e9 s9 m9 args9 below9 meth9 c9 CF hK hr9 hlk9 hP hS ls hl => ?_)
  have hx := CF.1
  have hb := CF.2.1
  have hA : ∀ q, g_A ad 55 q → g_A ad 55 q := fun _ h => h
  have hl : lv_has ls 8 [(0, .ref (ad 0)), (1, .int (nI k)), (2, .int (nI s)), (3, .int (nI ln)), (4, .int i)] := hl
  have hnc := hw.nc
  have hnf := hw.nf
  refine lv_aload_n hx hb dX5_film_0 rfl (lv_at hl 0 rfl) ?_
  refine lv_iload_n hx hb dX5_film_1 rfl (lv_at hl 1 rfl) ?_
  refine x_callVI CF hK hP hS hA hl (As := [.int (nI k)]) (rest := []) (c_isFigure_t hI M J k (by omega) (by omega)) kw_X5_isFigure wd2_27 (by decide) dX_0 rfl rfl ⟨Nat.le_of_ble_eq_true rfl, Nat.le_of_ble_eq_true rfl⟩ ⟨Nat.le_refl _, Nat.le_refl _⟩ (Nat.le_of_ble_eq_true rfl) dX5_film_2 (fun H locs hP hS => ?_)
  refine x_yne (u := (1 : Int)) (tgt := 10) hx hb (rfl) dX5_film_5 (by decide) (fun h_1 => ?_) (fun h_1 => (by omega : False).elim)
  refine lv_aload_n hx hb dX5_film_10 rfl (lv_at hl 0 rfl) ?_
  refine lv_iload_n hx hb dX5_film_11 rfl (lv_at hl 2 rfl) ?_
  refine lv_iload_n hx hb dX5_film_12 rfl (lv_at hl 3 rfl) ?_
  refine lv_iload hx hb dX5_film_13 (lv_at hl 4 rfl) ?_
  refine lv_bipush (v := nI 12) hx hb dX5_film_15 (by decide) ?_
  refine x_callVI CF hK hP hS hA hl (As := [.int (nI s), .int (nI ln), .int i, .int (nI 12)]) (rest := []) (c_ref_index hI M J s ln (by omega) (by omega) i (nI 12) hl9 (by rw [tz (by omega)]; omega) h2) kw_X5_refusalOf wd3_28 (by decide) dX_0 rfl rfl ⟨Nat.le_of_ble_eq_true rfl, Nat.le_of_ble_eq_true rfl⟩ ⟨Nat.le_refl _, Nat.le_refl _⟩ (Nat.le_of_ble_eq_true rfl) dX5_film_17 (fun H locs hP hS => ?_)
  refine lv_istore (lv' := [(5, .int (nI 4294967283)), (0, .ref (ad 0)), (1, .int (nI k)), (2, .int (nI s)), (3, .int (nI ln)), (4, .int i)]) hx hb dX5_film_20 hl (by decide) rfl (fun ls hl => ?_)
  refine lv_iload hx hb dX5_film_22 (lv_at hl 0 rfl) ?_
  refine x_yge (u := (-13 : Int)) (tgt := 30) hx hb (rfl) dX5_film_24 (by decide) (fun h_2 => (by omega : False).elim) (fun h_2 => ?_)
  refine lv_iload hx hb dX5_film_27 (lv_at hl 0 rfl) ?_
  exact x_reti hx hb hr9 hlk9 hS hP (by first | rfl | (show nI 4294967283 = nI 4294967283; first | rfl | omega)) dX5_film_29
set_option maxHeartbeats 4000000 in
set_option maxRecDepth 100000 in
theorem f_film_bad {l : Launch} {g : gE} {ad : Nat → Nat} (hI : g_inj ad 55) (M : gMem) (J : gMeL) (hw : wfX M) (k : Nat) (hk : k < M 23 3) (s ln : Int32) (i : Int32) (h : ¬ (inR s 4 ∧ inR ln 3)) : CI l g ad dsX 55 yX5_film cX5_film 8 (some .int) 7 [.ref (ad 0), .int (nI k), .int s, .int ln, .int i] M J (nI 4294967295) M J := by
  refine CI.of (plainFor_of_name (by decide)) (Nat.le_of_ble_eq_true rfl) (fun p9 e9 s9 m9 args9 below9 meth9 c9 CF hK hr9 hlk9 hP hS ls hl => ?_)
  have hx := CF.1
  have hb := CF.2.1
  have hA : ∀ q, g_A ad 55 q → g_A ad 55 q := fun _ h => h
  have hl : lv_has ls 8 [(0, .ref (ad 0)), (1, .int (nI k)), (2, .int s), (3, .int ln), (4, .int i)] := hl
  have hnc := hw.nc
  have hnf := hw.nf
  refine lv_aload_n hx hb dX5_film_0 rfl (lv_at hl 0 rfl) ?_
  refine lv_iload_n hx hb dX5_film_1 rfl (lv_at hl 1 rfl) ?_
  refine x_callVI CF hK hP hS hA hl (As := [.int (nI k)]) (rest := []) (c_isFigure_t hI M J k (by omega) (by omega)) kw_X5_isFigure wd2_27 (by decide) dX_0 rfl rfl ⟨Nat.le_of_ble_eq_true rfl, Nat.le_of_ble_eq_true rfl⟩ ⟨Nat.le_refl _, Nat.le_refl _⟩ (Nat.le_of_ble_eq_true rfl) dX5_film_2 (fun H locs hP hS => ?_)
  refine x_yne (u := (1 : Int)) (tgt := 10) hx hb (rfl) dX5_film_5 (by decide) (fun h_1 => ?_) (fun h_1 => (by omega : False).elim)
  refine lv_aload_n hx hb dX5_film_10 rfl (lv_at hl 0 rfl) ?_
  refine lv_iload_n hx hb dX5_film_11 rfl (lv_at hl 2 rfl) ?_
  refine lv_iload_n hx hb dX5_film_12 rfl (lv_at hl 3 rfl) ?_
  refine lv_iload hx hb dX5_film_13 (lv_at hl 4 rfl) ?_
  refine lv_bipush (v := nI 12) hx hb dX5_film_15 (by decide) ?_
  refine x_callVI CF hK hP hS hA hl (As := [.int s, .int ln, .int i, .int (nI 12)]) (rest := []) (c_ref_bad hI M J s ln i (nI 12) h) kw_X5_refusalOf wd3_28 (by decide) dX_0 rfl rfl ⟨Nat.le_of_ble_eq_true rfl, Nat.le_of_ble_eq_true rfl⟩ ⟨Nat.le_refl _, Nat.le_refl _⟩ (Nat.le_of_ble_eq_true rfl) dX5_film_17 (fun H locs hP hS => ?_)
  refine lv_istore (lv' := [(5, .int (nI 4294967295)), (0, .ref (ad 0)), (1, .int (nI k)), (2, .int s), (3, .int ln), (4, .int i)]) hx hb dX5_film_20 hl (by decide) rfl (fun ls hl => ?_)
  refine lv_iload hx hb dX5_film_22 (lv_at hl 0 rfl) ?_
  refine x_yge (u := (-1 : Int)) (tgt := 30) hx hb (rfl) dX5_film_24 (by decide) (fun h_2 => (by omega : False).elim) (fun h_2 => ?_)
  refine lv_iload hx hb dX5_film_27 (lv_at hl 0 rfl) ?_
  exact x_reti hx hb hr9 hlk9 hS hP (by first | rfl | (show nI 4294967295 = nI 4294967295; first | rfl | omega)) dX5_film_29
set_option maxHeartbeats 4000000 in
set_option maxRecDepth 100000 in
theorem f_film_fig {l : Launch} {g : gE} {ad : Nat → Nat} (hI : g_inj ad 55) (M : gMem) (J : gMeL) (hw : wfX M) (k s ln i : Int32) (h : ¬ inR k (M 23 3)) : CI l g ad dsX 55 yX5_film cX5_film 8 (some .int) 7 [.ref (ad 0), .int k, .int s, .int ln, .int i] M J (nI 4294967295) M J := by
  refine CI.of (plainFor_of_name (by decide)) (Nat.le_of_ble_eq_true rfl) (fun p9 e9 s9 m9 args9 below9 meth9 c9 CF hK hr9 hlk9 hP hS ls hl => ?_)
  have hx := CF.1
  have hb := CF.2.1
  have hA : ∀ q, g_A ad 55 q → g_A ad 55 q := fun _ h => h
  have hl : lv_has ls 8 [(0, .ref (ad 0)), (1, .int k), (2, .int s), (3, .int ln), (4, .int i)] := hl
  have hnc := hw.nc
  have hnf := hw.nf
  refine lv_aload_n hx hb dX5_film_0 rfl (lv_at hl 0 rfl) ?_
  refine lv_iload_n hx hb dX5_film_1 rfl (lv_at hl 1 rfl) ?_
  rcases n_int (x := k) (n := M 23 3) (by omega) with ⟨k1, h_k1, rfl⟩ | ho_k
  · refine x_callVI CF hK hP hS hA hl (As := [.int (nI k1)]) (rest := []) (c_isFigure_t hI M J k1 (by omega) (by omega)) kw_X5_isFigure wd2_27 (by decide) dX_0 rfl rfl ⟨Nat.le_of_ble_eq_true rfl, Nat.le_of_ble_eq_true rfl⟩ ⟨Nat.le_refl _, Nat.le_refl _⟩ (Nat.le_of_ble_eq_true rfl) dX5_film_2 (fun H locs hP hS => ?_)
    refine x_yne (u := (1 : Int)) (tgt := 10) hx hb (rfl) dX5_film_5 (by decide) (fun h_1 => ?_) (fun h_1 => (by omega : False).elim)
    exact absurd (inR_n h_k1 (by omega)) h
  · refine x_callVI CF hK hP hS hA hl (As := [.int k]) (rest := []) (c_isFigure_f hI M J k ho_k (by omega)) kw_X5_isFigure wd2_27 (by decide) dX_0 rfl rfl ⟨Nat.le_of_ble_eq_true rfl, Nat.le_of_ble_eq_true rfl⟩ ⟨Nat.le_refl _, Nat.le_refl _⟩ (Nat.le_of_ble_eq_true rfl) dX5_film_2 (fun H locs hP hS => ?_)
    refine x_yne (u := (0 : Int)) (tgt := 10) hx hb (rfl) dX5_film_5 (by decide) (fun h_2 => (by omega : False).elim) (fun h_2 => ?_)
    refine lv_iconst (v := nI 4294967295) hx hb dX5_film_8 (by decide) ?_
    exact x_reti hx hb hr9 hlk9 hS hP (by first | rfl | (show nI 4294967295 = nI 4294967295; first | rfl | omega)) dX5_film_9
set_option maxHeartbeats 4000000 in
set_option maxRecDepth 100000 in
theorem f_worn_ok {l : Launch} {g : gE} {ad : Nat → Nat} (hI : g_inj ad 55) (M : gMem) (J : gMeL) (hw : wfX M) (w : Nat) (h1 : 1 ≤ w) (hw9 : w < 10) (s ln : Nat) (hs : s < 4) (hln : ln < 3) (i : Nat) (hl9 : M (5 + s) 1 = ln) (h : i + M 23 3 ≤ M (5 + s) 2) (h2 : M (5 + s) 2 ≤ 24) : CI l g ad dsX 55 yX5_worn cX5_worn 9 (some .int) 8 [.ref (ad 0), .int (nI w), .int (nI s), .int (nI ln), .int (nI i)] M J (nI (fnd (if (soN M J s i) = true then 64 else 0) (fun q => soW M J s i w q) (M 23 1))) (wnM M w (M 23 1)) J := by
  refine CI.of (plainFor_of_name (by decide)) (Nat.le_of_ble_eq_true rfl) (fun p9 e9 s9 m9 args9 below9 meth9 c9 CF hK hr9 hlk9 hP hS ls hl => ?_)
  have hx := CF.1
  have hb := CF.2.1
  have hA : ∀ q, g_A ad 55 q → g_A ad 55 q := fun _ h => h
  have hl : lv_has ls 9 [(0, .ref (ad 0)), (1, .int (nI w)), (2, .int (nI s)), (3, .int (nI ln)), (4, .int (nI i))] := hl
  have hnc := hw.nc
  have hnf := hw.nf
  refine lv_iload_n hx hb dX5_worn_0 rfl (lv_at hl 1 rfl) ?_
  refine lv_iconst (v := nI 1) hx hb dX5_worn_1 (by decide) ?_
  refine lv_bipush (v := nI 9) hx hb dX5_worn_2 (by decide) ?_
  refine x_callSP CF hK hP hS hl (As := [.int (nI w), .int (nI 1), .int (nI 9)]) (rest := []) (c_isWithin_t _ _ _ (w_in (by omega) (by omega) (by omega))) kw_X5_isWithin wd1_190 rfl ⟨Nat.le_of_ble_eq_true rfl, Nat.le_of_ble_eq_true rfl⟩ ⟨Nat.le_refl _, Nat.le_refl _⟩ (Nat.le_of_ble_eq_true rfl) dX5_worn_4 (fun H locs hP hS => ?_)
  refine x_yne (u := (1 : Int)) (tgt := 12) hx hb (rfl) dX5_worn_7 (by decide) (fun h_1 => ?_) (fun h_1 => (by omega : False).elim)
  refine lv_aload_n hx hb dX5_worn_12 rfl (lv_at hl 0 rfl) ?_
  refine lv_iload_n hx hb dX5_worn_13 rfl (lv_at hl 2 rfl) ?_
  refine lv_iload_n hx hb dX5_worn_14 rfl (lv_at hl 3 rfl) ?_
  refine lv_iload hx hb dX5_worn_15 (lv_at hl 4 rfl) ?_
  refine lv_aload_n hx hb dX5_worn_17 rfl (lv_at hl 0 rfl) ?_
  refine x_getr CF hK hP 0 (by decide) dX_0 rfl uX5 0 (by decide) (j := 23) rfl wd1_164 rfl dX5_worn_18 ?_
  refine x_geti CF hK hP 23 (by decide) dX_23 rfl uX1 3 (by decide) rfl wd1_74 rfl dX5_worn_21 ?_
  refine x_callVI CF hK hP hS hA hl (As := [.int (nI s), .int (nI ln), .int (nI i), .int (nI (M 23 3))]) (rest := []) (c_ref_ok hI M J s ln (by omega) (by omega) i (M 23 3) hl9 h h2) kw_X5_refusalOf wd3_28 (by decide) dX_0 rfl rfl ⟨Nat.le_of_ble_eq_true rfl, Nat.le_of_ble_eq_true rfl⟩ ⟨Nat.le_refl _, Nat.le_refl _⟩ (Nat.le_of_ble_eq_true rfl) dX5_worn_24 (fun H locs hP hS => ?_)
  refine lv_istore (lv' := [(5, .int (nI 0)), (0, .ref (ad 0)), (1, .int (nI w)), (2, .int (nI s)), (3, .int (nI ln)), (4, .int (nI i))]) hx hb dX5_worn_27 hl (by decide) rfl (fun ls hl => ?_)
  refine lv_iload hx hb dX5_worn_29 (lv_at hl 0 rfl) ?_
  refine x_yge (u := (0 : Int)) (tgt := 37) hx hb (rfl) dX5_worn_31 (by decide) (fun h_2 => ?_) (fun h_2 => (by omega : False).elim)
  refine lv_aload_n hx hb dX5_worn_37 rfl (lv_at hl 1 rfl) ?_
  refine x_getr CF hK hP 0 (by decide) dX_0 rfl uX5 4 (by decide) (j := 4) rfl wd1_168 rfl dX5_worn_38 ?_
  refine lv_iload_n hx hb dX5_worn_41 rfl (lv_at hl 3 rfl) ?_
  refine x_aald CF hK hP 4 (by decide) (t := 1) dX_4 (by decide) s (by omega) (by decide) (j := (5 + s)) (oX_sheet s (by omega)) dX5_worn_42 ?_
  refine lv_astore (lv' := [(6, .ref (ad (5 + s))), (5, .int (nI 0)), (0, .ref (ad 0)), (1, .int (nI w)), (2, .int (nI s)), (3, .int (nI ln)), (4, .int (nI i))]) hx hb dX5_worn_43 hl (by decide) rfl (fun ls hl => ?_)
  refine lv_aload_n hx hb dX5_worn_45 rfl (lv_at hl 2 rfl) ?_
  refine lv_aload hx hb dX5_worn_46 (lv_at hl 0 rfl) ?_
  refine lv_iload hx hb dX5_worn_48 (lv_at hl 6 rfl) ?_
  refine lv_iconst (v := nI 4294967295) hx hb dX5_worn_50 (by decide) ?_
  refine x_callVI CF hK hP hS hA hl (As := [.ref (ad (5 + s)), .int (nI i), .int (nI 4294967295)]) (rest := []) (c_isSo_n hI M J hw s i (by omega) (by omega)) kw_X5_isSo wd3_46 (by decide) dX_0 rfl rfl ⟨Nat.le_of_ble_eq_true rfl, Nat.le_of_ble_eq_true rfl⟩ ⟨Nat.le_refl _, Nat.le_refl _⟩ (Nat.le_of_ble_eq_true rfl) dX5_worn_51 (fun H locs hP hS => ?_)
  refine x_ri (show (nI (b2n (allF (fun k => decide (J (9 + s) (i + k) = lN (upsW M 4294967295 k))) 0 (M 23 3)))) = nI (b2n (soN M J s i)) from congrArg nI (by rw [soN_ok hw])) ?_
  refine x_yeq (u := (b2n (soN M J s i) : Nat)) (tgt := 62) hx hb (nI_toInt (Nat.lt_of_le_of_lt (b2n_le _) (by decide))) dX5_worn_54 (by decide) (fun h_3 => ?_) (fun h_3 => ?_)
  · refine lv_iconst (v := nI 0) hx hb dX5_worn_62 (by decide) ?_
    refine lv_istore (lv' := [(7, .int (nI 0)), (6, .ref (ad (5 + s))), (5, .int (nI 0)), (0, .ref (ad 0)), (1, .int (nI w)), (2, .int (nI s)), (3, .int (nI ln)), (4, .int (nI i))]) hx hb dX5_worn_63 hl (by decide) rfl (fun ls hl => ?_)
    refine lv_iconst (v := nI 0) hx hb dX5_worn_65 (by decide) ?_
    refine lv_istore (lv' := [(8, .int (nI 0)), (7, .int (nI 0)), (6, .ref (ad (5 + s))), (5, .int (nI 0)), (0, .ref (ad 0)), (1, .int (nI w)), (2, .int (nI s)), (3, .int (nI ln)), (4, .int (nI i))]) hx hb dX5_worn_66 hl (by decide) rfl (fun ls hl => ?_)
    have L68 : ∀ (d68 : Nat) (c : Nat), (c + d68 = (M 23 1)) → (∀ (H : Heap) (locs : List Loc) (ls : Array Slot), g_P g ad dsX 55 (wnM M w c) J H → va_S (g_A ad 55) s9.heap H locs → lv_has ls 9 [(8, .int (nI c)), (7, .int (nI (fnd (if (soN M J s i) = true then 64 else 0) (fun q => soW M J s i w q) c))), (6, .ref (ad (5 + s))), (5, .int (nI 0)), (0, .ref (ad 0)), (1, .int (nI w)), (2, .int (nI s)), (3, .int (nI ln)), (4, .int (nI i))] → W p9 l e9 (g_rm 8) s9 m9 args9 below9 meth9 c9 H locs 0 0 (MQ below9 (va_Qi (fun r' (_ : Unit) => r' = (nI (fnd (if (soN M J s i) = true then 64 else 0) (fun q => soW M J s i w q) (M 23 1)))) (fun _ t => g_P g ad dsX 55 (wnM M w (M 23 1)) J t.heap) (g_A ad 55)) args9 s9 0 0 (g_A ad 55)) (F0 m9 68 ls [])) := by
      intro d68
      induction d68 with
      | zero =>
        intro c h_c H locs ls hP hS hl
        refine lv_iload hx hb dX5_worn_68 (lv_at hl 0 rfl) ?_
        refine lv_aload_n hx hb dX5_worn_70 rfl (lv_at hl 4 rfl) ?_
        refine x_getr CF hK hP 0 (by decide) dX_0 rfl uX5 0 (by decide) (j := 23) rfl wd1_164 rfl dX5_worn_71 ?_
        refine x_geti CF hK hP 23 (by decide) dX_23 rfl uX1 1 (by decide) rfl wd1_70 rfl dX5_worn_74 ?_
        refine x_ri (show (nI ((wnM M w c) 23 1)) = nI (M 23 1) from by rw [wnM_out (by omega)]) ?_
        refine x_zge (u := (c : Nat)) (v := (M 23 1 : Nat)) (tgt := 126) hx hb (nI_toInt (by omega)) (nI_toInt (by omega)) dX5_worn_77 (by decide) (fun h_4 => ?_) (fun h_4 => (by omega : False).elim)
        refine lv_iload hx hb dX5_worn_126 (lv_at hl 1 rfl) ?_
        exact x_reti hx hb hr9 hlk9 hS (by rw [show M 23 1 = c by omega]; exact hP) (by rw [show c = M 23 1 by omega]) dX5_worn_128
      | succ d68 ih68 =>
        intro c h_c H locs ls hP hS hl
        have hq9 : ∀ a, a < 12 → wnM M w c (25 + c) a ≤ 9 := fun a ha => by rw [wnM_out (by omega)]; exact hw.hair (by omega) ha
        have hq22 : ∀ a, a < 12 → wnM M w (c + 1) 22 a ≤ 9 := fun a ha => by show rowN M 22 12 _ 22 a ≤ 9; rw [rowN_in ha]; exact Nat.le_trans (Nat.sub_le _ _) (hw.hair (by omega) ha)
        refine lv_iload hx hb dX5_worn_68 (lv_at hl 0 rfl) ?_
        refine lv_aload_n hx hb dX5_worn_70 rfl (lv_at hl 4 rfl) ?_
        refine x_getr CF hK hP 0 (by decide) dX_0 rfl uX5 0 (by decide) (j := 23) rfl wd1_164 rfl dX5_worn_71 ?_
        refine x_geti CF hK hP 23 (by decide) dX_23 rfl uX1 1 (by decide) rfl wd1_70 rfl dX5_worn_74 ?_
        refine x_ri (show (nI ((wnM M w c) 23 1)) = nI (M 23 1) from by rw [wnM_out (by omega)]) ?_
        refine x_zge (u := (c : Nat)) (v := (M 23 1 : Nat)) (tgt := 126) hx hb (nI_toInt (by omega)) (nI_toInt (by omega)) dX5_worn_77 (by decide) (fun h_5 => (by omega : False).elim) (fun h_5 => ?_)
        refine lv_aload_n hx hb dX5_worn_80 rfl (lv_at hl 4 rfl) ?_
        refine x_getr CF hK hP 0 (by decide) dX_0 rfl uX5 6 (by decide) (j := 22) rfl wd1_170 rfl dX5_worn_81 ?_
        refine lv_aload_n hx hb dX5_worn_84 rfl (lv_at hl 4 rfl) ?_
        refine x_getr CF hK hP 0 (by decide) dX_0 rfl uX5 0 (by decide) (j := 23) rfl wd1_164 rfl dX5_worn_85 ?_
        refine x_getr CF hK hP 23 (by decide) dX_23 rfl uX1 0 (by decide) (j := 24) rfl wd1_68 rfl dX5_worn_88 ?_
        refine lv_iload hx hb dX5_worn_91 (lv_at hl 0 rfl) ?_
        refine x_aald CF hK hP 24 (by decide) (t := 2) dX_24 (by decide) c (by omega) (by decide) (j := (25 + c)) (oX_hair c (by omega)) dX5_worn_93 ?_
        refine lv_iload_n hx hb dX5_worn_94 rfl (lv_at hl 5 rfl) ?_
        refine x_callSV CF hK hP hS hA hl (As := [.ref (ad 22), .ref (ad (25 + c)), .int (nI w)]) (rest := []) (c_lessen hI (wnM M w c) J c (by omega) hq9 w (by omega)) kw_X5_lessenInto wd3_51 rfl ⟨Nat.le_of_ble_eq_true rfl, Nat.le_of_ble_eq_true rfl⟩ ⟨Nat.le_refl _, Nat.le_refl _⟩ (Nat.le_of_ble_eq_true rfl) dX5_worn_95 (fun H locs hP hS => ?_)
        have hP : g_P g ad dsX 55 (wnM M w (c + 1)) J H := (by rw [← wnM_s]; exact hP)
        refine lv_aload_n hx hb dX5_worn_98 rfl (lv_at hl 4 rfl) ?_
        refine lv_aload hx hb dX5_worn_99 (lv_at hl 2 rfl) ?_
        refine lv_iload hx hb dX5_worn_101 (lv_at hl 8 rfl) ?_
        refine lv_iload hx hb dX5_worn_103 (lv_at hl 0 rfl) ?_
        refine x_callVI CF hK hP hS hA hl (As := [.ref (ad (5 + s)), .int (nI i), .int (nI c)]) (rest := []) (c_isSo_c hI (wnM M w (c + 1)) J (hw.wn w (c + 1)) s i c (by omega) (by rw [wnM_out (by omega)]; omega) (by omega) hq22) kw_X5_isSo wd3_46 (by decide) dX_0 rfl rfl ⟨Nat.le_of_ble_eq_true rfl, Nat.le_of_ble_eq_true rfl⟩ ⟨Nat.le_refl _, Nat.le_refl _⟩ (Nat.le_of_ble_eq_true rfl) dX5_worn_105 (fun H locs hP hS => ?_)
        refine x_ri (show (nI (b2n (allF (fun k => decide (J (9 + s) (i + k) = lN (upsW (wnM M w (c + 1)) c k))) 0 ((wnM M w (c + 1)) 23 3)))) = nI (b2n (soW M J s i w c)) from congrArg nI (by rw [soW_ok hw])) ?_
        refine x_yeq (u := (b2n (soW M J s i w c) : Nat)) (tgt := 120) hx hb (nI_toInt (Nat.lt_of_le_of_lt (b2n_le _) (by decide))) dX5_worn_108 (by decide) (fun h_6 => ?_) (fun h_6 => ?_)
        · refine lv_iinc (v := nI (c + 1)) (lv' := [(8, .int (nI (c + 1))), (7, .int (nI (fnd (if (soN M J s i) = true then 64 else 0) (fun q => soW M J s i w q) c))), (6, .ref (ad (5 + s))), (5, .int (nI 0)), (0, .ref (ad 0)), (1, .int (nI w)), (2, .int (nI s)), (3, .int (nI ln)), (4, .int (nI i))]) hx hb dX5_worn_120 hl (k := 0) rfl (n_inc c 1) (by decide) rfl (fun ls hl => ?_)
          refine lv_goto (tgt := 68) hx hb dX5_worn_123 (by decide) ?_
          have hl0 : lv_has ls 9 [(8, .int (nI (c + 1))), (7, .int (nI (fnd (if (soN M J s i) = true then 64 else 0) (fun q => soW M J s i w q) (c + 1)))), (6, .ref (ad (5 + s))), (5, .int (nI 0)), (0, .ref (ad 0)), (1, .int (nI w)), (2, .int (nI s)), (3, .int (nI ln)), (4, .int (nI i))] := by rw [(show nI (fnd (if (soN M J s i) = true then 64 else 0) (fun q => soW M J s i w q) (c + 1)) = nI (fnd (if (soN M J s i) = true then 64 else 0) (fun q => soW M J s i w q) c) from by rw [fnd, if_neg (by show ¬ soW M J s i w c = true; rw [b2n_0 h_6]; decide)])]; exact lv_sub hl [0, 1, 2, 3, 4, 5, 6, 7, 8] rfl
          exact ih68 (c + 1) (by omega) _ _ _ (hP) hS hl0
        · refine lv_iload hx hb dX5_worn_111 (lv_at hl 1 rfl) ?_
          refine lv_iconst (v := nI 1) hx hb dX5_worn_113 (by decide) ?_
          refine lv_iload hx hb dX5_worn_114 (lv_at hl 0 rfl) ?_
          refine x_ishl hx hb (by omega) dX5_worn_116 ?_
          refine x_ior hx hb dX5_worn_117 ?_
          refine lv_istore (lv' := [(7, .int (nI ((fnd (if (soN M J s i) = true then 64 else 0) (fun q => soW M J s i w q) c) ||| (1 <<< c)))), (8, .int (nI c)), (6, .ref (ad (5 + s))), (5, .int (nI 0)), (0, .ref (ad 0)), (1, .int (nI w)), (2, .int (nI s)), (3, .int (nI ln)), (4, .int (nI i))]) hx hb dX5_worn_118 hl (by decide) rfl (fun ls hl => ?_)
          refine lv_iinc (v := nI (c + 1)) (lv' := [(8, .int (nI (c + 1))), (7, .int (nI ((fnd (if (soN M J s i) = true then 64 else 0) (fun q => soW M J s i w q) c) ||| (1 <<< c)))), (6, .ref (ad (5 + s))), (5, .int (nI 0)), (0, .ref (ad 0)), (1, .int (nI w)), (2, .int (nI s)), (3, .int (nI ln)), (4, .int (nI i))]) hx hb dX5_worn_120 hl (k := 1) rfl (n_inc c 1) (by decide) rfl (fun ls hl => ?_)
          refine lv_goto (tgt := 68) hx hb dX5_worn_123 (by decide) ?_
          have hl0 : lv_has ls 9 [(8, .int (nI (c + 1))), (7, .int (nI (fnd (if (soN M J s i) = true then 64 else 0) (fun q => soW M J s i w q) (c + 1)))), (6, .ref (ad (5 + s))), (5, .int (nI 0)), (0, .ref (ad 0)), (1, .int (nI w)), (2, .int (nI s)), (3, .int (nI ln)), (4, .int (nI i))] := by rw [(show nI (fnd (if (soN M J s i) = true then 64 else 0) (fun q => soW M J s i w q) (c + 1)) = nI ((fnd (if (soN M J s i) = true then 64 else 0) (fun q => soW M J s i w q) c) ||| (1 <<< c)) from by rw [fnd, if_pos (b2n_1 h_6)])]; exact lv_sub hl [0, 1, 2, 3, 4, 5, 6, 7, 8] rfl
          exact ih68 (c + 1) (by omega) _ _ _ (hP) hS hl0
    have hl0 : lv_has ls 9 [(8, .int (nI 0)), (7, .int (nI (fnd (if (soN M J s i) = true then 64 else 0) (fun q => soW M J s i w q) 0))), (6, .ref (ad (5 + s))), (5, .int (nI 0)), (0, .ref (ad 0)), (1, .int (nI w)), (2, .int (nI s)), (3, .int (nI ln)), (4, .int (nI i))] := by rw [(show nI (fnd (if (soN M J s i) = true then 64 else 0) (fun q => soW M J s i w q) 0) = nI 0 from by rw [fnd, if_neg (by rw [b2n_0 h_3]; decide)])]; exact lv_sub hl [0, 1, 2, 3, 4, 5, 6, 7, 8] rfl
    exact L68 (M 23 1) 0 (by omega) _ _ _ (hP) hS hl0
  · refine lv_bipush (v := nI 64) hx hb dX5_worn_57 (by decide) ?_
    refine lv_goto (tgt := 63) hx hb dX5_worn_59 (by decide) ?_
    refine lv_istore (lv' := [(7, .int (nI 64)), (6, .ref (ad (5 + s))), (5, .int (nI 0)), (0, .ref (ad 0)), (1, .int (nI w)), (2, .int (nI s)), (3, .int (nI ln)), (4, .int (nI i))]) hx hb dX5_worn_63 hl (by decide) rfl (fun ls hl => ?_)
    refine lv_iconst (v := nI 0) hx hb dX5_worn_65 (by decide) ?_
    refine lv_istore (lv' := [(8, .int (nI 0)), (7, .int (nI 64)), (6, .ref (ad (5 + s))), (5, .int (nI 0)), (0, .ref (ad 0)), (1, .int (nI w)), (2, .int (nI s)), (3, .int (nI ln)), (4, .int (nI i))]) hx hb dX5_worn_66 hl (by decide) rfl (fun ls hl => ?_)
    have L68 : ∀ (d68 : Nat) (c : Nat), (c + d68 = (M 23 1)) → (∀ (H : Heap) (locs : List Loc) (ls : Array Slot), g_P g ad dsX 55 (wnM M w c) J H → va_S (g_A ad 55) s9.heap H locs → lv_has ls 9 [(8, .int (nI c)), (7, .int (nI (fnd (if (soN M J s i) = true then 64 else 0) (fun q => soW M J s i w q) c))), (6, .ref (ad (5 + s))), (5, .int (nI 0)), (0, .ref (ad 0)), (1, .int (nI w)), (2, .int (nI s)), (3, .int (nI ln)), (4, .int (nI i))] → W p9 l e9 (g_rm 8) s9 m9 args9 below9 meth9 c9 H locs 0 0 (MQ below9 (va_Qi (fun r' (_ : Unit) => r' = (nI (fnd (if (soN M J s i) = true then 64 else 0) (fun q => soW M J s i w q) (M 23 1)))) (fun _ t => g_P g ad dsX 55 (wnM M w (M 23 1)) J t.heap) (g_A ad 55)) args9 s9 0 0 (g_A ad 55)) (F0 m9 68 ls [])) := by
      intro d68
      induction d68 with
      | zero =>
        intro c h_c H locs ls hP hS hl
        refine lv_iload hx hb dX5_worn_68 (lv_at hl 0 rfl) ?_
        refine lv_aload_n hx hb dX5_worn_70 rfl (lv_at hl 4 rfl) ?_
        refine x_getr CF hK hP 0 (by decide) dX_0 rfl uX5 0 (by decide) (j := 23) rfl wd1_164 rfl dX5_worn_71 ?_
        refine x_geti CF hK hP 23 (by decide) dX_23 rfl uX1 1 (by decide) rfl wd1_70 rfl dX5_worn_74 ?_
        refine x_ri (show (nI ((wnM M w c) 23 1)) = nI (M 23 1) from by rw [wnM_out (by omega)]) ?_
        refine x_zge (u := (c : Nat)) (v := (M 23 1 : Nat)) (tgt := 126) hx hb (nI_toInt (by omega)) (nI_toInt (by omega)) dX5_worn_77 (by decide) (fun h_7 => ?_) (fun h_7 => (by omega : False).elim)
        refine lv_iload hx hb dX5_worn_126 (lv_at hl 1 rfl) ?_
        exact x_reti hx hb hr9 hlk9 hS (by rw [show M 23 1 = c by omega]; exact hP) (by rw [show c = M 23 1 by omega]) dX5_worn_128
      | succ d68 ih68 =>
        intro c h_c H locs ls hP hS hl
        have hq9 : ∀ a, a < 12 → wnM M w c (25 + c) a ≤ 9 := fun a ha => by rw [wnM_out (by omega)]; exact hw.hair (by omega) ha
        have hq22 : ∀ a, a < 12 → wnM M w (c + 1) 22 a ≤ 9 := fun a ha => by show rowN M 22 12 _ 22 a ≤ 9; rw [rowN_in ha]; exact Nat.le_trans (Nat.sub_le _ _) (hw.hair (by omega) ha)
        refine lv_iload hx hb dX5_worn_68 (lv_at hl 0 rfl) ?_
        refine lv_aload_n hx hb dX5_worn_70 rfl (lv_at hl 4 rfl) ?_
        refine x_getr CF hK hP 0 (by decide) dX_0 rfl uX5 0 (by decide) (j := 23) rfl wd1_164 rfl dX5_worn_71 ?_
        refine x_geti CF hK hP 23 (by decide) dX_23 rfl uX1 1 (by decide) rfl wd1_70 rfl dX5_worn_74 ?_
        refine x_ri (show (nI ((wnM M w c) 23 1)) = nI (M 23 1) from by rw [wnM_out (by omega)]) ?_
        refine x_zge (u := (c : Nat)) (v := (M 23 1 : Nat)) (tgt := 126) hx hb (nI_toInt (by omega)) (nI_toInt (by omega)) dX5_worn_77 (by decide) (fun h_8 => (by omega : False).elim) (fun h_8 => ?_)
        refine lv_aload_n hx hb dX5_worn_80 rfl (lv_at hl 4 rfl) ?_
        refine x_getr CF hK hP 0 (by decide) dX_0 rfl uX5 6 (by decide) (j := 22) rfl wd1_170 rfl dX5_worn_81 ?_
        refine lv_aload_n hx hb dX5_worn_84 rfl (lv_at hl 4 rfl) ?_
        refine x_getr CF hK hP 0 (by decide) dX_0 rfl uX5 0 (by decide) (j := 23) rfl wd1_164 rfl dX5_worn_85 ?_
        refine x_getr CF hK hP 23 (by decide) dX_23 rfl uX1 0 (by decide) (j := 24) rfl wd1_68 rfl dX5_worn_88 ?_
        refine lv_iload hx hb dX5_worn_91 (lv_at hl 0 rfl) ?_
        refine x_aald CF hK hP 24 (by decide) (t := 2) dX_24 (by decide) c (by omega) (by decide) (j := (25 + c)) (oX_hair c (by omega)) dX5_worn_93 ?_
        refine lv_iload_n hx hb dX5_worn_94 rfl (lv_at hl 5 rfl) ?_
        refine x_callSV CF hK hP hS hA hl (As := [.ref (ad 22), .ref (ad (25 + c)), .int (nI w)]) (rest := []) (c_lessen hI (wnM M w c) J c (by omega) hq9 w (by omega)) kw_X5_lessenInto wd3_51 rfl ⟨Nat.le_of_ble_eq_true rfl, Nat.le_of_ble_eq_true rfl⟩ ⟨Nat.le_refl _, Nat.le_refl _⟩ (Nat.le_of_ble_eq_true rfl) dX5_worn_95 (fun H locs hP hS => ?_)
        have hP : g_P g ad dsX 55 (wnM M w (c + 1)) J H := (by rw [← wnM_s]; exact hP)
        refine lv_aload_n hx hb dX5_worn_98 rfl (lv_at hl 4 rfl) ?_
        refine lv_aload hx hb dX5_worn_99 (lv_at hl 2 rfl) ?_
        refine lv_iload hx hb dX5_worn_101 (lv_at hl 8 rfl) ?_
        refine lv_iload hx hb dX5_worn_103 (lv_at hl 0 rfl) ?_
        refine x_callVI CF hK hP hS hA hl (As := [.ref (ad (5 + s)), .int (nI i), .int (nI c)]) (rest := []) (c_isSo_c hI (wnM M w (c + 1)) J (hw.wn w (c + 1)) s i c (by omega) (by rw [wnM_out (by omega)]; omega) (by omega) hq22) kw_X5_isSo wd3_46 (by decide) dX_0 rfl rfl ⟨Nat.le_of_ble_eq_true rfl, Nat.le_of_ble_eq_true rfl⟩ ⟨Nat.le_refl _, Nat.le_refl _⟩ (Nat.le_of_ble_eq_true rfl) dX5_worn_105 (fun H locs hP hS => ?_)
        refine x_ri (show (nI (b2n (allF (fun k => decide (J (9 + s) (i + k) = lN (upsW (wnM M w (c + 1)) c k))) 0 ((wnM M w (c + 1)) 23 3)))) = nI (b2n (soW M J s i w c)) from congrArg nI (by rw [soW_ok hw])) ?_
        refine x_yeq (u := (b2n (soW M J s i w c) : Nat)) (tgt := 120) hx hb (nI_toInt (Nat.lt_of_le_of_lt (b2n_le _) (by decide))) dX5_worn_108 (by decide) (fun h_9 => ?_) (fun h_9 => ?_)
        · refine lv_iinc (v := nI (c + 1)) (lv' := [(8, .int (nI (c + 1))), (7, .int (nI (fnd (if (soN M J s i) = true then 64 else 0) (fun q => soW M J s i w q) c))), (6, .ref (ad (5 + s))), (5, .int (nI 0)), (0, .ref (ad 0)), (1, .int (nI w)), (2, .int (nI s)), (3, .int (nI ln)), (4, .int (nI i))]) hx hb dX5_worn_120 hl (k := 0) rfl (n_inc c 1) (by decide) rfl (fun ls hl => ?_)
          refine lv_goto (tgt := 68) hx hb dX5_worn_123 (by decide) ?_
          have hl0 : lv_has ls 9 [(8, .int (nI (c + 1))), (7, .int (nI (fnd (if (soN M J s i) = true then 64 else 0) (fun q => soW M J s i w q) (c + 1)))), (6, .ref (ad (5 + s))), (5, .int (nI 0)), (0, .ref (ad 0)), (1, .int (nI w)), (2, .int (nI s)), (3, .int (nI ln)), (4, .int (nI i))] := by rw [(show nI (fnd (if (soN M J s i) = true then 64 else 0) (fun q => soW M J s i w q) (c + 1)) = nI (fnd (if (soN M J s i) = true then 64 else 0) (fun q => soW M J s i w q) c) from by rw [fnd, if_neg (by show ¬ soW M J s i w c = true; rw [b2n_0 h_9]; decide)])]; exact lv_sub hl [0, 1, 2, 3, 4, 5, 6, 7, 8] rfl
          exact ih68 (c + 1) (by omega) _ _ _ (hP) hS hl0
        · refine lv_iload hx hb dX5_worn_111 (lv_at hl 1 rfl) ?_
          refine lv_iconst (v := nI 1) hx hb dX5_worn_113 (by decide) ?_
          refine lv_iload hx hb dX5_worn_114 (lv_at hl 0 rfl) ?_
          refine x_ishl hx hb (by omega) dX5_worn_116 ?_
          refine x_ior hx hb dX5_worn_117 ?_
          refine lv_istore (lv' := [(7, .int (nI ((fnd (if (soN M J s i) = true then 64 else 0) (fun q => soW M J s i w q) c) ||| (1 <<< c)))), (8, .int (nI c)), (6, .ref (ad (5 + s))), (5, .int (nI 0)), (0, .ref (ad 0)), (1, .int (nI w)), (2, .int (nI s)), (3, .int (nI ln)), (4, .int (nI i))]) hx hb dX5_worn_118 hl (by decide) rfl (fun ls hl => ?_)
          refine lv_iinc (v := nI (c + 1)) (lv' := [(8, .int (nI (c + 1))), (7, .int (nI ((fnd (if (soN M J s i) = true then 64 else 0) (fun q => soW M J s i w q) c) ||| (1 <<< c)))), (6, .ref (ad (5 + s))), (5, .int (nI 0)), (0, .ref (ad 0)), (1, .int (nI w)), (2, .int (nI s)), (3, .int (nI ln)), (4, .int (nI i))]) hx hb dX5_worn_120 hl (k := 1) rfl (n_inc c 1) (by decide) rfl (fun ls hl => ?_)
          refine lv_goto (tgt := 68) hx hb dX5_worn_123 (by decide) ?_
          have hl0 : lv_has ls 9 [(8, .int (nI (c + 1))), (7, .int (nI (fnd (if (soN M J s i) = true then 64 else 0) (fun q => soW M J s i w q) (c + 1)))), (6, .ref (ad (5 + s))), (5, .int (nI 0)), (0, .ref (ad 0)), (1, .int (nI w)), (2, .int (nI s)), (3, .int (nI ln)), (4, .int (nI i))] := by rw [(show nI (fnd (if (soN M J s i) = true then 64 else 0) (fun q => soW M J s i w q) (c + 1)) = nI ((fnd (if (soN M J s i) = true then 64 else 0) (fun q => soW M J s i w q) c) ||| (1 <<< c)) from by rw [fnd, if_pos (b2n_1 h_9)])]; exact lv_sub hl [0, 1, 2, 3, 4, 5, 6, 7, 8] rfl
          exact ih68 (c + 1) (by omega) _ _ _ (hP) hS hl0
    have hl0 : lv_has ls 9 [(8, .int (nI 0)), (7, .int (nI (fnd (if (soN M J s i) = true then 64 else 0) (fun q => soW M J s i w q) 0))), (6, .ref (ad (5 + s))), (5, .int (nI 0)), (0, .ref (ad 0)), (1, .int (nI w)), (2, .int (nI s)), (3, .int (nI ln)), (4, .int (nI i))] := by rw [(show nI (fnd (if (soN M J s i) = true then 64 else 0) (fun q => soW M J s i w q) 0) = nI 64 from by rw [fnd, if_pos (b2n_1 h_3)])]; exact lv_sub hl [0, 1, 2, 3, 4, 5, 6, 7, 8] rfl
    exact L68 (M 23 1) 0 (by omega) _ _ _ (hP) hS hl0
set_option maxHeartbeats 4000000 in
set_option maxRecDepth 100000 in
theorem f_worn_null {l : Launch} {g : gE} {ad : Nat → Nat} (hI : g_inj ad 55) (M : gMem) (J : gMeL) (hw : wfX M) (w : Nat) (h1 : 1 ≤ w) (hw9 : w < 10) (s ln : Nat) (hs : s < 4) (hln : ln < 3) (i : Int32) (h : M (5 + s) 1 = 4294967295) : CI l g ad dsX 55 yX5_worn cX5_worn 9 (some .int) 8 [.ref (ad 0), .int (nI w), .int (nI s), .int (nI ln), .int i] M J (nI 4294967285) M J := by
  refine CI.of (plainFor_of_name (by decide)) (Nat.le_of_ble_eq_true rfl) (fun p9 e9 s9 m9 args9 below9 meth9 c9 CF hK hr9 hlk9 hP hS ls hl => ?_)
  have hx := CF.1
  have hb := CF.2.1
  have hA : ∀ q, g_A ad 55 q → g_A ad 55 q := fun _ h => h
  have hl : lv_has ls 9 [(0, .ref (ad 0)), (1, .int (nI w)), (2, .int (nI s)), (3, .int (nI ln)), (4, .int i)] := hl
  have hnc := hw.nc
  have hnf := hw.nf
  refine lv_iload_n hx hb dX5_worn_0 rfl (lv_at hl 1 rfl) ?_
  refine lv_iconst (v := nI 1) hx hb dX5_worn_1 (by decide) ?_
  refine lv_bipush (v := nI 9) hx hb dX5_worn_2 (by decide) ?_
  refine x_callSP CF hK hP hS hl (As := [.int (nI w), .int (nI 1), .int (nI 9)]) (rest := []) (c_isWithin_t _ _ _ (w_in (by omega) (by omega) (by omega))) kw_X5_isWithin wd1_190 rfl ⟨Nat.le_of_ble_eq_true rfl, Nat.le_of_ble_eq_true rfl⟩ ⟨Nat.le_refl _, Nat.le_refl _⟩ (Nat.le_of_ble_eq_true rfl) dX5_worn_4 (fun H locs hP hS => ?_)
  refine x_yne (u := (1 : Int)) (tgt := 12) hx hb (rfl) dX5_worn_7 (by decide) (fun h_1 => ?_) (fun h_1 => (by omega : False).elim)
  refine lv_aload_n hx hb dX5_worn_12 rfl (lv_at hl 0 rfl) ?_
  refine lv_iload_n hx hb dX5_worn_13 rfl (lv_at hl 2 rfl) ?_
  refine lv_iload_n hx hb dX5_worn_14 rfl (lv_at hl 3 rfl) ?_
  refine lv_iload hx hb dX5_worn_15 (lv_at hl 4 rfl) ?_
  refine lv_aload_n hx hb dX5_worn_17 rfl (lv_at hl 0 rfl) ?_
  refine x_getr CF hK hP 0 (by decide) dX_0 rfl uX5 0 (by decide) (j := 23) rfl wd1_164 rfl dX5_worn_18 ?_
  refine x_geti CF hK hP 23 (by decide) dX_23 rfl uX1 3 (by decide) rfl wd1_74 rfl dX5_worn_21 ?_
  refine x_callVI CF hK hP hS hA hl (As := [.int (nI s), .int (nI ln), .int i, .int (nI (M 23 3))]) (rest := []) (c_ref_null hI M J s ln (by omega) (by omega) i (nI (M 23 3)) h) kw_X5_refusalOf wd3_28 (by decide) dX_0 rfl rfl ⟨Nat.le_of_ble_eq_true rfl, Nat.le_of_ble_eq_true rfl⟩ ⟨Nat.le_refl _, Nat.le_refl _⟩ (Nat.le_of_ble_eq_true rfl) dX5_worn_24 (fun H locs hP hS => ?_)
  refine lv_istore (lv' := [(5, .int (nI 4294967285)), (0, .ref (ad 0)), (1, .int (nI w)), (2, .int (nI s)), (3, .int (nI ln)), (4, .int i)]) hx hb dX5_worn_27 hl (by decide) rfl (fun ls hl => ?_)
  refine lv_iload hx hb dX5_worn_29 (lv_at hl 0 rfl) ?_
  refine x_yge (u := (-11 : Int)) (tgt := 37) hx hb (rfl) dX5_worn_31 (by decide) (fun h_2 => (by omega : False).elim) (fun h_2 => ?_)
  refine lv_iload hx hb dX5_worn_34 (lv_at hl 0 rfl) ?_
  exact x_reti hx hb hr9 hlk9 hS hP (by first | rfl | (show nI 4294967285 = nI 4294967285; first | rfl | omega)) dX5_worn_36
set_option maxHeartbeats 4000000 in
set_option maxRecDepth 100000 in
theorem f_worn_cast {l : Launch} {g : gE} {ad : Nat → Nat} (hI : g_inj ad 55) (M : gMem) (J : gMeL) (hw : wfX M) (w : Nat) (h1 : 1 ≤ w) (hw9 : w < 10) (s ln : Nat) (hs : s < 4) (hln : ln < 3) (i : Int32) (h : M (5 + s) 1 ≤ 2) (h3 : ¬ M (5 + s) 1 = ln) : CI l g ad dsX 55 yX5_worn cX5_worn 9 (some .int) 8 [.ref (ad 0), .int (nI w), .int (nI s), .int (nI ln), .int i] M J (nI 4294967284) M J := by
  refine CI.of (plainFor_of_name (by decide)) (Nat.le_of_ble_eq_true rfl) (fun p9 e9 s9 m9 args9 below9 meth9 c9 CF hK hr9 hlk9 hP hS ls hl => ?_)
  have hx := CF.1
  have hb := CF.2.1
  have hA : ∀ q, g_A ad 55 q → g_A ad 55 q := fun _ h => h
  have hl : lv_has ls 9 [(0, .ref (ad 0)), (1, .int (nI w)), (2, .int (nI s)), (3, .int (nI ln)), (4, .int i)] := hl
  have hnc := hw.nc
  have hnf := hw.nf
  refine lv_iload_n hx hb dX5_worn_0 rfl (lv_at hl 1 rfl) ?_
  refine lv_iconst (v := nI 1) hx hb dX5_worn_1 (by decide) ?_
  refine lv_bipush (v := nI 9) hx hb dX5_worn_2 (by decide) ?_
  refine x_callSP CF hK hP hS hl (As := [.int (nI w), .int (nI 1), .int (nI 9)]) (rest := []) (c_isWithin_t _ _ _ (w_in (by omega) (by omega) (by omega))) kw_X5_isWithin wd1_190 rfl ⟨Nat.le_of_ble_eq_true rfl, Nat.le_of_ble_eq_true rfl⟩ ⟨Nat.le_refl _, Nat.le_refl _⟩ (Nat.le_of_ble_eq_true rfl) dX5_worn_4 (fun H locs hP hS => ?_)
  refine x_yne (u := (1 : Int)) (tgt := 12) hx hb (rfl) dX5_worn_7 (by decide) (fun h_1 => ?_) (fun h_1 => (by omega : False).elim)
  refine lv_aload_n hx hb dX5_worn_12 rfl (lv_at hl 0 rfl) ?_
  refine lv_iload_n hx hb dX5_worn_13 rfl (lv_at hl 2 rfl) ?_
  refine lv_iload_n hx hb dX5_worn_14 rfl (lv_at hl 3 rfl) ?_
  refine lv_iload hx hb dX5_worn_15 (lv_at hl 4 rfl) ?_
  refine lv_aload_n hx hb dX5_worn_17 rfl (lv_at hl 0 rfl) ?_
  refine x_getr CF hK hP 0 (by decide) dX_0 rfl uX5 0 (by decide) (j := 23) rfl wd1_164 rfl dX5_worn_18 ?_
  refine x_geti CF hK hP 23 (by decide) dX_23 rfl uX1 3 (by decide) rfl wd1_74 rfl dX5_worn_21 ?_
  refine x_callVI CF hK hP hS hA hl (As := [.int (nI s), .int (nI ln), .int i, .int (nI (M 23 3))]) (rest := []) (c_ref_cast hI M J s ln (by omega) (by omega) i (nI (M 23 3)) h h3) kw_X5_refusalOf wd3_28 (by decide) dX_0 rfl rfl ⟨Nat.le_of_ble_eq_true rfl, Nat.le_of_ble_eq_true rfl⟩ ⟨Nat.le_refl _, Nat.le_refl _⟩ (Nat.le_of_ble_eq_true rfl) dX5_worn_24 (fun H locs hP hS => ?_)
  refine lv_istore (lv' := [(5, .int (nI 4294967284)), (0, .ref (ad 0)), (1, .int (nI w)), (2, .int (nI s)), (3, .int (nI ln)), (4, .int i)]) hx hb dX5_worn_27 hl (by decide) rfl (fun ls hl => ?_)
  refine lv_iload hx hb dX5_worn_29 (lv_at hl 0 rfl) ?_
  refine x_yge (u := (-12 : Int)) (tgt := 37) hx hb (rfl) dX5_worn_31 (by decide) (fun h_2 => (by omega : False).elim) (fun h_2 => ?_)
  refine lv_iload hx hb dX5_worn_34 (lv_at hl 0 rfl) ?_
  exact x_reti hx hb hr9 hlk9 hS hP (by first | rfl | (show nI 4294967284 = nI 4294967284; first | rfl | omega)) dX5_worn_36
set_option maxHeartbeats 4000000 in
set_option maxRecDepth 100000 in
theorem f_worn_index {l : Launch} {g : gE} {ad : Nat → Nat} (hI : g_inj ad 55) (M : gMem) (J : gMeL) (hw : wfX M) (w : Nat) (h1 : 1 ≤ w) (hw9 : w < 10) (s ln : Nat) (hs : s < 4) (hln : ln < 3) (i : Int32) (hl9 : M (5 + s) 1 = ln) (h : ¬ (0 ≤ i.toInt ∧ i.toInt + M 23 3 ≤ M (5 + s) 2)) (h2 : M (5 + s) 2 ≤ 24) : CI l g ad dsX 55 yX5_worn cX5_worn 9 (some .int) 8 [.ref (ad 0), .int (nI w), .int (nI s), .int (nI ln), .int i] M J (nI 4294967283) M J := by
  refine CI.of (plainFor_of_name (by decide)) (Nat.le_of_ble_eq_true rfl) (fun p9 e9 s9 m9 args9 below9 meth9 c9 CF hK hr9 hlk9 hP hS ls hl => ?_)
  have hx := CF.1
  have hb := CF.2.1
  have hA : ∀ q, g_A ad 55 q → g_A ad 55 q := fun _ h => h
  have hl : lv_has ls 9 [(0, .ref (ad 0)), (1, .int (nI w)), (2, .int (nI s)), (3, .int (nI ln)), (4, .int i)] := hl
  have hnc := hw.nc
  have hnf := hw.nf
  refine lv_iload_n hx hb dX5_worn_0 rfl (lv_at hl 1 rfl) ?_
  refine lv_iconst (v := nI 1) hx hb dX5_worn_1 (by decide) ?_
  refine lv_bipush (v := nI 9) hx hb dX5_worn_2 (by decide) ?_
  refine x_callSP CF hK hP hS hl (As := [.int (nI w), .int (nI 1), .int (nI 9)]) (rest := []) (c_isWithin_t _ _ _ (w_in (by omega) (by omega) (by omega))) kw_X5_isWithin wd1_190 rfl ⟨Nat.le_of_ble_eq_true rfl, Nat.le_of_ble_eq_true rfl⟩ ⟨Nat.le_refl _, Nat.le_refl _⟩ (Nat.le_of_ble_eq_true rfl) dX5_worn_4 (fun H locs hP hS => ?_)
  refine x_yne (u := (1 : Int)) (tgt := 12) hx hb (rfl) dX5_worn_7 (by decide) (fun h_1 => ?_) (fun h_1 => (by omega : False).elim)
  refine lv_aload_n hx hb dX5_worn_12 rfl (lv_at hl 0 rfl) ?_
  refine lv_iload_n hx hb dX5_worn_13 rfl (lv_at hl 2 rfl) ?_
  refine lv_iload_n hx hb dX5_worn_14 rfl (lv_at hl 3 rfl) ?_
  refine lv_iload hx hb dX5_worn_15 (lv_at hl 4 rfl) ?_
  refine lv_aload_n hx hb dX5_worn_17 rfl (lv_at hl 0 rfl) ?_
  refine x_getr CF hK hP 0 (by decide) dX_0 rfl uX5 0 (by decide) (j := 23) rfl wd1_164 rfl dX5_worn_18 ?_
  refine x_geti CF hK hP 23 (by decide) dX_23 rfl uX1 3 (by decide) rfl wd1_74 rfl dX5_worn_21 ?_
  refine x_callVI CF hK hP hS hA hl (As := [.int (nI s), .int (nI ln), .int i, .int (nI (M 23 3))]) (rest := []) (c_ref_index hI M J s ln (by omega) (by omega) i (nI (M 23 3)) hl9 (by rw [tz (by omega)]; omega) h2) kw_X5_refusalOf wd3_28 (by decide) dX_0 rfl rfl ⟨Nat.le_of_ble_eq_true rfl, Nat.le_of_ble_eq_true rfl⟩ ⟨Nat.le_refl _, Nat.le_refl _⟩ (Nat.le_of_ble_eq_true rfl) dX5_worn_24 (fun H locs hP hS => ?_)
  refine lv_istore (lv' := [(5, .int (nI 4294967283)), (0, .ref (ad 0)), (1, .int (nI w)), (2, .int (nI s)), (3, .int (nI ln)), (4, .int i)]) hx hb dX5_worn_27 hl (by decide) rfl (fun ls hl => ?_)
  refine lv_iload hx hb dX5_worn_29 (lv_at hl 0 rfl) ?_
  refine x_yge (u := (-13 : Int)) (tgt := 37) hx hb (rfl) dX5_worn_31 (by decide) (fun h_2 => (by omega : False).elim) (fun h_2 => ?_)
  refine lv_iload hx hb dX5_worn_34 (lv_at hl 0 rfl) ?_
  exact x_reti hx hb hr9 hlk9 hS hP (by first | rfl | (show nI 4294967283 = nI 4294967283; first | rfl | omega)) dX5_worn_36
set_option maxHeartbeats 4000000 in
set_option maxRecDepth 100000 in
theorem f_worn_bad {l : Launch} {g : gE} {ad : Nat → Nat} (hI : g_inj ad 55) (M : gMem) (J : gMeL) (hw : wfX M) (w : Nat) (h1 : 1 ≤ w) (hw9 : w < 10) (s ln : Int32) (i : Int32) (h : ¬ (inR s 4 ∧ inR ln 3)) : CI l g ad dsX 55 yX5_worn cX5_worn 9 (some .int) 8 [.ref (ad 0), .int (nI w), .int s, .int ln, .int i] M J (nI 4294967295) M J := by
  refine CI.of (plainFor_of_name (by decide)) (Nat.le_of_ble_eq_true rfl) (fun p9 e9 s9 m9 args9 below9 meth9 c9 CF hK hr9 hlk9 hP hS ls hl => ?_)
  have hx := CF.1
  have hb := CF.2.1
  have hA : ∀ q, g_A ad 55 q → g_A ad 55 q := fun _ h => h
  have hl : lv_has ls 9 [(0, .ref (ad 0)), (1, .int (nI w)), (2, .int s), (3, .int ln), (4, .int i)] := hl
  have hnc := hw.nc
  have hnf := hw.nf
  refine lv_iload_n hx hb dX5_worn_0 rfl (lv_at hl 1 rfl) ?_
  refine lv_iconst (v := nI 1) hx hb dX5_worn_1 (by decide) ?_
  refine lv_bipush (v := nI 9) hx hb dX5_worn_2 (by decide) ?_
  refine x_callSP CF hK hP hS hl (As := [.int (nI w), .int (nI 1), .int (nI 9)]) (rest := []) (c_isWithin_t _ _ _ (w_in (by omega) (by omega) (by omega))) kw_X5_isWithin wd1_190 rfl ⟨Nat.le_of_ble_eq_true rfl, Nat.le_of_ble_eq_true rfl⟩ ⟨Nat.le_refl _, Nat.le_refl _⟩ (Nat.le_of_ble_eq_true rfl) dX5_worn_4 (fun H locs hP hS => ?_)
  refine x_yne (u := (1 : Int)) (tgt := 12) hx hb (rfl) dX5_worn_7 (by decide) (fun h_1 => ?_) (fun h_1 => (by omega : False).elim)
  refine lv_aload_n hx hb dX5_worn_12 rfl (lv_at hl 0 rfl) ?_
  refine lv_iload_n hx hb dX5_worn_13 rfl (lv_at hl 2 rfl) ?_
  refine lv_iload_n hx hb dX5_worn_14 rfl (lv_at hl 3 rfl) ?_
  refine lv_iload hx hb dX5_worn_15 (lv_at hl 4 rfl) ?_
  refine lv_aload_n hx hb dX5_worn_17 rfl (lv_at hl 0 rfl) ?_
  refine x_getr CF hK hP 0 (by decide) dX_0 rfl uX5 0 (by decide) (j := 23) rfl wd1_164 rfl dX5_worn_18 ?_
  refine x_geti CF hK hP 23 (by decide) dX_23 rfl uX1 3 (by decide) rfl wd1_74 rfl dX5_worn_21 ?_
  refine x_callVI CF hK hP hS hA hl (As := [.int s, .int ln, .int i, .int (nI (M 23 3))]) (rest := []) (c_ref_bad hI M J s ln i (nI (M 23 3)) h) kw_X5_refusalOf wd3_28 (by decide) dX_0 rfl rfl ⟨Nat.le_of_ble_eq_true rfl, Nat.le_of_ble_eq_true rfl⟩ ⟨Nat.le_refl _, Nat.le_refl _⟩ (Nat.le_of_ble_eq_true rfl) dX5_worn_24 (fun H locs hP hS => ?_)
  refine lv_istore (lv' := [(5, .int (nI 4294967295)), (0, .ref (ad 0)), (1, .int (nI w)), (2, .int s), (3, .int ln), (4, .int i)]) hx hb dX5_worn_27 hl (by decide) rfl (fun ls hl => ?_)
  refine lv_iload hx hb dX5_worn_29 (lv_at hl 0 rfl) ?_
  refine x_yge (u := (-1 : Int)) (tgt := 37) hx hb (rfl) dX5_worn_31 (by decide) (fun h_2 => (by omega : False).elim) (fun h_2 => ?_)
  refine lv_iload hx hb dX5_worn_34 (lv_at hl 0 rfl) ?_
  exact x_reti hx hb hr9 hlk9 hS hP (by first | rfl | (show nI 4294967295 = nI 4294967295; first | rfl | omega)) dX5_worn_36
set_option maxHeartbeats 4000000 in
set_option maxRecDepth 100000 in
theorem f_worn_w {l : Launch} {g : gE} {ad : Nat → Nat} (hI : g_inj ad 55) (M : gMem) (J : gMeL) (w s ln i : Int32) (h : ¬ inR1 w 10) : CI l g ad dsX 55 yX5_worn cX5_worn 9 (some .int) 8 [.ref (ad 0), .int w, .int s, .int ln, .int i] M J (nI 4294967295) M J := by
  refine CI.of (plainFor_of_name (by decide)) (Nat.le_of_ble_eq_true rfl) (fun p9 e9 s9 m9 args9 below9 meth9 c9 CF hK hr9 hlk9 hP hS ls hl => ?_)
  have hx := CF.1
  have hb := CF.2.1
  have hA : ∀ q, g_A ad 55 q → g_A ad 55 q := fun _ h => h
  have hl : lv_has ls 9 [(0, .ref (ad 0)), (1, .int w), (2, .int s), (3, .int ln), (4, .int i)] := hl
  refine lv_iload_n hx hb dX5_worn_0 rfl (lv_at hl 1 rfl) ?_
  refine lv_iconst (v := nI 1) hx hb dX5_worn_1 (by decide) ?_
  refine lv_bipush (v := nI 9) hx hb dX5_worn_2 (by decide) ?_
  rcases n_int1 (x := w) (n := 10) (by omega) with ⟨w1, g_w1, h_w1, rfl⟩ | ho_w
  · refine x_callSP CF hK hP hS hl (As := [.int (nI w1), .int (nI 1), .int (nI 9)]) (rest := []) (c_isWithin_t _ _ _ (w_in (by omega) (by omega) (by omega))) kw_X5_isWithin wd1_190 rfl ⟨Nat.le_of_ble_eq_true rfl, Nat.le_of_ble_eq_true rfl⟩ ⟨Nat.le_refl _, Nat.le_refl _⟩ (Nat.le_of_ble_eq_true rfl) dX5_worn_4 (fun H locs hP hS => ?_)
    refine x_yne (u := (1 : Int)) (tgt := 12) hx hb (rfl) dX5_worn_7 (by decide) (fun h_1 => ?_) (fun h_1 => (by omega : False).elim)
    exact absurd (inR1_n g_w1 h_w1 (by decide)) h
  · refine x_callSP CF hK hP hS hl (As := [.int w, .int (nI 1), .int (nI 9)]) (rest := []) (c_isWithin_f _ _ _ (w_out (by omega) (by omega) (by omega))) kw_X5_isWithin wd1_190 rfl ⟨Nat.le_of_ble_eq_true rfl, Nat.le_of_ble_eq_true rfl⟩ ⟨Nat.le_refl _, Nat.le_refl _⟩ (Nat.le_of_ble_eq_true rfl) dX5_worn_4 (fun H locs hP hS => ?_)
    refine x_yne (u := (0 : Int)) (tgt := 12) hx hb (rfl) dX5_worn_7 (by decide) (fun h_2 => (by omega : False).elim) (fun h_2 => ?_)
    refine lv_iconst (v := nI 4294967295) hx hb dX5_worn_10 (by decide) ?_
    exact x_reti hx hb hr9 hlk9 hS hP (by first | rfl | (show nI 4294967295 = nI 4294967295; first | rfl | omega)) dX5_worn_11
set_option maxHeartbeats 4000000 in
set_option maxRecDepth 100000 in
theorem f_copy_ok {l : Launch} {g : gE} {ad : Nat → Nat} (hI : g_inj ad 55) (M : gMem) (J : gMeL) (s t : Nat) (hs : s < 4) (ht : t < 4) (i j n : Nat) (hl1 : M (5 + s) 1 ≤ 2) (hl2 : M (5 + t) 1 = M (5 + s) 1) (h : i + n ≤ M (5 + s) 2) (h2 : j + n ≤ M (5 + t) 2) (h3 : M (5 + s) 2 ≤ 24) (h4 : M (5 + t) 2 ≤ 24) : CI l g ad dsX 55 yX5_copy cX5_copy 8 (some .int) 2 [.ref (ad 0), .int (nI s), .int (nI i), .int (nI t), .int (nI j), .int (nI n)] M J (nI n) M (gcpL J (9 + s) i (9 + t) j n) := by
  refine CI.of (plainFor_of_name (by decide)) (Nat.le_of_ble_eq_true rfl) (fun p9 e9 s9 m9 args9 below9 meth9 c9 CF hK hr9 hlk9 hP hS ls hl => ?_)
  have hx := CF.1
  have hb := CF.2.1
  have hA : ∀ q, g_A ad 55 q → g_A ad 55 q := fun _ h => h
  have hl : lv_has ls 8 [(0, .ref (ad 0)), (1, .int (nI s)), (2, .int (nI i)), (3, .int (nI t)), (4, .int (nI j)), (5, .int (nI n))] := hl
  refine lv_iload_n hx hb dX5_copy_0 rfl (lv_at hl 1 rfl) ?_
  refine x_callSP CF hK hP hS hl (As := [.int (nI s)]) (rest := []) (c_isSheet_t s (by omega)) kw_X5_isSheet wd3_32 rfl ⟨Nat.le_of_ble_eq_true rfl, Nat.le_of_ble_eq_true rfl⟩ ⟨Nat.le_refl _, Nat.le_refl _⟩ (Nat.le_of_ble_eq_true rfl) dX5_copy_1 (fun H locs hP hS => ?_)
  refine x_yeq (u := (1 : Int)) (tgt := 14) hx hb (rfl) dX5_copy_4 (by decide) (fun h_1 => (by omega : False).elim) (fun h_1 => ?_)
  refine lv_iload_n hx hb dX5_copy_7 rfl (lv_at hl 3 rfl) ?_
  refine x_callSP CF hK hP hS hl (As := [.int (nI t)]) (rest := []) (c_isSheet_t t (by omega)) kw_X5_isSheet wd3_32 rfl ⟨Nat.le_of_ble_eq_true rfl, Nat.le_of_ble_eq_true rfl⟩ ⟨Nat.le_refl _, Nat.le_refl _⟩ (Nat.le_of_ble_eq_true rfl) dX5_copy_8 (fun H locs hP hS => ?_)
  refine x_yne (u := (1 : Int)) (tgt := 16) hx hb (rfl) dX5_copy_11 (by decide) (fun h_2 => ?_) (fun h_2 => (by omega : False).elim)
  refine lv_aload_n hx hb dX5_copy_16 rfl (lv_at hl 0 rfl) ?_
  refine x_getr CF hK hP 0 (by decide) dX_0 rfl uX5 4 (by decide) (j := 4) rfl wd1_168 rfl dX5_copy_17 ?_
  refine lv_iload_n hx hb dX5_copy_20 rfl (lv_at hl 1 rfl) ?_
  refine x_aald CF hK hP 4 (by decide) (t := 1) dX_4 (by decide) s (by omega) (by decide) (j := (5 + s)) (oX_sheet s (by omega)) dX5_copy_21 ?_
  refine lv_astore (lv' := [(6, .ref (ad (5 + s))), (0, .ref (ad 0)), (1, .int (nI s)), (2, .int (nI i)), (3, .int (nI t)), (4, .int (nI j)), (5, .int (nI n))]) hx hb dX5_copy_22 hl (by decide) rfl (fun ls hl => ?_)
  refine lv_aload_n hx hb dX5_copy_24 rfl (lv_at hl 1 rfl) ?_
  refine x_getr CF hK hP 0 (by decide) dX_0 rfl uX5 4 (by decide) (j := 4) rfl wd1_168 rfl dX5_copy_25 ?_
  refine lv_iload_n hx hb dX5_copy_28 rfl (lv_at hl 4 rfl) ?_
  refine x_aald CF hK hP 4 (by decide) (t := 1) dX_4 (by decide) t (by omega) (by decide) (j := (5 + t)) (oX_sheet t (by omega)) dX5_copy_29 ?_
  refine lv_astore (lv' := [(7, .ref (ad (5 + t))), (6, .ref (ad (5 + s))), (0, .ref (ad 0)), (1, .int (nI s)), (2, .int (nI i)), (3, .int (nI t)), (4, .int (nI j)), (5, .int (nI n))]) hx hb dX5_copy_30 hl (by decide) rfl (fun ls hl => ?_)
  refine lv_aload hx hb dX5_copy_32 (lv_at hl 1 rfl) ?_
  refine x_callVI CF hK hP hS hA hl (As := []) (rest := []) (c_isNothing_f hI M J s (by omega) hl1) kw_X3_isNothing wd3_38 (by omega) (dX_sheet s (by omega)) rfl rfl ⟨Nat.le_of_ble_eq_true rfl, Nat.le_of_ble_eq_true rfl⟩ ⟨Nat.le_refl _, Nat.le_refl _⟩ (Nat.le_of_ble_eq_true rfl) dX5_copy_34 (fun H locs hP hS => ?_)
  refine x_yne (u := (0 : Int)) (tgt := 48) hx hb (rfl) dX5_copy_37 (by decide) (fun h_3 => (by omega : False).elim) (fun h_3 => ?_)
  refine lv_aload hx hb dX5_copy_40 (lv_at hl 0 rfl) ?_
  refine x_callVI CF hK hP hS hA hl (As := []) (rest := []) (c_isNothing_f hI M J t (by omega) (by omega)) kw_X3_isNothing wd3_38 (by omega) (dX_sheet t (by omega)) rfl rfl ⟨Nat.le_of_ble_eq_true rfl, Nat.le_of_ble_eq_true rfl⟩ ⟨Nat.le_refl _, Nat.le_refl _⟩ (Nat.le_of_ble_eq_true rfl) dX5_copy_42 (fun H locs hP hS => ?_)
  refine x_yeq (u := (0 : Int)) (tgt := 51) hx hb (rfl) dX5_copy_45 (by decide) (fun h_4 => ?_) (fun h_4 => (by omega : False).elim)
  refine lv_aload hx hb dX5_copy_51 (lv_at hl 1 rfl) ?_
  refine x_geti CF hK hP (5 + s) (by omega) (dX_sheet s (by omega)) rfl uX3 1 (by decide) rfl wd1_135 rfl dX5_copy_53 ?_
  refine lv_aload hx hb dX5_copy_56 (lv_at hl 0 rfl) ?_
  refine x_geti CF hK hP (5 + t) (by omega) (dX_sheet t (by omega)) rfl uX3 1 (by decide) rfl wd1_135 rfl dX5_copy_58 ?_
  refine x_zeq (u := (M (5 + s) 1 : Nat)) (v := (M (5 + t) 1 : Nat)) (tgt := 67) hx hb (nI_toInt (by omega)) (nI_toInt (by omega)) dX5_copy_61 (by decide) (fun h_5 => ?_) (fun h_5 => (by omega : False).elim)
  refine lv_aload hx hb dX5_copy_67 (lv_at hl 1 rfl) ?_
  refine lv_iload_n hx hb dX5_copy_69 rfl (lv_at hl 4 rfl) ?_
  refine lv_iload hx hb dX5_copy_70 (lv_at hl 7 rfl) ?_
  refine x_callVI CF hK hP hS hA hl (As := [.int (nI i), .int (nI n)]) (rest := []) (c_hasItems_t hI M J s (by omega) i n h h3) kw_X3_hasItems wd3_42 (by omega) (dX_sheet s (by omega)) rfl rfl ⟨Nat.le_of_ble_eq_true rfl, Nat.le_of_ble_eq_true rfl⟩ ⟨Nat.le_refl _, Nat.le_refl _⟩ (Nat.le_of_ble_eq_true rfl) dX5_copy_72 (fun H locs hP hS => ?_)
  refine x_yeq (u := (1 : Int)) (tgt := 90) hx hb (rfl) dX5_copy_75 (by decide) (fun h_6 => (by omega : False).elim) (fun h_6 => ?_)
  refine lv_aload hx hb dX5_copy_78 (lv_at hl 0 rfl) ?_
  refine lv_iload hx hb dX5_copy_80 (lv_at hl 6 rfl) ?_
  refine lv_iload hx hb dX5_copy_82 (lv_at hl 7 rfl) ?_
  refine x_callVI CF hK hP hS hA hl (As := [.int (nI j), .int (nI n)]) (rest := []) (c_hasItems_t hI M J t (by omega) j n h2 h4) kw_X3_hasItems wd3_42 (by omega) (dX_sheet t (by omega)) rfl rfl ⟨Nat.le_of_ble_eq_true rfl, Nat.le_of_ble_eq_true rfl⟩ ⟨Nat.le_refl _, Nat.le_refl _⟩ (Nat.le_of_ble_eq_true rfl) dX5_copy_84 (fun H locs hP hS => ?_)
  refine x_yne (u := (1 : Int)) (tgt := 93) hx hb (rfl) dX5_copy_87 (by decide) (fun h_7 => ?_) (fun h_7 => (by omega : False).elim)
  refine lv_aload hx hb dX5_copy_93 (lv_at hl 1 rfl) ?_
  refine x_getr CF hK hP (5 + s) (by omega) (dX_sheet s (by omega)) rfl uX3 0 (by decide) (j := (9 + s)) rfl wd1_133 rfl dX5_copy_95 ?_
  refine lv_iload_n hx hb dX5_copy_98 rfl (lv_at hl 4 rfl) ?_
  refine lv_aload hx hb dX5_copy_99 (lv_at hl 0 rfl) ?_
  refine x_getr CF hK hP (5 + t) (by omega) (dX_sheet t (by omega)) rfl uX3 0 (by decide) (j := (9 + t)) rfl wd1_133 rfl dX5_copy_101 ?_
  refine lv_iload hx hb dX5_copy_104 (lv_at hl 6 rfl) ?_
  refine lv_iload hx hb dX5_copy_106 (lv_at hl 7 rfl) ?_
  refine x_acpyl CF hK hI hA hP hS hl (9 + s) (by omega) (dX_items s (by omega)) (9 + t) (by omega) (dX_items t (by omega)) i j n wd3_89 (by omega) (by omega) (by decide) (by decide) (Nat.le_of_ble_eq_true rfl) (Nat.le_of_ble_eq_true rfl) dX5_copy_108 (fun H locs hP hS => ?_)
  refine lv_iload hx hb dX5_copy_111 (lv_at hl 7 rfl) ?_
  exact x_reti hx hb hr9 hlk9 hS hP (by first | rfl | (show nI n = nI n; first | rfl | omega)) dX5_copy_113
set_option maxHeartbeats 4000000 in
set_option maxRecDepth 100000 in
theorem f_copy_bad {l : Launch} {g : gE} {ad : Nat → Nat} (hI : g_inj ad 55) (M : gMem) (J : gMeL) (s i t j n : Int32) (h : ¬ (inR s 4 ∧ inR t 4)) : CI l g ad dsX 55 yX5_copy cX5_copy 8 (some .int) 2 [.ref (ad 0), .int s, .int i, .int t, .int j, .int n] M J (nI 4294967295) M J := by
  refine CI.of (plainFor_of_name (by decide)) (Nat.le_of_ble_eq_true rfl) (fun p9 e9 s9 m9 args9 below9 meth9 c9 CF hK hr9 hlk9 hP hS ls hl => ?_)
  have hx := CF.1
  have hb := CF.2.1
  have hA : ∀ q, g_A ad 55 q → g_A ad 55 q := fun _ h => h
  have hl : lv_has ls 8 [(0, .ref (ad 0)), (1, .int s), (2, .int i), (3, .int t), (4, .int j), (5, .int n)] := hl
  refine lv_iload_n hx hb dX5_copy_0 rfl (lv_at hl 1 rfl) ?_
  rcases n_int (x := s) (n := 4) (by omega) with ⟨s1, h_s1, rfl⟩ | ho_s
  · refine x_callSP CF hK hP hS hl (As := [.int (nI s1)]) (rest := []) (c_isSheet_t s1 (by omega)) kw_X5_isSheet wd3_32 rfl ⟨Nat.le_of_ble_eq_true rfl, Nat.le_of_ble_eq_true rfl⟩ ⟨Nat.le_refl _, Nat.le_refl _⟩ (Nat.le_of_ble_eq_true rfl) dX5_copy_1 (fun H locs hP hS => ?_)
    refine x_yeq (u := (1 : Int)) (tgt := 14) hx hb (rfl) dX5_copy_4 (by decide) (fun h_1 => (by omega : False).elim) (fun h_1 => ?_)
    refine lv_iload_n hx hb dX5_copy_7 rfl (lv_at hl 3 rfl) ?_
    rcases n_int (x := t) (n := 4) (by omega) with ⟨t1, h_t1, rfl⟩ | ho_t
    · refine x_callSP CF hK hP hS hl (As := [.int (nI t1)]) (rest := []) (c_isSheet_t t1 (by omega)) kw_X5_isSheet wd3_32 rfl ⟨Nat.le_of_ble_eq_true rfl, Nat.le_of_ble_eq_true rfl⟩ ⟨Nat.le_refl _, Nat.le_refl _⟩ (Nat.le_of_ble_eq_true rfl) dX5_copy_8 (fun H locs hP hS => ?_)
      refine x_yne (u := (1 : Int)) (tgt := 16) hx hb (rfl) dX5_copy_11 (by decide) (fun h_2 => ?_) (fun h_2 => (by omega : False).elim)
      exact absurd ⟨inR_n h_s1 (by decide), inR_n h_t1 (by decide)⟩ h
    · refine x_callSP CF hK hP hS hl (As := [.int t]) (rest := []) (c_isSheet_f t ho_t) kw_X5_isSheet wd3_32 rfl ⟨Nat.le_of_ble_eq_true rfl, Nat.le_of_ble_eq_true rfl⟩ ⟨Nat.le_refl _, Nat.le_refl _⟩ (Nat.le_of_ble_eq_true rfl) dX5_copy_8 (fun H locs hP hS => ?_)
      refine x_yne (u := (0 : Int)) (tgt := 16) hx hb (rfl) dX5_copy_11 (by decide) (fun h_3 => (by omega : False).elim) (fun h_3 => ?_)
      refine lv_iconst (v := nI 4294967295) hx hb dX5_copy_14 (by decide) ?_
      exact x_reti hx hb hr9 hlk9 hS hP (by first | rfl | (show nI 4294967295 = nI 4294967295; first | rfl | omega)) dX5_copy_15
  · refine x_callSP CF hK hP hS hl (As := [.int s]) (rest := []) (c_isSheet_f s ho_s) kw_X5_isSheet wd3_32 rfl ⟨Nat.le_of_ble_eq_true rfl, Nat.le_of_ble_eq_true rfl⟩ ⟨Nat.le_refl _, Nat.le_refl _⟩ (Nat.le_of_ble_eq_true rfl) dX5_copy_1 (fun H locs hP hS => ?_)
    refine x_yeq (u := (0 : Int)) (tgt := 14) hx hb (rfl) dX5_copy_4 (by decide) (fun h_4 => ?_) (fun h_4 => (by omega : False).elim)
    refine lv_iconst (v := nI 4294967295) hx hb dX5_copy_14 (by decide) ?_
    exact x_reti hx hb hr9 hlk9 hS hP (by first | rfl | (show nI 4294967295 = nI 4294967295; first | rfl | omega)) dX5_copy_15
set_option maxHeartbeats 4000000 in
set_option maxRecDepth 100000 in
theorem f_copy_null1 {l : Launch} {g : gE} {ad : Nat → Nat} (hI : g_inj ad 55) (M : gMem) (J : gMeL) (s t : Nat) (hs : s < 4) (ht : t < 4) (i j n : Int32) (h : M (5 + s) 1 = 4294967295) : CI l g ad dsX 55 yX5_copy cX5_copy 8 (some .int) 2 [.ref (ad 0), .int (nI s), .int i, .int (nI t), .int j, .int n] M J (nI 4294967285) M J := by
  refine CI.of (plainFor_of_name (by decide)) (Nat.le_of_ble_eq_true rfl) (fun p9 e9 s9 m9 args9 below9 meth9 c9 CF hK hr9 hlk9 hP hS ls hl => ?_)
  have hx := CF.1
  have hb := CF.2.1
  have hA : ∀ q, g_A ad 55 q → g_A ad 55 q := fun _ h => h
  have hl : lv_has ls 8 [(0, .ref (ad 0)), (1, .int (nI s)), (2, .int i), (3, .int (nI t)), (4, .int j), (5, .int n)] := hl
  refine lv_iload_n hx hb dX5_copy_0 rfl (lv_at hl 1 rfl) ?_
  refine x_callSP CF hK hP hS hl (As := [.int (nI s)]) (rest := []) (c_isSheet_t s (by omega)) kw_X5_isSheet wd3_32 rfl ⟨Nat.le_of_ble_eq_true rfl, Nat.le_of_ble_eq_true rfl⟩ ⟨Nat.le_refl _, Nat.le_refl _⟩ (Nat.le_of_ble_eq_true rfl) dX5_copy_1 (fun H locs hP hS => ?_)
  refine x_yeq (u := (1 : Int)) (tgt := 14) hx hb (rfl) dX5_copy_4 (by decide) (fun h_1 => (by omega : False).elim) (fun h_1 => ?_)
  refine lv_iload_n hx hb dX5_copy_7 rfl (lv_at hl 3 rfl) ?_
  refine x_callSP CF hK hP hS hl (As := [.int (nI t)]) (rest := []) (c_isSheet_t t (by omega)) kw_X5_isSheet wd3_32 rfl ⟨Nat.le_of_ble_eq_true rfl, Nat.le_of_ble_eq_true rfl⟩ ⟨Nat.le_refl _, Nat.le_refl _⟩ (Nat.le_of_ble_eq_true rfl) dX5_copy_8 (fun H locs hP hS => ?_)
  refine x_yne (u := (1 : Int)) (tgt := 16) hx hb (rfl) dX5_copy_11 (by decide) (fun h_2 => ?_) (fun h_2 => (by omega : False).elim)
  refine lv_aload_n hx hb dX5_copy_16 rfl (lv_at hl 0 rfl) ?_
  refine x_getr CF hK hP 0 (by decide) dX_0 rfl uX5 4 (by decide) (j := 4) rfl wd1_168 rfl dX5_copy_17 ?_
  refine lv_iload_n hx hb dX5_copy_20 rfl (lv_at hl 1 rfl) ?_
  refine x_aald CF hK hP 4 (by decide) (t := 1) dX_4 (by decide) s (by omega) (by decide) (j := (5 + s)) (oX_sheet s (by omega)) dX5_copy_21 ?_
  refine lv_astore (lv' := [(6, .ref (ad (5 + s))), (0, .ref (ad 0)), (1, .int (nI s)), (2, .int i), (3, .int (nI t)), (4, .int j), (5, .int n)]) hx hb dX5_copy_22 hl (by decide) rfl (fun ls hl => ?_)
  refine lv_aload_n hx hb dX5_copy_24 rfl (lv_at hl 1 rfl) ?_
  refine x_getr CF hK hP 0 (by decide) dX_0 rfl uX5 4 (by decide) (j := 4) rfl wd1_168 rfl dX5_copy_25 ?_
  refine lv_iload_n hx hb dX5_copy_28 rfl (lv_at hl 4 rfl) ?_
  refine x_aald CF hK hP 4 (by decide) (t := 1) dX_4 (by decide) t (by omega) (by decide) (j := (5 + t)) (oX_sheet t (by omega)) dX5_copy_29 ?_
  refine lv_astore (lv' := [(7, .ref (ad (5 + t))), (6, .ref (ad (5 + s))), (0, .ref (ad 0)), (1, .int (nI s)), (2, .int i), (3, .int (nI t)), (4, .int j), (5, .int n)]) hx hb dX5_copy_30 hl (by decide) rfl (fun ls hl => ?_)
  refine lv_aload hx hb dX5_copy_32 (lv_at hl 1 rfl) ?_
  refine x_callVI CF hK hP hS hA hl (As := []) (rest := []) (c_isNothing_t hI M J s (by omega) h) kw_X3_isNothing wd3_38 (by omega) (dX_sheet s (by omega)) rfl rfl ⟨Nat.le_of_ble_eq_true rfl, Nat.le_of_ble_eq_true rfl⟩ ⟨Nat.le_refl _, Nat.le_refl _⟩ (Nat.le_of_ble_eq_true rfl) dX5_copy_34 (fun H locs hP hS => ?_)
  refine x_yne (u := (1 : Int)) (tgt := 48) hx hb (rfl) dX5_copy_37 (by decide) (fun h_3 => ?_) (fun h_3 => (by omega : False).elim)
  refine lv_bipush (v := nI 4294967285) hx hb dX5_copy_48 (by decide) ?_
  exact x_reti hx hb hr9 hlk9 hS hP (by first | rfl | (show nI 4294967285 = nI 4294967285; first | rfl | omega)) dX5_copy_50
set_option maxHeartbeats 4000000 in
set_option maxRecDepth 100000 in
theorem f_copy_null2 {l : Launch} {g : gE} {ad : Nat → Nat} (hI : g_inj ad 55) (M : gMem) (J : gMeL) (s t : Nat) (hs : s < 4) (ht : t < 4) (i j n : Int32) (h1 : M (5 + s) 1 ≤ 2) (h : M (5 + t) 1 = 4294967295) : CI l g ad dsX 55 yX5_copy cX5_copy 8 (some .int) 2 [.ref (ad 0), .int (nI s), .int i, .int (nI t), .int j, .int n] M J (nI 4294967285) M J := by
  refine CI.of (plainFor_of_name (by decide)) (Nat.le_of_ble_eq_true rfl) (fun p9 e9 s9 m9 args9 below9 meth9 c9 CF hK hr9 hlk9 hP hS ls hl => ?_)
  have hx := CF.1
  have hb := CF.2.1
  have hA : ∀ q, g_A ad 55 q → g_A ad 55 q := fun _ h => h
  have hl : lv_has ls 8 [(0, .ref (ad 0)), (1, .int (nI s)), (2, .int i), (3, .int (nI t)), (4, .int j), (5, .int n)] := hl
  refine lv_iload_n hx hb dX5_copy_0 rfl (lv_at hl 1 rfl) ?_
  refine x_callSP CF hK hP hS hl (As := [.int (nI s)]) (rest := []) (c_isSheet_t s (by omega)) kw_X5_isSheet wd3_32 rfl ⟨Nat.le_of_ble_eq_true rfl, Nat.le_of_ble_eq_true rfl⟩ ⟨Nat.le_refl _, Nat.le_refl _⟩ (Nat.le_of_ble_eq_true rfl) dX5_copy_1 (fun H locs hP hS => ?_)
  refine x_yeq (u := (1 : Int)) (tgt := 14) hx hb (rfl) dX5_copy_4 (by decide) (fun h_1 => (by omega : False).elim) (fun h_1 => ?_)
  refine lv_iload_n hx hb dX5_copy_7 rfl (lv_at hl 3 rfl) ?_
  refine x_callSP CF hK hP hS hl (As := [.int (nI t)]) (rest := []) (c_isSheet_t t (by omega)) kw_X5_isSheet wd3_32 rfl ⟨Nat.le_of_ble_eq_true rfl, Nat.le_of_ble_eq_true rfl⟩ ⟨Nat.le_refl _, Nat.le_refl _⟩ (Nat.le_of_ble_eq_true rfl) dX5_copy_8 (fun H locs hP hS => ?_)
  refine x_yne (u := (1 : Int)) (tgt := 16) hx hb (rfl) dX5_copy_11 (by decide) (fun h_2 => ?_) (fun h_2 => (by omega : False).elim)
  refine lv_aload_n hx hb dX5_copy_16 rfl (lv_at hl 0 rfl) ?_
  refine x_getr CF hK hP 0 (by decide) dX_0 rfl uX5 4 (by decide) (j := 4) rfl wd1_168 rfl dX5_copy_17 ?_
  refine lv_iload_n hx hb dX5_copy_20 rfl (lv_at hl 1 rfl) ?_
  refine x_aald CF hK hP 4 (by decide) (t := 1) dX_4 (by decide) s (by omega) (by decide) (j := (5 + s)) (oX_sheet s (by omega)) dX5_copy_21 ?_
  refine lv_astore (lv' := [(6, .ref (ad (5 + s))), (0, .ref (ad 0)), (1, .int (nI s)), (2, .int i), (3, .int (nI t)), (4, .int j), (5, .int n)]) hx hb dX5_copy_22 hl (by decide) rfl (fun ls hl => ?_)
  refine lv_aload_n hx hb dX5_copy_24 rfl (lv_at hl 1 rfl) ?_
  refine x_getr CF hK hP 0 (by decide) dX_0 rfl uX5 4 (by decide) (j := 4) rfl wd1_168 rfl dX5_copy_25 ?_
  refine lv_iload_n hx hb dX5_copy_28 rfl (lv_at hl 4 rfl) ?_
  refine x_aald CF hK hP 4 (by decide) (t := 1) dX_4 (by decide) t (by omega) (by decide) (j := (5 + t)) (oX_sheet t (by omega)) dX5_copy_29 ?_
  refine lv_astore (lv' := [(7, .ref (ad (5 + t))), (6, .ref (ad (5 + s))), (0, .ref (ad 0)), (1, .int (nI s)), (2, .int i), (3, .int (nI t)), (4, .int j), (5, .int n)]) hx hb dX5_copy_30 hl (by decide) rfl (fun ls hl => ?_)
  refine lv_aload hx hb dX5_copy_32 (lv_at hl 1 rfl) ?_
  refine x_callVI CF hK hP hS hA hl (As := []) (rest := []) (c_isNothing_f hI M J s (by omega) h1) kw_X3_isNothing wd3_38 (by omega) (dX_sheet s (by omega)) rfl rfl ⟨Nat.le_of_ble_eq_true rfl, Nat.le_of_ble_eq_true rfl⟩ ⟨Nat.le_refl _, Nat.le_refl _⟩ (Nat.le_of_ble_eq_true rfl) dX5_copy_34 (fun H locs hP hS => ?_)
  refine x_yne (u := (0 : Int)) (tgt := 48) hx hb (rfl) dX5_copy_37 (by decide) (fun h_3 => (by omega : False).elim) (fun h_3 => ?_)
  refine lv_aload hx hb dX5_copy_40 (lv_at hl 0 rfl) ?_
  refine x_callVI CF hK hP hS hA hl (As := []) (rest := []) (c_isNothing_t hI M J t (by omega) h) kw_X3_isNothing wd3_38 (by omega) (dX_sheet t (by omega)) rfl rfl ⟨Nat.le_of_ble_eq_true rfl, Nat.le_of_ble_eq_true rfl⟩ ⟨Nat.le_refl _, Nat.le_refl _⟩ (Nat.le_of_ble_eq_true rfl) dX5_copy_42 (fun H locs hP hS => ?_)
  refine x_yeq (u := (1 : Int)) (tgt := 51) hx hb (rfl) dX5_copy_45 (by decide) (fun h_4 => (by omega : False).elim) (fun h_4 => ?_)
  refine lv_bipush (v := nI 4294967285) hx hb dX5_copy_48 (by decide) ?_
  exact x_reti hx hb hr9 hlk9 hS hP (by first | rfl | (show nI 4294967285 = nI 4294967285; first | rfl | omega)) dX5_copy_50
set_option maxHeartbeats 4000000 in
set_option maxRecDepth 100000 in
theorem f_copy_cast {l : Launch} {g : gE} {ad : Nat → Nat} (hI : g_inj ad 55) (M : gMem) (J : gMeL) (s t : Nat) (hs : s < 4) (ht : t < 4) (i j n : Int32) (h1 : M (5 + s) 1 ≤ 2) (h2 : M (5 + t) 1 ≤ 2) (h : ¬ M (5 + s) 1 = M (5 + t) 1) : CI l g ad dsX 55 yX5_copy cX5_copy 8 (some .int) 2 [.ref (ad 0), .int (nI s), .int i, .int (nI t), .int j, .int n] M J (nI 4294967284) M J := by
  refine CI.of (plainFor_of_name (by decide)) (Nat.le_of_ble_eq_true rfl) (fun p9 e9 s9 m9 args9 below9 meth9 c9 CF hK hr9 hlk9 hP hS ls hl => ?_)
  have hx := CF.1
  have hb := CF.2.1
  have hA : ∀ q, g_A ad 55 q → g_A ad 55 q := fun _ h => h
  have hl : lv_has ls 8 [(0, .ref (ad 0)), (1, .int (nI s)), (2, .int i), (3, .int (nI t)), (4, .int j), (5, .int n)] := hl
  refine lv_iload_n hx hb dX5_copy_0 rfl (lv_at hl 1 rfl) ?_
  refine x_callSP CF hK hP hS hl (As := [.int (nI s)]) (rest := []) (c_isSheet_t s (by omega)) kw_X5_isSheet wd3_32 rfl ⟨Nat.le_of_ble_eq_true rfl, Nat.le_of_ble_eq_true rfl⟩ ⟨Nat.le_refl _, Nat.le_refl _⟩ (Nat.le_of_ble_eq_true rfl) dX5_copy_1 (fun H locs hP hS => ?_)
  refine x_yeq (u := (1 : Int)) (tgt := 14) hx hb (rfl) dX5_copy_4 (by decide) (fun h_1 => (by omega : False).elim) (fun h_1 => ?_)
  refine lv_iload_n hx hb dX5_copy_7 rfl (lv_at hl 3 rfl) ?_
  refine x_callSP CF hK hP hS hl (As := [.int (nI t)]) (rest := []) (c_isSheet_t t (by omega)) kw_X5_isSheet wd3_32 rfl ⟨Nat.le_of_ble_eq_true rfl, Nat.le_of_ble_eq_true rfl⟩ ⟨Nat.le_refl _, Nat.le_refl _⟩ (Nat.le_of_ble_eq_true rfl) dX5_copy_8 (fun H locs hP hS => ?_)
  refine x_yne (u := (1 : Int)) (tgt := 16) hx hb (rfl) dX5_copy_11 (by decide) (fun h_2 => ?_) (fun h_2 => (by omega : False).elim)
  refine lv_aload_n hx hb dX5_copy_16 rfl (lv_at hl 0 rfl) ?_
  refine x_getr CF hK hP 0 (by decide) dX_0 rfl uX5 4 (by decide) (j := 4) rfl wd1_168 rfl dX5_copy_17 ?_
  refine lv_iload_n hx hb dX5_copy_20 rfl (lv_at hl 1 rfl) ?_
  refine x_aald CF hK hP 4 (by decide) (t := 1) dX_4 (by decide) s (by omega) (by decide) (j := (5 + s)) (oX_sheet s (by omega)) dX5_copy_21 ?_
  refine lv_astore (lv' := [(6, .ref (ad (5 + s))), (0, .ref (ad 0)), (1, .int (nI s)), (2, .int i), (3, .int (nI t)), (4, .int j), (5, .int n)]) hx hb dX5_copy_22 hl (by decide) rfl (fun ls hl => ?_)
  refine lv_aload_n hx hb dX5_copy_24 rfl (lv_at hl 1 rfl) ?_
  refine x_getr CF hK hP 0 (by decide) dX_0 rfl uX5 4 (by decide) (j := 4) rfl wd1_168 rfl dX5_copy_25 ?_
  refine lv_iload_n hx hb dX5_copy_28 rfl (lv_at hl 4 rfl) ?_
  refine x_aald CF hK hP 4 (by decide) (t := 1) dX_4 (by decide) t (by omega) (by decide) (j := (5 + t)) (oX_sheet t (by omega)) dX5_copy_29 ?_
  refine lv_astore (lv' := [(7, .ref (ad (5 + t))), (6, .ref (ad (5 + s))), (0, .ref (ad 0)), (1, .int (nI s)), (2, .int i), (3, .int (nI t)), (4, .int j), (5, .int n)]) hx hb dX5_copy_30 hl (by decide) rfl (fun ls hl => ?_)
  refine lv_aload hx hb dX5_copy_32 (lv_at hl 1 rfl) ?_
  refine x_callVI CF hK hP hS hA hl (As := []) (rest := []) (c_isNothing_f hI M J s (by omega) h1) kw_X3_isNothing wd3_38 (by omega) (dX_sheet s (by omega)) rfl rfl ⟨Nat.le_of_ble_eq_true rfl, Nat.le_of_ble_eq_true rfl⟩ ⟨Nat.le_refl _, Nat.le_refl _⟩ (Nat.le_of_ble_eq_true rfl) dX5_copy_34 (fun H locs hP hS => ?_)
  refine x_yne (u := (0 : Int)) (tgt := 48) hx hb (rfl) dX5_copy_37 (by decide) (fun h_3 => (by omega : False).elim) (fun h_3 => ?_)
  refine lv_aload hx hb dX5_copy_40 (lv_at hl 0 rfl) ?_
  refine x_callVI CF hK hP hS hA hl (As := []) (rest := []) (c_isNothing_f hI M J t (by omega) h2) kw_X3_isNothing wd3_38 (by omega) (dX_sheet t (by omega)) rfl rfl ⟨Nat.le_of_ble_eq_true rfl, Nat.le_of_ble_eq_true rfl⟩ ⟨Nat.le_refl _, Nat.le_refl _⟩ (Nat.le_of_ble_eq_true rfl) dX5_copy_42 (fun H locs hP hS => ?_)
  refine x_yeq (u := (0 : Int)) (tgt := 51) hx hb (rfl) dX5_copy_45 (by decide) (fun h_4 => ?_) (fun h_4 => (by omega : False).elim)
  refine lv_aload hx hb dX5_copy_51 (lv_at hl 1 rfl) ?_
  refine x_geti CF hK hP (5 + s) (by omega) (dX_sheet s (by omega)) rfl uX3 1 (by decide) rfl wd1_135 rfl dX5_copy_53 ?_
  refine lv_aload hx hb dX5_copy_56 (lv_at hl 0 rfl) ?_
  refine x_geti CF hK hP (5 + t) (by omega) (dX_sheet t (by omega)) rfl uX3 1 (by decide) rfl wd1_135 rfl dX5_copy_58 ?_
  refine x_zeq (u := (M (5 + s) 1 : Nat)) (v := (M (5 + t) 1 : Nat)) (tgt := 67) hx hb (nI_toInt (by omega)) (nI_toInt (by omega)) dX5_copy_61 (by decide) (fun h_5 => (by omega : False).elim) (fun h_5 => ?_)
  refine lv_bipush (v := nI 4294967284) hx hb dX5_copy_64 (by decide) ?_
  exact x_reti hx hb hr9 hlk9 hS hP (by first | rfl | (show nI 4294967284 = nI 4294967284; first | rfl | omega)) dX5_copy_66
set_option maxHeartbeats 4000000 in
set_option maxRecDepth 100000 in
theorem f_copy_index1 {l : Launch} {g : gE} {ad : Nat → Nat} (hI : g_inj ad 55) (M : gMem) (J : gMeL) (s t : Nat) (hs : s < 4) (ht : t < 4) (i j n : Int32) (h1 : M (5 + s) 1 ≤ 2) (h2 : M (5 + t) 1 ≤ 2) (he : M (5 + s) 1 = M (5 + t) 1) (h : ¬ (0 ≤ i.toInt ∧ 0 ≤ n.toInt ∧ i.toInt + n.toInt ≤ M (5 + s) 2)) (h3 : M (5 + s) 2 ≤ 24) : CI l g ad dsX 55 yX5_copy cX5_copy 8 (some .int) 2 [.ref (ad 0), .int (nI s), .int i, .int (nI t), .int j, .int n] M J (nI 4294967283) M J := by
  refine CI.of (plainFor_of_name (by decide)) (Nat.le_of_ble_eq_true rfl) (fun p9 e9 s9 m9 args9 below9 meth9 c9 CF hK hr9 hlk9 hP hS ls hl => ?_)
  have hx := CF.1
  have hb := CF.2.1
  have hA : ∀ q, g_A ad 55 q → g_A ad 55 q := fun _ h => h
  have hl : lv_has ls 8 [(0, .ref (ad 0)), (1, .int (nI s)), (2, .int i), (3, .int (nI t)), (4, .int j), (5, .int n)] := hl
  refine lv_iload_n hx hb dX5_copy_0 rfl (lv_at hl 1 rfl) ?_
  refine x_callSP CF hK hP hS hl (As := [.int (nI s)]) (rest := []) (c_isSheet_t s (by omega)) kw_X5_isSheet wd3_32 rfl ⟨Nat.le_of_ble_eq_true rfl, Nat.le_of_ble_eq_true rfl⟩ ⟨Nat.le_refl _, Nat.le_refl _⟩ (Nat.le_of_ble_eq_true rfl) dX5_copy_1 (fun H locs hP hS => ?_)
  refine x_yeq (u := (1 : Int)) (tgt := 14) hx hb (rfl) dX5_copy_4 (by decide) (fun h_1 => (by omega : False).elim) (fun h_1 => ?_)
  refine lv_iload_n hx hb dX5_copy_7 rfl (lv_at hl 3 rfl) ?_
  refine x_callSP CF hK hP hS hl (As := [.int (nI t)]) (rest := []) (c_isSheet_t t (by omega)) kw_X5_isSheet wd3_32 rfl ⟨Nat.le_of_ble_eq_true rfl, Nat.le_of_ble_eq_true rfl⟩ ⟨Nat.le_refl _, Nat.le_refl _⟩ (Nat.le_of_ble_eq_true rfl) dX5_copy_8 (fun H locs hP hS => ?_)
  refine x_yne (u := (1 : Int)) (tgt := 16) hx hb (rfl) dX5_copy_11 (by decide) (fun h_2 => ?_) (fun h_2 => (by omega : False).elim)
  refine lv_aload_n hx hb dX5_copy_16 rfl (lv_at hl 0 rfl) ?_
  refine x_getr CF hK hP 0 (by decide) dX_0 rfl uX5 4 (by decide) (j := 4) rfl wd1_168 rfl dX5_copy_17 ?_
  refine lv_iload_n hx hb dX5_copy_20 rfl (lv_at hl 1 rfl) ?_
  refine x_aald CF hK hP 4 (by decide) (t := 1) dX_4 (by decide) s (by omega) (by decide) (j := (5 + s)) (oX_sheet s (by omega)) dX5_copy_21 ?_
  refine lv_astore (lv' := [(6, .ref (ad (5 + s))), (0, .ref (ad 0)), (1, .int (nI s)), (2, .int i), (3, .int (nI t)), (4, .int j), (5, .int n)]) hx hb dX5_copy_22 hl (by decide) rfl (fun ls hl => ?_)
  refine lv_aload_n hx hb dX5_copy_24 rfl (lv_at hl 1 rfl) ?_
  refine x_getr CF hK hP 0 (by decide) dX_0 rfl uX5 4 (by decide) (j := 4) rfl wd1_168 rfl dX5_copy_25 ?_
  refine lv_iload_n hx hb dX5_copy_28 rfl (lv_at hl 4 rfl) ?_
  refine x_aald CF hK hP 4 (by decide) (t := 1) dX_4 (by decide) t (by omega) (by decide) (j := (5 + t)) (oX_sheet t (by omega)) dX5_copy_29 ?_
  refine lv_astore (lv' := [(7, .ref (ad (5 + t))), (6, .ref (ad (5 + s))), (0, .ref (ad 0)), (1, .int (nI s)), (2, .int i), (3, .int (nI t)), (4, .int j), (5, .int n)]) hx hb dX5_copy_30 hl (by decide) rfl (fun ls hl => ?_)
  refine lv_aload hx hb dX5_copy_32 (lv_at hl 1 rfl) ?_
  refine x_callVI CF hK hP hS hA hl (As := []) (rest := []) (c_isNothing_f hI M J s (by omega) h1) kw_X3_isNothing wd3_38 (by omega) (dX_sheet s (by omega)) rfl rfl ⟨Nat.le_of_ble_eq_true rfl, Nat.le_of_ble_eq_true rfl⟩ ⟨Nat.le_refl _, Nat.le_refl _⟩ (Nat.le_of_ble_eq_true rfl) dX5_copy_34 (fun H locs hP hS => ?_)
  refine x_yne (u := (0 : Int)) (tgt := 48) hx hb (rfl) dX5_copy_37 (by decide) (fun h_3 => (by omega : False).elim) (fun h_3 => ?_)
  refine lv_aload hx hb dX5_copy_40 (lv_at hl 0 rfl) ?_
  refine x_callVI CF hK hP hS hA hl (As := []) (rest := []) (c_isNothing_f hI M J t (by omega) h2) kw_X3_isNothing wd3_38 (by omega) (dX_sheet t (by omega)) rfl rfl ⟨Nat.le_of_ble_eq_true rfl, Nat.le_of_ble_eq_true rfl⟩ ⟨Nat.le_refl _, Nat.le_refl _⟩ (Nat.le_of_ble_eq_true rfl) dX5_copy_42 (fun H locs hP hS => ?_)
  refine x_yeq (u := (0 : Int)) (tgt := 51) hx hb (rfl) dX5_copy_45 (by decide) (fun h_4 => ?_) (fun h_4 => (by omega : False).elim)
  refine lv_aload hx hb dX5_copy_51 (lv_at hl 1 rfl) ?_
  refine x_geti CF hK hP (5 + s) (by omega) (dX_sheet s (by omega)) rfl uX3 1 (by decide) rfl wd1_135 rfl dX5_copy_53 ?_
  refine lv_aload hx hb dX5_copy_56 (lv_at hl 0 rfl) ?_
  refine x_geti CF hK hP (5 + t) (by omega) (dX_sheet t (by omega)) rfl uX3 1 (by decide) rfl wd1_135 rfl dX5_copy_58 ?_
  refine x_zeq (u := (M (5 + s) 1 : Nat)) (v := (M (5 + t) 1 : Nat)) (tgt := 67) hx hb (nI_toInt (by omega)) (nI_toInt (by omega)) dX5_copy_61 (by decide) (fun h_5 => ?_) (fun h_5 => (by omega : False).elim)
  refine lv_aload hx hb dX5_copy_67 (lv_at hl 1 rfl) ?_
  refine lv_iload_n hx hb dX5_copy_69 rfl (lv_at hl 4 rfl) ?_
  refine lv_iload hx hb dX5_copy_70 (lv_at hl 7 rfl) ?_
  refine x_callVI CF hK hP hS hA hl (As := [.int i, .int n]) (rest := []) (c_hasItems_f hI M J s (by omega) (i) (n) h h3) kw_X3_hasItems wd3_42 (by omega) (dX_sheet s (by omega)) rfl rfl ⟨Nat.le_of_ble_eq_true rfl, Nat.le_of_ble_eq_true rfl⟩ ⟨Nat.le_refl _, Nat.le_refl _⟩ (Nat.le_of_ble_eq_true rfl) dX5_copy_72 (fun H locs hP hS => ?_)
  refine x_yeq (u := (0 : Int)) (tgt := 90) hx hb (rfl) dX5_copy_75 (by decide) (fun h_6 => ?_) (fun h_6 => (by omega : False).elim)
  refine lv_bipush (v := nI 4294967283) hx hb dX5_copy_90 (by decide) ?_
  exact x_reti hx hb hr9 hlk9 hS hP (by first | rfl | (show nI 4294967283 = nI 4294967283; first | rfl | omega)) dX5_copy_92
set_option maxHeartbeats 4000000 in
set_option maxRecDepth 100000 in
theorem f_copy_index2 {l : Launch} {g : gE} {ad : Nat → Nat} (hI : g_inj ad 55) (M : gMem) (J : gMeL) (s t : Nat) (hs : s < 4) (ht : t < 4) (i n : Nat) (j : Int32) (h1 : M (5 + s) 1 ≤ 2) (h2 : M (5 + t) 1 ≤ 2) (he : M (5 + s) 1 = M (5 + t) 1) (h : i + n ≤ M (5 + s) 2) (h3 : M (5 + s) 2 ≤ 24) (h5 : ¬ (0 ≤ j.toInt ∧ j.toInt + n ≤ M (5 + t) 2)) (h4 : M (5 + t) 2 ≤ 24) : CI l g ad dsX 55 yX5_copy cX5_copy 8 (some .int) 2 [.ref (ad 0), .int (nI s), .int (nI i), .int (nI t), .int j, .int (nI n)] M J (nI 4294967283) M J := by
  refine CI.of (plainFor_of_name (by decide)) (Nat.le_of_ble_eq_true rfl) (fun p9 e9 s9 m9 args9 below9 meth9 c9 CF hK hr9 hlk9 hP hS ls hl => ?_)
  have hx := CF.1
  have hb := CF.2.1
  have hA : ∀ q, g_A ad 55 q → g_A ad 55 q := fun _ h => h
  have hl : lv_has ls 8 [(0, .ref (ad 0)), (1, .int (nI s)), (2, .int (nI i)), (3, .int (nI t)), (4, .int j), (5, .int (nI n))] := hl
  refine lv_iload_n hx hb dX5_copy_0 rfl (lv_at hl 1 rfl) ?_
  refine x_callSP CF hK hP hS hl (As := [.int (nI s)]) (rest := []) (c_isSheet_t s (by omega)) kw_X5_isSheet wd3_32 rfl ⟨Nat.le_of_ble_eq_true rfl, Nat.le_of_ble_eq_true rfl⟩ ⟨Nat.le_refl _, Nat.le_refl _⟩ (Nat.le_of_ble_eq_true rfl) dX5_copy_1 (fun H locs hP hS => ?_)
  refine x_yeq (u := (1 : Int)) (tgt := 14) hx hb (rfl) dX5_copy_4 (by decide) (fun h_1 => (by omega : False).elim) (fun h_1 => ?_)
  refine lv_iload_n hx hb dX5_copy_7 rfl (lv_at hl 3 rfl) ?_
  refine x_callSP CF hK hP hS hl (As := [.int (nI t)]) (rest := []) (c_isSheet_t t (by omega)) kw_X5_isSheet wd3_32 rfl ⟨Nat.le_of_ble_eq_true rfl, Nat.le_of_ble_eq_true rfl⟩ ⟨Nat.le_refl _, Nat.le_refl _⟩ (Nat.le_of_ble_eq_true rfl) dX5_copy_8 (fun H locs hP hS => ?_)
  refine x_yne (u := (1 : Int)) (tgt := 16) hx hb (rfl) dX5_copy_11 (by decide) (fun h_2 => ?_) (fun h_2 => (by omega : False).elim)
  refine lv_aload_n hx hb dX5_copy_16 rfl (lv_at hl 0 rfl) ?_
  refine x_getr CF hK hP 0 (by decide) dX_0 rfl uX5 4 (by decide) (j := 4) rfl wd1_168 rfl dX5_copy_17 ?_
  refine lv_iload_n hx hb dX5_copy_20 rfl (lv_at hl 1 rfl) ?_
  refine x_aald CF hK hP 4 (by decide) (t := 1) dX_4 (by decide) s (by omega) (by decide) (j := (5 + s)) (oX_sheet s (by omega)) dX5_copy_21 ?_
  refine lv_astore (lv' := [(6, .ref (ad (5 + s))), (0, .ref (ad 0)), (1, .int (nI s)), (2, .int (nI i)), (3, .int (nI t)), (4, .int j), (5, .int (nI n))]) hx hb dX5_copy_22 hl (by decide) rfl (fun ls hl => ?_)
  refine lv_aload_n hx hb dX5_copy_24 rfl (lv_at hl 1 rfl) ?_
  refine x_getr CF hK hP 0 (by decide) dX_0 rfl uX5 4 (by decide) (j := 4) rfl wd1_168 rfl dX5_copy_25 ?_
  refine lv_iload_n hx hb dX5_copy_28 rfl (lv_at hl 4 rfl) ?_
  refine x_aald CF hK hP 4 (by decide) (t := 1) dX_4 (by decide) t (by omega) (by decide) (j := (5 + t)) (oX_sheet t (by omega)) dX5_copy_29 ?_
  refine lv_astore (lv' := [(7, .ref (ad (5 + t))), (6, .ref (ad (5 + s))), (0, .ref (ad 0)), (1, .int (nI s)), (2, .int (nI i)), (3, .int (nI t)), (4, .int j), (5, .int (nI n))]) hx hb dX5_copy_30 hl (by decide) rfl (fun ls hl => ?_)
  refine lv_aload hx hb dX5_copy_32 (lv_at hl 1 rfl) ?_
  refine x_callVI CF hK hP hS hA hl (As := []) (rest := []) (c_isNothing_f hI M J s (by omega) h1) kw_X3_isNothing wd3_38 (by omega) (dX_sheet s (by omega)) rfl rfl ⟨Nat.le_of_ble_eq_true rfl, Nat.le_of_ble_eq_true rfl⟩ ⟨Nat.le_refl _, Nat.le_refl _⟩ (Nat.le_of_ble_eq_true rfl) dX5_copy_34 (fun H locs hP hS => ?_)
  refine x_yne (u := (0 : Int)) (tgt := 48) hx hb (rfl) dX5_copy_37 (by decide) (fun h_3 => (by omega : False).elim) (fun h_3 => ?_)
  refine lv_aload hx hb dX5_copy_40 (lv_at hl 0 rfl) ?_
  refine x_callVI CF hK hP hS hA hl (As := []) (rest := []) (c_isNothing_f hI M J t (by omega) h2) kw_X3_isNothing wd3_38 (by omega) (dX_sheet t (by omega)) rfl rfl ⟨Nat.le_of_ble_eq_true rfl, Nat.le_of_ble_eq_true rfl⟩ ⟨Nat.le_refl _, Nat.le_refl _⟩ (Nat.le_of_ble_eq_true rfl) dX5_copy_42 (fun H locs hP hS => ?_)
  refine x_yeq (u := (0 : Int)) (tgt := 51) hx hb (rfl) dX5_copy_45 (by decide) (fun h_4 => ?_) (fun h_4 => (by omega : False).elim)
  refine lv_aload hx hb dX5_copy_51 (lv_at hl 1 rfl) ?_
  refine x_geti CF hK hP (5 + s) (by omega) (dX_sheet s (by omega)) rfl uX3 1 (by decide) rfl wd1_135 rfl dX5_copy_53 ?_
  refine lv_aload hx hb dX5_copy_56 (lv_at hl 0 rfl) ?_
  refine x_geti CF hK hP (5 + t) (by omega) (dX_sheet t (by omega)) rfl uX3 1 (by decide) rfl wd1_135 rfl dX5_copy_58 ?_
  refine x_zeq (u := (M (5 + s) 1 : Nat)) (v := (M (5 + t) 1 : Nat)) (tgt := 67) hx hb (nI_toInt (by omega)) (nI_toInt (by omega)) dX5_copy_61 (by decide) (fun h_5 => ?_) (fun h_5 => (by omega : False).elim)
  refine lv_aload hx hb dX5_copy_67 (lv_at hl 1 rfl) ?_
  refine lv_iload_n hx hb dX5_copy_69 rfl (lv_at hl 4 rfl) ?_
  refine lv_iload hx hb dX5_copy_70 (lv_at hl 7 rfl) ?_
  refine x_callVI CF hK hP hS hA hl (As := [.int (nI i), .int (nI n)]) (rest := []) (c_hasItems_t hI M J s (by omega) i n h h3) kw_X3_hasItems wd3_42 (by omega) (dX_sheet s (by omega)) rfl rfl ⟨Nat.le_of_ble_eq_true rfl, Nat.le_of_ble_eq_true rfl⟩ ⟨Nat.le_refl _, Nat.le_refl _⟩ (Nat.le_of_ble_eq_true rfl) dX5_copy_72 (fun H locs hP hS => ?_)
  refine x_yeq (u := (1 : Int)) (tgt := 90) hx hb (rfl) dX5_copy_75 (by decide) (fun h_6 => (by omega : False).elim) (fun h_6 => ?_)
  refine lv_aload hx hb dX5_copy_78 (lv_at hl 0 rfl) ?_
  refine lv_iload hx hb dX5_copy_80 (lv_at hl 6 rfl) ?_
  refine lv_iload hx hb dX5_copy_82 (lv_at hl 7 rfl) ?_
  refine x_callVI CF hK hP hS hA hl (As := [.int j, .int (nI n)]) (rest := []) (c_hasItems_f hI M J t (by omega) (j) (nI n) (by rw [tz (by omega)]; omega) h4) kw_X3_hasItems wd3_42 (by omega) (dX_sheet t (by omega)) rfl rfl ⟨Nat.le_of_ble_eq_true rfl, Nat.le_of_ble_eq_true rfl⟩ ⟨Nat.le_refl _, Nat.le_refl _⟩ (Nat.le_of_ble_eq_true rfl) dX5_copy_84 (fun H locs hP hS => ?_)
  refine x_yne (u := (0 : Int)) (tgt := 93) hx hb (rfl) dX5_copy_87 (by decide) (fun h_7 => (by omega : False).elim) (fun h_7 => ?_)
  refine lv_bipush (v := nI 4294967283) hx hb dX5_copy_90 (by decide) ?_
  exact x_reti hx hb hr9 hlk9 hS hP (by first | rfl | (show nI 4294967283 = nI 4294967283; first | rfl | omega)) dX5_copy_92
