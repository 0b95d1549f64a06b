theorem z_flt {p : Nat} (h : p ≤ 40) : (nI (4294967276 - p)).toInt = -20 - (p : Int) := by
  have e : nI (4294967276 - p) = nI 4294967276 - nI p := (pk_sub (by omega)).symm
  rw [e, Int32.toInt_sub, tz (n := p) (by omega), show (nI 4294967276).toInt = -20 from rfl, Int.bmod_eq_of_le (by omega) (by omega)]
set_option maxHeartbeats 4000000 in
set_option maxRecDepth 100000 in
theorem f_type_ok {l : Launch} {g : gE} {ad : Nat → Nat} (hI : g_inj ad 55) (M : gMem) (J : gMeL) (w : Int64) (n : Nat) (h1 : 1 ≤ n) (h8 : n ≤ 8) (hby : ∀ q, q < n → (32 ≤ byt w q ∧ byt w q ≤ 126)) (h : M 1 2 + n ≤ 40) : CI l g ad dsX 55 yX5_type cX5_type 4 (some .int) 4 [.ref (ad 0), .long w, .int (nI n)] M J (nI (M 1 2 + n)) (apM M w n n) J := by
  refine CI.of (plainFor_of_name (by decide)) (Nat.le_of_ble_eq_true rfl) (fun p9 e9 s9 m9 args9 below9 meth9 c9 CF hK hr9 hlk9 hP hS ls hl => ?_)
  have hx := CF.1
  have hb := CF.2.1
  have hA : ∀ q, g_A ad 55 q → g_A ad 55 q := fun _ h => h
  have hl : lv_has ls 4 [(0, .ref (ad 0)), (1, .long w), (3, .int (nI n))] := hl
  refine lv_iload_n hx hb dX5_type_0 rfl (lv_at hl 2 rfl) ?_
  refine lv_iconst (v := nI 1) hx hb dX5_type_1 (by decide) ?_
  refine lv_bipush (v := nI 8) hx hb dX5_type_2 (by decide) ?_
  refine x_callSP CF hK hP hS hl (As := [.int (nI n), .int (nI 1), .int (nI 8)]) (rest := []) (c_isWithin_t _ _ _ (w_in (by omega) (by omega) (by omega))) kw_X5_isWithin wd1_190 rfl ⟨Nat.le_of_ble_eq_true rfl, Nat.le_of_ble_eq_true rfl⟩ ⟨Nat.le_refl _, Nat.le_refl _⟩ (Nat.le_of_ble_eq_true rfl) dX5_type_4 (fun H locs hP hS => ?_)
  refine x_yeq (u := (1 : Int)) (tgt := 18) hx hb (rfl) dX5_type_7 (by decide) (fun h_1 => (by omega : False).elim) (fun h_1 => ?_)
  refine lv_lload_n hx hb dX5_type_10 rfl (lv_at hl 1 rfl) ?_
  refine lv_iload_n hx hb dX5_type_11 rfl (lv_at hl 2 rfl) ?_
  refine x_callSP CF hK hP hS hl (As := [.long w, .int (nI n)]) (rest := []) (c_areBytes_t w n (by omega) hby) kw_X5_areBytesOfTape wd1_193 rfl ⟨Nat.le_of_ble_eq_true rfl, Nat.le_of_ble_eq_true rfl⟩ ⟨Nat.le_refl _, Nat.le_refl _⟩ (Nat.le_of_ble_eq_true rfl) dX5_type_12 (fun H locs hP hS => ?_)
  refine x_yne (u := (1 : Int)) (tgt := 20) hx hb (rfl) dX5_type_15 (by decide) (fun h_2 => ?_) (fun h_2 => (by omega : False).elim)
  refine lv_aload_n hx hb dX5_type_20 rfl (lv_at hl 0 rfl) ?_
  refine x_getr CF hK hP 0 (by decide) dX_0 rfl uX5 3 (by decide) (j := 1) rfl wd1_167 rfl dX5_type_21 ?_
  refine lv_lload_n hx hb dX5_type_24 rfl (lv_at hl 1 rfl) ?_
  refine lv_iload_n hx hb dX5_type_25 rfl (lv_at hl 2 rfl) ?_
  refine x_callVI CF hK hP hS hA hl (As := [.long w, .int (nI n)]) (rest := []) (c_append_ok hI M J w n (by omega) (by omega) (by omega)) kw_X4_append wd1_199 (by decide) dX_1 rfl rfl ⟨Nat.le_of_ble_eq_true rfl, Nat.le_of_ble_eq_true rfl⟩ ⟨Nat.le_refl _, Nat.le_refl _⟩ (Nat.le_of_ble_eq_true rfl) dX5_type_26 (fun H locs hP hS => ?_)
  exact x_reti hx hb hr9 hlk9 hS hP (by first | rfl | (show nI (M 1 2 + n) = nI (M 1 2 + n); first | rfl | omega)) dX5_type_29
set_option maxHeartbeats 4000000 in
set_option maxRecDepth 100000 in
theorem f_type_full {l : Launch} {g : gE} {ad : Nat → Nat} (hI : g_inj ad 55) (M : gMem) (J : gMeL) (w : Int64) (n : Nat) (h1 : 1 ≤ n) (h8 : n ≤ 8) (hby : ∀ q, q < n → (32 ≤ byt w q ∧ byt w q ≤ 126)) (h : 40 < M 1 2 + n) (h2 : M 1 2 ≤ 40) : CI l g ad dsX 55 yX5_type cX5_type 4 (some .int) 4 [.ref (ad 0), .long w, .int (nI n)] M J (nI 4294967293) M J := by
  refine CI.of (plainFor_of_name (by decide)) (Nat.le_of_ble_eq_true rfl) (fun p9 e9 s9 m9 args9 below9 meth9 c9 CF hK hr9 hlk9 hP hS ls hl => ?_)
  have hx := CF.1
  have hb := CF.2.1
  have hA : ∀ q, g_A ad 55 q → g_A ad 55 q := fun _ h => h
  have hl : lv_has ls 4 [(0, .ref (ad 0)), (1, .long w), (3, .int (nI n))] := hl
  refine lv_iload_n hx hb dX5_type_0 rfl (lv_at hl 2 rfl) ?_
  refine lv_iconst (v := nI 1) hx hb dX5_type_1 (by decide) ?_
  refine lv_bipush (v := nI 8) hx hb dX5_type_2 (by decide) ?_
  refine x_callSP CF hK hP hS hl (As := [.int (nI n), .int (nI 1), .int (nI 8)]) (rest := []) (c_isWithin_t _ _ _ (w_in (by omega) (by omega) (by omega))) kw_X5_isWithin wd1_190 rfl ⟨Nat.le_of_ble_eq_true rfl, Nat.le_of_ble_eq_true rfl⟩ ⟨Nat.le_refl _, Nat.le_refl _⟩ (Nat.le_of_ble_eq_true rfl) dX5_type_4 (fun H locs hP hS => ?_)
  refine x_yeq (u := (1 : Int)) (tgt := 18) hx hb (rfl) dX5_type_7 (by decide) (fun h_1 => (by omega : False).elim) (fun h_1 => ?_)
  refine lv_lload_n hx hb dX5_type_10 rfl (lv_at hl 1 rfl) ?_
  refine lv_iload_n hx hb dX5_type_11 rfl (lv_at hl 2 rfl) ?_
  refine x_callSP CF hK hP hS hl (As := [.long w, .int (nI n)]) (rest := []) (c_areBytes_t w n (by omega) hby) kw_X5_areBytesOfTape wd1_193 rfl ⟨Nat.le_of_ble_eq_true rfl, Nat.le_of_ble_eq_true rfl⟩ ⟨Nat.le_refl _, Nat.le_refl _⟩ (Nat.le_of_ble_eq_true rfl) dX5_type_12 (fun H locs hP hS => ?_)
  refine x_yne (u := (1 : Int)) (tgt := 20) hx hb (rfl) dX5_type_15 (by decide) (fun h_2 => ?_) (fun h_2 => (by omega : False).elim)
  refine lv_aload_n hx hb dX5_type_20 rfl (lv_at hl 0 rfl) ?_
  refine x_getr CF hK hP 0 (by decide) dX_0 rfl uX5 3 (by decide) (j := 1) rfl wd1_167 rfl dX5_type_21 ?_
  refine lv_lload_n hx hb dX5_type_24 rfl (lv_at hl 1 rfl) ?_
  refine lv_iload_n hx hb dX5_type_25 rfl (lv_at hl 2 rfl) ?_
  refine x_callVI CF hK hP hS hA hl (As := [.long w, .int (nI n)]) (rest := []) (c_append_full hI M J w n (by omega) (by omega) (by omega)) kw_X4_append wd1_199 (by decide) dX_1 rfl rfl ⟨Nat.le_of_ble_eq_true rfl, Nat.le_of_ble_eq_true rfl⟩ ⟨Nat.le_refl _, Nat.le_refl _⟩ (Nat.le_of_ble_eq_true rfl) dX5_type_26 (fun H locs hP hS => ?_)
  exact x_reti hx hb hr9 hlk9 hS hP (by first | rfl | (show nI 4294967293 = nI 4294967293; first | rfl | omega)) dX5_type_29
set_option maxHeartbeats 4000000 in
set_option maxRecDepth 100000 in
theorem f_type_byte {l : Launch} {g : gE} {ad : Nat → Nat} (hI : g_inj ad 55) (M : gMem) (J : gMeL) (w : Int64) (n : Nat) (h1 : 1 ≤ n) (h8 : n ≤ 8) (hby : ∃ q, q < n ∧ ¬ (32 ≤ byt w q ∧ byt w q ≤ 126)) : CI l g ad dsX 55 yX5_type cX5_type 4 (some .int) 4 [.ref (ad 0), .long w, .int (nI n)] M J (nI 4294967295) M J := by
  refine CI.of (plainFor_of_name (by decide)) (Nat.le_of_ble_eq_true rfl) (fun p9 e9 s9 m9 args9 below9 meth9 c9 CF hK hr9 hlk9 hP hS ls hl => ?_)
  have hx := CF.1
  have hb := CF.2.1
  have hA : ∀ q, g_A ad 55 q → g_A ad 55 q := fun _ h => h
  have hl : lv_has ls 4 [(0, .ref (ad 0)), (1, .long w), (3, .int (nI n))] := hl
  refine lv_iload_n hx hb dX5_type_0 rfl (lv_at hl 2 rfl) ?_
  refine lv_iconst (v := nI 1) hx hb dX5_type_1 (by decide) ?_
  refine lv_bipush (v := nI 8) hx hb dX5_type_2 (by decide) ?_
  refine x_callSP CF hK hP hS hl (As := [.int (nI n), .int (nI 1), .int (nI 8)]) (rest := []) (c_isWithin_t _ _ _ (w_in (by omega) (by omega) (by omega))) kw_X5_isWithin wd1_190 rfl ⟨Nat.le_of_ble_eq_true rfl, Nat.le_of_ble_eq_true rfl⟩ ⟨Nat.le_refl _, Nat.le_refl _⟩ (Nat.le_of_ble_eq_true rfl) dX5_type_4 (fun H locs hP hS => ?_)
  refine x_yeq (u := (1 : Int)) (tgt := 18) hx hb (rfl) dX5_type_7 (by decide) (fun h_1 => (by omega : False).elim) (fun h_1 => ?_)
  refine lv_lload_n hx hb dX5_type_10 rfl (lv_at hl 1 rfl) ?_
  refine lv_iload_n hx hb dX5_type_11 rfl (lv_at hl 2 rfl) ?_
  refine x_callSP CF hK hP hS hl (As := [.long w, .int (nI n)]) (rest := []) (c_areBytes_f w n (by omega) hby) kw_X5_areBytesOfTape wd1_193 rfl ⟨Nat.le_of_ble_eq_true rfl, Nat.le_of_ble_eq_true rfl⟩ ⟨Nat.le_refl _, Nat.le_refl _⟩ (Nat.le_of_ble_eq_true rfl) dX5_type_12 (fun H locs hP hS => ?_)
  refine x_yne (u := (0 : Int)) (tgt := 20) hx hb (rfl) dX5_type_15 (by decide) (fun h_2 => (by omega : False).elim) (fun h_2 => ?_)
  refine lv_iconst (v := nI 4294967295) hx hb dX5_type_18 (by decide) ?_
  exact x_reti hx hb hr9 hlk9 hS hP (by first | rfl | (show nI 4294967295 = nI 4294967295; first | rfl | omega)) dX5_type_19
set_option maxHeartbeats 4000000 in
set_option maxRecDepth 100000 in
theorem f_type_n {l : Launch} {g : gE} {ad : Nat → Nat} (hI : g_inj ad 55) (M : gMem) (J : gMeL) (w : Int64) (n : Int32) (h : ¬ inR1 n 9) : CI l g ad dsX 55 yX5_type cX5_type 4 (some .int) 4 [.ref (ad 0), .long w, .int n] M J (nI 4294967295) M J := by
  refine CI.of (plainFor_of_name (by decide)) (Nat.le_of_ble_eq_true rfl) (fun p9 e9 s9 m9 args9 below9 meth9 c9 CF hK hr9 hlk9 hP hS ls hl => ?_)
  have hx := CF.1
  have hb := CF.2.1
  have hA : ∀ q, g_A ad 55 q → g_A ad 55 q := fun _ h => h
  have hl : lv_has ls 4 [(0, .ref (ad 0)), (1, .long w), (3, .int n)] := hl
  refine lv_iload_n hx hb dX5_type_0 rfl (lv_at hl 2 rfl) ?_
  refine lv_iconst (v := nI 1) hx hb dX5_type_1 (by decide) ?_
  refine lv_bipush (v := nI 8) hx hb dX5_type_2 (by decide) ?_
  rcases n_int1 (x := n) (n := 9) (by omega) with ⟨a, g_a, h_a, rfl⟩ | ho_n
  · refine x_callSP CF hK hP hS hl (As := [.int (nI a), .int (nI 1), .int (nI 8)]) (rest := []) (c_isWithin_t _ _ _ (w_in (by omega) (by omega) (by omega))) kw_X5_isWithin wd1_190 rfl ⟨Nat.le_of_ble_eq_true rfl, Nat.le_of_ble_eq_true rfl⟩ ⟨Nat.le_refl _, Nat.le_refl _⟩ (Nat.le_of_ble_eq_true rfl) dX5_type_4 (fun H locs hP hS => ?_)
    refine x_yeq (u := (1 : Int)) (tgt := 18) hx hb (rfl) dX5_type_7 (by decide) (fun h_1 => (by omega : False).elim) (fun h_1 => ?_)
    exact absurd (inR1_n g_a h_a (by decide)) h
  · refine x_callSP CF hK hP hS hl (As := [.int n, .int (nI 1), .int (nI 8)]) (rest := []) (c_isWithin_f _ _ _ (w_out (by omega) (by omega) (by omega))) kw_X5_isWithin wd1_190 rfl ⟨Nat.le_of_ble_eq_true rfl, Nat.le_of_ble_eq_true rfl⟩ ⟨Nat.le_refl _, Nat.le_refl _⟩ (Nat.le_of_ble_eq_true rfl) dX5_type_4 (fun H locs hP hS => ?_)
    refine x_yeq (u := (0 : Int)) (tgt := 18) hx hb (rfl) dX5_type_7 (by decide) (fun h_2 => ?_) (fun h_2 => (by omega : False).elim)
    refine lv_iconst (v := nI 4294967295) hx hb dX5_type_18 (by decide) ?_
    exact x_reti hx hb hr9 hlk9 hS hP (by first | rfl | (show nI 4294967295 = nI 4294967295; first | rfl | omega)) dX5_type_19
set_option maxHeartbeats 4000000 in
set_option maxRecDepth 100000 in
theorem f_cam_flt {l : Launch} {g : gE} {ad : Nat → Nat} (hI : g_inj ad 55) (M : gMem) (J : gMeL) (hlen : M 1 2 ≤ 40) (hby : ∀ q, q < 40 → M 2 q < 256) (p : Nat) (hp : (rdF (M 2) okd (M 1 2) 0 0 (M 1 2)) = some p) (hp9 : p ≤ 40) : CI l g ad dsX 55 yX5_cam cX5_cam 2 (some .int) 5 [.ref (ad 0)] M J (nI (4294967276 - p)) (u2 (rowN M 3 12 (rdS (M 2) okd (fun b => b - 48) 0 0 (M 1 2) (M 3))) 1 2 0) J := by
  refine CI.of (plainFor_of_name (by decide)) (Nat.le_of_ble_eq_true rfl) (fun p9 e9 s9 m9 args9 below9 meth9 c9 CF hK hr9 hlk9 hP hS ls hl => ?_)
  have hx := CF.1
  have hb := CF.2.1
  have hA : ∀ q, g_A ad 55 q → g_A ad 55 q := fun _ h => h
  have hl : lv_has ls 2 [(0, .ref (ad 0))] := hl
  refine lv_aload_n hx hb dX5_cam_0 rfl (lv_at hl 0 rfl) ?_
  refine lv_iconst (v := nI 0) hx hb dX5_cam_1 (by decide) ?_
  refine x_callVI CF hK hP hS hA hl (As := [.int (nI 0)]) (rest := []) (c_takeTape_d hI M J hlen hby) kw_X5_takeTape wd1_208 (by decide) dX_0 rfl rfl ⟨Nat.le_of_ble_eq_true rfl, Nat.le_of_ble_eq_true rfl⟩ ⟨Nat.le_refl _, Nat.le_refl _⟩ (Nat.le_of_ble_eq_true rfl) dX5_cam_2 (fun H locs hP hS => ?_)
  refine x_ri (show (nI (flt (rdF (M 2) okd (M 1 2) 0 0 (M 1 2)))) = nI (4294967276 - p) from by rw [hp]; rfl) ?_
  refine lv_istore_n (lv' := [(1, .int (nI (4294967276 - p))), (0, .ref (ad 0))]) hx hb dX5_cam_5 rfl hl (by decide) rfl (fun ls hl => ?_)
  refine lv_iload_n hx hb dX5_cam_6 rfl (lv_at hl 0 rfl) ?_
  refine x_yge (u := -20 - (p : Int)) (tgt := 12) hx hb (z_flt hp9) dX5_cam_7 (by decide) (fun h_1 => (by omega : False).elim) (fun h_1 => ?_)
  refine lv_iload_n hx hb dX5_cam_10 rfl (lv_at hl 0 rfl) ?_
  exact x_reti hx hb hr9 hlk9 hS hP (by first | rfl | (show nI (4294967276 - p) = nI (4294967276 - p); first | rfl | omega)) dX5_cam_11
set_option maxHeartbeats 4000000 in
set_option maxRecDepth 100000 in
theorem f_cam_full {l : Launch} {g : gE} {ad : Nat → Nat} (hI : g_inj ad 55) (M : gMem) (J : gMeL) (hlen : M 1 2 ≤ 40) (hby : ∀ q, q < 40 → M 2 q < 256) (hp : (rdF (M 2) okd (M 1 2) 0 0 (M 1 2)) = none) (h : M 23 1 = 6) : CI l g ad dsX 55 yX5_cam cX5_cam 2 (some .int) 5 [.ref (ad 0)] M J (nI 4294967293) (u2 (rowN M 3 12 (rdS (M 2) okd (fun b => b - 48) 0 0 (M 1 2) (M 3))) 1 2 0) J := by
  refine CI.of (plainFor_of_name (by decide)) (Nat.le_of_ble_eq_true rfl) (fun p9 e9 s9 m9 args9 below9 meth9 c9 CF hK hr9 hlk9 hP hS ls hl => ?_)
  have hx := CF.1
  have hb := CF.2.1
  have hA : ∀ q, g_A ad 55 q → g_A ad 55 q := fun _ h => h
  have hl : lv_has ls 2 [(0, .ref (ad 0))] := hl
  have e9 : (u2 (rowN M 3 12 (rdS (M 2) okd (fun b => b - 48) 0 0 (M 1 2) (M 3))) 1 2 0) 23 1 = M 23 1 := by rw [u2_row (by decide), rowN_out (by decide)]
  refine lv_aload_n hx hb dX5_cam_0 rfl (lv_at hl 0 rfl) ?_
  refine lv_iconst (v := nI 0) hx hb dX5_cam_1 (by decide) ?_
  refine x_callVI CF hK hP hS hA hl (As := [.int (nI 0)]) (rest := []) (c_takeTape_d hI M J hlen hby) kw_X5_takeTape wd1_208 (by decide) dX_0 rfl rfl ⟨Nat.le_of_ble_eq_true rfl, Nat.le_of_ble_eq_true rfl⟩ ⟨Nat.le_refl _, Nat.le_refl _⟩ (Nat.le_of_ble_eq_true rfl) dX5_cam_2 (fun H locs hP hS => ?_)
  refine x_ri (show (nI (flt (rdF (M 2) okd (M 1 2) 0 0 (M 1 2)))) = nI 0 from by rw [hp]; rfl) ?_
  refine lv_istore_n (lv' := [(1, .int (nI 0)), (0, .ref (ad 0))]) hx hb dX5_cam_5 rfl hl (by decide) rfl (fun ls hl => ?_)
  refine lv_iload_n hx hb dX5_cam_6 rfl (lv_at hl 0 rfl) ?_
  refine x_yge (u := (0 : Int)) (tgt := 12) hx hb (rfl) dX5_cam_7 (by decide) (fun h_1 => ?_) (fun h_1 => (by omega : False).elim)
  refine lv_aload_n hx hb dX5_cam_12 rfl (lv_at hl 1 rfl) ?_
  refine x_getr CF hK hP 0 (by decide) dX_0 rfl uX5 0 (by decide) (j := 23) rfl wd1_164 rfl dX5_cam_13 ?_
  refine lv_aload_n hx hb dX5_cam_16 rfl (lv_at hl 1 rfl) ?_
  refine x_getr CF hK hP 0 (by decide) dX_0 rfl uX5 3 (by decide) (j := 1) rfl wd1_167 rfl dX5_cam_17 ?_
  refine x_getr CF hK hP 1 (by decide) dX_1 rfl uX4 1 (by decide) (j := 3) rfl wd1_116 rfl dX5_cam_20 ?_
  refine x_callVI CF hK hP hS hA hl (As := [.ref (ad 3)]) (rest := []) (c_addCam_full hI (u2 (rowN M 3 12 (rdS (M 2) okd (fun b => b - 48) 0 0 (M 1 2) (M 3))) 1 2 0) J h) kw_X1_addCam wd1_227 (by decide) dX_23 rfl rfl ⟨Nat.le_of_ble_eq_true rfl, Nat.le_of_ble_eq_true rfl⟩ ⟨Nat.le_refl _, Nat.le_refl _⟩ (Nat.le_of_ble_eq_true rfl) dX5_cam_23 (fun H locs hP hS => ?_)
  exact x_reti hx hb hr9 hlk9 hS (by first | exact hP | (rw [e9] at hP; exact hP)) (by first | rfl | (rw [e9])) dX5_cam_26
set_option maxHeartbeats 4000000 in
set_option maxRecDepth 100000 in
theorem f_cam_ok {l : Launch} {g : gE} {ad : Nat → Nat} (hI : g_inj ad 55) (M : gMem) (J : gMeL) (hlen : M 1 2 ≤ 40) (hby : ∀ q, q < 40 → M 2 q < 256) (hp : (rdF (M 2) okd (M 1 2) 0 0 (M 1 2)) = none) (h : M 23 1 < 6) : CI l g ad dsX 55 yX5_cam cX5_cam 2 (some .int) 5 [.ref (ad 0)] M J (nI (M 23 1)) (u2 (gcpy (u2 (rowN M 3 12 (rdS (M 2) okd (fun b => b - 48) 0 0 (M 1 2) (M 3))) 1 2 0) 3 0 (25 + M 23 1) 0 12) 23 1 (M 23 1 + 1)) J := by
  refine CI.of (plainFor_of_name (by decide)) (Nat.le_of_ble_eq_true rfl) (fun p9 e9 s9 m9 args9 below9 meth9 c9 CF hK hr9 hlk9 hP hS ls hl => ?_)
  have hx := CF.1
  have hb := CF.2.1
  have hA : ∀ q, g_A ad 55 q → g_A ad 55 q := fun _ h => h
  have hl : lv_has ls 2 [(0, .ref (ad 0))] := hl
  have e9 : (u2 (rowN M 3 12 (rdS (M 2) okd (fun b => b - 48) 0 0 (M 1 2) (M 3))) 1 2 0) 23 1 = M 23 1 := by rw [u2_row (by decide), rowN_out (by decide)]
  refine lv_aload_n hx hb dX5_cam_0 rfl (lv_at hl 0 rfl) ?_
  refine lv_iconst (v := nI 0) hx hb dX5_cam_1 (by decide) ?_
  refine x_callVI CF hK hP hS hA hl (As := [.int (nI 0)]) (rest := []) (c_takeTape_d hI M J hlen hby) kw_X5_takeTape wd1_208 (by decide) dX_0 rfl rfl ⟨Nat.le_of_ble_eq_true rfl, Nat.le_of_ble_eq_true rfl⟩ ⟨Nat.le_refl _, Nat.le_refl _⟩ (Nat.le_of_ble_eq_true rfl) dX5_cam_2 (fun H locs hP hS => ?_)
  refine x_ri (show (nI (flt (rdF (M 2) okd (M 1 2) 0 0 (M 1 2)))) = nI 0 from by rw [hp]; rfl) ?_
  refine lv_istore_n (lv' := [(1, .int (nI 0)), (0, .ref (ad 0))]) hx hb dX5_cam_5 rfl hl (by decide) rfl (fun ls hl => ?_)
  refine lv_iload_n hx hb dX5_cam_6 rfl (lv_at hl 0 rfl) ?_
  refine x_yge (u := (0 : Int)) (tgt := 12) hx hb (rfl) dX5_cam_7 (by decide) (fun h_1 => ?_) (fun h_1 => (by omega : False).elim)
  refine lv_aload_n hx hb dX5_cam_12 rfl (lv_at hl 1 rfl) ?_
  refine x_getr CF hK hP 0 (by decide) dX_0 rfl uX5 0 (by decide) (j := 23) rfl wd1_164 rfl dX5_cam_13 ?_
  refine lv_aload_n hx hb dX5_cam_16 rfl (lv_at hl 1 rfl) ?_
  refine x_getr CF hK hP 0 (by decide) dX_0 rfl uX5 3 (by decide) (j := 1) rfl wd1_167 rfl dX5_cam_17 ?_
  refine x_getr CF hK hP 1 (by decide) dX_1 rfl uX4 1 (by decide) (j := 3) rfl wd1_116 rfl dX5_cam_20 ?_
  refine x_callVI CF hK hP hS hA hl (As := [.ref (ad 3)]) (rest := []) (c_addCam_ok hI (u2 (rowN M 3 12 (rdS (M 2) okd (fun b => b - 48) 0 0 (M 1 2) (M 3))) 1 2 0) J h) kw_X1_addCam wd1_227 (by decide) dX_23 rfl rfl ⟨Nat.le_of_ble_eq_true rfl, Nat.le_of_ble_eq_true rfl⟩ ⟨Nat.le_refl _, Nat.le_refl _⟩ (Nat.le_of_ble_eq_true rfl) dX5_cam_23 (fun H locs hP hS => ?_)
  exact x_reti hx hb hr9 hlk9 hS (by first | exact hP | (rw [e9] at hP; exact hP)) (by first | rfl | (rw [e9])) dX5_cam_26
set_option maxHeartbeats 4000000 in
set_option maxRecDepth 100000 in
theorem f_cut_ok {l : Launch} {g : gE} {ad : Nat → Nat} (hI : g_inj ad 55) (M : gMem) (J : gMeL) (hw : wfX M) (c a v : Nat) (hc : c < M 23 1) (ha : a < 12) (hv : v < 10) : CI l g ad dsX 55 yX5_cut cX5_cut 5 (some .int) 3 [.ref (ad 0), .int (nI c), .int (nI a), .int (nI v)] M J (nI (M (25 + c) a)) (u2 M (25 + c) a v) J := by
  refine CI.of (plainFor_of_name (by decide)) (Nat.le_of_ble_eq_true rfl) (fun p9 e9 s9 m9 args9 below9 meth9 c9 CF hK hr9 hlk9 hP hS ls hl => ?_)
  have hx := CF.1
  have hb := CF.2.1
  have hA : ∀ q, g_A ad 55 q → g_A ad 55 q := fun _ h => h
  have hl : lv_has ls 5 [(0, .ref (ad 0)), (1, .int (nI c)), (2, .int (nI a)), (3, .int (nI v))] := hl
  have hnc := hw.nc
  have hnf := hw.nf
  refine lv_aload_n hx hb dX5_cut_0 rfl (lv_at hl 0 rfl) ?_
  refine lv_iload_n hx hb dX5_cut_1 rfl (lv_at hl 1 rfl) ?_
  refine x_callVI CF hK hP hS hA hl (As := [.int (nI c)]) (rest := []) (c_isCam_t hI M J c (by omega) (by omega)) kw_X5_isCam wd1_238 (by decide) dX_0 rfl rfl ⟨Nat.le_of_ble_eq_true rfl, Nat.le_of_ble_eq_true rfl⟩ ⟨Nat.le_refl _, Nat.le_refl _⟩ (Nat.le_of_ble_eq_true rfl) dX5_cut_2 (fun H locs hP hS => ?_)
  refine x_yeq (u := (1 : Int)) (tgt := 25) hx hb (rfl) dX5_cut_5 (by decide) (fun h_1 => (by omega : False).elim) (fun h_1 => ?_)
  refine lv_iload_n hx hb dX5_cut_8 rfl (lv_at hl 2 rfl) ?_
  refine x_callSP CF hK hP hS hl (As := [.int (nI a)]) (rest := []) (c_isAngle_t a (by omega)) kw_X5_isAngle wd2_2 rfl ⟨Nat.le_of_ble_eq_true rfl, Nat.le_of_ble_eq_true rfl⟩ ⟨Nat.le_refl _, Nat.le_refl _⟩ (Nat.le_of_ble_eq_true rfl) dX5_cut_9 (fun H locs hP hS => ?_)
  refine x_yeq (u := (1 : Int)) (tgt := 25) hx hb (rfl) dX5_cut_12 (by decide) (fun h_2 => (by omega : False).elim) (fun h_2 => ?_)
  refine lv_iload_n hx hb dX5_cut_15 rfl (lv_at hl 3 rfl) ?_
  refine lv_iconst (v := nI 0) hx hb dX5_cut_16 (by decide) ?_
  refine lv_bipush (v := nI 9) hx hb dX5_cut_17 (by decide) ?_
  refine x_callSP CF hK hP hS hl (As := [.int (nI v), .int (nI 0), .int (nI 9)]) (rest := []) (c_isWithin_t _ _ _ (w_in (by omega) (by omega) (by omega))) kw_X5_isWithin wd1_190 rfl ⟨Nat.le_of_ble_eq_true rfl, Nat.le_of_ble_eq_true rfl⟩ ⟨Nat.le_refl _, Nat.le_refl _⟩ (Nat.le_of_ble_eq_true rfl) dX5_cut_19 (fun H locs hP hS => ?_)
  refine x_yne (u := (1 : Int)) (tgt := 27) hx hb (rfl) dX5_cut_22 (by decide) (fun h_3 => ?_) (fun h_3 => (by omega : False).elim)
  refine lv_aload_n hx hb dX5_cut_27 rfl (lv_at hl 0 rfl) ?_
  refine x_getr CF hK hP 0 (by decide) dX_0 rfl uX5 0 (by decide) (j := 23) rfl wd1_164 rfl dX5_cut_28 ?_
  refine x_getr CF hK hP 23 (by decide) dX_23 rfl uX1 0 (by decide) (j := 24) rfl wd1_68 rfl dX5_cut_31 ?_
  refine lv_iload_n hx hb dX5_cut_34 rfl (lv_at hl 1 rfl) ?_
  refine x_aald CF hK hP 24 (by decide) (t := 2) dX_24 (by decide) c (by omega) (by decide) (j := (25 + c)) (oX_hair c (by omega)) dX5_cut_35 ?_
  refine lv_iload_n hx hb dX5_cut_36 rfl (lv_at hl 2 rfl) ?_
  refine x_iald CF hK hP (25 + c) (by omega) (dX_hair c (by omega)) a (by omega) (by decide) dX5_cut_37 ?_
  refine lv_istore (lv' := [(4, .int (nI (M (25 + c) a))), (0, .ref (ad 0)), (1, .int (nI c)), (2, .int (nI a)), (3, .int (nI v))]) hx hb dX5_cut_38 hl (by decide) rfl (fun ls hl => ?_)
  refine lv_aload_n hx hb dX5_cut_40 rfl (lv_at hl 1 rfl) ?_
  refine x_getr CF hK hP 0 (by decide) dX_0 rfl uX5 0 (by decide) (j := 23) rfl wd1_164 rfl dX5_cut_41 ?_
  refine x_getr CF hK hP 23 (by decide) dX_23 rfl uX1 0 (by decide) (j := 24) rfl wd1_68 rfl dX5_cut_44 ?_
  refine lv_iload_n hx hb dX5_cut_47 rfl (lv_at hl 2 rfl) ?_
  refine x_aald CF hK hP 24 (by decide) (t := 2) dX_24 (by decide) c (by omega) (by decide) (j := (25 + c)) (oX_hair c (by omega)) dX5_cut_48 ?_
  refine lv_iload_n hx hb dX5_cut_49 rfl (lv_at hl 3 rfl) ?_
  refine lv_iload_n hx hb dX5_cut_50 rfl (lv_at hl 4 rfl) ?_
  refine x_iast CF hK hI hA hP hS (25 + c) (by omega) (dX_hair c (by omega)) a (by omega) (by decide) v dX5_cut_51 (fun H locs hP hS => ?_)
  refine lv_iload hx hb dX5_cut_52 (lv_at hl 0 rfl) ?_
  exact x_reti hx hb hr9 hlk9 hS hP (by first | rfl | (show nI (M (25 + c) a) = nI (M (25 + c) a); first | rfl | omega)) dX5_cut_54
set_option maxHeartbeats 4000000 in
set_option maxRecDepth 100000 in
theorem f_cut_bad {l : Launch} {g : gE} {ad : Nat → Nat} (hI : g_inj ad 55) (M : gMem) (J : gMeL) (hw : wfX M) (c a v : Int32) (h : ¬ (inR c (M 23 1) ∧ inR a 12 ∧ inR v 10)) : CI l g ad dsX 55 yX5_cut cX5_cut 5 (some .int) 3 [.ref (ad 0), .int c, .int a, .int v] M J (nI 4294967295) M J := by
  refine CI.of (plainFor_of_name (by decide)) (Nat.le_of_ble_eq_true rfl) (fun p9 e9 s9 m9 args9 below9 meth9 c9 CF hK hr9 hlk9 hP hS ls hl => ?_)
  have hx := CF.1
  have hb := CF.2.1
  have hA : ∀ q, g_A ad 55 q → g_A ad 55 q := fun _ h => h
  have hl : lv_has ls 5 [(0, .ref (ad 0)), (1, .int c), (2, .int a), (3, .int v)] := hl
  have hnc := hw.nc
  have hnf := hw.nf
  refine lv_aload_n hx hb dX5_cut_0 rfl (lv_at hl 0 rfl) ?_
  refine lv_iload_n hx hb dX5_cut_1 rfl (lv_at hl 1 rfl) ?_
  rcases n_int (x := c) (n := M 23 1) (by omega) with ⟨c1, h_c1, rfl⟩ | ho_c
  · refine x_callVI CF hK hP hS hA hl (As := [.int (nI c1)]) (rest := []) (c_isCam_t hI M J c1 (by omega) (by omega)) kw_X5_isCam wd1_238 (by decide) dX_0 rfl rfl ⟨Nat.le_of_ble_eq_true rfl, Nat.le_of_ble_eq_true rfl⟩ ⟨Nat.le_refl _, Nat.le_refl _⟩ (Nat.le_of_ble_eq_true rfl) dX5_cut_2 (fun H locs hP hS => ?_)
    refine x_yeq (u := (1 : Int)) (tgt := 25) hx hb (rfl) dX5_cut_5 (by decide) (fun h_1 => (by omega : False).elim) (fun h_1 => ?_)
    refine lv_iload_n hx hb dX5_cut_8 rfl (lv_at hl 2 rfl) ?_
    rcases n_int (x := a) (n := 12) (by omega) with ⟨a1, h_a1, rfl⟩ | ho_a
    · refine x_callSP CF hK hP hS hl (As := [.int (nI a1)]) (rest := []) (c_isAngle_t a1 (by omega)) kw_X5_isAngle wd2_2 rfl ⟨Nat.le_of_ble_eq_true rfl, Nat.le_of_ble_eq_true rfl⟩ ⟨Nat.le_refl _, Nat.le_refl _⟩ (Nat.le_of_ble_eq_true rfl) dX5_cut_9 (fun H locs hP hS => ?_)
      refine x_yeq (u := (1 : Int)) (tgt := 25) hx hb (rfl) dX5_cut_12 (by decide) (fun h_2 => (by omega : False).elim) (fun h_2 => ?_)
      refine lv_iload_n hx hb dX5_cut_15 rfl (lv_at hl 3 rfl) ?_
      refine lv_iconst (v := nI 0) hx hb dX5_cut_16 (by decide) ?_
      refine lv_bipush (v := nI 9) hx hb dX5_cut_17 (by decide) ?_
      rcases n_int (x := v) (n := 10) (by omega) with ⟨v1, h_v1, rfl⟩ | ho_v
      · refine x_callSP CF hK hP hS hl (As := [.int (nI v1), .int (nI 0), .int (nI 9)]) (rest := []) (c_isWithin_t _ _ _ (w_in (by omega) (by omega) (by omega))) kw_X5_isWithin wd1_190 rfl ⟨Nat.le_of_ble_eq_true rfl, Nat.le_of_ble_eq_true rfl⟩ ⟨Nat.le_refl _, Nat.le_refl _⟩ (Nat.le_of_ble_eq_true rfl) dX5_cut_19 (fun H locs hP hS => ?_)
        refine x_yne (u := (1 : Int)) (tgt := 27) hx hb (rfl) dX5_cut_22 (by decide) (fun h_3 => ?_) (fun h_3 => (by omega : False).elim)
        exact absurd ⟨inR_n h_c1 (by omega), inR_n h_a1 (by decide), inR_n h_v1 (by decide)⟩ h
      · refine x_callSP CF hK hP hS hl (As := [.int v, .int (nI 0), .int (nI 9)]) (rest := []) (c_isWithin_f _ _ _ (w_out (by omega) (by omega) (by omega))) kw_X5_isWithin wd1_190 rfl ⟨Nat.le_of_ble_eq_true rfl, Nat.le_of_ble_eq_true rfl⟩ ⟨Nat.le_refl _, Nat.le_refl _⟩ (Nat.le_of_ble_eq_true rfl) dX5_cut_19 (fun H locs hP hS => ?_)
        refine x_yne (u := (0 : Int)) (tgt := 27) hx hb (rfl) dX5_cut_22 (by decide) (fun h_4 => (by omega : False).elim) (fun h_4 => ?_)
        refine lv_iconst (v := nI 4294967295) hx hb dX5_cut_25 (by decide) ?_
        exact x_reti hx hb hr9 hlk9 hS hP (by first | rfl | (show nI 4294967295 = nI 4294967295; first | rfl | omega)) dX5_cut_26
    · refine x_callSP CF hK hP hS hl (As := [.int a]) (rest := []) (c_isAngle_f a ho_a) kw_X5_isAngle wd2_2 rfl ⟨Nat.le_of_ble_eq_true rfl, Nat.le_of_ble_eq_true rfl⟩ ⟨Nat.le_refl _, Nat.le_refl _⟩ (Nat.le_of_ble_eq_true rfl) dX5_cut_9 (fun H locs hP hS => ?_)
      refine x_yeq (u := (0 : Int)) (tgt := 25) hx hb (rfl) dX5_cut_12 (by decide) (fun h_5 => ?_) (fun h_5 => (by omega : False).elim)
      refine lv_iconst (v := nI 4294967295) hx hb dX5_cut_25 (by decide) ?_
      exact x_reti hx hb hr9 hlk9 hS hP (by first | rfl | (show nI 4294967295 = nI 4294967295; first | rfl | omega)) dX5_cut_26
  · refine x_callVI CF hK hP hS hA hl (As := [.int c]) (rest := []) (c_isCam_f hI M J c ho_c (by omega)) kw_X5_isCam wd1_238 (by decide) dX_0 rfl rfl ⟨Nat.le_of_ble_eq_true rfl, Nat.le_of_ble_eq_true rfl⟩ ⟨Nat.le_refl _, Nat.le_refl _⟩ (Nat.le_of_ble_eq_true rfl) dX5_cut_2 (fun H locs hP hS => ?_)
    refine x_yeq (u := (0 : Int)) (tgt := 25) hx hb (rfl) dX5_cut_5 (by decide) (fun h_6 => ?_) (fun h_6 => (by omega : False).elim)
    refine lv_iconst (v := nI 4294967295) hx hb dX5_cut_25 (by decide) ?_
    exact x_reti hx hb hr9 hlk9 hS hP (by first | rfl | (show nI 4294967295 = nI 4294967295; first | rfl | omega)) dX5_cut_26
set_option maxHeartbeats 4000000 in
set_option maxRecDepth 100000 in
theorem f_told_ok {l : Launch} {g : gE} {ad : Nat → Nat} (hI : g_inj ad 55) (M : gMem) (J : gMeL) (hw : wfX M) (c a : Nat) (hc : c < M 23 1) (ha : a < 12) : CI l g ad dsX 55 yX5_told cX5_told 3 (some .int) 3 [.ref (ad 0), .int (nI c), .int (nI a)] M J (nI (M (25 + c) a)) M J := by
  refine CI.of (plainFor_of_name (by decide)) (Nat.le_of_ble_eq_true rfl) (fun p9 e9 s9 m9 args9 below9 meth9 c9 CF hK hr9 hlk9 hP hS ls hl => ?_)
  have hx := CF.1
  have hb := CF.2.1
  have hA : ∀ q, g_A ad 55 q → g_A ad 55 q := fun _ h => h
  have hl : lv_has ls 3 [(0, .ref (ad 0)), (1, .int (nI c)), (2, .int (nI a))] := hl
  have hnc := hw.nc
  have hnf := hw.nf
  refine lv_aload_n hx hb dX5_told_0 rfl (lv_at hl 0 rfl) ?_
  refine lv_iload_n hx hb dX5_told_1 rfl (lv_at hl 1 rfl) ?_
  refine x_callVI CF hK hP hS hA hl (As := [.int (nI c)]) (rest := []) (c_isCam_t hI M J c (by omega) (by omega)) kw_X5_isCam wd1_238 (by decide) dX_0 rfl rfl ⟨Nat.le_of_ble_eq_true rfl, Nat.le_of_ble_eq_true rfl⟩ ⟨Nat.le_refl _, Nat.le_refl _⟩ (Nat.le_of_ble_eq_true rfl) dX5_told_2 (fun H locs hP hS => ?_)
  refine x_yeq (u := (1 : Int)) (tgt := 15) hx hb (rfl) dX5_told_5 (by decide) (fun h_1 => (by omega : False).elim) (fun h_1 => ?_)
  refine lv_iload_n hx hb dX5_told_8 rfl (lv_at hl 2 rfl) ?_
  refine x_callSP CF hK hP hS hl (As := [.int (nI a)]) (rest := []) (c_isAngle_t a (by omega)) kw_X5_isAngle wd2_2 rfl ⟨Nat.le_of_ble_eq_true rfl, Nat.le_of_ble_eq_true rfl⟩ ⟨Nat.le_refl _, Nat.le_refl _⟩ (Nat.le_of_ble_eq_true rfl) dX5_told_9 (fun H locs hP hS => ?_)
  refine x_yne (u := (1 : Int)) (tgt := 17) hx hb (rfl) dX5_told_12 (by decide) (fun h_2 => ?_) (fun h_2 => (by omega : False).elim)
  refine lv_aload_n hx hb dX5_told_17 rfl (lv_at hl 0 rfl) ?_
  refine x_getr CF hK hP 0 (by decide) dX_0 rfl uX5 0 (by decide) (j := 23) rfl wd1_164 rfl dX5_told_18 ?_
  refine x_getr CF hK hP 23 (by decide) dX_23 rfl uX1 0 (by decide) (j := 24) rfl wd1_68 rfl dX5_told_21 ?_
  refine lv_iload_n hx hb dX5_told_24 rfl (lv_at hl 1 rfl) ?_
  refine x_aald CF hK hP 24 (by decide) (t := 2) dX_24 (by decide) c (by omega) (by decide) (j := (25 + c)) (oX_hair c (by omega)) dX5_told_25 ?_
  refine lv_iload_n hx hb dX5_told_26 rfl (lv_at hl 2 rfl) ?_
  refine x_iald CF hK hP (25 + c) (by omega) (dX_hair c (by omega)) a (by omega) (by decide) dX5_told_27 ?_
  exact x_reti hx hb hr9 hlk9 hS hP (by first | rfl | (show nI (M (25 + c) a) = nI (M (25 + c) a); first | rfl | omega)) dX5_told_28
set_option maxHeartbeats 4000000 in
set_option maxRecDepth 100000 in
theorem f_told_bad {l : Launch} {g : gE} {ad : Nat → Nat} (hI : g_inj ad 55) (M : gMem) (J : gMeL) (hw : wfX M) (c a : Int32) (h : ¬ (inR c (M 23 1) ∧ inR a 12)) : CI l g ad dsX 55 yX5_told cX5_told 3 (some .int) 3 [.ref (ad 0), .int c, .int a] M J (nI 4294967295) M J := by
  refine CI.of (plainFor_of_name (by decide)) (Nat.le_of_ble_eq_true rfl) (fun p9 e9 s9 m9 args9 below9 meth9 c9 CF hK hr9 hlk9 hP hS ls hl => ?_)
  have hx := CF.1
  have hb := CF.2.1
  have hA : ∀ q, g_A ad 55 q → g_A ad 55 q := fun _ h => h
  have hl : lv_has ls 3 [(0, .ref (ad 0)), (1, .int c), (2, .int a)] := hl
  have hnc := hw.nc
  have hnf := hw.nf
  refine lv_aload_n hx hb dX5_told_0 rfl (lv_at hl 0 rfl) ?_
  refine lv_iload_n hx hb dX5_told_1 rfl (lv_at hl 1 rfl) ?_
  rcases n_int (x := c) (n := M 23 1) (by omega) with ⟨c1, h_c1, rfl⟩ | ho_c
  · refine x_callVI CF hK hP hS hA hl (As := [.int (nI c1)]) (rest := []) (c_isCam_t hI M J c1 (by omega) (by omega)) kw_X5_isCam wd1_238 (by decide) dX_0 rfl rfl ⟨Nat.le_of_ble_eq_true rfl, Nat.le_of_ble_eq_true rfl⟩ ⟨Nat.le_refl _, Nat.le_refl _⟩ (Nat.le_of_ble_eq_true rfl) dX5_told_2 (fun H locs hP hS => ?_)
    refine x_yeq (u := (1 : Int)) (tgt := 15) hx hb (rfl) dX5_told_5 (by decide) (fun h_1 => (by omega : False).elim) (fun h_1 => ?_)
    refine lv_iload_n hx hb dX5_told_8 rfl (lv_at hl 2 rfl) ?_
    rcases n_int (x := a) (n := 12) (by omega) with ⟨a1, h_a1, rfl⟩ | ho_a
    · refine x_callSP CF hK hP hS hl (As := [.int (nI a1)]) (rest := []) (c_isAngle_t a1 (by omega)) kw_X5_isAngle wd2_2 rfl ⟨Nat.le_of_ble_eq_true rfl, Nat.le_of_ble_eq_true rfl⟩ ⟨Nat.le_refl _, Nat.le_refl _⟩ (Nat.le_of_ble_eq_true rfl) dX5_told_9 (fun H locs hP hS => ?_)
      refine x_yne (u := (1 : Int)) (tgt := 17) hx hb (rfl) dX5_told_12 (by decide) (fun h_2 => ?_) (fun h_2 => (by omega : False).elim)
      exact absurd ⟨inR_n h_c1 (by omega), inR_n h_a1 (by decide)⟩ h
    · refine x_callSP CF hK hP hS hl (As := [.int a]) (rest := []) (c_isAngle_f a ho_a) kw_X5_isAngle wd2_2 rfl ⟨Nat.le_of_ble_eq_true rfl, Nat.le_of_ble_eq_true rfl⟩ ⟨Nat.le_refl _, Nat.le_refl _⟩ (Nat.le_of_ble_eq_true rfl) dX5_told_9 (fun H locs hP hS => ?_)
      refine x_yne (u := (0 : Int)) (tgt := 17) hx hb (rfl) dX5_told_12 (by decide) (fun h_3 => (by omega : False).elim) (fun h_3 => ?_)
      refine lv_iconst (v := nI 4294967295) hx hb dX5_told_15 (by decide) ?_
      exact x_reti hx hb hr9 hlk9 hS hP (by first | rfl | (show nI 4294967295 = nI 4294967295; first | rfl | omega)) dX5_told_16
  · refine x_callVI CF hK hP hS hA hl (As := [.int c]) (rest := []) (c_isCam_f hI M J c ho_c (by omega)) kw_X5_isCam wd1_238 (by decide) dX_0 rfl rfl ⟨Nat.le_of_ble_eq_true rfl, Nat.le_of_ble_eq_true rfl⟩ ⟨Nat.le_refl _, Nat.le_refl _⟩ (Nat.le_of_ble_eq_true rfl) dX5_told_2 (fun H locs hP hS => ?_)
    refine x_yeq (u := (0 : Int)) (tgt := 15) hx hb (rfl) dX5_told_5 (by decide) (fun h_4 => ?_) (fun h_4 => (by omega : False).elim)
    refine lv_iconst (v := nI 4294967295) hx hb dX5_told_15 (by decide) ?_
    exact x_reti hx hb hr9 hlk9 hS hP (by first | rfl | (show nI 4294967295 = nI 4294967295; first | rfl | omega)) dX5_told_16
set_option maxHeartbeats 4000000 in
set_option maxRecDepth 100000 in
theorem f_figure_full {l : Launch} {g : gE} {ad : Nat → Nat} (hI : g_inj ad 55) (M : gMem) (J : gMeL) (hw : wfX M) (k c lg p : Nat) (hk : k < 4) (hc : c < M 23 1) (hlg : lg < 12) (hp : p < 4) (h : M 23 3 = 5) : CI l g ad dsX 55 yX5_figure cX5_figure 5 (some .int) 3 [.ref (ad 0), .int (nI k), .int (nI c), .int (nI lg), .int (nI p)] M J (nI 4294967293) M J := by
  refine CI.of (plainFor_of_name (by decide)) (Nat.le_of_ble_eq_true rfl) (fun p9 e9 s9 m9 args9 below9 meth9 c9 CF hK hr9 hlk9 hP hS ls hl => ?_)
  have hx := CF.1
  have hb := CF.2.1
  have hA : ∀ q, g_A ad 55 q → g_A ad 55 q := fun _ h => h
  have hl : lv_has ls 5 [(0, .ref (ad 0)), (1, .int (nI k)), (2, .int (nI c)), (3, .int (nI lg)), (4, .int (nI p))] := hl
  have hnc := hw.nc
  have hnf := hw.nf
  refine lv_iload_n hx hb dX5_figure_0 rfl (lv_at hl 1 rfl) ?_
  refine x_callSP CF hK hP hS hl (As := [.int (nI k)]) (rest := []) (c_isKind_t k (by omega)) kw_X5_isKind wd2_13 rfl ⟨Nat.le_of_ble_eq_true rfl, Nat.le_of_ble_eq_true rfl⟩ ⟨Nat.le_refl _, Nat.le_refl _⟩ (Nat.le_of_ble_eq_true rfl) dX5_figure_1 (fun H locs hP hS => ?_)
  refine x_yeq (u := (1 : Int)) (tgt := 30) hx hb (rfl) dX5_figure_4 (by decide) (fun h_1 => (by omega : False).elim) (fun h_1 => ?_)
  refine lv_aload_n hx hb dX5_figure_7 rfl (lv_at hl 0 rfl) ?_
  refine lv_iload_n hx hb dX5_figure_8 rfl (lv_at hl 2 rfl) ?_
  refine x_callVI CF hK hP hS hA hl (As := [.int (nI c)]) (rest := []) (c_isCam_t hI M J c (by omega) (by omega)) kw_X5_isCam wd1_238 (by decide) dX_0 rfl rfl ⟨Nat.le_of_ble_eq_true rfl, Nat.le_of_ble_eq_true rfl⟩ ⟨Nat.le_refl _, Nat.le_refl _⟩ (Nat.le_of_ble_eq_true rfl) dX5_figure_9 (fun H locs hP hS => ?_)
  refine x_yeq (u := (1 : Int)) (tgt := 30) hx hb (rfl) dX5_figure_12 (by decide) (fun h_2 => (by omega : False).elim) (fun h_2 => ?_)
  refine lv_iload_n hx hb dX5_figure_15 rfl (lv_at hl 3 rfl) ?_
  refine x_callSP CF hK hP hS hl (As := [.int (nI lg)]) (rest := []) (c_isAngle_t lg (by omega)) kw_X5_isAngle wd2_2 rfl ⟨Nat.le_of_ble_eq_true rfl, Nat.le_of_ble_eq_true rfl⟩ ⟨Nat.le_refl _, Nat.le_refl _⟩ (Nat.le_of_ble_eq_true rfl) dX5_figure_16 (fun H locs hP hS => ?_)
  refine x_yeq (u := (1 : Int)) (tgt := 30) hx hb (rfl) dX5_figure_19 (by decide) (fun h_3 => (by omega : False).elim) (fun h_3 => ?_)
  refine lv_iload hx hb dX5_figure_22 (lv_at hl 4 rfl) ?_
  refine x_callSP CF hK hP hS hl (As := [.int (nI p)]) (rest := []) (c_isPlace_t p (by omega)) kw_X5_isPlace wd2_16 rfl ⟨Nat.le_of_ble_eq_true rfl, Nat.le_of_ble_eq_true rfl⟩ ⟨Nat.le_refl _, Nat.le_refl _⟩ (Nat.le_of_ble_eq_true rfl) dX5_figure_24 (fun H locs hP hS => ?_)
  refine x_yne (u := (1 : Int)) (tgt := 32) hx hb (rfl) dX5_figure_27 (by decide) (fun h_4 => ?_) (fun h_4 => (by omega : False).elim)
  refine lv_aload_n hx hb dX5_figure_32 rfl (lv_at hl 0 rfl) ?_
  refine x_getr CF hK hP 0 (by decide) dX_0 rfl uX5 0 (by decide) (j := 23) rfl wd1_164 rfl dX5_figure_33 ?_
  refine lv_iload_n hx hb dX5_figure_36 rfl (lv_at hl 1 rfl) ?_
  refine lv_iload_n hx hb dX5_figure_37 rfl (lv_at hl 2 rfl) ?_
  refine lv_iload_n hx hb dX5_figure_38 rfl (lv_at hl 3 rfl) ?_
  refine lv_iload hx hb dX5_figure_39 (lv_at hl 4 rfl) ?_
  refine x_callVI CF hK hP hS hA hl (As := [.int (nI k), .int (nI c), .int (nI lg), .int (nI p)]) (rest := []) (c_addFig_full hI M J k c lg p h) kw_X1_addFigure wd2_19 (by decide) dX_23 rfl rfl ⟨Nat.le_of_ble_eq_true rfl, Nat.le_of_ble_eq_true rfl⟩ ⟨Nat.le_refl _, Nat.le_refl _⟩ (Nat.le_of_ble_eq_true rfl) dX5_figure_41 (fun H locs hP hS => ?_)
  exact x_reti hx hb hr9 hlk9 hS hP (by first | rfl | (show nI 4294967293 = nI 4294967293; first | rfl | omega)) dX5_figure_44
set_option maxHeartbeats 4000000 in
set_option maxRecDepth 100000 in
theorem f_figure_ok {l : Launch} {g : gE} {ad : Nat → Nat} (hI : g_inj ad 55) (M : gMem) (J : gMeL) (hw : wfX M) (k c lg p : Nat) (hk : k < 4) (hc : c < M 23 1) (hlg : lg < 12) (hp : p < 4) (h : M 23 3 < 5) : CI l g ad dsX 55 yX5_figure cX5_figure 5 (some .int) 3 [.ref (ad 0), .int (nI k), .int (nI c), .int (nI lg), .int (nI p)] M J (nI (M 23 3)) (u2 (adF M (M 23 3) k c lg p) 23 3 (M 23 3 + 1)) J := by
  refine CI.of (plainFor_of_name (by decide)) (Nat.le_of_ble_eq_true rfl) (fun p9 e9 s9 m9 args9 below9 meth9 c9 CF hK hr9 hlk9 hP hS ls hl => ?_)
  have hx := CF.1
  have hb := CF.2.1
  have hA : ∀ q, g_A ad 55 q → g_A ad 55 q := fun _ h => h
  have hl : lv_has ls 5 [(0, .ref (ad 0)), (1, .int (nI k)), (2, .int (nI c)), (3, .int (nI lg)), (4, .int (nI p))] := hl
  have hnc := hw.nc
  have hnf := hw.nf
  refine lv_iload_n hx hb dX5_figure_0 rfl (lv_at hl 1 rfl) ?_
  refine x_callSP CF hK hP hS hl (As := [.int (nI k)]) (rest := []) (c_isKind_t k (by omega)) kw_X5_isKind wd2_13 rfl ⟨Nat.le_of_ble_eq_true rfl, Nat.le_of_ble_eq_true rfl⟩ ⟨Nat.le_refl _, Nat.le_refl _⟩ (Nat.le_of_ble_eq_true rfl) dX5_figure_1 (fun H locs hP hS => ?_)
  refine x_yeq (u := (1 : Int)) (tgt := 30) hx hb (rfl) dX5_figure_4 (by decide) (fun h_1 => (by omega : False).elim) (fun h_1 => ?_)
  refine lv_aload_n hx hb dX5_figure_7 rfl (lv_at hl 0 rfl) ?_
  refine lv_iload_n hx hb dX5_figure_8 rfl (lv_at hl 2 rfl) ?_
  refine x_callVI CF hK hP hS hA hl (As := [.int (nI c)]) (rest := []) (c_isCam_t hI M J c (by omega) (by omega)) kw_X5_isCam wd1_238 (by decide) dX_0 rfl rfl ⟨Nat.le_of_ble_eq_true rfl, Nat.le_of_ble_eq_true rfl⟩ ⟨Nat.le_refl _, Nat.le_refl _⟩ (Nat.le_of_ble_eq_true rfl) dX5_figure_9 (fun H locs hP hS => ?_)
  refine x_yeq (u := (1 : Int)) (tgt := 30) hx hb (rfl) dX5_figure_12 (by decide) (fun h_2 => (by omega : False).elim) (fun h_2 => ?_)
  refine lv_iload_n hx hb dX5_figure_15 rfl (lv_at hl 3 rfl) ?_
  refine x_callSP CF hK hP hS hl (As := [.int (nI lg)]) (rest := []) (c_isAngle_t lg (by omega)) kw_X5_isAngle wd2_2 rfl ⟨Nat.le_of_ble_eq_true rfl, Nat.le_of_ble_eq_true rfl⟩ ⟨Nat.le_refl _, Nat.le_refl _⟩ (Nat.le_of_ble_eq_true rfl) dX5_figure_16 (fun H locs hP hS => ?_)
  refine x_yeq (u := (1 : Int)) (tgt := 30) hx hb (rfl) dX5_figure_19 (by decide) (fun h_3 => (by omega : False).elim) (fun h_3 => ?_)
  refine lv_iload hx hb dX5_figure_22 (lv_at hl 4 rfl) ?_
  refine x_callSP CF hK hP hS hl (As := [.int (nI p)]) (rest := []) (c_isPlace_t p (by omega)) kw_X5_isPlace wd2_16 rfl ⟨Nat.le_of_ble_eq_true rfl, Nat.le_of_ble_eq_true rfl⟩ ⟨Nat.le_refl _, Nat.le_refl _⟩ (Nat.le_of_ble_eq_true rfl) dX5_figure_24 (fun H locs hP hS => ?_)
  refine x_yne (u := (1 : Int)) (tgt := 32) hx hb (rfl) dX5_figure_27 (by decide) (fun h_4 => ?_) (fun h_4 => (by omega : False).elim)
  refine lv_aload_n hx hb dX5_figure_32 rfl (lv_at hl 0 rfl) ?_
  refine x_getr CF hK hP 0 (by decide) dX_0 rfl uX5 0 (by decide) (j := 23) rfl wd1_164 rfl dX5_figure_33 ?_
  refine lv_iload_n hx hb dX5_figure_36 rfl (lv_at hl 1 rfl) ?_
  refine lv_iload_n hx hb dX5_figure_37 rfl (lv_at hl 2 rfl) ?_
  refine lv_iload_n hx hb dX5_figure_38 rfl (lv_at hl 3 rfl) ?_
  refine lv_iload hx hb dX5_figure_39 (lv_at hl 4 rfl) ?_
  refine x_callVI CF hK hP hS hA hl (As := [.int (nI k), .int (nI c), .int (nI lg), .int (nI p)]) (rest := []) (c_addFig_ok hI M J k c lg p h) kw_X1_addFigure wd2_19 (by decide) dX_23 rfl rfl ⟨Nat.le_of_ble_eq_true rfl, Nat.le_of_ble_eq_true rfl⟩ ⟨Nat.le_refl _, Nat.le_refl _⟩ (Nat.le_of_ble_eq_true rfl) dX5_figure_41 (fun H locs hP hS => ?_)
  exact x_reti hx hb hr9 hlk9 hS hP (by first | rfl | (show nI (M 23 3) = nI (M 23 3); first | rfl | omega)) dX5_figure_44
set_option maxHeartbeats 4000000 in
set_option maxRecDepth 100000 in
theorem f_figure_bad {l : Launch} {g : gE} {ad : Nat → Nat} (hI : g_inj ad 55) (M : gMem) (J : gMeL) (hw : wfX M) (k c lg p : Int32) (h : ¬ (inR k 4 ∧ inR c (M 23 1) ∧ inR lg 12 ∧ inR p 4)) : CI l g ad dsX 55 yX5_figure cX5_figure 5 (some .int) 3 [.ref (ad 0), .int k, .int c, .int lg, .int p] M J (nI 4294967295) M J := by
  refine CI.of (plainFor_of_name (by decide)) (Nat.le_of_ble_eq_true rfl) (fun p9 e9 s9 m9 args9 below9 meth9 c9 CF hK hr9 hlk9 hP hS ls hl => ?_)
  have hx := CF.1
  have hb := CF.2.1
  have hA : ∀ q, g_A ad 55 q → g_A ad 55 q := fun _ h => h
  have hl : lv_has ls 5 [(0, .ref (ad 0)), (1, .int k), (2, .int c), (3, .int lg), (4, .int p)] := hl
  have hnc := hw.nc
  have hnf := hw.nf
  refine lv_iload_n hx hb dX5_figure_0 rfl (lv_at hl 1 rfl) ?_
  rcases n_int (x := k) (n := 4) (by omega) with ⟨k1, h_k1, rfl⟩ | ho_k
  · refine x_callSP CF hK hP hS hl (As := [.int (nI k1)]) (rest := []) (c_isKind_t k1 (by omega)) kw_X5_isKind wd2_13 rfl ⟨Nat.le_of_ble_eq_true rfl, Nat.le_of_ble_eq_true rfl⟩ ⟨Nat.le_refl _, Nat.le_refl _⟩ (Nat.le_of_ble_eq_true rfl) dX5_figure_1 (fun H locs hP hS => ?_)
    refine x_yeq (u := (1 : Int)) (tgt := 30) hx hb (rfl) dX5_figure_4 (by decide) (fun h_1 => (by omega : False).elim) (fun h_1 => ?_)
    refine lv_aload_n hx hb dX5_figure_7 rfl (lv_at hl 0 rfl) ?_
    refine lv_iload_n hx hb dX5_figure_8 rfl (lv_at hl 2 rfl) ?_
    rcases n_int (x := c) (n := M 23 1) (by omega) with ⟨c1, h_c1, rfl⟩ | ho_c
    · refine x_callVI CF hK hP hS hA hl (As := [.int (nI c1)]) (rest := []) (c_isCam_t hI M J c1 (by omega) (by omega)) kw_X5_isCam wd1_238 (by decide) dX_0 rfl rfl ⟨Nat.le_of_ble_eq_true rfl, Nat.le_of_ble_eq_true rfl⟩ ⟨Nat.le_refl _, Nat.le_refl _⟩ (Nat.le_of_ble_eq_true rfl) dX5_figure_9 (fun H locs hP hS => ?_)
      refine x_yeq (u := (1 : Int)) (tgt := 30) hx hb (rfl) dX5_figure_12 (by decide) (fun h_2 => (by omega : False).elim) (fun h_2 => ?_)
      refine lv_iload_n hx hb dX5_figure_15 rfl (lv_at hl 3 rfl) ?_
      rcases n_int (x := lg) (n := 12) (by omega) with ⟨l1, h_l1, rfl⟩ | ho_lg
      · refine x_callSP CF hK hP hS hl (As := [.int (nI l1)]) (rest := []) (c_isAngle_t l1 (by omega)) kw_X5_isAngle wd2_2 rfl ⟨Nat.le_of_ble_eq_true rfl, Nat.le_of_ble_eq_true rfl⟩ ⟨Nat.le_refl _, Nat.le_refl _⟩ (Nat.le_of_ble_eq_true rfl) dX5_figure_16 (fun H locs hP hS => ?_)
        refine x_yeq (u := (1 : Int)) (tgt := 30) hx hb (rfl) dX5_figure_19 (by decide) (fun h_3 => (by omega : False).elim) (fun h_3 => ?_)
        refine lv_iload hx hb dX5_figure_22 (lv_at hl 4 rfl) ?_
        rcases n_int (x := p) (n := 4) (by omega) with ⟨p1, h_p1, rfl⟩ | ho_p
        · refine x_callSP CF hK hP hS hl (As := [.int (nI p1)]) (rest := []) (c_isPlace_t p1 (by omega)) kw_X5_isPlace wd2_16 rfl ⟨Nat.le_of_ble_eq_true rfl, Nat.le_of_ble_eq_true rfl⟩ ⟨Nat.le_refl _, Nat.le_refl _⟩ (Nat.le_of_ble_eq_true rfl) dX5_figure_24 (fun H locs hP hS => ?_)
          refine x_yne (u := (1 : Int)) (tgt := 32) hx hb (rfl) dX5_figure_27 (by decide) (fun h_4 => ?_) (fun h_4 => (by omega : False).elim)
          exact absurd ⟨inR_n h_k1 (by decide), inR_n h_c1 (by omega), inR_n h_l1 (by decide), inR_n h_p1 (by decide)⟩ h
        · refine x_callSP CF hK hP hS hl (As := [.int p]) (rest := []) (c_isPlace_f p ho_p) kw_X5_isPlace wd2_16 rfl ⟨Nat.le_of_ble_eq_true rfl, Nat.le_of_ble_eq_true rfl⟩ ⟨Nat.le_refl _, Nat.le_refl _⟩ (Nat.le_of_ble_eq_true rfl) dX5_figure_24 (fun H locs hP hS => ?_)
          refine x_yne (u := (0 : Int)) (tgt := 32) hx hb (rfl) dX5_figure_27 (by decide) (fun h_5 => (by omega : False).elim) (fun h_5 => ?_)
          refine lv_iconst (v := nI 4294967295) hx hb dX5_figure_30 (by decide) ?_
          exact x_reti hx hb hr9 hlk9 hS hP (by first | rfl | (show nI 4294967295 = nI 4294967295; first | rfl | omega)) dX5_figure_31
      · refine x_callSP CF hK hP hS hl (As := [.int lg]) (rest := []) (c_isAngle_f lg ho_lg) kw_X5_isAngle wd2_2 rfl ⟨Nat.le_of_ble_eq_true rfl, Nat.le_of_ble_eq_true rfl⟩ ⟨Nat.le_refl _, Nat.le_refl _⟩ (Nat.le_of_ble_eq_true rfl) dX5_figure_16 (fun H locs hP hS => ?_)
        refine x_yeq (u := (0 : Int)) (tgt := 30) hx hb (rfl) dX5_figure_19 (by decide) (fun h_6 => ?_) (fun h_6 => (by omega : False).elim)
        refine lv_iconst (v := nI 4294967295) hx hb dX5_figure_30 (by decide) ?_
        exact x_reti hx hb hr9 hlk9 hS hP (by first | rfl | (show nI 4294967295 = nI 4294967295; first | rfl | omega)) dX5_figure_31
    · refine x_callVI CF hK hP hS hA hl (As := [.int c]) (rest := []) (c_isCam_f hI M J c ho_c (by omega)) kw_X5_isCam wd1_238 (by decide) dX_0 rfl rfl ⟨Nat.le_of_ble_eq_true rfl, Nat.le_of_ble_eq_true rfl⟩ ⟨Nat.le_refl _, Nat.le_refl _⟩ (Nat.le_of_ble_eq_true rfl) dX5_figure_9 (fun H locs hP hS => ?_)
      refine x_yeq (u := (0 : Int)) (tgt := 30) hx hb (rfl) dX5_figure_12 (by decide) (fun h_7 => ?_) (fun h_7 => (by omega : False).elim)
      refine lv_iconst (v := nI 4294967295) hx hb dX5_figure_30 (by decide) ?_
      exact x_reti hx hb hr9 hlk9 hS hP (by first | rfl | (show nI 4294967295 = nI 4294967295; first | rfl | omega)) dX5_figure_31
  · refine x_callSP CF hK hP hS hl (As := [.int k]) (rest := []) (c_isKind_f k ho_k) kw_X5_isKind wd2_13 rfl ⟨Nat.le_of_ble_eq_true rfl, Nat.le_of_ble_eq_true rfl⟩ ⟨Nat.le_refl _, Nat.le_refl _⟩ (Nat.le_of_ble_eq_true rfl) dX5_figure_1 (fun H locs hP hS => ?_)
    refine x_yeq (u := (0 : Int)) (tgt := 30) hx hb (rfl) dX5_figure_4 (by decide) (fun h_8 => ?_) (fun h_8 => (by omega : False).elim)
    refine lv_iconst (v := nI 4294967295) hx hb dX5_figure_30 (by decide) ?_
    exact x_reti hx hb hr9 hlk9 hS hP (by first | rfl | (show nI 4294967295 = nI 4294967295; first | rfl | omega)) dX5_figure_31
set_option maxHeartbeats 4000000 in
set_option maxRecDepth 100000 in
theorem f_set_0 {l : Launch} {g : gE} {ad : Nat → Nat} (hI : g_inj ad 55) (M : gMem) (J : gMeL) (hw : wfX M) (k v : Nat) (hk : k < M 23 3) (hv : v < 4) : CI l g ad dsX 55 yX5_set cX5_set 4 (some .int) 3 [.ref (ad 0), .int (nI k), .int (nI 0), .int (nI v)] M J (nI (M (32 + k) 0)) (u2 M (32 + k) 0 v) J := by
  refine CI.of (plainFor_of_name (by decide)) (Nat.le_of_ble_eq_true rfl) (fun p9 e9 s9 m9 args9 below9 meth9 c9 CF hK hr9 hlk9 hP hS ls hl => ?_)
  have hx := CF.1
  have hb := CF.2.1
  have hA : ∀ q, g_A ad 55 q → g_A ad 55 q := fun _ h => h
  have hl : lv_has ls 4 [(0, .ref (ad 0)), (1, .int (nI k)), (2, .int (nI 0)), (3, .int (nI v))] := hl
  have hnc := hw.nc
  have hnf := hw.nf
  refine lv_aload_n hx hb dX5_set_0 rfl (lv_at hl 0 rfl) ?_
  refine lv_iload_n hx hb dX5_set_1 rfl (lv_at hl 1 rfl) ?_
  refine x_callVI CF hK hP hS hA hl (As := [.int (nI k)]) (rest := []) (c_isFigure_t hI M J k (by omega) (by omega)) kw_X5_isFigure wd2_27 (by decide) dX_0 rfl rfl ⟨Nat.le_of_ble_eq_true rfl, Nat.le_of_ble_eq_true rfl⟩ ⟨Nat.le_refl _, Nat.le_refl _⟩ (Nat.le_of_ble_eq_true rfl) dX5_set_2 (fun H locs hP hS => ?_)
  refine x_yne (u := (1 : Int)) (tgt := 10) hx hb (rfl) dX5_set_5 (by decide) (fun h_1 => ?_) (fun h_1 => (by omega : False).elim)
  refine lv_iload_n hx hb dX5_set_10 rfl (lv_at hl 2 rfl) ?_
  refine lv_tableIn (tgt := 40) hx hb dX5_set_11 (by decide) (by decide) (off := 29) (by decide) (by decide) ?_
  refine lv_iload_n hx hb dX5_set_40 rfl (lv_at hl 3 rfl) ?_
  refine x_callSP CF hK hP hS hl (As := [.int (nI v)]) (rest := []) (c_isKind_t v (by omega)) kw_X5_isKind wd2_13 rfl ⟨Nat.le_of_ble_eq_true rfl, Nat.le_of_ble_eq_true rfl⟩ ⟨Nat.le_refl _, Nat.le_refl _⟩ (Nat.le_of_ble_eq_true rfl) dX5_set_41 (fun H locs hP hS => ?_)
  refine x_yeq (u := (1 : Int)) (tgt := 63) hx hb (rfl) dX5_set_44 (by decide) (fun h_2 => (by omega : False).elim) (fun h_2 => ?_)
  refine lv_aload_n hx hb dX5_set_47 rfl (lv_at hl 0 rfl) ?_
  refine x_getr CF hK hP 0 (by decide) dX_0 rfl uX5 0 (by decide) (j := 23) rfl wd1_164 rfl dX5_set_48 ?_
  refine x_getr CF hK hP 23 (by decide) dX_23 rfl uX1 2 (by decide) (j := 31) rfl wd1_72 rfl dX5_set_51 ?_
  refine lv_iload_n hx hb dX5_set_54 rfl (lv_at hl 1 rfl) ?_
  refine x_aald CF hK hP 31 (by decide) (t := 0) dX_31 (by decide) k (by omega) (by decide) (j := (32 + k)) (oX_fig k (by omega)) dX5_set_55 ?_
  refine lv_iload_n hx hb dX5_set_56 rfl (lv_at hl 3 rfl) ?_
  refine x_callVI CF hK hP hS hA hl (As := [.int (nI v)]) (rest := []) (c_changeKind hI M J k (by omega) v) kw_X0_changeKind wd2_31 (by omega) (dX_fig k (by omega)) rfl rfl ⟨Nat.le_of_ble_eq_true rfl, Nat.le_of_ble_eq_true rfl⟩ ⟨Nat.le_refl _, Nat.le_refl _⟩ (Nat.le_of_ble_eq_true rfl) dX5_set_57 (fun H locs hP hS => ?_)
  refine lv_goto (tgt := 64) hx hb dX5_set_60 (by decide) ?_
  exact x_reti hx hb hr9 hlk9 hS hP (by first | rfl | (show nI (M (32 + k) 0) = nI (M (32 + k) 0); first | rfl | omega)) dX5_set_64
set_option maxHeartbeats 4000000 in
set_option maxRecDepth 100000 in
theorem f_set_0_bad {l : Launch} {g : gE} {ad : Nat → Nat} (hI : g_inj ad 55) (M : gMem) (J : gMeL) (hw : wfX M) (k : Nat) (hk : k < M 23 3) (v : Int32) (h : ¬ inR v (4)) : CI l g ad dsX 55 yX5_set cX5_set 4 (some .int) 3 [.ref (ad 0), .int (nI k), .int (nI 0), .int v] M J (nI 4294967295) M J := by
  refine CI.of (plainFor_of_name (by decide)) (Nat.le_of_ble_eq_true rfl) (fun p9 e9 s9 m9 args9 below9 meth9 c9 CF hK hr9 hlk9 hP hS ls hl => ?_)
  have hx := CF.1
  have hb := CF.2.1
  have hA : ∀ q, g_A ad 55 q → g_A ad 55 q := fun _ h => h
  have hl : lv_has ls 4 [(0, .ref (ad 0)), (1, .int (nI k)), (2, .int (nI 0)), (3, .int v)] := hl
  have hnc := hw.nc
  have hnf := hw.nf
  refine lv_aload_n hx hb dX5_set_0 rfl (lv_at hl 0 rfl) ?_
  refine lv_iload_n hx hb dX5_set_1 rfl (lv_at hl 1 rfl) ?_
  refine x_callVI CF hK hP hS hA hl (As := [.int (nI k)]) (rest := []) (c_isFigure_t hI M J k (by omega) (by omega)) kw_X5_isFigure wd2_27 (by decide) dX_0 rfl rfl ⟨Nat.le_of_ble_eq_true rfl, Nat.le_of_ble_eq_true rfl⟩ ⟨Nat.le_refl _, Nat.le_refl _⟩ (Nat.le_of_ble_eq_true rfl) dX5_set_2 (fun H locs hP hS => ?_)
  refine x_yne (u := (1 : Int)) (tgt := 10) hx hb (rfl) dX5_set_5 (by decide) (fun h_1 => ?_) (fun h_1 => (by omega : False).elim)
  refine lv_iload_n hx hb dX5_set_10 rfl (lv_at hl 2 rfl) ?_
  refine lv_tableIn (tgt := 40) hx hb dX5_set_11 (by decide) (by decide) (off := 29) (by decide) (by decide) ?_
  refine lv_iload_n hx hb dX5_set_40 rfl (lv_at hl 3 rfl) ?_
  rcases n_int (x := v) (n := 4) (by omega) with ⟨v1, h_v1, rfl⟩ | ho_v
  · refine x_callSP CF hK hP hS hl (As := [.int (nI v1)]) (rest := []) (c_isKind_t v1 (by omega)) kw_X5_isKind wd2_13 rfl ⟨Nat.le_of_ble_eq_true rfl, Nat.le_of_ble_eq_true rfl⟩ ⟨Nat.le_refl _, Nat.le_refl _⟩ (Nat.le_of_ble_eq_true rfl) dX5_set_41 (fun H locs hP hS => ?_)
    refine x_yeq (u := (1 : Int)) (tgt := 63) hx hb (rfl) dX5_set_44 (by decide) (fun h_2 => (by omega : False).elim) (fun h_2 => ?_)
    exact absurd (inR_n h_v1 (by decide)) h
  · refine x_callSP CF hK hP hS hl (As := [.int v]) (rest := []) (c_isKind_f v ho_v) kw_X5_isKind wd2_13 rfl ⟨Nat.le_of_ble_eq_true rfl, Nat.le_of_ble_eq_true rfl⟩ ⟨Nat.le_refl _, Nat.le_refl _⟩ (Nat.le_of_ble_eq_true rfl) dX5_set_41 (fun H locs hP hS => ?_)
    refine x_yeq (u := (0 : Int)) (tgt := 63) hx hb (rfl) dX5_set_44 (by decide) (fun h_3 => ?_) (fun h_3 => (by omega : False).elim)
    refine lv_iconst (v := nI 4294967295) hx hb dX5_set_63 (by decide) ?_
    exact x_reti hx hb hr9 hlk9 hS hP (by first | rfl | (show nI 4294967295 = nI 4294967295; first | rfl | omega)) dX5_set_64
set_option maxHeartbeats 4000000 in
set_option maxRecDepth 100000 in
theorem f_set_1 {l : Launch} {g : gE} {ad : Nat → Nat} (hI : g_inj ad 55) (M : gMem) (J : gMeL) (hw : wfX M) (k v : Nat) (hk : k < M 23 3) (hv : v < M 23 1) : CI l g ad dsX 55 yX5_set cX5_set 4 (some .int) 3 [.ref (ad 0), .int (nI k), .int (nI 1), .int (nI v)] M J (nI (M (32 + k) 1)) (u2 M (32 + k) 1 v) J := by
  refine CI.of (plainFor_of_name (by decide)) (Nat.le_of_ble_eq_true rfl) (fun p9 e9 s9 m9 args9 below9 meth9 c9 CF hK hr9 hlk9 hP hS ls hl => ?_)
  have hx := CF.1
  have hb := CF.2.1
  have hA : ∀ q, g_A ad 55 q → g_A ad 55 q := fun _ h => h
  have hl : lv_has ls 4 [(0, .ref (ad 0)), (1, .int (nI k)), (2, .int (nI 1)), (3, .int (nI v))] := hl
  have hnc := hw.nc
  have hnf := hw.nf
  refine lv_aload_n hx hb dX5_set_0 rfl (lv_at hl 0 rfl) ?_
  refine lv_iload_n hx hb dX5_set_1 rfl (lv_at hl 1 rfl) ?_
  refine x_callVI CF hK hP hS hA hl (As := [.int (nI k)]) (rest := []) (c_isFigure_t hI M J k (by omega) (by omega)) kw_X5_isFigure wd2_27 (by decide) dX_0 rfl rfl ⟨Nat.le_of_ble_eq_true rfl, Nat.le_of_ble_eq_true rfl⟩ ⟨Nat.le_refl _, Nat.le_refl _⟩ (Nat.le_of_ble_eq_true rfl) dX5_set_2 (fun H locs hP hS => ?_)
  refine x_yne (u := (1 : Int)) (tgt := 10) hx hb (rfl) dX5_set_5 (by decide) (fun h_1 => ?_) (fun h_1 => (by omega : False).elim)
  refine lv_iload_n hx hb dX5_set_10 rfl (lv_at hl 2 rfl) ?_
  refine lv_tableIn (tgt := 65) hx hb dX5_set_11 (by decide) (by decide) (off := 54) (by decide) (by decide) ?_
  refine lv_aload_n hx hb dX5_set_65 rfl (lv_at hl 0 rfl) ?_
  refine lv_iload_n hx hb dX5_set_66 rfl (lv_at hl 3 rfl) ?_
  refine x_callVI CF hK hP hS hA hl (As := [.int (nI v)]) (rest := []) (c_isCam_t hI M J v (by omega) (by omega)) kw_X5_isCam wd1_238 (by decide) dX_0 rfl rfl ⟨Nat.le_of_ble_eq_true rfl, Nat.le_of_ble_eq_true rfl⟩ ⟨Nat.le_refl _, Nat.le_refl _⟩ (Nat.le_of_ble_eq_true rfl) dX5_set_67 (fun H locs hP hS => ?_)
  refine x_yeq (u := (1 : Int)) (tgt := 89) hx hb (rfl) dX5_set_70 (by decide) (fun h_2 => (by omega : False).elim) (fun h_2 => ?_)
  refine lv_aload_n hx hb dX5_set_73 rfl (lv_at hl 0 rfl) ?_
  refine x_getr CF hK hP 0 (by decide) dX_0 rfl uX5 0 (by decide) (j := 23) rfl wd1_164 rfl dX5_set_74 ?_
  refine x_getr CF hK hP 23 (by decide) dX_23 rfl uX1 2 (by decide) (j := 31) rfl wd1_72 rfl dX5_set_77 ?_
  refine lv_iload_n hx hb dX5_set_80 rfl (lv_at hl 1 rfl) ?_
  refine x_aald CF hK hP 31 (by decide) (t := 0) dX_31 (by decide) k (by omega) (by decide) (j := (32 + k)) (oX_fig k (by omega)) dX5_set_81 ?_
  refine lv_iload_n hx hb dX5_set_82 rfl (lv_at hl 3 rfl) ?_
  refine x_callVI CF hK hP hS hA hl (As := [.int (nI v)]) (rest := []) (c_changeCam hI M J k (by omega) v) kw_X0_changeCam wd2_35 (by omega) (dX_fig k (by omega)) rfl rfl ⟨Nat.le_of_ble_eq_true rfl, Nat.le_of_ble_eq_true rfl⟩ ⟨Nat.le_refl _, Nat.le_refl _⟩ (Nat.le_of_ble_eq_true rfl) dX5_set_83 (fun H locs hP hS => ?_)
  refine lv_goto (tgt := 90) hx hb dX5_set_86 (by decide) ?_
  exact x_reti hx hb hr9 hlk9 hS hP (by first | rfl | (show nI (M (32 + k) 1) = nI (M (32 + k) 1); first | rfl | omega)) dX5_set_90
set_option maxHeartbeats 4000000 in
set_option maxRecDepth 100000 in
theorem f_set_1_bad {l : Launch} {g : gE} {ad : Nat → Nat} (hI : g_inj ad 55) (M : gMem) (J : gMeL) (hw : wfX M) (k : Nat) (hk : k < M 23 3) (v : Int32) (h : ¬ inR v (M 23 1)) : CI l g ad dsX 55 yX5_set cX5_set 4 (some .int) 3 [.ref (ad 0), .int (nI k), .int (nI 1), .int v] M J (nI 4294967295) M J := by
  refine CI.of (plainFor_of_name (by decide)) (Nat.le_of_ble_eq_true rfl) (fun p9 e9 s9 m9 args9 below9 meth9 c9 CF hK hr9 hlk9 hP hS ls hl => ?_)
  have hx := CF.1
  have hb := CF.2.1
  have hA : ∀ q, g_A ad 55 q → g_A ad 55 q := fun _ h => h
  have hl : lv_has ls 4 [(0, .ref (ad 0)), (1, .int (nI k)), (2, .int (nI 1)), (3, .int v)] := hl
  have hnc := hw.nc
  have hnf := hw.nf
  refine lv_aload_n hx hb dX5_set_0 rfl (lv_at hl 0 rfl) ?_
  refine lv_iload_n hx hb dX5_set_1 rfl (lv_at hl 1 rfl) ?_
  refine x_callVI CF hK hP hS hA hl (As := [.int (nI k)]) (rest := []) (c_isFigure_t hI M J k (by omega) (by omega)) kw_X5_isFigure wd2_27 (by decide) dX_0 rfl rfl ⟨Nat.le_of_ble_eq_true rfl, Nat.le_of_ble_eq_true rfl⟩ ⟨Nat.le_refl _, Nat.le_refl _⟩ (Nat.le_of_ble_eq_true rfl) dX5_set_2 (fun H locs hP hS => ?_)
  refine x_yne (u := (1 : Int)) (tgt := 10) hx hb (rfl) dX5_set_5 (by decide) (fun h_1 => ?_) (fun h_1 => (by omega : False).elim)
  refine lv_iload_n hx hb dX5_set_10 rfl (lv_at hl 2 rfl) ?_
  refine lv_tableIn (tgt := 65) hx hb dX5_set_11 (by decide) (by decide) (off := 54) (by decide) (by decide) ?_
  refine lv_aload_n hx hb dX5_set_65 rfl (lv_at hl 0 rfl) ?_
  refine lv_iload_n hx hb dX5_set_66 rfl (lv_at hl 3 rfl) ?_
  rcases n_int (x := v) (n := M 23 1) (by omega) with ⟨v1, h_v1, rfl⟩ | ho_v
  · refine x_callVI CF hK hP hS hA hl (As := [.int (nI v1)]) (rest := []) (c_isCam_t hI M J v1 (by omega) (by omega)) kw_X5_isCam wd1_238 (by decide) dX_0 rfl rfl ⟨Nat.le_of_ble_eq_true rfl, Nat.le_of_ble_eq_true rfl⟩ ⟨Nat.le_refl _, Nat.le_refl _⟩ (Nat.le_of_ble_eq_true rfl) dX5_set_67 (fun H locs hP hS => ?_)
    refine x_yeq (u := (1 : Int)) (tgt := 89) hx hb (rfl) dX5_set_70 (by decide) (fun h_2 => (by omega : False).elim) (fun h_2 => ?_)
    exact absurd (inR_n h_v1 (by omega)) h
  · refine x_callVI CF hK hP hS hA hl (As := [.int v]) (rest := []) (c_isCam_f hI M J v ho_v (by omega)) kw_X5_isCam wd1_238 (by decide) dX_0 rfl rfl ⟨Nat.le_of_ble_eq_true rfl, Nat.le_of_ble_eq_true rfl⟩ ⟨Nat.le_refl _, Nat.le_refl _⟩ (Nat.le_of_ble_eq_true rfl) dX5_set_67 (fun H locs hP hS => ?_)
    refine x_yeq (u := (0 : Int)) (tgt := 89) hx hb (rfl) dX5_set_70 (by decide) (fun h_3 => ?_) (fun h_3 => (by omega : False).elim)
    refine lv_iconst (v := nI 4294967295) hx hb dX5_set_89 (by decide) ?_
    exact x_reti hx hb hr9 hlk9 hS hP (by first | rfl | (show nI 4294967295 = nI 4294967295; first | rfl | omega)) dX5_set_90
set_option maxHeartbeats 4000000 in
set_option maxRecDepth 100000 in
theorem f_set_2 {l : Launch} {g : gE} {ad : Nat → Nat} (hI : g_inj ad 55) (M : gMem) (J : gMeL) (hw : wfX M) (k v : Nat) (hk : k < M 23 3) (hv : v < 12) : CI l g ad dsX 55 yX5_set cX5_set 4 (some .int) 3 [.ref (ad 0), .int (nI k), .int (nI 2), .int (nI v)] M J (nI (M (32 + k) 2)) (u2 M (32 + k) 2 v) J := by
  refine CI.of (plainFor_of_name (by decide)) (Nat.le_of_ble_eq_true rfl) (fun p9 e9 s9 m9 args9 below9 meth9 c9 CF hK hr9 hlk9 hP hS ls hl => ?_)
  have hx := CF.1
  have hb := CF.2.1
  have hA : ∀ q, g_A ad 55 q → g_A ad 55 q := fun _ h => h
  have hl : lv_has ls 4 [(0, .ref (ad 0)), (1, .int (nI k)), (2, .int (nI 2)), (3, .int (nI v))] := hl
  have hnc := hw.nc
  have hnf := hw.nf
  refine lv_aload_n hx hb dX5_set_0 rfl (lv_at hl 0 rfl) ?_
  refine lv_iload_n hx hb dX5_set_1 rfl (lv_at hl 1 rfl) ?_
  refine x_callVI CF hK hP hS hA hl (As := [.int (nI k)]) (rest := []) (c_isFigure_t hI M J k (by omega) (by omega)) kw_X5_isFigure wd2_27 (by decide) dX_0 rfl rfl ⟨Nat.le_of_ble_eq_true rfl, Nat.le_of_ble_eq_true rfl⟩ ⟨Nat.le_refl _, Nat.le_refl _⟩ (Nat.le_of_ble_eq_true rfl) dX5_set_2 (fun H locs hP hS => ?_)
  refine x_yne (u := (1 : Int)) (tgt := 10) hx hb (rfl) dX5_set_5 (by decide) (fun h_1 => ?_) (fun h_1 => (by omega : False).elim)
  refine lv_iload_n hx hb dX5_set_10 rfl (lv_at hl 2 rfl) ?_
  refine lv_tableIn (tgt := 91) hx hb dX5_set_11 (by decide) (by decide) (off := 80) (by decide) (by decide) ?_
  refine lv_iload_n hx hb dX5_set_91 rfl (lv_at hl 3 rfl) ?_
  refine x_callSP CF hK hP hS hl (As := [.int (nI v)]) (rest := []) (c_isAngle_t v (by omega)) kw_X5_isAngle wd2_2 rfl ⟨Nat.le_of_ble_eq_true rfl, Nat.le_of_ble_eq_true rfl⟩ ⟨Nat.le_refl _, Nat.le_refl _⟩ (Nat.le_of_ble_eq_true rfl) dX5_set_92 (fun H locs hP hS => ?_)
  refine x_yeq (u := (1 : Int)) (tgt := 114) hx hb (rfl) dX5_set_95 (by decide) (fun h_2 => (by omega : False).elim) (fun h_2 => ?_)
  refine lv_aload_n hx hb dX5_set_98 rfl (lv_at hl 0 rfl) ?_
  refine x_getr CF hK hP 0 (by decide) dX_0 rfl uX5 0 (by decide) (j := 23) rfl wd1_164 rfl dX5_set_99 ?_
  refine x_getr CF hK hP 23 (by decide) dX_23 rfl uX1 2 (by decide) (j := 31) rfl wd1_72 rfl dX5_set_102 ?_
  refine lv_iload_n hx hb dX5_set_105 rfl (lv_at hl 1 rfl) ?_
  refine x_aald CF hK hP 31 (by decide) (t := 0) dX_31 (by decide) k (by omega) (by decide) (j := (32 + k)) (oX_fig k (by omega)) dX5_set_106 ?_
  refine lv_iload_n hx hb dX5_set_107 rfl (lv_at hl 3 rfl) ?_
  refine x_callVI CF hK hP hS hA hl (As := [.int (nI v)]) (rest := []) (c_changeLag hI M J k (by omega) v) kw_X0_changeLag wd2_39 (by omega) (dX_fig k (by omega)) rfl rfl ⟨Nat.le_of_ble_eq_true rfl, Nat.le_of_ble_eq_true rfl⟩ ⟨Nat.le_refl _, Nat.le_refl _⟩ (Nat.le_of_ble_eq_true rfl) dX5_set_108 (fun H locs hP hS => ?_)
  refine lv_goto (tgt := 115) hx hb dX5_set_111 (by decide) ?_
  exact x_reti hx hb hr9 hlk9 hS hP (by first | rfl | (show nI (M (32 + k) 2) = nI (M (32 + k) 2); first | rfl | omega)) dX5_set_115
set_option maxHeartbeats 4000000 in
set_option maxRecDepth 100000 in
theorem f_set_2_bad {l : Launch} {g : gE} {ad : Nat → Nat} (hI : g_inj ad 55) (M : gMem) (J : gMeL) (hw : wfX M) (k : Nat) (hk : k < M 23 3) (v : Int32) (h : ¬ inR v (12)) : CI l g ad dsX 55 yX5_set cX5_set 4 (some .int) 3 [.ref (ad 0), .int (nI k), .int (nI 2), .int v] M J (nI 4294967295) M J := by
  refine CI.of (plainFor_of_name (by decide)) (Nat.le_of_ble_eq_true rfl) (fun p9 e9 s9 m9 args9 below9 meth9 c9 CF hK hr9 hlk9 hP hS ls hl => ?_)
  have hx := CF.1
  have hb := CF.2.1
  have hA : ∀ q, g_A ad 55 q → g_A ad 55 q := fun _ h => h
  have hl : lv_has ls 4 [(0, .ref (ad 0)), (1, .int (nI k)), (2, .int (nI 2)), (3, .int v)] := hl
  have hnc := hw.nc
  have hnf := hw.nf
  refine lv_aload_n hx hb dX5_set_0 rfl (lv_at hl 0 rfl) ?_
  refine lv_iload_n hx hb dX5_set_1 rfl (lv_at hl 1 rfl) ?_
  refine x_callVI CF hK hP hS hA hl (As := [.int (nI k)]) (rest := []) (c_isFigure_t hI M J k (by omega) (by omega)) kw_X5_isFigure wd2_27 (by decide) dX_0 rfl rfl ⟨Nat.le_of_ble_eq_true rfl, Nat.le_of_ble_eq_true rfl⟩ ⟨Nat.le_refl _, Nat.le_refl _⟩ (Nat.le_of_ble_eq_true rfl) dX5_set_2 (fun H locs hP hS => ?_)
  refine x_yne (u := (1 : Int)) (tgt := 10) hx hb (rfl) dX5_set_5 (by decide) (fun h_1 => ?_) (fun h_1 => (by omega : False).elim)
  refine lv_iload_n hx hb dX5_set_10 rfl (lv_at hl 2 rfl) ?_
  refine lv_tableIn (tgt := 91) hx hb dX5_set_11 (by decide) (by decide) (off := 80) (by decide) (by decide) ?_
  refine lv_iload_n hx hb dX5_set_91 rfl (lv_at hl 3 rfl) ?_
  rcases n_int (x := v) (n := 12) (by omega) with ⟨v1, h_v1, rfl⟩ | ho_v
  · refine x_callSP CF hK hP hS hl (As := [.int (nI v1)]) (rest := []) (c_isAngle_t v1 (by omega)) kw_X5_isAngle wd2_2 rfl ⟨Nat.le_of_ble_eq_true rfl, Nat.le_of_ble_eq_true rfl⟩ ⟨Nat.le_refl _, Nat.le_refl _⟩ (Nat.le_of_ble_eq_true rfl) dX5_set_92 (fun H locs hP hS => ?_)
    refine x_yeq (u := (1 : Int)) (tgt := 114) hx hb (rfl) dX5_set_95 (by decide) (fun h_2 => (by omega : False).elim) (fun h_2 => ?_)
    exact absurd (inR_n h_v1 (by decide)) h
  · refine x_callSP CF hK hP hS hl (As := [.int v]) (rest := []) (c_isAngle_f v ho_v) kw_X5_isAngle wd2_2 rfl ⟨Nat.le_of_ble_eq_true rfl, Nat.le_of_ble_eq_true rfl⟩ ⟨Nat.le_refl _, Nat.le_refl _⟩ (Nat.le_of_ble_eq_true rfl) dX5_set_92 (fun H locs hP hS => ?_)
    refine x_yeq (u := (0 : Int)) (tgt := 114) hx hb (rfl) dX5_set_95 (by decide) (fun h_3 => ?_) (fun h_3 => (by omega : False).elim)
    refine lv_iconst (v := nI 4294967295) hx hb dX5_set_114 (by decide) ?_
    exact x_reti hx hb hr9 hlk9 hS hP (by first | rfl | (show nI 4294967295 = nI 4294967295; first | rfl | omega)) dX5_set_115
set_option maxHeartbeats 4000000 in
set_option maxRecDepth 100000 in
theorem f_set_3 {l : Launch} {g : gE} {ad : Nat → Nat} (hI : g_inj ad 55) (M : gMem) (J : gMeL) (hw : wfX M) (k v : Nat) (hk : k < M 23 3) (hv : v < 4) : CI l g ad dsX 55 yX5_set cX5_set 4 (some .int) 3 [.ref (ad 0), .int (nI k), .int (nI 3), .int (nI v)] M J (nI (M (32 + k) 3)) (u2 M (32 + k) 3 v) J := by
  refine CI.of (plainFor_of_name (by decide)) (Nat.le_of_ble_eq_true rfl) (fun p9 e9 s9 m9 args9 below9 meth9 c9 CF hK hr9 hlk9 hP hS ls hl => ?_)
  have hx := CF.1
  have hb := CF.2.1
  have hA : ∀ q, g_A ad 55 q → g_A ad 55 q := fun _ h => h
  have hl : lv_has ls 4 [(0, .ref (ad 0)), (1, .int (nI k)), (2, .int (nI 3)), (3, .int (nI v))] := hl
  have hnc := hw.nc
  have hnf := hw.nf
  refine lv_aload_n hx hb dX5_set_0 rfl (lv_at hl 0 rfl) ?_
  refine lv_iload_n hx hb dX5_set_1 rfl (lv_at hl 1 rfl) ?_
  refine x_callVI CF hK hP hS hA hl (As := [.int (nI k)]) (rest := []) (c_isFigure_t hI M J k (by omega) (by omega)) kw_X5_isFigure wd2_27 (by decide) dX_0 rfl rfl ⟨Nat.le_of_ble_eq_true rfl, Nat.le_of_ble_eq_true rfl⟩ ⟨Nat.le_refl _, Nat.le_refl _⟩ (Nat.le_of_ble_eq_true rfl) dX5_set_2 (fun H locs hP hS => ?_)
  refine x_yne (u := (1 : Int)) (tgt := 10) hx hb (rfl) dX5_set_5 (by decide) (fun h_1 => ?_) (fun h_1 => (by omega : False).elim)
  refine lv_iload_n hx hb dX5_set_10 rfl (lv_at hl 2 rfl) ?_
  refine lv_tableIn (tgt := 116) hx hb dX5_set_11 (by decide) (by decide) (off := 105) (by decide) (by decide) ?_
  refine lv_iload_n hx hb dX5_set_116 rfl (lv_at hl 3 rfl) ?_
  refine x_callSP CF hK hP hS hl (As := [.int (nI v)]) (rest := []) (c_isPlace_t v (by omega)) kw_X5_isPlace wd2_16 rfl ⟨Nat.le_of_ble_eq_true rfl, Nat.le_of_ble_eq_true rfl⟩ ⟨Nat.le_refl _, Nat.le_refl _⟩ (Nat.le_of_ble_eq_true rfl) dX5_set_117 (fun H locs hP hS => ?_)
  refine x_yeq (u := (1 : Int)) (tgt := 139) hx hb (rfl) dX5_set_120 (by decide) (fun h_2 => (by omega : False).elim) (fun h_2 => ?_)
  refine lv_aload_n hx hb dX5_set_123 rfl (lv_at hl 0 rfl) ?_
  refine x_getr CF hK hP 0 (by decide) dX_0 rfl uX5 0 (by decide) (j := 23) rfl wd1_164 rfl dX5_set_124 ?_
  refine x_getr CF hK hP 23 (by decide) dX_23 rfl uX1 2 (by decide) (j := 31) rfl wd1_72 rfl dX5_set_127 ?_
  refine lv_iload_n hx hb dX5_set_130 rfl (lv_at hl 1 rfl) ?_
  refine x_aald CF hK hP 31 (by decide) (t := 0) dX_31 (by decide) k (by omega) (by decide) (j := (32 + k)) (oX_fig k (by omega)) dX5_set_131 ?_
  refine lv_iload_n hx hb dX5_set_132 rfl (lv_at hl 3 rfl) ?_
  refine x_callVI CF hK hP hS hA hl (As := [.int (nI v)]) (rest := []) (c_changePlace hI M J k (by omega) v) kw_X0_changePlace wd2_43 (by omega) (dX_fig k (by omega)) rfl rfl ⟨Nat.le_of_ble_eq_true rfl, Nat.le_of_ble_eq_true rfl⟩ ⟨Nat.le_refl _, Nat.le_refl _⟩ (Nat.le_of_ble_eq_true rfl) dX5_set_133 (fun H locs hP hS => ?_)
  refine lv_goto (tgt := 140) hx hb dX5_set_136 (by decide) ?_
  exact x_reti hx hb hr9 hlk9 hS hP (by first | rfl | (show nI (M (32 + k) 3) = nI (M (32 + k) 3); first | rfl | omega)) dX5_set_140
set_option maxHeartbeats 4000000 in
set_option maxRecDepth 100000 in
theorem f_set_3_bad {l : Launch} {g : gE} {ad : Nat → Nat} (hI : g_inj ad 55) (M : gMem) (J : gMeL) (hw : wfX M) (k : Nat) (hk : k < M 23 3) (v : Int32) (h : ¬ inR v (4)) : CI l g ad dsX 55 yX5_set cX5_set 4 (some .int) 3 [.ref (ad 0), .int (nI k), .int (nI 3), .int v] M J (nI 4294967295) M J := by
  refine CI.of (plainFor_of_name (by decide)) (Nat.le_of_ble_eq_true rfl) (fun p9 e9 s9 m9 args9 below9 meth9 c9 CF hK hr9 hlk9 hP hS ls hl => ?_)
  have hx := CF.1
  have hb := CF.2.1
  have hA : ∀ q, g_A ad 55 q → g_A ad 55 q := fun _ h => h
  have hl : lv_has ls 4 [(0, .ref (ad 0)), (1, .int (nI k)), (2, .int (nI 3)), (3, .int v)] := hl
  have hnc := hw.nc
  have hnf := hw.nf
  refine lv_aload_n hx hb dX5_set_0 rfl (lv_at hl 0 rfl) ?_
  refine lv_iload_n hx hb dX5_set_1 rfl (lv_at hl 1 rfl) ?_
  refine x_callVI CF hK hP hS hA hl (As := [.int (nI k)]) (rest := []) (c_isFigure_t hI M J k (by omega) (by omega)) kw_X5_isFigure wd2_27 (by decide) dX_0 rfl rfl ⟨Nat.le_of_ble_eq_true rfl, Nat.le_of_ble_eq_true rfl⟩ ⟨Nat.le_refl _, Nat.le_refl _⟩ (Nat.le_of_ble_eq_true rfl) dX5_set_2 (fun H locs hP hS => ?_)
  refine x_yne (u := (1 : Int)) (tgt := 10) hx hb (rfl) dX5_set_5 (by decide) (fun h_1 => ?_) (fun h_1 => (by omega : False).elim)
  refine lv_iload_n hx hb dX5_set_10 rfl (lv_at hl 2 rfl) ?_
  refine lv_tableIn (tgt := 116) hx hb dX5_set_11 (by decide) (by decide) (off := 105) (by decide) (by decide) ?_
  refine lv_iload_n hx hb dX5_set_116 rfl (lv_at hl 3 rfl) ?_
  rcases n_int (x := v) (n := 4) (by omega) with ⟨v1, h_v1, rfl⟩ | ho_v
  · refine x_callSP CF hK hP hS hl (As := [.int (nI v1)]) (rest := []) (c_isPlace_t v1 (by omega)) kw_X5_isPlace wd2_16 rfl ⟨Nat.le_of_ble_eq_true rfl, Nat.le_of_ble_eq_true rfl⟩ ⟨Nat.le_refl _, Nat.le_refl _⟩ (Nat.le_of_ble_eq_true rfl) dX5_set_117 (fun H locs hP hS => ?_)
    refine x_yeq (u := (1 : Int)) (tgt := 139) hx hb (rfl) dX5_set_120 (by decide) (fun h_2 => (by omega : False).elim) (fun h_2 => ?_)
    exact absurd (inR_n h_v1 (by decide)) h
  · refine x_callSP CF hK hP hS hl (As := [.int v]) (rest := []) (c_isPlace_f v ho_v) kw_X5_isPlace wd2_16 rfl ⟨Nat.le_of_ble_eq_true rfl, Nat.le_of_ble_eq_true rfl⟩ ⟨Nat.le_refl _, Nat.le_refl _⟩ (Nat.le_of_ble_eq_true rfl) dX5_set_117 (fun H locs hP hS => ?_)
    refine x_yeq (u := (0 : Int)) (tgt := 139) hx hb (rfl) dX5_set_120 (by decide) (fun h_3 => ?_) (fun h_3 => (by omega : False).elim)
    refine lv_iconst (v := nI 4294967295) hx hb dX5_set_139 (by decide) ?_
    exact x_reti hx hb hr9 hlk9 hS hP (by first | rfl | (show nI 4294967295 = nI 4294967295; first | rfl | omega)) dX5_set_140
set_option maxHeartbeats 4000000 in
set_option maxRecDepth 100000 in
theorem f_set_what {l : Launch} {g : gE} {ad : Nat → Nat} (hI : g_inj ad 55) (M : gMem) (J : gMeL) (hw : wfX M) (k : Nat) (hk : k < M 23 3) (w v : Int32) (h : w.toInt < 0 ∨ 3 < w.toInt) : CI l g ad dsX 55 yX5_set cX5_set 4 (some .int) 3 [.ref (ad 0), .int (nI k), .int w, .int v] M J (nI 4294967295) M J := by
  refine CI.of (plainFor_of_name (by decide)) (Nat.le_of_ble_eq_true rfl) (fun p9 e9 s9 m9 args9 below9 meth9 c9 CF hK hr9 hlk9 hP hS ls hl => ?_)
  have hx := CF.1
  have hb := CF.2.1
  have hA : ∀ q, g_A ad 55 q → g_A ad 55 q := fun _ h => h
  have hl : lv_has ls 4 [(0, .ref (ad 0)), (1, .int (nI k)), (2, .int w), (3, .int v)] := hl
  have hnc := hw.nc
  have hnf := hw.nf
  refine lv_aload_n hx hb dX5_set_0 rfl (lv_at hl 0 rfl) ?_
  refine lv_iload_n hx hb dX5_set_1 rfl (lv_at hl 1 rfl) ?_
  refine x_callVI CF hK hP hS hA hl (As := [.int (nI k)]) (rest := []) (c_isFigure_t hI M J k (by omega) (by omega)) kw_X5_isFigure wd2_27 (by decide) dX_0 rfl rfl ⟨Nat.le_of_ble_eq_true rfl, Nat.le_of_ble_eq_true rfl⟩ ⟨Nat.le_refl _, Nat.le_refl _⟩ (Nat.le_of_ble_eq_true rfl) dX5_set_2 (fun H locs hP hS => ?_)
  refine x_yne (u := (1 : Int)) (tgt := 10) hx hb (rfl) dX5_set_5 (by decide) (fun h_1 => ?_) (fun h_1 => (by omega : False).elim)
  refine lv_iload_n hx hb dX5_set_10 rfl (lv_at hl 2 rfl) ?_
  refine lv_tableOut (tgt := 141) hx hb dX5_set_11 (by omega) (by decide) ?_
  refine lv_iconst (v := nI 4294967295) hx hb dX5_set_141 (by decide) ?_
  exact x_reti hx hb hr9 hlk9 hS hP (by first | rfl | (show nI 4294967295 = nI 4294967295; first | rfl | omega)) dX5_set_142
set_option maxHeartbeats 4000000 in
set_option maxRecDepth 100000 in
theorem f_set_fig {l : Launch} {g : gE} {ad : Nat → Nat} (hI : g_inj ad 55) (M : gMem) (J : gMeL) (hw : wfX M) (k w v : Int32) (h : ¬ inR k (M 23 3)) : CI l g ad dsX 55 yX5_set cX5_set 4 (some .int) 3 [.ref (ad 0), .int k, .int w, .int v] M J (nI 4294967295) M J := by
  refine CI.of (plainFor_of_name (by decide)) (Nat.le_of_ble_eq_true rfl) (fun p9 e9 s9 m9 args9 below9 meth9 c9 CF hK hr9 hlk9 hP hS ls hl => ?_)
  have hx := CF.1
  have hb := CF.2.1
  have hA : ∀ q, g_A ad 55 q → g_A ad 55 q := fun _ h => h
  have hl : lv_has ls 4 [(0, .ref (ad 0)), (1, .int k), (2, .int w), (3, .int v)] := hl
  have hnc := hw.nc
  have hnf := hw.nf
  refine lv_aload_n hx hb dX5_set_0 rfl (lv_at hl 0 rfl) ?_
  refine lv_iload_n hx hb dX5_set_1 rfl (lv_at hl 1 rfl) ?_
  rcases n_int (x := k) (n := M 23 3) (by omega) with ⟨k1, h_k1, rfl⟩ | ho_k
  · refine x_callVI CF hK hP hS hA hl (As := [.int (nI k1)]) (rest := []) (c_isFigure_t hI M J k1 (by omega) (by omega)) kw_X5_isFigure wd2_27 (by decide) dX_0 rfl rfl ⟨Nat.le_of_ble_eq_true rfl, Nat.le_of_ble_eq_true rfl⟩ ⟨Nat.le_refl _, Nat.le_refl _⟩ (Nat.le_of_ble_eq_true rfl) dX5_set_2 (fun H locs hP hS => ?_)
    refine x_yne (u := (1 : Int)) (tgt := 10) hx hb (rfl) dX5_set_5 (by decide) (fun h_1 => ?_) (fun h_1 => (by omega : False).elim)
    exact absurd (inR_n h_k1 (by omega)) h
  · refine x_callVI CF hK hP hS hA hl (As := [.int k]) (rest := []) (c_isFigure_f hI M J k ho_k (by omega)) kw_X5_isFigure wd2_27 (by decide) dX_0 rfl rfl ⟨Nat.le_of_ble_eq_true rfl, Nat.le_of_ble_eq_true rfl⟩ ⟨Nat.le_refl _, Nat.le_refl _⟩ (Nat.le_of_ble_eq_true rfl) dX5_set_2 (fun H locs hP hS => ?_)
    refine x_yne (u := (0 : Int)) (tgt := 10) hx hb (rfl) dX5_set_5 (by decide) (fun h_2 => (by omega : False).elim) (fun h_2 => ?_)
    refine lv_iconst (v := nI 4294967295) hx hb dX5_set_8 (by decide) ?_
    exact x_reti hx hb hr9 hlk9 hS hP (by first | rfl | (show nI 4294967295 = nI 4294967295; first | rfl | omega)) dX5_set_9
set_option maxHeartbeats 4000000 in
set_option maxRecDepth 100000 in
theorem f_wish_bad {l : Launch} {g : gE} {ad : Nat → Nat} (hI : g_inj ad 55) (M : gMem) (J : gMeL) (hw : wfX M) (k : Int32) (h : ¬ inR k (M 23 3)) : CI l g ad dsX 55 yX5_wish cX5_wish 3 (some .int) 5 [.ref (ad 0), .int k] M J (nI 4294967295) M J := by
  refine CI.of (plainFor_of_name (by decide)) (Nat.le_of_ble_eq_true rfl) (fun p9 e9 s9 m9 args9 below9 meth9 c9 CF hK hr9 hlk9 hP hS ls hl => ?_)
  have hx := CF.1
  have hb := CF.2.1
  have hA : ∀ q, g_A ad 55 q → g_A ad 55 q := fun _ h => h
  have hl : lv_has ls 3 [(0, .ref (ad 0)), (1, .int k)] := hl
  have hnc := hw.nc
  have hnf := hw.nf
  refine lv_aload_n hx hb dX5_wish_0 rfl (lv_at hl 0 rfl) ?_
  refine lv_iload_n hx hb dX5_wish_1 rfl (lv_at hl 1 rfl) ?_
  rcases n_int (x := k) (n := M 23 3) (by omega) with ⟨k1, h_k1, rfl⟩ | ho_k
  · refine x_callVI CF hK hP hS hA hl (As := [.int (nI k1)]) (rest := []) (c_isFigure_t hI M J k1 (by omega) (by omega)) kw_X5_isFigure wd2_27 (by decide) dX_0 rfl rfl ⟨Nat.le_of_ble_eq_true rfl, Nat.le_of_ble_eq_true rfl⟩ ⟨Nat.le_refl _, Nat.le_refl _⟩ (Nat.le_of_ble_eq_true rfl) dX5_wish_2 (fun H locs hP hS => ?_)
    refine x_yne (u := (1 : Int)) (tgt := 10) hx hb (rfl) dX5_wish_5 (by decide) (fun h_1 => ?_) (fun h_1 => (by omega : False).elim)
    exact absurd (inR_n h_k1 (by omega)) h
  · refine x_callVI CF hK hP hS hA hl (As := [.int k]) (rest := []) (c_isFigure_f hI M J k ho_k (by omega)) kw_X5_isFigure wd2_27 (by decide) dX_0 rfl rfl ⟨Nat.le_of_ble_eq_true rfl, Nat.le_of_ble_eq_true rfl⟩ ⟨Nat.le_refl _, Nat.le_refl _⟩ (Nat.le_of_ble_eq_true rfl) dX5_wish_2 (fun H locs hP hS => ?_)
    refine x_yne (u := (0 : Int)) (tgt := 10) hx hb (rfl) dX5_wish_5 (by decide) (fun h_2 => (by omega : False).elim) (fun h_2 => ?_)
    refine lv_iconst (v := nI 4294967295) hx hb dX5_wish_8 (by decide) ?_
    exact x_reti hx hb hr9 hlk9 hS hP (by first | rfl | (show nI 4294967295 = nI 4294967295; first | rfl | omega)) dX5_wish_9
set_option maxHeartbeats 4000000 in
set_option maxRecDepth 100000 in
theorem f_wish_flt {l : Launch} {g : gE} {ad : Nat → Nat} (hI : g_inj ad 55) (M : gMem) (J : gMeL) (hw : wfX M) (hlen : M 1 2 ≤ 40) (hby : ∀ q, q < 40 → M 2 q < 256) (k : Nat) (hk : k < M 23 3) (p : Nat) (hp : (rdF (M 2) okw (M 1 2) 0 0 (M 1 2)) = some p) (hp9 : p ≤ 40) : CI l g ad dsX 55 yX5_wish cX5_wish 3 (some .int) 5 [.ref (ad 0), .int (nI k)] M J (nI (4294967276 - p)) (u2 (rowN M 3 12 (rdS (M 2) okw (fun b => b) 0 0 (M 1 2) (M 3))) 1 2 0) J := by
  refine CI.of (plainFor_of_name (by decide)) (Nat.le_of_ble_eq_true rfl) (fun p9 e9 s9 m9 args9 below9 meth9 c9 CF hK hr9 hlk9 hP hS ls hl => ?_)
  have hx := CF.1
  have hb := CF.2.1
  have hA : ∀ q, g_A ad 55 q → g_A ad 55 q := fun _ h => h
  have hl : lv_has ls 3 [(0, .ref (ad 0)), (1, .int (nI k))] := hl
  have hnc := hw.nc
  have hnf := hw.nf
  refine lv_aload_n hx hb dX5_wish_0 rfl (lv_at hl 0 rfl) ?_
  refine lv_iload_n hx hb dX5_wish_1 rfl (lv_at hl 1 rfl) ?_
  refine x_callVI CF hK hP hS hA hl (As := [.int (nI k)]) (rest := []) (c_isFigure_t hI M J k (by omega) (by omega)) kw_X5_isFigure wd2_27 (by decide) dX_0 rfl rfl ⟨Nat.le_of_ble_eq_true rfl, Nat.le_of_ble_eq_true rfl⟩ ⟨Nat.le_refl _, Nat.le_refl _⟩ (Nat.le_of_ble_eq_true rfl) dX5_wish_2 (fun H locs hP hS => ?_)
  refine x_yne (u := (1 : Int)) (tgt := 10) hx hb (rfl) dX5_wish_5 (by decide) (fun h_1 => ?_) (fun h_1 => (by omega : False).elim)
  refine lv_aload_n hx hb dX5_wish_10 rfl (lv_at hl 0 rfl) ?_
  refine lv_iconst (v := nI 1) hx hb dX5_wish_11 (by decide) ?_
  refine x_callVI CF hK hP hS hA hl (As := [.int (nI 1)]) (rest := []) (c_takeTape_w hI M J hlen hby) kw_X5_takeTape wd1_208 (by decide) dX_0 rfl rfl ⟨Nat.le_of_ble_eq_true rfl, Nat.le_of_ble_eq_true rfl⟩ ⟨Nat.le_refl _, Nat.le_refl _⟩ (Nat.le_of_ble_eq_true rfl) dX5_wish_12 (fun H locs hP hS => ?_)
  refine x_ri (show (nI (flt (rdF (M 2) okw (M 1 2) 0 0 (M 1 2)))) = nI (4294967276 - p) from by rw [hp]; rfl) ?_
  refine lv_istore_n (lv' := [(2, .int (nI (4294967276 - p))), (0, .ref (ad 0)), (1, .int (nI k))]) hx hb dX5_wish_15 rfl hl (by decide) rfl (fun ls hl => ?_)
  refine lv_iload_n hx hb dX5_wish_16 rfl (lv_at hl 0 rfl) ?_
  refine x_yge (u := -20 - (p : Int)) (tgt := 22) hx hb (z_flt hp9) dX5_wish_17 (by decide) (fun h_2 => (by omega : False).elim) (fun h_2 => ?_)
  refine lv_iload_n hx hb dX5_wish_20 rfl (lv_at hl 0 rfl) ?_
  exact x_reti hx hb hr9 hlk9 hS hP (by first | rfl | (show nI (4294967276 - p) = nI (4294967276 - p); first | rfl | omega)) dX5_wish_21
set_option maxHeartbeats 4000000 in
set_option maxRecDepth 100000 in
theorem f_wish_ok {l : Launch} {g : gE} {ad : Nat → Nat} (hI : g_inj ad 55) (M : gMem) (J : gMeL) (hw : wfX M) (hlen : M 1 2 ≤ 40) (hby : ∀ q, q < 40 → M 2 q < 256) (k : Nat) (hk : k < M 23 3) (hp : (rdF (M 2) okw (M 1 2) 0 0 (M 1 2)) = none) (hs3 : ∀ a, a < 12 → (u2 (rowN M 3 12 (rdS (M 2) okw (fun b => b) 0 0 (M 1 2) (M 3))) 1 2 0) 3 a < 256) : CI l g ad dsX 55 yX5_wish cX5_wish 3 (some .int) 5 [.ref (ad 0), .int (nI k)] M J (nI (pop (setN (fun q => decide ((u2 (rowN M 3 12 (rdS (M 2) okw (fun b => b) 0 0 (M 1 2) (M 3))) 1 2 0) 3 q = 117)) 12 ||| setN (fun q => decide (¬ (u2 (rowN M 3 12 (rdS (M 2) okw (fun b => b) 0 0 (M 1 2) (M 3))) 1 2 0) 3 q = 117 ∧ (u2 (rowN M 3 12 (rdS (M 2) okw (fun b => b) 0 0 (M 1 2) (M 3))) 1 2 0) 3 q = 100)) 12))) (w45 (u2 (rowN M 3 12 (rdS (M 2) okw (fun b => b) 0 0 (M 1 2) (M 3))) 1 2 0) (32 + k) (setN (fun q => decide ((u2 (rowN M 3 12 (rdS (M 2) okw (fun b => b) 0 0 (M 1 2) (M 3))) 1 2 0) 3 q = 117)) 12) (setN (fun q => decide (¬ (u2 (rowN M 3 12 (rdS (M 2) okw (fun b => b) 0 0 (M 1 2) (M 3))) 1 2 0) 3 q = 117 ∧ (u2 (rowN M 3 12 (rdS (M 2) okw (fun b => b) 0 0 (M 1 2) (M 3))) 1 2 0) 3 q = 100)) 12)) J := by
  refine CI.of (plainFor_of_name (by decide)) (Nat.le_of_ble_eq_true rfl) (fun p9 e9 s9 m9 args9 below9 meth9 c9 CF hK hr9 hlk9 hP hS ls hl => ?_)
  have hx := CF.1
  have hb := CF.2.1
  have hA : ∀ q, g_A ad 55 q → g_A ad 55 q := fun _ h => h
  have hl : lv_has ls 3 [(0, .ref (ad 0)), (1, .int (nI k))] := hl
  have hnc := hw.nc
  have hnf := hw.nf
  refine lv_aload_n hx hb dX5_wish_0 rfl (lv_at hl 0 rfl) ?_
  refine lv_iload_n hx hb dX5_wish_1 rfl (lv_at hl 1 rfl) ?_
  refine x_callVI CF hK hP hS hA hl (As := [.int (nI k)]) (rest := []) (c_isFigure_t hI M J k (by omega) (by omega)) kw_X5_isFigure wd2_27 (by decide) dX_0 rfl rfl ⟨Nat.le_of_ble_eq_true rfl, Nat.le_of_ble_eq_true rfl⟩ ⟨Nat.le_refl _, Nat.le_refl _⟩ (Nat.le_of_ble_eq_true rfl) dX5_wish_2 (fun H locs hP hS => ?_)
  refine x_yne (u := (1 : Int)) (tgt := 10) hx hb (rfl) dX5_wish_5 (by decide) (fun h_1 => ?_) (fun h_1 => (by omega : False).elim)
  refine lv_aload_n hx hb dX5_wish_10 rfl (lv_at hl 0 rfl) ?_
  refine lv_iconst (v := nI 1) hx hb dX5_wish_11 (by decide) ?_
  refine x_callVI CF hK hP hS hA hl (As := [.int (nI 1)]) (rest := []) (c_takeTape_w hI M J hlen hby) kw_X5_takeTape wd1_208 (by decide) dX_0 rfl rfl ⟨Nat.le_of_ble_eq_true rfl, Nat.le_of_ble_eq_true rfl⟩ ⟨Nat.le_refl _, Nat.le_refl _⟩ (Nat.le_of_ble_eq_true rfl) dX5_wish_12 (fun H locs hP hS => ?_)
  refine x_ri (show (nI (flt (rdF (M 2) okw (M 1 2) 0 0 (M 1 2)))) = nI 0 from by rw [hp]; rfl) ?_
  refine lv_istore_n (lv' := [(2, .int (nI 0)), (0, .ref (ad 0)), (1, .int (nI k))]) hx hb dX5_wish_15 rfl hl (by decide) rfl (fun ls hl => ?_)
  refine lv_iload_n hx hb dX5_wish_16 rfl (lv_at hl 0 rfl) ?_
  refine x_yge (u := (0 : Int)) (tgt := 22) hx hb (rfl) dX5_wish_17 (by decide) (fun h_2 => ?_) (fun h_2 => (by omega : False).elim)
  refine lv_aload_n hx hb dX5_wish_22 rfl (lv_at hl 1 rfl) ?_
  refine x_getr CF hK hP 0 (by decide) dX_0 rfl uX5 0 (by decide) (j := 23) rfl wd1_164 rfl dX5_wish_23 ?_
  refine x_getr CF hK hP 23 (by decide) dX_23 rfl uX1 2 (by decide) (j := 31) rfl wd1_72 rfl dX5_wish_26 ?_
  refine lv_iload_n hx hb dX5_wish_29 rfl (lv_at hl 2 rfl) ?_
  refine x_aald CF hK hP 31 (by decide) (t := 0) dX_31 (by decide) k (by omega) (by decide) (j := (32 + k)) (oX_fig k (by omega)) dX5_wish_30 ?_
  refine lv_aload_n hx hb dX5_wish_31 rfl (lv_at hl 1 rfl) ?_
  refine x_getr CF hK hP 0 (by decide) dX_0 rfl uX5 3 (by decide) (j := 1) rfl wd1_167 rfl dX5_wish_32 ?_
  refine x_getr CF hK hP 1 (by decide) dX_1 rfl uX4 1 (by decide) (j := 3) rfl wd1_116 rfl dX5_wish_35 ?_
  refine x_callVI CF hK hP hS hA hl (As := [.ref (ad 3)]) (rest := []) (c_wishFor hI (u2 (rowN M 3 12 (rdS (M 2) okw (fun b => b) 0 0 (M 1 2) (M 3))) 1 2 0) J k (by omega) hs3) kw_X0_wishFor wd2_51 (by omega) (dX_fig k (by omega)) rfl rfl ⟨Nat.le_of_ble_eq_true rfl, Nat.le_of_ble_eq_true rfl⟩ ⟨Nat.le_refl _, Nat.le_refl _⟩ (Nat.le_of_ble_eq_true rfl) dX5_wish_38 (fun H locs hP hS => ?_)
  exact x_reti hx hb hr9 hlk9 hS hP (by first | rfl | (show nI (pop (setN (fun q => decide ((u2 (rowN M 3 12 (rdS (M 2) okw (fun b => b) 0 0 (M 1 2) (M 3))) 1 2 0) 3 q = 117)) 12 ||| setN (fun q => decide (¬ (u2 (rowN M 3 12 (rdS (M 2) okw (fun b => b) 0 0 (M 1 2) (M 3))) 1 2 0) 3 q = 117 ∧ (u2 (rowN M 3 12 (rdS (M 2) okw (fun b => b) 0 0 (M 1 2) (M 3))) 1 2 0) 3 q = 100)) 12)) = nI (pop (setN (fun q => decide ((u2 (rowN M 3 12 (rdS (M 2) okw (fun b => b) 0 0 (M 1 2) (M 3))) 1 2 0) 3 q = 117)) 12 ||| setN (fun q => decide (¬ (u2 (rowN M 3 12 (rdS (M 2) okw (fun b => b) 0 0 (M 1 2) (M 3))) 1 2 0) 3 q = 117 ∧ (u2 (rowN M 3 12 (rdS (M 2) okw (fun b => b) 0 0 (M 1 2) (M 3))) 1 2 0) 3 q = 100)) 12)); first | rfl | omega)) dX5_wish_41
set_option maxHeartbeats 4000000 in
set_option maxRecDepth 100000 in
theorem f_line_ok {l : Launch} {g : gE} {ad : Nat → Nat} (hI : g_inj ad 55) (M : gMem) (J : gMeL) (hw : wfX M) (v : Nat) (h1 : 1 ≤ v) (h : v < 10) : CI l g ad dsX 55 yX5_line cX5_line 3 (some .int) 1 [.ref (ad 0), .int (nI v)] M J (nI (M 23 4)) (u2 M 23 4 v) J := by
  refine CI.of (plainFor_of_name (by decide)) (Nat.le_of_ble_eq_true rfl) (fun p9 e9 s9 m9 args9 below9 meth9 c9 CF hK hr9 hlk9 hP hS ls hl => ?_)
  have hx := CF.1
  have hb := CF.2.1
  have hA : ∀ q, g_A ad 55 q → g_A ad 55 q := fun _ h => h
  have hl : lv_has ls 3 [(0, .ref (ad 0)), (1, .int (nI v))] := hl
  have hnc := hw.nc
  have hnf := hw.nf
  refine lv_iload_n hx hb dX5_line_0 rfl (lv_at hl 1 rfl) ?_
  refine lv_iconst (v := nI 1) hx hb dX5_line_1 (by decide) ?_
  refine lv_bipush (v := nI 9) hx hb dX5_line_2 (by decide) ?_
  refine x_callSP CF hK hP hS hl (As := [.int (nI v), .int (nI 1), .int (nI 9)]) (rest := []) (c_isWithin_t _ _ _ (w_in (by omega) (by omega) (by omega))) kw_X5_isWithin wd1_190 rfl ⟨Nat.le_of_ble_eq_true rfl, Nat.le_of_ble_eq_true rfl⟩ ⟨Nat.le_refl _, Nat.le_refl _⟩ (Nat.le_of_ble_eq_true rfl) dX5_line_4 (fun H locs hP hS => ?_)
  refine x_yne (u := (1 : Int)) (tgt := 12) hx hb (rfl) dX5_line_7 (by decide) (fun h_1 => ?_) (fun h_1 => (by omega : False).elim)
  refine lv_aload_n hx hb dX5_line_12 rfl (lv_at hl 0 rfl) ?_
  refine x_getr CF hK hP 0 (by decide) dX_0 rfl uX5 0 (by decide) (j := 23) rfl wd1_164 rfl dX5_line_13 ?_
  refine x_geti CF hK hP 23 (by decide) dX_23 rfl uX1 4 (by decide) rfl wd1_76 rfl dX5_line_16 ?_
  refine lv_istore_n (lv' := [(2, .int (nI (M 23 4))), (0, .ref (ad 0)), (1, .int (nI v))]) hx hb dX5_line_19 rfl hl (by decide) rfl (fun ls hl => ?_)
  refine lv_aload_n hx hb dX5_line_20 rfl (lv_at hl 1 rfl) ?_
  refine x_getr CF hK hP 0 (by decide) dX_0 rfl uX5 0 (by decide) (j := 23) rfl wd1_164 rfl dX5_line_21 ?_
  refine lv_iload_n hx hb dX5_line_24 rfl (lv_at hl 2 rfl) ?_
  refine x_puti CF hK hI hA hP hS 23 (by decide) dX_23 rfl uX1 tyX1 tyX1_ok nmX1 4 (by decide) rfl wd1_76 rfl rfl v (ty := .int) rfl rfl rfl dX5_line_25 (fun H locs hP hS => ?_)
  refine lv_iload_n hx hb dX5_line_28 rfl (lv_at hl 0 rfl) ?_
  exact x_reti hx hb hr9 hlk9 hS hP (by first | rfl | (show nI (M 23 4) = nI (M 23 4); first | rfl | omega)) dX5_line_29
set_option maxHeartbeats 4000000 in
set_option maxRecDepth 100000 in
theorem f_line_bad {l : Launch} {g : gE} {ad : Nat → Nat} (hI : g_inj ad 55) (M : gMem) (J : gMeL) (hw : wfX M) (v : Int32) (h : ¬ inR1 v 10) : CI l g ad dsX 55 yX5_line cX5_line 3 (some .int) 1 [.ref (ad 0), .int v] M J (nI 4294967295) M J := by
  refine CI.of (plainFor_of_name (by decide)) (Nat.le_of_ble_eq_true rfl) (fun p9 e9 s9 m9 args9 below9 meth9 c9 CF hK hr9 hlk9 hP hS ls hl => ?_)
  have hx := CF.1
  have hb := CF.2.1
  have hA : ∀ q, g_A ad 55 q → g_A ad 55 q := fun _ h => h
  have hl : lv_has ls 3 [(0, .ref (ad 0)), (1, .int v)] := hl
  have hnc := hw.nc
  have hnf := hw.nf
  refine lv_iload_n hx hb dX5_line_0 rfl (lv_at hl 1 rfl) ?_
  refine lv_iconst (v := nI 1) hx hb dX5_line_1 (by decide) ?_
  refine lv_bipush (v := nI 9) hx hb dX5_line_2 (by decide) ?_
  rcases n_int1 (x := v) (n := 10) (by omega) with ⟨v1, g_v1, h_v1, rfl⟩ | ho_v
  · refine x_callSP CF hK hP hS hl (As := [.int (nI v1), .int (nI 1), .int (nI 9)]) (rest := []) (c_isWithin_t _ _ _ (w_in (by omega) (by omega) (by omega))) kw_X5_isWithin wd1_190 rfl ⟨Nat.le_of_ble_eq_true rfl, Nat.le_of_ble_eq_true rfl⟩ ⟨Nat.le_refl _, Nat.le_refl _⟩ (Nat.le_of_ble_eq_true rfl) dX5_line_4 (fun H locs hP hS => ?_)
    refine x_yne (u := (1 : Int)) (tgt := 12) hx hb (rfl) dX5_line_7 (by decide) (fun h_1 => ?_) (fun h_1 => (by omega : False).elim)
    exact absurd (inR1_n g_v1 h_v1 (by decide)) h
  · refine x_callSP CF hK hP hS hl (As := [.int v, .int (nI 1), .int (nI 9)]) (rest := []) (c_isWithin_f _ _ _ (w_out (by omega) (by omega) (by omega))) kw_X5_isWithin wd1_190 rfl ⟨Nat.le_of_ble_eq_true rfl, Nat.le_of_ble_eq_true rfl⟩ ⟨Nat.le_refl _, Nat.le_refl _⟩ (Nat.le_of_ble_eq_true rfl) dX5_line_4 (fun H locs hP hS => ?_)
    refine x_yne (u := (0 : Int)) (tgt := 12) hx hb (rfl) dX5_line_7 (by decide) (fun h_2 => (by omega : False).elim) (fun h_2 => ?_)
    refine lv_iconst (v := nI 4294967295) hx hb dX5_line_10 (by decide) ?_
    exact x_reti hx hb hr9 hlk9 hS hP (by first | rfl | (show nI 4294967295 = nI 4294967295; first | rfl | omega)) dX5_line_11
set_option maxHeartbeats 4000000 in
set_option maxRecDepth 100000 in
theorem f_way_ok {l : Launch} {g : gE} {ad : Nat → Nat} (hI : g_inj ad 55) (M : gMem) (J : gMeL) (hw : wfX M) (v : Nat) (h1 : 0 ≤ v) (h : v < 2) : CI l g ad dsX 55 yX5_way cX5_way 3 (some .int) 1 [.ref (ad 0), .int (nI v)] M J (nI (M 23 5)) (u2 M 23 5 v) J := by
  refine CI.of (plainFor_of_name (by decide)) (Nat.le_of_ble_eq_true rfl) (fun p9 e9 s9 m9 args9 below9 meth9 c9 CF hK hr9 hlk9 hP hS ls hl => ?_)
  have hx := CF.1
  have hb := CF.2.1
  have hA : ∀ q, g_A ad 55 q → g_A ad 55 q := fun _ h => h
  have hl : lv_has ls 3 [(0, .ref (ad 0)), (1, .int (nI v))] := hl
  have hnc := hw.nc
  have hnf := hw.nf
  refine lv_iload_n hx hb dX5_way_0 rfl (lv_at hl 1 rfl) ?_
  refine lv_iconst (v := nI 0) hx hb dX5_way_1 (by decide) ?_
  refine lv_iconst (v := nI 1) hx hb dX5_way_2 (by decide) ?_
  refine x_callSP CF hK hP hS hl (As := [.int (nI v), .int (nI 0), .int (nI 1)]) (rest := []) (c_isWithin_t _ _ _ (w_in (by omega) (by omega) (by omega))) kw_X5_isWithin wd1_190 rfl ⟨Nat.le_of_ble_eq_true rfl, Nat.le_of_ble_eq_true rfl⟩ ⟨Nat.le_refl _, Nat.le_refl _⟩ (Nat.le_of_ble_eq_true rfl) dX5_way_3 (fun H locs hP hS => ?_)
  refine x_yne (u := (1 : Int)) (tgt := 11) hx hb (rfl) dX5_way_6 (by decide) (fun h_1 => ?_) (fun h_1 => (by omega : False).elim)
  refine lv_aload_n hx hb dX5_way_11 rfl (lv_at hl 0 rfl) ?_
  refine x_getr CF hK hP 0 (by decide) dX_0 rfl uX5 0 (by decide) (j := 23) rfl wd1_164 rfl dX5_way_12 ?_
  refine x_geti CF hK hP 23 (by decide) dX_23 rfl uX1 5 (by decide) rfl wd1_78 rfl dX5_way_15 ?_
  refine lv_istore_n (lv' := [(2, .int (nI (M 23 5))), (0, .ref (ad 0)), (1, .int (nI v))]) hx hb dX5_way_18 rfl hl (by decide) rfl (fun ls hl => ?_)
  refine lv_aload_n hx hb dX5_way_19 rfl (lv_at hl 1 rfl) ?_
  refine x_getr CF hK hP 0 (by decide) dX_0 rfl uX5 0 (by decide) (j := 23) rfl wd1_164 rfl dX5_way_20 ?_
  refine lv_iload_n hx hb dX5_way_23 rfl (lv_at hl 2 rfl) ?_
  refine x_puti CF hK hI hA hP hS 23 (by decide) dX_23 rfl uX1 tyX1 tyX1_ok nmX1 5 (by decide) rfl wd1_78 rfl rfl v (ty := .int) rfl rfl rfl dX5_way_24 (fun H locs hP hS => ?_)
  refine lv_iload_n hx hb dX5_way_27 rfl (lv_at hl 0 rfl) ?_
  exact x_reti hx hb hr9 hlk9 hS hP (by first | rfl | (show nI (M 23 5) = nI (M 23 5); first | rfl | omega)) dX5_way_28
set_option maxHeartbeats 4000000 in
set_option maxRecDepth 100000 in
theorem f_way_bad {l : Launch} {g : gE} {ad : Nat → Nat} (hI : g_inj ad 55) (M : gMem) (J : gMeL) (hw : wfX M) (v : Int32) (h : ¬ inR v 2) : CI l g ad dsX 55 yX5_way cX5_way 3 (some .int) 1 [.ref (ad 0), .int v] M J (nI 4294967295) M J := by
  refine CI.of (plainFor_of_name (by decide)) (Nat.le_of_ble_eq_true rfl) (fun p9 e9 s9 m9 args9 below9 meth9 c9 CF hK hr9 hlk9 hP hS ls hl => ?_)
  have hx := CF.1
  have hb := CF.2.1
  have hA : ∀ q, g_A ad 55 q → g_A ad 55 q := fun _ h => h
  have hl : lv_has ls 3 [(0, .ref (ad 0)), (1, .int v)] := hl
  have hnc := hw.nc
  have hnf := hw.nf
  refine lv_iload_n hx hb dX5_way_0 rfl (lv_at hl 1 rfl) ?_
  refine lv_iconst (v := nI 0) hx hb dX5_way_1 (by decide) ?_
  refine lv_iconst (v := nI 1) hx hb dX5_way_2 (by decide) ?_
  rcases n_int (x := v) (n := 2) (by omega) with ⟨v1, h_v1, rfl⟩ | ho_v
  · refine x_callSP CF hK hP hS hl (As := [.int (nI v1), .int (nI 0), .int (nI 1)]) (rest := []) (c_isWithin_t _ _ _ (w_in (by omega) (by omega) (by omega))) kw_X5_isWithin wd1_190 rfl ⟨Nat.le_of_ble_eq_true rfl, Nat.le_of_ble_eq_true rfl⟩ ⟨Nat.le_refl _, Nat.le_refl _⟩ (Nat.le_of_ble_eq_true rfl) dX5_way_3 (fun H locs hP hS => ?_)
    refine x_yne (u := (1 : Int)) (tgt := 11) hx hb (rfl) dX5_way_6 (by decide) (fun h_1 => ?_) (fun h_1 => (by omega : False).elim)
    refine lv_aload_n hx hb dX5_way_11 rfl (lv_at hl 0 rfl) ?_
    exact absurd (inR_n h_v1 (by decide)) h
  · refine x_callSP CF hK hP hS hl (As := [.int v, .int (nI 0), .int (nI 1)]) (rest := []) (c_isWithin_f _ _ _ (w_out (by omega) (by omega) (by omega))) kw_X5_isWithin wd1_190 rfl ⟨Nat.le_of_ble_eq_true rfl, Nat.le_of_ble_eq_true rfl⟩ ⟨Nat.le_refl _, Nat.le_refl _⟩ (Nat.le_of_ble_eq_true rfl) dX5_way_3 (fun H locs hP hS => ?_)
    refine x_yne (u := (0 : Int)) (tgt := 11) hx hb (rfl) dX5_way_6 (by decide) (fun h_2 => (by omega : False).elim) (fun h_2 => ?_)
    refine lv_iconst (v := nI 4294967295) hx hb dX5_way_9 (by decide) ?_
    exact x_reti hx hb hr9 hlk9 hS hP (by first | rfl | (show nI 4294967295 = nI 4294967295; first | rfl | omega)) dX5_way_10
set_option maxHeartbeats 4000000 in
set_option maxRecDepth 100000 in
theorem f_count_0 {l : Launch} {g : gE} {ad : Nat → Nat} (hI : g_inj ad 55) (M : gMem) (J : gMeL) (hw : wfX M) : CI l g ad dsX 55 yX5_count cX5_count 2 (some .int) 8 [.ref (ad 0), .int (nI 0)] M J (nI (M 23 1)) M J := by
  refine CI.of (plainFor_of_name (by decide)) (Nat.le_of_ble_eq_true rfl) (fun p9 e9 s9 m9 args9 below9 meth9 c9 CF hK hr9 hlk9 hP hS ls hl => ?_)
  have hx := CF.1
  have hb := CF.2.1
  have hA : ∀ q, g_A ad 55 q → g_A ad 55 q := fun _ h => h
  have hl : lv_has ls 2 [(0, .ref (ad 0)), (1, .int (nI 0))] := hl
  have hnc := hw.nc
  have hnf := hw.nf
  refine lv_iload_n hx hb dX5_count_0 rfl (lv_at hl 1 rfl) ?_
  refine lv_tableIn (tgt := 40) hx hb dX5_count_1 (by decide) (by decide) (off := 39) (by decide) (by decide) ?_
  refine lv_aload_n hx hb dX5_count_40 rfl (lv_at hl 0 rfl) ?_
  refine x_getr CF hK hP 0 (by decide) dX_0 rfl uX5 0 (by decide) (j := 23) rfl wd1_164 rfl dX5_count_41 ?_
  refine x_geti CF hK hP 23 (by decide) dX_23 rfl uX1 1 (by decide) rfl wd1_70 rfl dX5_count_44 ?_
  exact x_reti hx hb hr9 hlk9 hS hP (by first | rfl | (show nI (M 23 1) = nI (M 23 1); first | rfl | omega)) dX5_count_47
set_option maxHeartbeats 4000000 in
set_option maxRecDepth 100000 in
theorem f_count_1 {l : Launch} {g : gE} {ad : Nat → Nat} (hI : g_inj ad 55) (M : gMem) (J : gMeL) (hw : wfX M) : CI l g ad dsX 55 yX5_count cX5_count 2 (some .int) 8 [.ref (ad 0), .int (nI 1)] M J (nI (M 23 3)) M J := by
  refine CI.of (plainFor_of_name (by decide)) (Nat.le_of_ble_eq_true rfl) (fun p9 e9 s9 m9 args9 below9 meth9 c9 CF hK hr9 hlk9 hP hS ls hl => ?_)
  have hx := CF.1
  have hb := CF.2.1
  have hA : ∀ q, g_A ad 55 q → g_A ad 55 q := fun _ h => h
  have hl : lv_has ls 2 [(0, .ref (ad 0)), (1, .int (nI 1))] := hl
  have hnc := hw.nc
  have hnf := hw.nf
  refine lv_iload_n hx hb dX5_count_0 rfl (lv_at hl 1 rfl) ?_
  refine lv_tableIn (tgt := 48) hx hb dX5_count_1 (by decide) (by decide) (off := 47) (by decide) (by decide) ?_
  refine lv_aload_n hx hb dX5_count_48 rfl (lv_at hl 0 rfl) ?_
  refine x_getr CF hK hP 0 (by decide) dX_0 rfl uX5 0 (by decide) (j := 23) rfl wd1_164 rfl dX5_count_49 ?_
  refine x_geti CF hK hP 23 (by decide) dX_23 rfl uX1 3 (by decide) rfl wd1_74 rfl dX5_count_52 ?_
  exact x_reti hx hb hr9 hlk9 hS hP (by first | rfl | (show nI (M 23 3) = nI (M 23 3); first | rfl | omega)) dX5_count_55
set_option maxHeartbeats 4000000 in
set_option maxRecDepth 100000 in
theorem f_count_2 {l : Launch} {g : gE} {ad : Nat → Nat} (hI : g_inj ad 55) (M : gMem) (J : gMeL) (hw : wfX M) : CI l g ad dsX 55 yX5_count cX5_count 2 (some .int) 8 [.ref (ad 0), .int (nI 2)] M J (nI (M 23 6)) M J := by
  refine CI.of (plainFor_of_name (by decide)) (Nat.le_of_ble_eq_true rfl) (fun p9 e9 s9 m9 args9 below9 meth9 c9 CF hK hr9 hlk9 hP hS ls hl => ?_)
  have hx := CF.1
  have hb := CF.2.1
  have hA : ∀ q, g_A ad 55 q → g_A ad 55 q := fun _ h => h
  have hl : lv_has ls 2 [(0, .ref (ad 0)), (1, .int (nI 2))] := hl
  have hnc := hw.nc
  have hnf := hw.nf
  refine lv_iload_n hx hb dX5_count_0 rfl (lv_at hl 1 rfl) ?_
  refine lv_tableIn (tgt := 56) hx hb dX5_count_1 (by decide) (by decide) (off := 55) (by decide) (by decide) ?_
  refine lv_aload_n hx hb dX5_count_56 rfl (lv_at hl 0 rfl) ?_
  refine x_getr CF hK hP 0 (by decide) dX_0 rfl uX5 0 (by decide) (j := 23) rfl wd1_164 rfl dX5_count_57 ?_
  refine x_geti CF hK hP 23 (by decide) dX_23 rfl uX1 6 (by decide) rfl wd1_80 rfl dX5_count_60 ?_
  exact x_reti hx hb hr9 hlk9 hS hP (by first | rfl | (show nI (M 23 6) = nI (M 23 6); first | rfl | omega)) dX5_count_63
set_option maxHeartbeats 4000000 in
set_option maxRecDepth 100000 in
theorem f_count_3 {l : Launch} {g : gE} {ad : Nat → Nat} (hI : g_inj ad 55) (M : gMem) (J : gMeL) (hw : wfX M) : CI l g ad dsX 55 yX5_count cX5_count 2 (some .int) 8 [.ref (ad 0), .int (nI 3)] M J (nI (M 23 5)) M J := by
  refine CI.of (plainFor_of_name (by decide)) (Nat.le_of_ble_eq_true rfl) (fun p9 e9 s9 m9 args9 below9 meth9 c9 CF hK hr9 hlk9 hP hS ls hl => ?_)
  have hx := CF.1
  have hb := CF.2.1
  have hA : ∀ q, g_A ad 55 q → g_A ad 55 q := fun _ h => h
  have hl : lv_has ls 2 [(0, .ref (ad 0)), (1, .int (nI 3))] := hl
  have hnc := hw.nc
  have hnf := hw.nf
  refine lv_iload_n hx hb dX5_count_0 rfl (lv_at hl 1 rfl) ?_
  refine lv_tableIn (tgt := 64) hx hb dX5_count_1 (by decide) (by decide) (off := 63) (by decide) (by decide) ?_
  refine lv_aload_n hx hb dX5_count_64 rfl (lv_at hl 0 rfl) ?_
  refine x_getr CF hK hP 0 (by decide) dX_0 rfl uX5 0 (by decide) (j := 23) rfl wd1_164 rfl dX5_count_65 ?_
  refine x_geti CF hK hP 23 (by decide) dX_23 rfl uX1 5 (by decide) rfl wd1_78 rfl dX5_count_68 ?_
  exact x_reti hx hb hr9 hlk9 hS hP (by first | rfl | (show nI (M 23 5) = nI (M 23 5); first | rfl | omega)) dX5_count_71
set_option maxHeartbeats 4000000 in
set_option maxRecDepth 100000 in
theorem f_count_4 {l : Launch} {g : gE} {ad : Nat → Nat} (hI : g_inj ad 55) (M : gMem) (J : gMeL) (hw : wfX M) : CI l g ad dsX 55 yX5_count cX5_count 2 (some .int) 8 [.ref (ad 0), .int (nI 4)] M J (nI (M 23 7)) M J := by
  refine CI.of (plainFor_of_name (by decide)) (Nat.le_of_ble_eq_true rfl) (fun p9 e9 s9 m9 args9 below9 meth9 c9 CF hK hr9 hlk9 hP hS ls hl => ?_)
  have hx := CF.1
  have hb := CF.2.1
  have hA : ∀ q, g_A ad 55 q → g_A ad 55 q := fun _ h => h
  have hl : lv_has ls 2 [(0, .ref (ad 0)), (1, .int (nI 4))] := hl
  have hnc := hw.nc
  have hnf := hw.nf
  refine lv_iload_n hx hb dX5_count_0 rfl (lv_at hl 1 rfl) ?_
  refine lv_tableIn (tgt := 72) hx hb dX5_count_1 (by decide) (by decide) (off := 71) (by decide) (by decide) ?_
  refine lv_aload_n hx hb dX5_count_72 rfl (lv_at hl 0 rfl) ?_
  refine x_getr CF hK hP 0 (by decide) dX_0 rfl uX5 0 (by decide) (j := 23) rfl wd1_164 rfl dX5_count_73 ?_
  refine x_geti CF hK hP 23 (by decide) dX_23 rfl uX1 7 (by decide) rfl wd1_82 rfl dX5_count_76 ?_
  exact x_reti hx hb hr9 hlk9 hS hP (by first | rfl | (show nI (M 23 7) = nI (M 23 7); first | rfl | omega)) dX5_count_79
set_option maxHeartbeats 4000000 in
set_option maxRecDepth 100000 in
theorem f_count_5 {l : Launch} {g : gE} {ad : Nat → Nat} (hI : g_inj ad 55) (M : gMem) (J : gMeL) (hw : wfX M) : CI l g ad dsX 55 yX5_count cX5_count 2 (some .int) 8 [.ref (ad 0), .int (nI 5)] M J (nI (setN (fun q => decide (M 23 4 ≤ hgtX M q (M 23 6))) (M 23 3))) M J := by
  refine CI.of (plainFor_of_name (by decide)) (Nat.le_of_ble_eq_true rfl) (fun p9 e9 s9 m9 args9 below9 meth9 c9 CF hK hr9 hlk9 hP hS ls hl => ?_)
  have hx := CF.1
  have hb := CF.2.1
  have hA : ∀ q, g_A ad 55 q → g_A ad 55 q := fun _ h => h
  have hl : lv_has ls 2 [(0, .ref (ad 0)), (1, .int (nI 5))] := hl
  have hnc := hw.nc
  have hnf := hw.nf
  refine lv_iload_n hx hb dX5_count_0 rfl (lv_at hl 1 rfl) ?_
  refine lv_tableIn (tgt := 80) hx hb dX5_count_1 (by decide) (by decide) (off := 79) (by decide) (by decide) ?_
  refine lv_aload_n hx hb dX5_count_80 rfl (lv_at hl 0 rfl) ?_
  refine x_getr CF hK hP 0 (by decide) dX_0 rfl uX5 0 (by decide) (j := 23) rfl wd1_164 rfl dX5_count_81 ?_
  refine x_callVI CF hK hP hS hA hl (As := []) (rest := []) (c_upNow hI M J hw) kw_X1_figuresUpNow wd2_73 (by decide) dX_23 rfl rfl ⟨Nat.le_of_ble_eq_true rfl, Nat.le_of_ble_eq_true rfl⟩ ⟨Nat.le_refl _, Nat.le_refl _⟩ (Nat.le_of_ble_eq_true rfl) dX5_count_84 (fun H locs hP hS => ?_)
  exact x_reti hx hb hr9 hlk9 hS hP (by first | rfl | (show nI (setN (fun q => decide (M 23 4 ≤ hgtX M q (M 23 6))) (M 23 3)) = nI (setN (fun q => decide (M 23 4 ≤ hgtX M q (M 23 6))) (M 23 3)); first | rfl | omega)) dX5_count_87
set_option maxHeartbeats 4000000 in
set_option maxRecDepth 100000 in
theorem f_count_bad {l : Launch} {g : gE} {ad : Nat → Nat} (hI : g_inj ad 55) (M : gMem) (J : gMeL) (w : Int32) (h : w.toInt < 0 ∨ 5 < w.toInt) : CI l g ad dsX 55 yX5_count cX5_count 2 (some .int) 8 [.ref (ad 0), .int w] M J (nI 4294967295) M J := by
  refine CI.of (plainFor_of_name (by decide)) (Nat.le_of_ble_eq_true rfl) (fun p9 e9 s9 m9 args9 below9 meth9 c9 CF hK hr9 hlk9 hP hS ls hl => ?_)
  have hx := CF.1
  have hb := CF.2.1
  have hA : ∀ q, g_A ad 55 q → g_A ad 55 q := fun _ h => h
  have hl : lv_has ls 2 [(0, .ref (ad 0)), (1, .int w)] := hl
  refine lv_iload_n hx hb dX5_count_0 rfl (lv_at hl 1 rfl) ?_
  refine lv_tableOut (tgt := 88) hx hb dX5_count_1 (by omega) (by decide) ?_
  refine lv_iconst (v := nI 4294967295) hx hb dX5_count_88 (by decide) ?_
  exact x_reti hx hb hr9 hlk9 hS hP (by first | rfl | (show nI 4294967295 = nI 4294967295; first | rfl | omega)) dX5_count_89
set_option maxHeartbeats 4000000 in
set_option maxRecDepth 100000 in
theorem f_height_ok {l : Launch} {g : gE} {ad : Nat → Nat} (hI : g_inj ad 55) (M : gMem) (J : gMeL) (hw : wfX M) (k a : Nat) (hk : k < M 23 3) (ha : a < 12) : CI l g ad dsX 55 yX5_height cX5_height 4 (some .int) 7 [.ref (ad 0), .int (nI k), .int (nI a)] M J (nI (hgtX M k a)) M J := by
  refine CI.of (plainFor_of_name (by decide)) (Nat.le_of_ble_eq_true rfl) (fun p9 e9 s9 m9 args9 below9 meth9 c9 CF hK hr9 hlk9 hP hS ls hl => ?_)
  have hx := CF.1
  have hb := CF.2.1
  have hA : ∀ q, g_A ad 55 q → g_A ad 55 q := fun _ h => h
  have hl : lv_has ls 4 [(0, .ref (ad 0)), (1, .int (nI k)), (2, .int (nI a))] := hl
  have hnc := hw.nc
  have hnf := hw.nf
  have hf := hw.fig (show k < 5 by have := hw.nf; omega)
  refine lv_aload_n hx hb dX5_height_0 rfl (lv_at hl 0 rfl) ?_
  refine lv_iload_n hx hb dX5_height_1 rfl (lv_at hl 1 rfl) ?_
  refine x_callVI CF hK hP hS hA hl (As := [.int (nI k)]) (rest := []) (c_isFigure_t hI M J k (by omega) (by omega)) kw_X5_isFigure wd2_27 (by decide) dX_0 rfl rfl ⟨Nat.le_of_ble_eq_true rfl, Nat.le_of_ble_eq_true rfl⟩ ⟨Nat.le_refl _, Nat.le_refl _⟩ (Nat.le_of_ble_eq_true rfl) dX5_height_2 (fun H locs hP hS => ?_)
  refine x_yeq (u := (1 : Int)) (tgt := 15) hx hb (rfl) dX5_height_5 (by decide) (fun h_1 => (by omega : False).elim) (fun h_1 => ?_)
  refine lv_iload_n hx hb dX5_height_8 rfl (lv_at hl 2 rfl) ?_
  refine x_callSP CF hK hP hS hl (As := [.int (nI a)]) (rest := []) (c_isAngle_t a (by omega)) kw_X5_isAngle wd2_2 rfl ⟨Nat.le_of_ble_eq_true rfl, Nat.le_of_ble_eq_true rfl⟩ ⟨Nat.le_refl _, Nat.le_refl _⟩ (Nat.le_of_ble_eq_true rfl) dX5_height_9 (fun H locs hP hS => ?_)
  refine x_yne (u := (1 : Int)) (tgt := 17) hx hb (rfl) dX5_height_12 (by decide) (fun h_2 => ?_) (fun h_2 => (by omega : False).elim)
  refine lv_aload_n hx hb dX5_height_17 rfl (lv_at hl 0 rfl) ?_
  refine x_getr CF hK hP 0 (by decide) dX_0 rfl uX5 0 (by decide) (j := 23) rfl wd1_164 rfl dX5_height_18 ?_
  refine x_getr CF hK hP 23 (by decide) dX_23 rfl uX1 2 (by decide) (j := 31) rfl wd1_72 rfl dX5_height_21 ?_
  refine lv_iload_n hx hb dX5_height_24 rfl (lv_at hl 1 rfl) ?_
  refine x_aald CF hK hP 31 (by decide) (t := 0) dX_31 (by decide) k (by omega) (by decide) (j := (32 + k)) (oX_fig k (by omega)) dX5_height_25 ?_
  refine lv_astore_n (lv' := [(3, .ref (ad (32 + k))), (0, .ref (ad 0)), (1, .int (nI k)), (2, .int (nI a))]) hx hb dX5_height_26 rfl hl (by decide) rfl (fun ls hl => ?_)
  refine lv_aload_n hx hb dX5_height_27 rfl (lv_at hl 1 rfl) ?_
  refine x_getr CF hK hP 0 (by decide) dX_0 rfl uX5 0 (by decide) (j := 23) rfl wd1_164 rfl dX5_height_28 ?_
  refine lv_aload_n hx hb dX5_height_31 rfl (lv_at hl 1 rfl) ?_
  refine x_getr CF hK hP 0 (by decide) dX_0 rfl uX5 0 (by decide) (j := 23) rfl wd1_164 rfl dX5_height_32 ?_
  refine x_getr CF hK hP 23 (by decide) dX_23 rfl uX1 0 (by decide) (j := 24) rfl wd1_68 rfl dX5_height_35 ?_
  refine lv_aload_n hx hb dX5_height_38 rfl (lv_at hl 0 rfl) ?_
  refine x_geti CF hK hP (32 + k) (by omega) (dX_fig k (by omega)) rfl uX0 1 (by decide) rfl wd1_39 rfl dX5_height_39 ?_
  refine x_aald CF hK hP 24 (by decide) (t := 2) dX_24 (by decide) (M (32 + k) 1) (by omega) (by decide) (j := (25 + (M (32 + k) 1))) (oX_hair (M (32 + k) 1) (by omega)) dX5_height_42 ?_
  refine lv_aload_n hx hb dX5_height_43 rfl (lv_at hl 0 rfl) ?_
  refine lv_iload_n hx hb dX5_height_44 rfl (lv_at hl 3 rfl) ?_
  refine x_callVI CF hK hP hS hA hl (As := [.ref (ad (25 + (M (32 + k) 1))), .ref (ad (32 + k)), .int (nI a)]) (rest := []) (c_heightOn_h hI M J hw (M (32 + k) 1) (by omega) k (by omega) a (by omega)) kw_X1_heightOn wd2_102 (by decide) dX_23 rfl rfl ⟨Nat.le_of_ble_eq_true rfl, Nat.le_of_ble_eq_true rfl⟩ ⟨Nat.le_refl _, Nat.le_refl _⟩ (Nat.le_of_ble_eq_true rfl) dX5_height_45 (fun H locs hP hS => ?_)
  exact x_reti hx hb hr9 hlk9 hS hP (by first | rfl | (show nI (hgt (M (25 + (M (32 + k) 1))) (M (32 + k) 2) (M 23 5) (M (32 + k) 0) a) = nI (hgtX M k a); first | rfl | omega)) dX5_height_48
set_option maxHeartbeats 4000000 in
set_option maxRecDepth 100000 in
theorem f_height_bad {l : Launch} {g : gE} {ad : Nat → Nat} (hI : g_inj ad 55) (M : gMem) (J : gMeL) (hw : wfX M) (k a : Int32) (h : ¬ (inR k (M 23 3) ∧ inR a 12)) : CI l g ad dsX 55 yX5_height cX5_height 4 (some .int) 7 [.ref (ad 0), .int k, .int a] M J (nI 4294967295) M J := by
  refine CI.of (plainFor_of_name (by decide)) (Nat.le_of_ble_eq_true rfl) (fun p9 e9 s9 m9 args9 below9 meth9 c9 CF hK hr9 hlk9 hP hS ls hl => ?_)
  have hx := CF.1
  have hb := CF.2.1
  have hA : ∀ q, g_A ad 55 q → g_A ad 55 q := fun _ h => h
  have hl : lv_has ls 4 [(0, .ref (ad 0)), (1, .int k), (2, .int a)] := hl
  have hnc := hw.nc
  have hnf := hw.nf
  refine lv_aload_n hx hb dX5_height_0 rfl (lv_at hl 0 rfl) ?_
  refine lv_iload_n hx hb dX5_height_1 rfl (lv_at hl 1 rfl) ?_
  rcases n_int (x := k) (n := M 23 3) (by omega) with ⟨k1, h_k1, rfl⟩ | ho_k
  · refine x_callVI CF hK hP hS hA hl (As := [.int (nI k1)]) (rest := []) (c_isFigure_t hI M J k1 (by omega) (by omega)) kw_X5_isFigure wd2_27 (by decide) dX_0 rfl rfl ⟨Nat.le_of_ble_eq_true rfl, Nat.le_of_ble_eq_true rfl⟩ ⟨Nat.le_refl _, Nat.le_refl _⟩ (Nat.le_of_ble_eq_true rfl) dX5_height_2 (fun H locs hP hS => ?_)
    refine x_yeq (u := (1 : Int)) (tgt := 15) hx hb (rfl) dX5_height_5 (by decide) (fun h_1 => (by omega : False).elim) (fun h_1 => ?_)
    refine lv_iload_n hx hb dX5_height_8 rfl (lv_at hl 2 rfl) ?_
    rcases n_int (x := a) (n := 12) (by omega) with ⟨a1, h_a1, rfl⟩ | ho_a
    · refine x_callSP CF hK hP hS hl (As := [.int (nI a1)]) (rest := []) (c_isAngle_t a1 (by omega)) kw_X5_isAngle wd2_2 rfl ⟨Nat.le_of_ble_eq_true rfl, Nat.le_of_ble_eq_true rfl⟩ ⟨Nat.le_refl _, Nat.le_refl _⟩ (Nat.le_of_ble_eq_true rfl) dX5_height_9 (fun H locs hP hS => ?_)
      refine x_yne (u := (1 : Int)) (tgt := 17) hx hb (rfl) dX5_height_12 (by decide) (fun h_2 => ?_) (fun h_2 => (by omega : False).elim)
      exact absurd ⟨inR_n h_k1 (by omega), inR_n h_a1 (by decide)⟩ h
    · refine x_callSP CF hK hP hS hl (As := [.int a]) (rest := []) (c_isAngle_f a ho_a) kw_X5_isAngle wd2_2 rfl ⟨Nat.le_of_ble_eq_true rfl, Nat.le_of_ble_eq_true rfl⟩ ⟨Nat.le_refl _, Nat.le_refl _⟩ (Nat.le_of_ble_eq_true rfl) dX5_height_9 (fun H locs hP hS => ?_)
      refine x_yne (u := (0 : Int)) (tgt := 17) hx hb (rfl) dX5_height_12 (by decide) (fun h_3 => (by omega : False).elim) (fun h_3 => ?_)
      refine lv_iconst (v := nI 4294967295) hx hb dX5_height_15 (by decide) ?_
      exact x_reti hx hb hr9 hlk9 hS hP (by first | rfl | (show nI 4294967295 = nI 4294967295; first | rfl | omega)) dX5_height_16
  · refine x_callVI CF hK hP hS hA hl (As := [.int k]) (rest := []) (c_isFigure_f hI M J k ho_k (by omega)) kw_X5_isFigure wd2_27 (by decide) dX_0 rfl rfl ⟨Nat.le_of_ble_eq_true rfl, Nat.le_of_ble_eq_true rfl⟩ ⟨Nat.le_refl _, Nat.le_refl _⟩ (Nat.le_of_ble_eq_true rfl) dX5_height_2 (fun H locs hP hS => ?_)
    refine x_yeq (u := (0 : Int)) (tgt := 15) hx hb (rfl) dX5_height_5 (by decide) (fun h_4 => ?_) (fun h_4 => (by omega : False).elim)
    refine lv_iconst (v := nI 4294967295) hx hb dX5_height_15 (by decide) ?_
    exact x_reti hx hb hr9 hlk9 hS hP (by first | rfl | (show nI 4294967295 = nI 4294967295; first | rfl | omega)) dX5_height_16
set_option maxHeartbeats 4000000 in
set_option maxRecDepth 100000 in
theorem f_ups_ok {l : Launch} {g : gE} {ad : Nat → Nat} (hI : g_inj ad 55) (M : gMem) (J : gMeL) (hw : wfX M) (k : Nat) (hk : k < M 23 3) : CI l g ad dsX 55 yX5_ups cX5_ups 2 (some .int) 8 [.ref (ad 0), .int (nI k)] M J (nI (upsX M k)) M J := by
  refine CI.of (plainFor_of_name (by decide)) (Nat.le_of_ble_eq_true rfl) (fun p9 e9 s9 m9 args9 below9 meth9 c9 CF hK hr9 hlk9 hP hS ls hl => ?_)
  have hx := CF.1
  have hb := CF.2.1
  have hA : ∀ q, g_A ad 55 q → g_A ad 55 q := fun _ h => h
  have hl : lv_has ls 2 [(0, .ref (ad 0)), (1, .int (nI k))] := hl
  have hnc := hw.nc
  have hnf := hw.nf
  refine lv_aload_n hx hb dX5_ups_0 rfl (lv_at hl 0 rfl) ?_
  refine lv_iload_n hx hb dX5_ups_1 rfl (lv_at hl 1 rfl) ?_
  refine x_callVI CF hK hP hS hA hl (As := [.int (nI k)]) (rest := []) (c_isFigure_t hI M J k (by omega) (by omega)) kw_X5_isFigure wd2_27 (by decide) dX_0 rfl rfl ⟨Nat.le_of_ble_eq_true rfl, Nat.le_of_ble_eq_true rfl⟩ ⟨Nat.le_refl _, Nat.le_refl _⟩ (Nat.le_of_ble_eq_true rfl) dX5_ups_2 (fun H locs hP hS => ?_)
  refine x_yne (u := (1 : Int)) (tgt := 10) hx hb (rfl) dX5_ups_5 (by decide) (fun h_1 => ?_) (fun h_1 => (by omega : False).elim)
  refine lv_aload_n hx hb dX5_ups_10 rfl (lv_at hl 0 rfl) ?_
  refine x_getr CF hK hP 0 (by decide) dX_0 rfl uX5 0 (by decide) (j := 23) rfl wd1_164 rfl dX5_ups_11 ?_
  refine lv_aload_n hx hb dX5_ups_14 rfl (lv_at hl 0 rfl) ?_
  refine x_getr CF hK hP 0 (by decide) dX_0 rfl uX5 0 (by decide) (j := 23) rfl wd1_164 rfl dX5_ups_15 ?_
  refine x_getr CF hK hP 23 (by decide) dX_23 rfl uX1 2 (by decide) (j := 31) rfl wd1_72 rfl dX5_ups_18 ?_
  refine lv_iload_n hx hb dX5_ups_21 rfl (lv_at hl 1 rfl) ?_
  refine x_aald CF hK hP 31 (by decide) (t := 0) dX_31 (by decide) k (by omega) (by decide) (j := (32 + k)) (oX_fig k (by omega)) dX5_ups_22 ?_
  refine x_callVI CF hK hP hS hA hl (As := [.ref (ad (32 + k))]) (rest := []) (c_upsOf hI M J hw k (by omega)) kw_X1_upsOf wd2_107 (by decide) dX_23 rfl rfl ⟨Nat.le_of_ble_eq_true rfl, Nat.le_of_ble_eq_true rfl⟩ ⟨Nat.le_refl _, Nat.le_refl _⟩ (Nat.le_of_ble_eq_true rfl) dX5_ups_23 (fun H locs hP hS => ?_)
  exact x_reti hx hb hr9 hlk9 hS hP (by first | rfl | (show nI (upsX M k) = nI (upsX M k); first | rfl | omega)) dX5_ups_26
set_option maxHeartbeats 4000000 in
set_option maxRecDepth 100000 in
theorem f_ups_bad {l : Launch} {g : gE} {ad : Nat → Nat} (hI : g_inj ad 55) (M : gMem) (J : gMeL) (hw : wfX M) (k : Int32) (h : ¬ inR k (M 23 3)) : CI l g ad dsX 55 yX5_ups cX5_ups 2 (some .int) 8 [.ref (ad 0), .int k] M J (nI 4294967295) M J := by
  refine CI.of (plainFor_of_name (by decide)) (Nat.le_of_ble_eq_true rfl) (fun p9 e9 s9 m9 args9 below9 meth9 c9 CF hK hr9 hlk9 hP hS ls hl => ?_)
  have hx := CF.1
  have hb := CF.2.1
  have hA : ∀ q, g_A ad 55 q → g_A ad 55 q := fun _ h => h
  have hl : lv_has ls 2 [(0, .ref (ad 0)), (1, .int k)] := hl
  have hnc := hw.nc
  have hnf := hw.nf
  refine lv_aload_n hx hb dX5_ups_0 rfl (lv_at hl 0 rfl) ?_
  refine lv_iload_n hx hb dX5_ups_1 rfl (lv_at hl 1 rfl) ?_
  rcases n_int (x := k) (n := M 23 3) (by omega) with ⟨k1, h_k1, rfl⟩ | ho_k
  · refine x_callVI CF hK hP hS hA hl (As := [.int (nI k1)]) (rest := []) (c_isFigure_t hI M J k1 (by omega) (by omega)) kw_X5_isFigure wd2_27 (by decide) dX_0 rfl rfl ⟨Nat.le_of_ble_eq_true rfl, Nat.le_of_ble_eq_true rfl⟩ ⟨Nat.le_refl _, Nat.le_refl _⟩ (Nat.le_of_ble_eq_true rfl) dX5_ups_2 (fun H locs hP hS => ?_)
    refine x_yne (u := (1 : Int)) (tgt := 10) hx hb (rfl) dX5_ups_5 (by decide) (fun h_1 => ?_) (fun h_1 => (by omega : False).elim)
    exact absurd (inR_n h_k1 (by omega)) h
  · refine x_callVI CF hK hP hS hA hl (As := [.int k]) (rest := []) (c_isFigure_f hI M J k ho_k (by omega)) kw_X5_isFigure wd2_27 (by decide) dX_0 rfl rfl ⟨Nat.le_of_ble_eq_true rfl, Nat.le_of_ble_eq_true rfl⟩ ⟨Nat.le_refl _, Nat.le_refl _⟩ (Nat.le_of_ble_eq_true rfl) dX5_ups_2 (fun H locs hP hS => ?_)
    refine x_yne (u := (0 : Int)) (tgt := 10) hx hb (rfl) dX5_ups_5 (by decide) (fun h_2 => (by omega : False).elim) (fun h_2 => ?_)
    refine lv_iconst (v := nI 4294967295) hx hb dX5_ups_8 (by decide) ?_
    exact x_reti hx hb hr9 hlk9 hS hP (by first | rfl | (show nI 4294967295 = nI 4294967295; first | rfl | omega)) dX5_ups_9
set_option maxHeartbeats 4000000 in
set_option maxRecDepth 100000 in
theorem f_turn_ok {l : Launch} {g : gE} {ad : Nat → Nat} (hI : g_inj ad 55) (M : gMem) (J : gMeL) (hw : wfX M) (n : Nat) (h1 : 1 ≤ n) (h : n < 601) : CI l g ad dsX 55 yX5_turn cX5_turn 3 (some .int) 10 [.ref (ad 0), .int (nI n)] M J (nI (sitX M n)) (goX M n) J := by
  refine CI.of (plainFor_of_name (by decide)) (Nat.le_of_ble_eq_true rfl) (fun p9 e9 s9 m9 args9 below9 meth9 c9 CF hK hr9 hlk9 hP hS ls hl => ?_)
  have hx := CF.1
  have hb := CF.2.1
  have hA : ∀ q, g_A ad 55 q → g_A ad 55 q := fun _ h => h
  have hl : lv_has ls 3 [(0, .ref (ad 0)), (1, .int (nI n))] := hl
  have hnc := hw.nc
  have hnf := hw.nf
  refine lv_iload_n hx hb dX5_turn_0 rfl (lv_at hl 1 rfl) ?_
  refine lv_iconst (v := nI 1) hx hb dX5_turn_1 (by decide) ?_
  refine lv_sipush (v := nI 600) hx hb dX5_turn_2 (by decide) ?_
  refine x_callSP CF hK hP hS hl (As := [.int (nI n), .int (nI 1), .int (nI 600)]) (rest := []) (c_isWithin_t _ _ _ (w_in (by omega) (by omega) (by omega))) kw_X5_isWithin wd1_190 rfl ⟨Nat.le_of_ble_eq_true rfl, Nat.le_of_ble_eq_true rfl⟩ ⟨Nat.le_refl _, Nat.le_refl _⟩ (Nat.le_of_ble_eq_true rfl) dX5_turn_5 (fun H locs hP hS => ?_)
  refine x_yne (u := (1 : Int)) (tgt := 13) hx hb (rfl) dX5_turn_8 (by decide) (fun h_1 => ?_) (fun h_1 => (by omega : False).elim)
  refine lv_aload_n hx hb dX5_turn_13 rfl (lv_at hl 0 rfl) ?_
  refine x_getr CF hK hP 0 (by decide) dX_0 rfl uX5 0 (by decide) (j := 23) rfl wd1_164 rfl dX5_turn_14 ?_
  refine lv_iload_n hx hb dX5_turn_17 rfl (lv_at hl 1 rfl) ?_
  refine x_callVI CF hK hP hS hA hl (As := [.int (nI n)]) (rest := []) (c_turning hI M J hw n (by omega)) kw_X1_strikesInTurning wd2_119 (by decide) dX_23 rfl rfl ⟨Nat.le_of_ble_eq_true rfl, Nat.le_of_ble_eq_true rfl⟩ ⟨Nat.le_refl _, Nat.le_refl _⟩ (Nat.le_of_ble_eq_true rfl) dX5_turn_18 (fun H locs hP hS => ?_)
  refine lv_istore_n (lv' := [(2, .int (nI (sitX M n))), (0, .ref (ad 0)), (1, .int (nI n))]) hx hb dX5_turn_21 rfl hl (by decide) rfl (fun ls hl => ?_)
  refine lv_aload_n hx hb dX5_turn_22 rfl (lv_at hl 1 rfl) ?_
  refine x_getr CF hK hP 0 (by decide) dX_0 rfl uX5 0 (by decide) (j := 23) rfl wd1_164 rfl dX5_turn_23 ?_
  refine lv_iload_n hx hb dX5_turn_26 rfl (lv_at hl 2 rfl) ?_
  refine x_callVV CF hK hP hS hA hl (As := [.int (nI n)]) (rest := []) (c_goOn hI M J hw n (by omega)) kw_X1_goOn wd2_144 (by decide) dX_23 rfl rfl ⟨Nat.le_of_ble_eq_true rfl, Nat.le_of_ble_eq_true rfl⟩ ⟨Nat.le_refl _, Nat.le_refl _⟩ (Nat.le_of_ble_eq_true rfl) dX5_turn_27 (fun H locs hP hS => ?_)
  refine lv_iload_n hx hb dX5_turn_30 rfl (lv_at hl 0 rfl) ?_
  exact x_reti hx hb hr9 hlk9 hS hP (by first | rfl | (show nI (sitX M n) = nI (sitX M n); first | rfl | omega)) dX5_turn_31
set_option maxHeartbeats 4000000 in
set_option maxRecDepth 100000 in
theorem f_turn_bad {l : Launch} {g : gE} {ad : Nat → Nat} (hI : g_inj ad 55) (M : gMem) (J : gMeL) (n : Int32) (h : ¬ inR1 n 601) : CI l g ad dsX 55 yX5_turn cX5_turn 3 (some .int) 10 [.ref (ad 0), .int n] M J (nI 4294967295) M J := by
  refine CI.of (plainFor_of_name (by decide)) (Nat.le_of_ble_eq_true rfl) (fun p9 e9 s9 m9 args9 below9 meth9 c9 CF hK hr9 hlk9 hP hS ls hl => ?_)
  have hx := CF.1
  have hb := CF.2.1
  have hA : ∀ q, g_A ad 55 q → g_A ad 55 q := fun _ h => h
  have hl : lv_has ls 3 [(0, .ref (ad 0)), (1, .int n)] := hl
  refine lv_iload_n hx hb dX5_turn_0 rfl (lv_at hl 1 rfl) ?_
  refine lv_iconst (v := nI 1) hx hb dX5_turn_1 (by decide) ?_
  refine lv_sipush (v := nI 600) hx hb dX5_turn_2 (by decide) ?_
  rcases n_int1 (x := n) (n := 601) (by omega) with ⟨n1, g_n1, h_n1, rfl⟩ | ho_n
  · refine x_callSP CF hK hP hS hl (As := [.int (nI n1), .int (nI 1), .int (nI 600)]) (rest := []) (c_isWithin_t _ _ _ (w_in (by omega) (by omega) (by omega))) kw_X5_isWithin wd1_190 rfl ⟨Nat.le_of_ble_eq_true rfl, Nat.le_of_ble_eq_true rfl⟩ ⟨Nat.le_refl _, Nat.le_refl _⟩ (Nat.le_of_ble_eq_true rfl) dX5_turn_5 (fun H locs hP hS => ?_)
    refine x_yne (u := (1 : Int)) (tgt := 13) hx hb (rfl) dX5_turn_8 (by decide) (fun h_1 => ?_) (fun h_1 => (by omega : False).elim)
    exact absurd (inR1_n g_n1 h_n1 (by decide)) h
  · refine x_callSP CF hK hP hS hl (As := [.int n, .int (nI 1), .int (nI 600)]) (rest := []) (c_isWithin_f _ _ _ (w_out (by omega) (by omega) (by omega))) kw_X5_isWithin wd1_190 rfl ⟨Nat.le_of_ble_eq_true rfl, Nat.le_of_ble_eq_true rfl⟩ ⟨Nat.le_refl _, Nat.le_refl _⟩ (Nat.le_of_ble_eq_true rfl) dX5_turn_5 (fun H locs hP hS => ?_)
    refine x_yne (u := (0 : Int)) (tgt := 13) hx hb (rfl) dX5_turn_8 (by decide) (fun h_2 => (by omega : False).elim) (fun h_2 => ?_)
    refine lv_iconst (v := nI 4294967295) hx hb dX5_turn_11 (by decide) ?_
    exact x_reti hx hb hr9 hlk9 hS hP (by first | rfl | (show nI 4294967295 = nI 4294967295; first | rfl | omega)) dX5_turn_12
set_option maxHeartbeats 4000000 in
set_option maxRecDepth 100000 in
theorem f_strikes_ok {l : Launch} {g : gE} {ad : Nat → Nat} (hI : g_inj ad 55) (M : gMem) (J : gMeL) (hw : wfX M) (a b : Nat) (ha : a < M 23 3) (hb5 : b < M 23 3) (hne : a ≠ b) : CI l g ad dsX 55 yX5_strikes cX5_strikes 3 (some .int) 9 [.ref (ad 0), .int (nI a), .int (nI b)] M J (nI (strX M a b)) M J := by
  refine CI.of (plainFor_of_name (by decide)) (Nat.le_of_ble_eq_true rfl) (fun p9 e9 s9 m9 args9 below9 meth9 c9 CF hK hr9 hlk9 hP hS ls hl => ?_)
  have hx := CF.1
  have hb := CF.2.1
  have hA : ∀ q, g_A ad 55 q → g_A ad 55 q := fun _ h => h
  have hl : lv_has ls 3 [(0, .ref (ad 0)), (1, .int (nI a)), (2, .int (nI b))] := hl
  have hnc := hw.nc
  have hnf := hw.nf
  refine lv_aload_n hx hb dX5_strikes_0 rfl (lv_at hl 0 rfl) ?_
  refine lv_iload_n hx hb dX5_strikes_1 rfl (lv_at hl 1 rfl) ?_
  refine x_callVI CF hK hP hS hA hl (As := [.int (nI a)]) (rest := []) (c_isFigure_t hI M J a (by omega) (by omega)) kw_X5_isFigure wd2_27 (by decide) dX_0 rfl rfl ⟨Nat.le_of_ble_eq_true rfl, Nat.le_of_ble_eq_true rfl⟩ ⟨Nat.le_refl _, Nat.le_refl _⟩ (Nat.le_of_ble_eq_true rfl) dX5_strikes_2 (fun H locs hP hS => ?_)
  refine x_yeq (u := (1 : Int)) (tgt := 21) hx hb (rfl) dX5_strikes_5 (by decide) (fun h_1 => (by omega : False).elim) (fun h_1 => ?_)
  refine lv_aload_n hx hb dX5_strikes_8 rfl (lv_at hl 0 rfl) ?_
  refine lv_iload_n hx hb dX5_strikes_9 rfl (lv_at hl 2 rfl) ?_
  refine x_callVI CF hK hP hS hA hl (As := [.int (nI b)]) (rest := []) (c_isFigure_t hI M J b (by omega) (by omega)) kw_X5_isFigure wd2_27 (by decide) dX_0 rfl rfl ⟨Nat.le_of_ble_eq_true rfl, Nat.le_of_ble_eq_true rfl⟩ ⟨Nat.le_refl _, Nat.le_refl _⟩ (Nat.le_of_ble_eq_true rfl) dX5_strikes_10 (fun H locs hP hS => ?_)
  refine x_yeq (u := (1 : Int)) (tgt := 21) hx hb (rfl) dX5_strikes_13 (by decide) (fun h_2 => (by omega : False).elim) (fun h_2 => ?_)
  refine lv_iload_n hx hb dX5_strikes_16 rfl (lv_at hl 1 rfl) ?_
  refine lv_iload_n hx hb dX5_strikes_17 rfl (lv_at hl 2 rfl) ?_
  refine x_zne (u := (a : Nat)) (v := (b : Nat)) (tgt := 23) hx hb (nI_toInt (by omega)) (nI_toInt (by omega)) dX5_strikes_18 (by decide) (fun h_3 => ?_) (fun h_3 => (by omega : False).elim)
  refine lv_aload_n hx hb dX5_strikes_23 rfl (lv_at hl 0 rfl) ?_
  refine x_getr CF hK hP 0 (by decide) dX_0 rfl uX5 0 (by decide) (j := 23) rfl wd1_164 rfl dX5_strikes_24 ?_
  refine lv_aload_n hx hb dX5_strikes_27 rfl (lv_at hl 0 rfl) ?_
  refine x_getr CF hK hP 0 (by decide) dX_0 rfl uX5 0 (by decide) (j := 23) rfl wd1_164 rfl dX5_strikes_28 ?_
  refine x_getr CF hK hP 23 (by decide) dX_23 rfl uX1 2 (by decide) (j := 31) rfl wd1_72 rfl dX5_strikes_31 ?_
  refine lv_iload_n hx hb dX5_strikes_34 rfl (lv_at hl 1 rfl) ?_
  refine x_aald CF hK hP 31 (by decide) (t := 0) dX_31 (by decide) a (by omega) (by decide) (j := (32 + a)) (oX_fig a (by omega)) dX5_strikes_35 ?_
  refine lv_aload_n hx hb dX5_strikes_36 rfl (lv_at hl 0 rfl) ?_
  refine x_getr CF hK hP 0 (by decide) dX_0 rfl uX5 0 (by decide) (j := 23) rfl wd1_164 rfl dX5_strikes_37 ?_
  refine x_getr CF hK hP 23 (by decide) dX_23 rfl uX1 2 (by decide) (j := 31) rfl wd1_72 rfl dX5_strikes_40 ?_
  refine lv_iload_n hx hb dX5_strikes_43 rfl (lv_at hl 2 rfl) ?_
  refine x_aald CF hK hP 31 (by decide) (t := 0) dX_31 (by decide) b (by omega) (by decide) (j := (32 + b)) (oX_fig b (by omega)) dX5_strikes_44 ?_
  refine x_callVI CF hK hP hS hA hl (As := [.ref (ad (32 + a)), .ref (ad (32 + b))]) (rest := []) (c_strikesOf hI M J hw a b (by omega) (by omega)) kw_X1_strikesOf wd2_156 (by decide) dX_23 rfl rfl ⟨Nat.le_of_ble_eq_true rfl, Nat.le_of_ble_eq_true rfl⟩ ⟨Nat.le_refl _, Nat.le_refl _⟩ (Nat.le_of_ble_eq_true rfl) dX5_strikes_45 (fun H locs hP hS => ?_)
  exact x_reti hx hb hr9 hlk9 hS hP (by first | rfl | (show nI (strX M a b) = nI (strX M a b); first | rfl | omega)) dX5_strikes_48
set_option maxHeartbeats 4000000 in
set_option maxRecDepth 100000 in
theorem f_strikes_same {l : Launch} {g : gE} {ad : Nat → Nat} (hI : g_inj ad 55) (M : gMem) (J : gMeL) (hw : wfX M) (a : Nat) (ha : a < M 23 3) : CI l g ad dsX 55 yX5_strikes cX5_strikes 3 (some .int) 9 [.ref (ad 0), .int (nI a), .int (nI a)] M J (nI 4294967295) M J := by
  refine CI.of (plainFor_of_name (by decide)) (Nat.le_of_ble_eq_true rfl) (fun p9 e9 s9 m9 args9 below9 meth9 c9 CF hK hr9 hlk9 hP hS ls hl => ?_)
  have hx := CF.1
  have hb := CF.2.1
  have hA : ∀ q, g_A ad 55 q → g_A ad 55 q := fun _ h => h
  have hl : lv_has ls 3 [(0, .ref (ad 0)), (1, .int (nI a)), (2, .int (nI a))] := hl
  have hnc := hw.nc
  have hnf := hw.nf
  refine lv_aload_n hx hb dX5_strikes_0 rfl (lv_at hl 0 rfl) ?_
  refine lv_iload_n hx hb dX5_strikes_1 rfl (lv_at hl 1 rfl) ?_
  refine x_callVI CF hK hP hS hA hl (As := [.int (nI a)]) (rest := []) (c_isFigure_t hI M J a (by omega) (by omega)) kw_X5_isFigure wd2_27 (by decide) dX_0 rfl rfl ⟨Nat.le_of_ble_eq_true rfl, Nat.le_of_ble_eq_true rfl⟩ ⟨Nat.le_refl _, Nat.le_refl _⟩ (Nat.le_of_ble_eq_true rfl) dX5_strikes_2 (fun H locs hP hS => ?_)
  refine x_yeq (u := (1 : Int)) (tgt := 21) hx hb (rfl) dX5_strikes_5 (by decide) (fun h_1 => (by omega : False).elim) (fun h_1 => ?_)
  refine lv_aload_n hx hb dX5_strikes_8 rfl (lv_at hl 0 rfl) ?_
  refine lv_iload_n hx hb dX5_strikes_9 rfl (lv_at hl 2 rfl) ?_
  refine x_callVI CF hK hP hS hA hl (As := [.int (nI a)]) (rest := []) (c_isFigure_t hI M J a (by omega) (by omega)) kw_X5_isFigure wd2_27 (by decide) dX_0 rfl rfl ⟨Nat.le_of_ble_eq_true rfl, Nat.le_of_ble_eq_true rfl⟩ ⟨Nat.le_refl _, Nat.le_refl _⟩ (Nat.le_of_ble_eq_true rfl) dX5_strikes_10 (fun H locs hP hS => ?_)
  refine x_yeq (u := (1 : Int)) (tgt := 21) hx hb (rfl) dX5_strikes_13 (by decide) (fun h_2 => (by omega : False).elim) (fun h_2 => ?_)
  refine lv_iload_n hx hb dX5_strikes_16 rfl (lv_at hl 1 rfl) ?_
  refine lv_iload_n hx hb dX5_strikes_17 rfl (lv_at hl 2 rfl) ?_
  refine x_zne (u := (a : Nat)) (v := (a : Nat)) (tgt := 23) hx hb (nI_toInt (by omega)) (nI_toInt (by omega)) dX5_strikes_18 (by decide) (fun h_3 => (by omega : False).elim) (fun h_3 => ?_)
  refine lv_iconst (v := nI 4294967295) hx hb dX5_strikes_21 (by decide) ?_
  exact x_reti hx hb hr9 hlk9 hS hP (by first | rfl | (show nI 4294967295 = nI 4294967295; first | rfl | omega)) dX5_strikes_22
set_option maxHeartbeats 4000000 in
set_option maxRecDepth 100000 in
theorem f_strikes_bad {l : Launch} {g : gE} {ad : Nat → Nat} (hI : g_inj ad 55) (M : gMem) (J : gMeL) (hw : wfX M) (a b : Int32) (h : ¬ (inR a (M 23 3) ∧ inR b (M 23 3))) : CI l g ad dsX 55 yX5_strikes cX5_strikes 3 (some .int) 9 [.ref (ad 0), .int a, .int b] M J (nI 4294967295) M J := by
  refine CI.of (plainFor_of_name (by decide)) (Nat.le_of_ble_eq_true rfl) (fun p9 e9 s9 m9 args9 below9 meth9 c9 CF hK hr9 hlk9 hP hS ls hl => ?_)
  have hx := CF.1
  have hb := CF.2.1
  have hA : ∀ q, g_A ad 55 q → g_A ad 55 q := fun _ h => h
  have hl : lv_has ls 3 [(0, .ref (ad 0)), (1, .int a), (2, .int b)] := hl
  have hnc := hw.nc
  have hnf := hw.nf
  refine lv_aload_n hx hb dX5_strikes_0 rfl (lv_at hl 0 rfl) ?_
  refine lv_iload_n hx hb dX5_strikes_1 rfl (lv_at hl 1 rfl) ?_
  rcases n_int (x := a) (n := M 23 3) (by omega) with ⟨a1, h_a1, rfl⟩ | ho_a
  · refine x_callVI CF hK hP hS hA hl (As := [.int (nI a1)]) (rest := []) (c_isFigure_t hI M J a1 (by omega) (by omega)) kw_X5_isFigure wd2_27 (by decide) dX_0 rfl rfl ⟨Nat.le_of_ble_eq_true rfl, Nat.le_of_ble_eq_true rfl⟩ ⟨Nat.le_refl _, Nat.le_refl _⟩ (Nat.le_of_ble_eq_true rfl) dX5_strikes_2 (fun H locs hP hS => ?_)
    refine x_yeq (u := (1 : Int)) (tgt := 21) hx hb (rfl) dX5_strikes_5 (by decide) (fun h_1 => (by omega : False).elim) (fun h_1 => ?_)
    refine lv_aload_n hx hb dX5_strikes_8 rfl (lv_at hl 0 rfl) ?_
    refine lv_iload_n hx hb dX5_strikes_9 rfl (lv_at hl 2 rfl) ?_
    rcases n_int (x := b) (n := M 23 3) (by omega) with ⟨b1, h_b1, rfl⟩ | ho_b
    · refine x_callVI CF hK hP hS hA hl (As := [.int (nI b1)]) (rest := []) (c_isFigure_t hI M J b1 (by omega) (by omega)) kw_X5_isFigure wd2_27 (by decide) dX_0 rfl rfl ⟨Nat.le_of_ble_eq_true rfl, Nat.le_of_ble_eq_true rfl⟩ ⟨Nat.le_refl _, Nat.le_refl _⟩ (Nat.le_of_ble_eq_true rfl) dX5_strikes_10 (fun H locs hP hS => ?_)
      refine x_yeq (u := (1 : Int)) (tgt := 21) hx hb (rfl) dX5_strikes_13 (by decide) (fun h_2 => (by omega : False).elim) (fun h_2 => ?_)
      exact absurd ⟨inR_n h_a1 (by omega), inR_n h_b1 (by omega)⟩ h
    · refine x_callVI CF hK hP hS hA hl (As := [.int b]) (rest := []) (c_isFigure_f hI M J b ho_b (by omega)) kw_X5_isFigure wd2_27 (by decide) dX_0 rfl rfl ⟨Nat.le_of_ble_eq_true rfl, Nat.le_of_ble_eq_true rfl⟩ ⟨Nat.le_refl _, Nat.le_refl _⟩ (Nat.le_of_ble_eq_true rfl) dX5_strikes_10 (fun H locs hP hS => ?_)
      refine x_yeq (u := (0 : Int)) (tgt := 21) hx hb (rfl) dX5_strikes_13 (by decide) (fun h_3 => ?_) (fun h_3 => (by omega : False).elim)
      refine lv_iconst (v := nI 4294967295) hx hb dX5_strikes_21 (by decide) ?_
      exact x_reti hx hb hr9 hlk9 hS hP (by first | rfl | (show nI 4294967295 = nI 4294967295; first | rfl | omega)) dX5_strikes_22
  · refine x_callVI CF hK hP hS hA hl (As := [.int a]) (rest := []) (c_isFigure_f hI M J a ho_a (by omega)) kw_X5_isFigure wd2_27 (by decide) dX_0 rfl rfl ⟨Nat.le_of_ble_eq_true rfl, Nat.le_of_ble_eq_true rfl⟩ ⟨Nat.le_refl _, Nat.le_refl _⟩ (Nat.le_of_ble_eq_true rfl) dX5_strikes_2 (fun H locs hP hS => ?_)
    refine x_yeq (u := (0 : Int)) (tgt := 21) hx hb (rfl) dX5_strikes_5 (by decide) (fun h_4 => ?_) (fun h_4 => (by omega : False).elim)
    refine lv_iconst (v := nI 4294967295) hx hb dX5_strikes_21 (by decide) ?_
    exact x_reti hx hb hr9 hlk9 hS hP (by first | rfl | (show nI 4294967295 = nI 4294967295; first | rfl | omega)) dX5_strikes_22
set_option maxHeartbeats 4000000 in
set_option maxRecDepth 100000 in
theorem f_wear_ok {l : Launch} {g : gE} {ad : Nat → Nat} (hI : g_inj ad 55) (M : gMem) (J : gMeL) (hw : wfX M) (n : Nat) (h1 : 1 ≤ n) (h : n < 10) : CI l g ad dsX 55 yX5_wear cX5_wear 4 (some .int) 5 [.ref (ad 0), .int (nI n)] M J (nI (sumN (fun q => pop (lessN (M (25 + q)) n)) (M 23 1))) (wearM M n (M 23 1)) J := by
  refine CI.of (plainFor_of_name (by decide)) (Nat.le_of_ble_eq_true rfl) (fun p9 e9 s9 m9 args9 below9 meth9 c9 CF hK hr9 hlk9 hP hS ls hl => ?_)
  have hx := CF.1
  have hb := CF.2.1
  have hA : ∀ q, g_A ad 55 q → g_A ad 55 q := fun _ h => h
  have hl : lv_has ls 4 [(0, .ref (ad 0)), (1, .int (nI n))] := hl
  have hnc := hw.nc
  have hnf := hw.nf
  refine lv_iload_n hx hb dX5_wear_0 rfl (lv_at hl 1 rfl) ?_
  refine lv_iconst (v := nI 1) hx hb dX5_wear_1 (by decide) ?_
  refine lv_bipush (v := nI 9) hx hb dX5_wear_2 (by decide) ?_
  refine x_callSP CF hK hP hS hl (As := [.int (nI n), .int (nI 1), .int (nI 9)]) (rest := []) (c_isWithin_t _ _ _ (w_in (by omega) (by omega) (by omega))) kw_X5_isWithin wd1_190 rfl ⟨Nat.le_of_ble_eq_true rfl, Nat.le_of_ble_eq_true rfl⟩ ⟨Nat.le_refl _, Nat.le_refl _⟩ (Nat.le_of_ble_eq_true rfl) dX5_wear_4 (fun H locs hP hS => ?_)
  refine x_yne (u := (1 : Int)) (tgt := 12) hx hb (rfl) dX5_wear_7 (by decide) (fun h_1 => ?_) (fun h_1 => (by omega : False).elim)
  refine lv_iconst (v := nI 0) hx hb dX5_wear_12 (by decide) ?_
  refine lv_istore_n (lv' := [(2, .int (nI 0)), (0, .ref (ad 0)), (1, .int (nI n))]) hx hb dX5_wear_13 rfl hl (by decide) rfl (fun ls hl => ?_)
  refine lv_iconst (v := nI 0) hx hb dX5_wear_14 (by decide) ?_
  refine lv_istore_n (lv' := [(3, .int (nI 0)), (2, .int (nI 0)), (0, .ref (ad 0)), (1, .int (nI n))]) hx hb dX5_wear_15 rfl hl (by decide) rfl (fun ls hl => ?_)
  have L16 : ∀ (d16 : Nat) (c : Nat), (c + d16 = (M 23 1)) → (∀ (H : Heap) (locs : List Loc) (ls : Array Slot), g_P g ad dsX 55 (wearM M n c) J H → va_S (g_A ad 55) s9.heap H locs → lv_has ls 4 [(3, .int (nI c)), (2, .int (nI (sumN (fun q => pop (lessN (M (25 + q)) n)) c))), (0, .ref (ad 0)), (1, .int (nI n))] → W p9 l e9 (g_rm 5) s9 m9 args9 below9 meth9 c9 H locs 0 0 (MQ below9 (va_Qi (fun r' (_ : Unit) => r' = (nI (sumN (fun q => pop (lessN (M (25 + q)) n)) (M 23 1)))) (fun _ t => g_P g ad dsX 55 (wearM M n (M 23 1)) J t.heap) (g_A ad 55)) args9 s9 0 0 (g_A ad 55)) (F0 m9 16 ls [])) := by
    intro d16
    induction d16 with
    | zero =>
      intro c h_c H locs ls hP hS hl
      refine lv_iload_n hx hb dX5_wear_16 rfl (lv_at hl 0 rfl) ?_
      refine lv_aload_n hx hb dX5_wear_17 rfl (lv_at hl 2 rfl) ?_
      refine x_getr CF hK hP 0 (by decide) dX_0 rfl uX5 0 (by decide) (j := 23) rfl wd1_164 rfl dX5_wear_18 ?_
      refine x_geti CF hK hP 23 (by decide) dX_23 rfl uX1 1 (by decide) rfl wd1_70 rfl dX5_wear_21 ?_
      refine x_ri (show (nI ((wearM M n c) 23 1)) = nI (M 23 1) from by rw [wearM_out (by omega)]) ?_
      refine x_zge (u := (c : Nat)) (v := (M 23 1 : Nat)) (tgt := 49) hx hb (nI_toInt (by omega)) (nI_toInt (by omega)) dX5_wear_24 (by decide) (fun h_2 => ?_) (fun h_2 => (by omega : False).elim)
      refine lv_iload_n hx hb dX5_wear_49 rfl (lv_at hl 1 rfl) ?_
      exact x_reti hx hb hr9 hlk9 hS (by rw [show M 23 1 = c by omega]; exact hP) (by rw [show c = M 23 1 by omega]) dX5_wear_50
    | succ d16 ih16 =>
      intro c h_c H locs ls hP hS hl
      have hq9 : ∀ a, a < 12 → wearM M n c (25 + c) a ≤ 9 := fun a ha => by rw [wearM_row]; exact hw.hair (by omega) ha
      refine lv_iload_n hx hb dX5_wear_16 rfl (lv_at hl 0 rfl) ?_
      refine lv_aload_n hx hb dX5_wear_17 rfl (lv_at hl 2 rfl) ?_
      refine x_getr CF hK hP 0 (by decide) dX_0 rfl uX5 0 (by decide) (j := 23) rfl wd1_164 rfl dX5_wear_18 ?_
      refine x_geti CF hK hP 23 (by decide) dX_23 rfl uX1 1 (by decide) rfl wd1_70 rfl dX5_wear_21 ?_
      refine x_ri (show (nI ((wearM M n c) 23 1)) = nI (M 23 1) from by rw [wearM_out (by omega)]) ?_
      refine x_zge (u := (c : Nat)) (v := (M 23 1 : Nat)) (tgt := 49) hx hb (nI_toInt (by omega)) (nI_toInt (by omega)) dX5_wear_24 (by decide) (fun h_3 => (by omega : False).elim) (fun h_3 => ?_)
      refine lv_iload_n hx hb dX5_wear_27 rfl (lv_at hl 1 rfl) ?_
      refine lv_aload_n hx hb dX5_wear_28 rfl (lv_at hl 2 rfl) ?_
      refine x_getr CF hK hP 0 (by decide) dX_0 rfl uX5 0 (by decide) (j := 23) rfl wd1_164 rfl dX5_wear_29 ?_
      refine x_getr CF hK hP 23 (by decide) dX_23 rfl uX1 0 (by decide) (j := 24) rfl wd1_68 rfl dX5_wear_32 ?_
      refine lv_iload_n hx hb dX5_wear_35 rfl (lv_at hl 0 rfl) ?_
      refine x_aald CF hK hP 24 (by decide) (t := 2) dX_24 (by decide) c (by omega) (by decide) (j := (25 + c)) (oX_hair c (by omega)) dX5_wear_36 ?_
      refine lv_iload_n hx hb dX5_wear_37 rfl (lv_at hl 3 rfl) ?_
      refine x_callSI CF hK hP hS hA hl (As := [.ref (ad (25 + c)), .int (nI n)]) (rest := [.int (nI (sumN (fun q => pop (lessN (M (25 + q)) n)) c))]) (c_wornBy hI (wearM M n c) J c (by omega) hq9 n (by omega)) kw_X5_wornBy wd2_161 rfl ⟨Nat.le_of_ble_eq_true rfl, Nat.le_of_ble_eq_true rfl⟩ ⟨Nat.le_refl _, Nat.le_refl _⟩ (Nat.le_of_ble_eq_true rfl) dX5_wear_38 (fun H locs hP hS => ?_)
      have hP : g_P g ad dsX 55 (wearM M n (c + 1)) J H := (by rw [← wearM_s]; exact hP)
      refine x_ri (show (nI (pop (lessN ((wearM M n c) (25 + c)) n))) = nI (pop (lessN (M (25 + c)) n)) from by rw [wearM_row]) ?_
      refine x_iadd hx hb dX5_wear_41 ?_
      refine lv_istore_n (lv' := [(2, .int (nI ((sumN (fun q => pop (lessN (M (25 + q)) n)) c) + (pop (lessN (M (25 + c)) n))))), (3, .int (nI c)), (0, .ref (ad 0)), (1, .int (nI n))]) hx hb dX5_wear_42 rfl hl (by decide) rfl (fun ls hl => ?_)
      refine lv_iinc (v := nI (c + 1)) (lv' := [(3, .int (nI (c + 1))), (2, .int (nI ((sumN (fun q => pop (lessN (M (25 + q)) n)) c) + (pop (lessN (M (25 + c)) n))))), (0, .ref (ad 0)), (1, .int (nI n))]) hx hb dX5_wear_43 hl (k := 1) rfl (n_inc c 1) (by decide) rfl (fun ls hl => ?_)
      refine lv_goto (tgt := 16) hx hb dX5_wear_46 (by decide) ?_
      have hl0 : lv_has ls 4 [(3, .int (nI (c + 1))), (2, .int (nI (sumN (fun q => pop (lessN (M (25 + q)) n)) (c + 1)))), (0, .ref (ad 0)), (1, .int (nI n))] := by rw [(show nI (sumN (fun q => pop (lessN (M (25 + q)) n)) (c + 1)) = nI ((sumN (fun q => pop (lessN (M (25 + q)) n)) c) + (pop (lessN (M (25 + c)) n))) from rfl)]; exact lv_sub hl [0, 1, 2, 3] rfl
      exact ih16 (c + 1) (by omega) _ _ _ (hP) hS hl0
  have hl0 : lv_has ls 4 [(3, .int (nI 0)), (2, .int (nI (sumN (fun q => pop (lessN (M (25 + q)) n)) 0))), (0, .ref (ad 0)), (1, .int (nI n))] := by rw [(show nI (sumN (fun q => pop (lessN (M (25 + q)) n)) 0) = nI 0 from rfl)]; exact lv_sub hl [0, 1, 2, 3] rfl
  exact L16 (M 23 1) 0 (by omega) _ _ _ (by rw [wearM_0]; exact hP) hS hl0
set_option maxHeartbeats 4000000 in
set_option maxRecDepth 100000 in
theorem f_wear_bad {l : Launch} {g : gE} {ad : Nat → Nat} (hI : g_inj ad 55) (M : gMem) (J : gMeL) (n : Int32) (h : ¬ inR1 n 10) : CI l g ad dsX 55 yX5_wear cX5_wear 4 (some .int) 5 [.ref (ad 0), .int n] M J (nI 4294967295) M J := by
  refine CI.of (plainFor_of_name (by decide)) (Nat.le_of_ble_eq_true rfl) (fun p9 e9 s9 m9 args9 below9 meth9 c9 CF hK hr9 hlk9 hP hS ls hl => ?_)
  have hx := CF.1
  have hb := CF.2.1
  have hA : ∀ q, g_A ad 55 q → g_A ad 55 q := fun _ h => h
  have hl : lv_has ls 4 [(0, .ref (ad 0)), (1, .int n)] := hl
  refine lv_iload_n hx hb dX5_wear_0 rfl (lv_at hl 1 rfl) ?_
  refine lv_iconst (v := nI 1) hx hb dX5_wear_1 (by decide) ?_
  refine lv_bipush (v := nI 9) hx hb dX5_wear_2 (by decide) ?_
  rcases n_int1 (x := n) (n := 10) (by omega) with ⟨n1, g_n1, h_n1, rfl⟩ | ho_n
  · refine x_callSP CF hK hP hS hl (As := [.int (nI n1), .int (nI 1), .int (nI 9)]) (rest := []) (c_isWithin_t _ _ _ (w_in (by omega) (by omega) (by omega))) kw_X5_isWithin wd1_190 rfl ⟨Nat.le_of_ble_eq_true rfl, Nat.le_of_ble_eq_true rfl⟩ ⟨Nat.le_refl _, Nat.le_refl _⟩ (Nat.le_of_ble_eq_true rfl) dX5_wear_4 (fun H locs hP hS => ?_)
    refine x_yne (u := (1 : Int)) (tgt := 12) hx hb (rfl) dX5_wear_7 (by decide) (fun h_1 => ?_) (fun h_1 => (by omega : False).elim)
    exact absurd (inR1_n g_n1 h_n1 (by decide)) h
  · refine x_callSP CF hK hP hS hl (As := [.int n, .int (nI 1), .int (nI 9)]) (rest := []) (c_isWithin_f _ _ _ (w_out (by omega) (by omega) (by omega))) kw_X5_isWithin wd1_190 rfl ⟨Nat.le_of_ble_eq_true rfl, Nat.le_of_ble_eq_true rfl⟩ ⟨Nat.le_refl _, Nat.le_refl _⟩ (Nat.le_of_ble_eq_true rfl) dX5_wear_4 (fun H locs hP hS => ?_)
    refine x_yne (u := (0 : Int)) (tgt := 12) hx hb (rfl) dX5_wear_7 (by decide) (fun h_2 => (by omega : False).elim) (fun h_2 => ?_)
    refine lv_iconst (v := nI 4294967295) hx hb dX5_wear_10 (by decide) ?_
    exact x_reti hx hb hr9 hlk9 hS hP (by first | rfl | (show nI 4294967295 = nI 4294967295; first | rfl | omega)) dX5_wear_11
set_option maxHeartbeats 4000000 in
set_option maxRecDepth 100000 in
theorem f_missed_ok {l : Launch} {g : gE} {ad : Nat → Nat} (hI : g_inj ad 55) (M : gMem) (J : gMeL) (hw : wfX M) (k : Nat) (hk : k < M 23 3) : CI l g ad dsX 55 yX5_missed cX5_missed 5 (some .int) 8 [.ref (ad 0), .int (nI k)] M J (nI (fst1 (misd (M (32 + k) 4) (M (32 + k) 5) (upsX M k)) 0 12)) M J := by
  refine CI.of (plainFor_of_name (by decide)) (Nat.le_of_ble_eq_true rfl) (fun p9 e9 s9 m9 args9 below9 meth9 c9 CF hK hr9 hlk9 hP hS ls hl => ?_)
  have hx := CF.1
  have hb := CF.2.1
  have hA : ∀ q, g_A ad 55 q → g_A ad 55 q := fun _ h => h
  have hl : lv_has ls 5 [(0, .ref (ad 0)), (1, .int (nI k))] := hl
  have hnc := hw.nc
  have hnf := hw.nf
  have hf := hw.fig (show k < 5 by have := hw.nf; omega)
  have hm : (misd (M (32 + k) 4) (M (32 + k) 5) (upsX M k)) < 4096 := misd_lt _ (by omega) (by omega)
  refine lv_aload_n hx hb dX5_missed_0 rfl (lv_at hl 0 rfl) ?_
  refine lv_iload_n hx hb dX5_missed_1 rfl (lv_at hl 1 rfl) ?_
  refine x_callVI CF hK hP hS hA hl (As := [.int (nI k)]) (rest := []) (c_isFigure_t hI M J k (by omega) (by omega)) kw_X5_isFigure wd2_27 (by decide) dX_0 rfl rfl ⟨Nat.le_of_ble_eq_true rfl, Nat.le_of_ble_eq_true rfl⟩ ⟨Nat.le_refl _, Nat.le_refl _⟩ (Nat.le_of_ble_eq_true rfl) dX5_missed_2 (fun H locs hP hS => ?_)
  refine x_yne (u := (1 : Int)) (tgt := 10) hx hb (rfl) dX5_missed_5 (by decide) (fun h_1 => ?_) (fun h_1 => (by omega : False).elim)
  refine lv_aload_n hx hb dX5_missed_10 rfl (lv_at hl 0 rfl) ?_
  refine x_getr CF hK hP 0 (by decide) dX_0 rfl uX5 0 (by decide) (j := 23) rfl wd1_164 rfl dX5_missed_11 ?_
  refine x_getr CF hK hP 23 (by decide) dX_23 rfl uX1 2 (by decide) (j := 31) rfl wd1_72 rfl dX5_missed_14 ?_
  refine lv_iload_n hx hb dX5_missed_17 rfl (lv_at hl 1 rfl) ?_
  refine x_aald CF hK hP 31 (by decide) (t := 0) dX_31 (by decide) k (by omega) (by decide) (j := (32 + k)) (oX_fig k (by omega)) dX5_missed_18 ?_
  refine lv_astore_n (lv' := [(2, .ref (ad (32 + k))), (0, .ref (ad 0)), (1, .int (nI k))]) hx hb dX5_missed_19 rfl hl (by decide) rfl (fun ls hl => ?_)
  refine lv_aload_n hx hb dX5_missed_20 rfl (lv_at hl 0 rfl) ?_
  refine lv_aload_n hx hb dX5_missed_21 rfl (lv_at hl 1 rfl) ?_
  refine x_getr CF hK hP 0 (by decide) dX_0 rfl uX5 0 (by decide) (j := 23) rfl wd1_164 rfl dX5_missed_22 ?_
  refine lv_aload_n hx hb dX5_missed_25 rfl (lv_at hl 0 rfl) ?_
  refine x_callVI CF hK hP hS hA hl (As := [.ref (ad (32 + k))]) (rest := [.ref (ad (32 + k))]) (c_upsOf hI M J hw k (by omega)) kw_X1_upsOf wd2_107 (by decide) dX_23 rfl rfl ⟨Nat.le_of_ble_eq_true rfl, Nat.le_of_ble_eq_true rfl⟩ ⟨Nat.le_refl _, Nat.le_refl _⟩ (Nat.le_of_ble_eq_true rfl) dX5_missed_26 (fun H locs hP hS => ?_)
  refine x_callVI CF hK hP hS hA hl (As := [.int (nI (upsX M k))]) (rest := []) (c_missedWith hI M J k (by omega) (upsX M k)) kw_X0_missedWith wd2_172 (by omega) (dX_fig k (by omega)) rfl rfl ⟨Nat.le_of_ble_eq_true rfl, Nat.le_of_ble_eq_true rfl⟩ ⟨Nat.le_refl _, Nat.le_refl _⟩ (Nat.le_of_ble_eq_true rfl) dX5_missed_29 (fun H locs hP hS => ?_)
  refine lv_istore_n (lv' := [(3, .int (nI (misd (M (32 + k) 4) (M (32 + k) 5) (upsX M k)))), (2, .ref (ad (32 + k))), (0, .ref (ad 0)), (1, .int (nI k))]) hx hb dX5_missed_32 rfl hl (by decide) rfl (fun ls hl => ?_)
  refine lv_iconst (v := nI 0) hx hb dX5_missed_33 (by decide) ?_
  refine lv_istore (lv' := [(4, .int (nI 0)), (3, .int (nI (misd (M (32 + k) 4) (M (32 + k) 5) (upsX M k)))), (2, .ref (ad (32 + k))), (0, .ref (ad 0)), (1, .int (nI k))]) hx hb dX5_missed_34 hl (by decide) rfl (fun ls hl => ?_)
  have L36 : ∀ (d36 : Nat) (a : Nat), (a + d36 = 12) → (fst1 (misd (M (32 + k) 4) (M (32 + k) 5) (upsX M k)) a d36 = fst1 (misd (M (32 + k) 4) (M (32 + k) 5) (upsX M k)) 0 12) → (∀ (H : Heap) (locs : List Loc) (ls : Array Slot), g_P g ad dsX 55 M J H → va_S (g_A ad 55) s9.heap H locs → lv_has ls 5 [(4, .int (nI a)), (3, .int (nI (misd (M (32 + k) 4) (M (32 + k) 5) (upsX M k)))), (2, .ref (ad (32 + k))), (0, .ref (ad 0)), (1, .int (nI k))] → W p9 l e9 (g_rm 8) s9 m9 args9 below9 meth9 c9 H locs 0 0 (MQ below9 (va_Qi (fun r' (_ : Unit) => r' = (nI (fst1 (misd (M (32 + k) 4) (M (32 + k) 5) (upsX M k)) 0 12))) (fun _ t => g_P g ad dsX 55 M J t.heap) (g_A ad 55)) args9 s9 0 0 (g_A ad 55)) (F0 m9 36 ls [])) := by
    intro d36
    induction d36 with
    | zero =>
      intro a ha hR H locs ls hP hS hl
      refine lv_iload hx hb dX5_missed_36 (lv_at hl 0 rfl) ?_
      refine lv_bipush (v := nI 12) hx hb dX5_missed_38 (by decide) ?_
      refine x_zge (u := (a : Nat)) (v := (12 : Int)) (tgt := 62) hx hb (nI_toInt (by omega)) (rfl) dX5_missed_40 (by decide) (fun h_2 => ?_) (fun h_2 => (by omega : False).elim)
      refine lv_bipush (v := nI 4294967292) hx hb dX5_missed_62 (by decide) ?_
      exact x_reti hx hb hr9 hlk9 hS hP (by rw [← hR]; rfl) dX5_missed_64
    | succ d36 ih36 =>
      intro a ha hR H locs ls hP hS hl
      rw [show fst1 (misd (M (32 + k) 4) (M (32 + k) 5) (upsX M k)) a (d36 + 1) = if (misd (M (32 + k) 4) (M (32 + k) 5) (upsX M k)) >>> a &&& 1 = 1 then a else fst1 (misd (M (32 + k) 4) (M (32 + k) 5) (upsX M k)) (a + 1) d36 from rfl] at hR
      have b1 := and1_lt ((misd (M (32 + k) 4) (M (32 + k) 5) (upsX M k)) >>> a)
      refine lv_iload hx hb dX5_missed_36 (lv_at hl 0 rfl) ?_
      refine lv_bipush (v := nI 12) hx hb dX5_missed_38 (by decide) ?_
      refine x_zge (u := (a : Nat)) (v := (12 : Int)) (tgt := 62) hx hb (nI_toInt (by omega)) (rfl) dX5_missed_40 (by decide) (fun h_3 => (by omega : False).elim) (fun h_3 => ?_)
      refine lv_iload_n hx hb dX5_missed_43 rfl (lv_at hl 1 rfl) ?_
      refine lv_iload hx hb dX5_missed_44 (lv_at hl 0 rfl) ?_
      refine x_ishr hx hb (by omega) (by omega) dX5_missed_46 ?_
      refine lv_iconst (v := nI 1) hx hb dX5_missed_47 (by decide) ?_
      refine x_iand hx hb dX5_missed_48 ?_
      refine lv_iconst (v := nI 1) hx hb dX5_missed_49 (by decide) ?_
      refine x_zne (u := (((misd (M (32 + k) 4) (M (32 + k) 5) (upsX M k)) >>> a) &&& 1 : Nat)) (v := (1 : Int)) (tgt := 56) hx hb (nI_toInt (by omega)) (rfl) dX5_missed_50 (by decide) (fun h_4 => ?_) (fun h_4 => ?_)
      · refine lv_iinc (v := nI (a + 1)) (lv' := [(4, .int (nI (a + 1))), (3, .int (nI (misd (M (32 + k) 4) (M (32 + k) 5) (upsX M k)))), (2, .ref (ad (32 + k))), (0, .ref (ad 0)), (1, .int (nI k))]) hx hb dX5_missed_56 hl (k := 0) rfl (n_inc a 1) (by decide) rfl (fun ls hl => ?_)
        refine lv_goto (tgt := 36) hx hb dX5_missed_59 (by decide) ?_
        have hl0 : lv_has ls 5 [(4, .int (nI (a + 1))), (3, .int (nI (misd (M (32 + k) 4) (M (32 + k) 5) (upsX M k)))), (2, .ref (ad (32 + k))), (0, .ref (ad 0)), (1, .int (nI k))] := lv_sub hl [0, 1, 2, 3, 4] rfl
        exact ih36 (a + 1) (by omega) (by rw [if_neg (by omega)] at hR; exact hR) _ _ _ (hP) hS hl0
      · refine lv_iload hx hb dX5_missed_53 (lv_at hl 0 rfl) ?_
        exact x_reti hx hb hr9 hlk9 hS hP (by rw [if_pos (by omega)] at hR; rw [← hR]) dX5_missed_55
  have hl0 : lv_has ls 5 [(4, .int (nI 0)), (3, .int (nI (misd (M (32 + k) 4) (M (32 + k) 5) (upsX M k)))), (2, .ref (ad (32 + k))), (0, .ref (ad 0)), (1, .int (nI k))] := lv_sub hl [0, 1, 2, 3, 4] rfl
  exact L36 12 0 (by omega) (rfl) _ _ _ (hP) hS hl0
set_option maxHeartbeats 4000000 in
set_option maxRecDepth 100000 in
theorem f_missed_bad {l : Launch} {g : gE} {ad : Nat → Nat} (hI : g_inj ad 55) (M : gMem) (J : gMeL) (hw : wfX M) (k : Int32) (h : ¬ inR k (M 23 3)) : CI l g ad dsX 55 yX5_missed cX5_missed 5 (some .int) 8 [.ref (ad 0), .int k] M J (nI 4294967295) M J := by
  refine CI.of (plainFor_of_name (by decide)) (Nat.le_of_ble_eq_true rfl) (fun p9 e9 s9 m9 args9 below9 meth9 c9 CF hK hr9 hlk9 hP hS ls hl => ?_)
  have hx := CF.1
  have hb := CF.2.1
  have hA : ∀ q, g_A ad 55 q → g_A ad 55 q := fun _ h => h
  have hl : lv_has ls 5 [(0, .ref (ad 0)), (1, .int k)] := hl
  have hnc := hw.nc
  have hnf := hw.nf
  refine lv_aload_n hx hb dX5_missed_0 rfl (lv_at hl 0 rfl) ?_
  refine lv_iload_n hx hb dX5_missed_1 rfl (lv_at hl 1 rfl) ?_
  rcases n_int (x := k) (n := M 23 3) (by omega) with ⟨k1, h_k1, rfl⟩ | ho_k
  · refine x_callVI CF hK hP hS hA hl (As := [.int (nI k1)]) (rest := []) (c_isFigure_t hI M J k1 (by omega) (by omega)) kw_X5_isFigure wd2_27 (by decide) dX_0 rfl rfl ⟨Nat.le_of_ble_eq_true rfl, Nat.le_of_ble_eq_true rfl⟩ ⟨Nat.le_refl _, Nat.le_refl _⟩ (Nat.le_of_ble_eq_true rfl) dX5_missed_2 (fun H locs hP hS => ?_)
    refine x_yne (u := (1 : Int)) (tgt := 10) hx hb (rfl) dX5_missed_5 (by decide) (fun h_1 => ?_) (fun h_1 => (by omega : False).elim)
    exact absurd (inR_n h_k1 (by omega)) h
  · refine x_callVI CF hK hP hS hA hl (As := [.int k]) (rest := []) (c_isFigure_f hI M J k ho_k (by omega)) kw_X5_isFigure wd2_27 (by decide) dX_0 rfl rfl ⟨Nat.le_of_ble_eq_true rfl, Nat.le_of_ble_eq_true rfl⟩ ⟨Nat.le_refl _, Nat.le_refl _⟩ (Nat.le_of_ble_eq_true rfl) dX5_missed_2 (fun H locs hP hS => ?_)
    refine x_yne (u := (0 : Int)) (tgt := 10) hx hb (rfl) dX5_missed_5 (by decide) (fun h_2 => (by omega : False).elim) (fun h_2 => ?_)
    refine lv_iconst (v := nI 4294967295) hx hb dX5_missed_8 (by decide) ?_
    exact x_reti hx hb hr9 hlk9 hS hP (by first | rfl | (show nI 4294967295 = nI 4294967295; first | rfl | omega)) dX5_missed_9
set_option maxHeartbeats 4000000 in
set_option maxRecDepth 100000 in
theorem f_fewest {l : Launch} {g : gE} {ad : Nat → Nat} (hI : g_inj ad 55) (M : gMem) (J : gMeL) (hw : wfX M) (hL : wfL M) : CI l g ad dsX 55 yX5_fewest cX5_fewest 1 (some .int) 13 [.ref (ad 0)] M J (nI (shX M).1) ((shX M).2) J := by
  refine CI.of (plainFor_of_name (by decide)) (Nat.le_of_ble_eq_true rfl) (fun p9 e9 s9 m9 args9 below9 meth9 c9 CF hK hr9 hlk9 hP hS ls hl => ?_)
  have hx := CF.1
  have hb := CF.2.1
  have hA : ∀ q, g_A ad 55 q → g_A ad 55 q := fun _ h => h
  have hl : lv_has ls 1 [(0, .ref (ad 0))] := hl
  have hnc := hw.nc
  have hnf := hw.nf
  refine lv_aload_n hx hb dX5_fewest_0 rfl (lv_at hl 0 rfl) ?_
  refine x_callVI CF hK hP hS hA hl (As := []) (rest := []) (c_shareCams hI M J hw hL) kw_X5_shareCams wd2_180 (by decide) dX_0 rfl rfl ⟨Nat.le_of_ble_eq_true rfl, Nat.le_of_ble_eq_true rfl⟩ ⟨Nat.le_refl _, Nat.le_refl _⟩ (Nat.le_of_ble_eq_true rfl) dX5_fewest_1 (fun H locs hP hS => ?_)
  exact x_reti hx hb hr9 hlk9 hS hP (by first | rfl | (show nI ((shX M).1) = nI (shX M).1; first | rfl | omega)) dX5_fewest_4
set_option maxHeartbeats 4000000 in
set_option maxRecDepth 100000 in
theorem f_share_0 {l : Launch} {g : gE} {ad : Nat → Nat} (hI : g_inj ad 55) (M : gMem) (J : gMeL) (hw : wfX M) (hL : wfL M) (k : Nat) (hk : k < M 23 3) : CI l g ad dsX 55 yX5_share cX5_share 3 (some .int) 13 [.ref (ad 0), .int (nI k), .int (nI 0)] M J (nI ((shX M).2 14 k)) ((shX M).2) J := by
  refine CI.of (plainFor_of_name (by decide)) (Nat.le_of_ble_eq_true rfl) (fun p9 e9 s9 m9 args9 below9 meth9 c9 CF hK hr9 hlk9 hP hS ls hl => ?_)
  have hx := CF.1
  have hb := CF.2.1
  have hA : ∀ q, g_A ad 55 q → g_A ad 55 q := fun _ h => h
  have hl : lv_has ls 3 [(0, .ref (ad 0)), (1, .int (nI k)), (2, .int (nI 0))] := hl
  have hnc := hw.nc
  have hnf := hw.nf
  refine lv_aload_n hx hb dX5_share_0 rfl (lv_at hl 0 rfl) ?_
  refine lv_iload_n hx hb dX5_share_1 rfl (lv_at hl 1 rfl) ?_
  refine x_callVI CF hK hP hS hA hl (As := [.int (nI k)]) (rest := []) (c_isFigure_t hI M J k (by omega) (by omega)) kw_X5_isFigure wd2_27 (by decide) dX_0 rfl rfl ⟨Nat.le_of_ble_eq_true rfl, Nat.le_of_ble_eq_true rfl⟩ ⟨Nat.le_refl _, Nat.le_refl _⟩ (Nat.le_of_ble_eq_true rfl) dX5_share_2 (fun H locs hP hS => ?_)
  refine x_yeq (u := (1 : Int)) (tgt := 17) hx hb (rfl) dX5_share_5 (by decide) (fun h_1 => (by omega : False).elim) (fun h_1 => ?_)
  refine lv_iload_n hx hb dX5_share_8 rfl (lv_at hl 2 rfl) ?_
  refine lv_iconst (v := nI 0) hx hb dX5_share_9 (by decide) ?_
  refine lv_iconst (v := nI 1) hx hb dX5_share_10 (by decide) ?_
  refine x_callSP CF hK hP hS hl (As := [.int (nI 0), .int (nI 0), .int (nI 1)]) (rest := []) (c_isWithin_t _ _ _ (w_in (by omega) (by omega) (by omega))) kw_X5_isWithin wd1_190 rfl ⟨Nat.le_of_ble_eq_true rfl, Nat.le_of_ble_eq_true rfl⟩ ⟨Nat.le_refl _, Nat.le_refl _⟩ (Nat.le_of_ble_eq_true rfl) dX5_share_11 (fun H locs hP hS => ?_)
  refine x_yne (u := (1 : Int)) (tgt := 19) hx hb (rfl) dX5_share_14 (by decide) (fun h_2 => ?_) (fun h_2 => (by omega : False).elim)
  refine lv_aload_n hx hb dX5_share_19 rfl (lv_at hl 0 rfl) ?_
  refine x_callVI CF hK hP hS hA hl (As := []) (rest := []) (c_shareCams hI M J hw hL) kw_X5_shareCams wd2_180 (by decide) dX_0 rfl rfl ⟨Nat.le_of_ble_eq_true rfl, Nat.le_of_ble_eq_true rfl⟩ ⟨Nat.le_refl _, Nat.le_refl _⟩ (Nat.le_of_ble_eq_true rfl) dX5_share_20 (fun H locs hP hS => ?_)
  refine lv_pop hx hb dX5_share_23 rfl ?_
  refine lv_iload_n hx hb dX5_share_24 rfl (lv_at hl 2 rfl) ?_
  refine x_yne (u := (0 : Int)) (tgt := 40) hx hb (rfl) dX5_share_25 (by decide) (fun h_3 => (by omega : False).elim) (fun h_3 => ?_)
  refine lv_aload_n hx hb dX5_share_28 rfl (lv_at hl 0 rfl) ?_
  refine x_getr CF hK hP 0 (by decide) dX_0 rfl uX5 5 (by decide) (j := 13) rfl wd1_169 rfl dX5_share_29 ?_
  refine x_getr CF hK hP 13 (by decide) dX_13 rfl uX2 0 (by decide) (j := 14) rfl wd1_153 rfl dX5_share_32 ?_
  refine lv_iload_n hx hb dX5_share_35 rfl (lv_at hl 1 rfl) ?_
  refine x_iald CF hK hP 14 (by decide) dX_14 k (by omega) (by decide) dX5_share_36 ?_
  refine lv_goto (tgt := 49) hx hb dX5_share_37 (by decide) ?_
  exact x_reti hx hb hr9 hlk9 hS hP (by first | rfl | (show nI (((shX M).2) 14 k) = nI ((shX M).2 14 k); first | rfl | omega)) dX5_share_49
set_option maxHeartbeats 4000000 in
set_option maxRecDepth 100000 in
theorem f_share_1 {l : Launch} {g : gE} {ad : Nat → Nat} (hI : g_inj ad 55) (M : gMem) (J : gMeL) (hw : wfX M) (hL : wfL M) (k : Nat) (hk : k < M 23 3) : CI l g ad dsX 55 yX5_share cX5_share 3 (some .int) 13 [.ref (ad 0), .int (nI k), .int (nI 1)] M J (nI ((shX M).2 15 k)) ((shX M).2) J := by
  refine CI.of (plainFor_of_name (by decide)) (Nat.le_of_ble_eq_true rfl) (fun p9 e9 s9 m9 args9 below9 meth9 c9 CF hK hr9 hlk9 hP hS ls hl => ?_)
  have hx := CF.1
  have hb := CF.2.1
  have hA : ∀ q, g_A ad 55 q → g_A ad 55 q := fun _ h => h
  have hl : lv_has ls 3 [(0, .ref (ad 0)), (1, .int (nI k)), (2, .int (nI 1))] := hl
  have hnc := hw.nc
  have hnf := hw.nf
  refine lv_aload_n hx hb dX5_share_0 rfl (lv_at hl 0 rfl) ?_
  refine lv_iload_n hx hb dX5_share_1 rfl (lv_at hl 1 rfl) ?_
  refine x_callVI CF hK hP hS hA hl (As := [.int (nI k)]) (rest := []) (c_isFigure_t hI M J k (by omega) (by omega)) kw_X5_isFigure wd2_27 (by decide) dX_0 rfl rfl ⟨Nat.le_of_ble_eq_true rfl, Nat.le_of_ble_eq_true rfl⟩ ⟨Nat.le_refl _, Nat.le_refl _⟩ (Nat.le_of_ble_eq_true rfl) dX5_share_2 (fun H locs hP hS => ?_)
  refine x_yeq (u := (1 : Int)) (tgt := 17) hx hb (rfl) dX5_share_5 (by decide) (fun h_1 => (by omega : False).elim) (fun h_1 => ?_)
  refine lv_iload_n hx hb dX5_share_8 rfl (lv_at hl 2 rfl) ?_
  refine lv_iconst (v := nI 0) hx hb dX5_share_9 (by decide) ?_
  refine lv_iconst (v := nI 1) hx hb dX5_share_10 (by decide) ?_
  refine x_callSP CF hK hP hS hl (As := [.int (nI 1), .int (nI 0), .int (nI 1)]) (rest := []) (c_isWithin_t _ _ _ (w_in (by omega) (by omega) (by omega))) kw_X5_isWithin wd1_190 rfl ⟨Nat.le_of_ble_eq_true rfl, Nat.le_of_ble_eq_true rfl⟩ ⟨Nat.le_refl _, Nat.le_refl _⟩ (Nat.le_of_ble_eq_true rfl) dX5_share_11 (fun H locs hP hS => ?_)
  refine x_yne (u := (1 : Int)) (tgt := 19) hx hb (rfl) dX5_share_14 (by decide) (fun h_2 => ?_) (fun h_2 => (by omega : False).elim)
  refine lv_aload_n hx hb dX5_share_19 rfl (lv_at hl 0 rfl) ?_
  refine x_callVI CF hK hP hS hA hl (As := []) (rest := []) (c_shareCams hI M J hw hL) kw_X5_shareCams wd2_180 (by decide) dX_0 rfl rfl ⟨Nat.le_of_ble_eq_true rfl, Nat.le_of_ble_eq_true rfl⟩ ⟨Nat.le_refl _, Nat.le_refl _⟩ (Nat.le_of_ble_eq_true rfl) dX5_share_20 (fun H locs hP hS => ?_)
  refine lv_pop hx hb dX5_share_23 rfl ?_
  refine lv_iload_n hx hb dX5_share_24 rfl (lv_at hl 2 rfl) ?_
  refine x_yne (u := (1 : Int)) (tgt := 40) hx hb (rfl) dX5_share_25 (by decide) (fun h_3 => ?_) (fun h_3 => (by omega : False).elim)
  refine lv_aload_n hx hb dX5_share_40 rfl (lv_at hl 0 rfl) ?_
  refine x_getr CF hK hP 0 (by decide) dX_0 rfl uX5 5 (by decide) (j := 13) rfl wd1_169 rfl dX5_share_41 ?_
  refine x_getr CF hK hP 13 (by decide) dX_13 rfl uX2 1 (by decide) (j := 15) rfl wd1_155 rfl dX5_share_44 ?_
  refine lv_iload_n hx hb dX5_share_47 rfl (lv_at hl 1 rfl) ?_
  refine x_iald CF hK hP 15 (by decide) dX_15 k (by omega) (by decide) dX5_share_48 ?_
  exact x_reti hx hb hr9 hlk9 hS hP (by first | rfl | (show nI (((shX M).2) 15 k) = nI ((shX M).2 15 k); first | rfl | omega)) dX5_share_49
set_option maxHeartbeats 4000000 in
set_option maxRecDepth 100000 in
theorem f_share_bad {l : Launch} {g : gE} {ad : Nat → Nat} (hI : g_inj ad 55) (M : gMem) (J : gMeL) (hw : wfX M) (k w : Int32) (h : ¬ (inR k (M 23 3) ∧ inR w 2)) : CI l g ad dsX 55 yX5_share cX5_share 3 (some .int) 13 [.ref (ad 0), .int k, .int w] M J (nI 4294967295) M J := by
  refine CI.of (plainFor_of_name (by decide)) (Nat.le_of_ble_eq_true rfl) (fun p9 e9 s9 m9 args9 below9 meth9 c9 CF hK hr9 hlk9 hP hS ls hl => ?_)
  have hx := CF.1
  have hb := CF.2.1
  have hA : ∀ q, g_A ad 55 q → g_A ad 55 q := fun _ h => h
  have hl : lv_has ls 3 [(0, .ref (ad 0)), (1, .int k), (2, .int w)] := hl
  have hnc := hw.nc
  have hnf := hw.nf
  refine lv_aload_n hx hb dX5_share_0 rfl (lv_at hl 0 rfl) ?_
  refine lv_iload_n hx hb dX5_share_1 rfl (lv_at hl 1 rfl) ?_
  rcases n_int (x := k) (n := M 23 3) (by omega) with ⟨k1, h_k1, rfl⟩ | ho_k
  · refine x_callVI CF hK hP hS hA hl (As := [.int (nI k1)]) (rest := []) (c_isFigure_t hI M J k1 (by omega) (by omega)) kw_X5_isFigure wd2_27 (by decide) dX_0 rfl rfl ⟨Nat.le_of_ble_eq_true rfl, Nat.le_of_ble_eq_true rfl⟩ ⟨Nat.le_refl _, Nat.le_refl _⟩ (Nat.le_of_ble_eq_true rfl) dX5_share_2 (fun H locs hP hS => ?_)
    refine x_yeq (u := (1 : Int)) (tgt := 17) hx hb (rfl) dX5_share_5 (by decide) (fun h_1 => (by omega : False).elim) (fun h_1 => ?_)
    refine lv_iload_n hx hb dX5_share_8 rfl (lv_at hl 2 rfl) ?_
    refine lv_iconst (v := nI 0) hx hb dX5_share_9 (by decide) ?_
    refine lv_iconst (v := nI 1) hx hb dX5_share_10 (by decide) ?_
    rcases n_int (x := w) (n := 2) (by omega) with ⟨w1, h_w1, rfl⟩ | ho_w
    · refine x_callSP CF hK hP hS hl (As := [.int (nI w1), .int (nI 0), .int (nI 1)]) (rest := []) (c_isWithin_t _ _ _ (w_in (by omega) (by omega) (by omega))) kw_X5_isWithin wd1_190 rfl ⟨Nat.le_of_ble_eq_true rfl, Nat.le_of_ble_eq_true rfl⟩ ⟨Nat.le_refl _, Nat.le_refl _⟩ (Nat.le_of_ble_eq_true rfl) dX5_share_11 (fun H locs hP hS => ?_)
      refine x_yne (u := (1 : Int)) (tgt := 19) hx hb (rfl) dX5_share_14 (by decide) (fun h_2 => ?_) (fun h_2 => (by omega : False).elim)
      exact absurd ⟨inR_n h_k1 (by omega), inR_n h_w1 (by decide)⟩ h
    · refine x_callSP CF hK hP hS hl (As := [.int w, .int (nI 0), .int (nI 1)]) (rest := []) (c_isWithin_f _ _ _ (w_out (by omega) (by omega) (by omega))) kw_X5_isWithin wd1_190 rfl ⟨Nat.le_of_ble_eq_true rfl, Nat.le_of_ble_eq_true rfl⟩ ⟨Nat.le_refl _, Nat.le_refl _⟩ (Nat.le_of_ble_eq_true rfl) dX5_share_11 (fun H locs hP hS => ?_)
      refine x_yne (u := (0 : Int)) (tgt := 19) hx hb (rfl) dX5_share_14 (by decide) (fun h_3 => (by omega : False).elim) (fun h_3 => ?_)
      refine lv_iconst (v := nI 4294967295) hx hb dX5_share_17 (by decide) ?_
      exact x_reti hx hb hr9 hlk9 hS hP (by first | rfl | (show nI 4294967295 = nI 4294967295; first | rfl | omega)) dX5_share_18
  · refine x_callVI CF hK hP hS hA hl (As := [.int k]) (rest := []) (c_isFigure_f hI M J k ho_k (by omega)) kw_X5_isFigure wd2_27 (by decide) dX_0 rfl rfl ⟨Nat.le_of_ble_eq_true rfl, Nat.le_of_ble_eq_true rfl⟩ ⟨Nat.le_refl _, Nat.le_refl _⟩ (Nat.le_of_ble_eq_true rfl) dX5_share_2 (fun H locs hP hS => ?_)
    refine x_yeq (u := (0 : Int)) (tgt := 17) hx hb (rfl) dX5_share_5 (by decide) (fun h_4 => ?_) (fun h_4 => (by omega : False).elim)
    refine lv_iconst (v := nI 4294967295) hx hb dX5_share_17 (by decide) ?_
    exact x_reti hx hb hr9 hlk9 hS hP (by first | rfl | (show nI 4294967295 = nI 4294967295; first | rfl | omega)) dX5_share_18
set_option maxHeartbeats 4000000 in
set_option maxRecDepth 100000 in
theorem f_pegs_0 {l : Launch} {g : gE} {ad : Nat → Nat} (hI : g_inj ad 55) (M : gMem) (J : gMeL) (hw : wfX M) (k : Nat) (hk : k < M 23 3) : CI l g ad dsX 55 yX5_pegs cX5_pegs 7 (some .int) 4 [.ref (ad 0), .int (nI k), .int (nI 0)] M J (nI (best (pegX M k) 12).1) M J := by
  refine CI.of (plainFor_of_name (by decide)) (Nat.le_of_ble_eq_true rfl) (fun p9 e9 s9 m9 args9 below9 meth9 c9 CF hK hr9 hlk9 hP hS ls hl => ?_)
  have hx := CF.1
  have hb := CF.2.1
  have hA : ∀ q, g_A ad 55 q → g_A ad 55 q := fun _ h => h
  have hl : lv_has ls 7 [(0, .ref (ad 0)), (1, .int (nI k)), (2, .int (nI 0))] := hl
  have hnc := hw.nc
  have hnf := hw.nf
  refine lv_aload_n hx hb dX5_pegs_0 rfl (lv_at hl 0 rfl) ?_
  refine lv_iload_n hx hb dX5_pegs_1 rfl (lv_at hl 1 rfl) ?_
  refine x_callVI CF hK hP hS hA hl (As := [.int (nI k)]) (rest := []) (c_isFigure_t hI M J k (by omega) (by omega)) kw_X5_isFigure wd2_27 (by decide) dX_0 rfl rfl ⟨Nat.le_of_ble_eq_true rfl, Nat.le_of_ble_eq_true rfl⟩ ⟨Nat.le_refl _, Nat.le_refl _⟩ (Nat.le_of_ble_eq_true rfl) dX5_pegs_2 (fun H locs hP hS => ?_)
  refine x_yeq (u := (1 : Int)) (tgt := 17) hx hb (rfl) dX5_pegs_5 (by decide) (fun h_1 => (by omega : False).elim) (fun h_1 => ?_)
  refine lv_iload_n hx hb dX5_pegs_8 rfl (lv_at hl 2 rfl) ?_
  refine lv_iconst (v := nI 0) hx hb dX5_pegs_9 (by decide) ?_
  refine lv_iconst (v := nI 1) hx hb dX5_pegs_10 (by decide) ?_
  refine x_callSP CF hK hP hS hl (As := [.int (nI 0), .int (nI 0), .int (nI 1)]) (rest := []) (c_isWithin_t _ _ _ (w_in (by omega) (by omega) (by omega))) kw_X5_isWithin wd1_190 rfl ⟨Nat.le_of_ble_eq_true rfl, Nat.le_of_ble_eq_true rfl⟩ ⟨Nat.le_refl _, Nat.le_refl _⟩ (Nat.le_of_ble_eq_true rfl) dX5_pegs_11 (fun H locs hP hS => ?_)
  refine x_yne (u := (1 : Int)) (tgt := 19) hx hb (rfl) dX5_pegs_14 (by decide) (fun h_2 => ?_) (fun h_2 => (by omega : False).elim)
  refine lv_bipush (v := nI 13) hx hb dX5_pegs_19 (by decide) ?_
  refine lv_istore_n (lv' := [(3, .int (nI 13)), (0, .ref (ad 0)), (1, .int (nI k)), (2, .int (nI 0))]) hx hb dX5_pegs_21 rfl hl (by decide) rfl (fun ls hl => ?_)
  refine lv_iconst (v := nI 0) hx hb dX5_pegs_22 (by decide) ?_
  refine lv_istore (lv' := [(4, .int (nI 0)), (3, .int (nI 13)), (0, .ref (ad 0)), (1, .int (nI k)), (2, .int (nI 0))]) hx hb dX5_pegs_23 hl (by decide) rfl (fun ls hl => ?_)
  refine lv_iconst (v := nI 0) hx hb dX5_pegs_25 (by decide) ?_
  refine lv_istore (lv' := [(5, .int (nI 0)), (4, .int (nI 0)), (3, .int (nI 13)), (0, .ref (ad 0)), (1, .int (nI k)), (2, .int (nI 0))]) hx hb dX5_pegs_26 hl (by decide) rfl (fun ls hl => ?_)
  have L28 : ∀ (d28 : Nat) (q : Nat), (q + d28 = 12) → (∀ (H : Heap) (locs : List Loc) (ls : Array Slot), g_P g ad dsX 55 M J H → va_S (g_A ad 55) s9.heap H locs → lv_has ls 7 [(5, .int (nI q)), (4, .int (nI ((best (pegX M k) q).2))), (3, .int (nI ((best (pegX M k) q).1))), (0, .ref (ad 0)), (1, .int (nI k)), (2, .int (nI 0))] → W p9 l e9 (g_rm 4) s9 m9 args9 below9 meth9 c9 H locs 0 0 (MQ below9 (va_Qi (fun r' (_ : Unit) => r' = (nI (best (pegX M k) 12).1)) (fun _ t => g_P g ad dsX 55 M J t.heap) (g_A ad 55)) args9 s9 0 0 (g_A ad 55)) (F0 m9 28 ls [])) := by
    intro d28
    induction d28 with
    | zero =>
      intro q h_q H locs ls hP hS hl
      refine lv_iload hx hb dX5_pegs_28 (lv_at hl 0 rfl) ?_
      refine lv_bipush (v := nI 12) hx hb dX5_pegs_30 (by decide) ?_
      refine x_zge (u := (q : Nat)) (v := (12 : Int)) (tgt := 74) hx hb (nI_toInt (by omega)) (rfl) dX5_pegs_32 (by decide) (fun h_3 => ?_) (fun h_3 => (by omega : False).elim)
      refine lv_iload_n hx hb dX5_pegs_74 rfl (lv_at hl 5 rfl) ?_
      refine x_yne (u := (0 : Int)) (tgt := 82) hx hb (rfl) dX5_pegs_75 (by decide) (fun h_4 => (by omega : False).elim) (fun h_4 => ?_)
      refine lv_iload_n hx hb dX5_pegs_78 rfl (lv_at hl 2 rfl) ?_
      refine lv_goto (tgt := 84) hx hb dX5_pegs_79 (by decide) ?_
      exact x_reti hx hb hr9 hlk9 hS hP (by rw [show q = 12 by omega]) dX5_pegs_84
    | succ d28 ih28 =>
      intro q h_q H locs ls hP hS hl
      have b1 := best_le (pegX M k) q
      have b2 := best_2 (pegX M k) q
      have b3 : pegX M k q ≤ 12 := cntN_le _ _
      refine lv_iload hx hb dX5_pegs_28 (lv_at hl 0 rfl) ?_
      refine lv_bipush (v := nI 12) hx hb dX5_pegs_30 (by decide) ?_
      refine x_zge (u := (q : Nat)) (v := (12 : Int)) (tgt := 74) hx hb (nI_toInt (by omega)) (rfl) dX5_pegs_32 (by decide) (fun h_5 => (by omega : False).elim) (fun h_5 => ?_)
      refine lv_aload_n hx hb dX5_pegs_35 rfl (lv_at hl 3 rfl) ?_
      refine x_getr CF hK hP 0 (by decide) dX_0 rfl uX5 0 (by decide) (j := 23) rfl wd1_164 rfl dX5_pegs_36 ?_
      refine lv_aload_n hx hb dX5_pegs_39 rfl (lv_at hl 3 rfl) ?_
      refine x_getr CF hK hP 0 (by decide) dX_0 rfl uX5 0 (by decide) (j := 23) rfl wd1_164 rfl dX5_pegs_40 ?_
      refine x_getr CF hK hP 23 (by decide) dX_23 rfl uX1 2 (by decide) (j := 31) rfl wd1_72 rfl dX5_pegs_43 ?_
      refine lv_iload_n hx hb dX5_pegs_46 rfl (lv_at hl 4 rfl) ?_
      refine x_aald CF hK hP 31 (by decide) (t := 0) dX_31 (by decide) k (by omega) (by decide) (j := (32 + k)) (oX_fig k (by omega)) dX5_pegs_47 ?_
      refine lv_iload hx hb dX5_pegs_48 (lv_at hl 0 rfl) ?_
      refine x_callVI CF hK hP hS hA hl (As := [.ref (ad (32 + k)), .int (nI q)]) (rest := []) (c_pegsBy hI M J hw k (by omega) q (by omega)) kw_X1_pegsBy wd2_208 (by decide) dX_23 rfl rfl ⟨Nat.le_of_ble_eq_true rfl, Nat.le_of_ble_eq_true rfl⟩ ⟨Nat.le_refl _, Nat.le_refl _⟩ (Nat.le_of_ble_eq_true rfl) dX5_pegs_50 (fun H locs hP hS => ?_)
      refine lv_istore (lv' := [(6, .int (nI (pegX M k q))), (5, .int (nI q)), (4, .int (nI ((best (pegX M k) q).2))), (3, .int (nI ((best (pegX M k) q).1))), (0, .ref (ad 0)), (1, .int (nI k)), (2, .int (nI 0))]) hx hb dX5_pegs_53 hl (by decide) rfl (fun ls hl => ?_)
      refine lv_iload hx hb dX5_pegs_55 (lv_at hl 0 rfl) ?_
      refine lv_iload_n hx hb dX5_pegs_57 rfl (lv_at hl 3 rfl) ?_
      refine x_zge (u := (pegX M k q : Nat)) (v := ((best (pegX M k) q).1 : Nat)) (tgt := 68) hx hb (nI_toInt (by omega)) (nI_toInt (by omega)) dX5_pegs_58 (by decide) (fun h_6 => ?_) (fun h_6 => ?_)
      · refine lv_iinc (v := nI (q + 1)) (lv' := [(5, .int (nI (q + 1))), (6, .int (nI (pegX M k q))), (4, .int (nI ((best (pegX M k) q).2))), (3, .int (nI ((best (pegX M k) q).1))), (0, .ref (ad 0)), (1, .int (nI k)), (2, .int (nI 0))]) hx hb dX5_pegs_68 hl (k := 1) rfl (n_inc q 1) (by decide) rfl (fun ls hl => ?_)
        refine lv_goto (tgt := 28) hx hb dX5_pegs_71 (by decide) ?_
        have hl0 : lv_has ls 7 [(5, .int (nI (q + 1))), (4, .int (nI ((best (pegX M k) (q + 1)).2))), (3, .int (nI ((best (pegX M k) (q + 1)).1))), (0, .ref (ad 0)), (1, .int (nI k)), (2, .int (nI 0))] := by rw [(show nI ((best (pegX M k) (q + 1)).2) = nI ((best (pegX M k) q).2) from by rw [best_f (by omega)]), (show nI ((best (pegX M k) (q + 1)).1) = nI ((best (pegX M k) q).1) from by rw [best_f (by omega)])]; exact lv_sub hl [0, 2, 3, 4, 5, 6] rfl
        exact ih28 (q + 1) (by omega) _ _ _ (hP) hS hl0
      · refine lv_iload hx hb dX5_pegs_61 (lv_at hl 0 rfl) ?_
        refine lv_istore_n (lv' := [(3, .int (nI (pegX M k q))), (6, .int (nI (pegX M k q))), (5, .int (nI q)), (4, .int (nI ((best (pegX M k) q).2))), (0, .ref (ad 0)), (1, .int (nI k)), (2, .int (nI 0))]) hx hb dX5_pegs_63 rfl hl (by decide) rfl (fun ls hl => ?_)
        refine lv_iload hx hb dX5_pegs_64 (lv_at hl 2 rfl) ?_
        refine lv_istore (lv' := [(4, .int (nI q)), (3, .int (nI (pegX M k q))), (6, .int (nI (pegX M k q))), (5, .int (nI q)), (0, .ref (ad 0)), (1, .int (nI k)), (2, .int (nI 0))]) hx hb dX5_pegs_66 hl (by decide) rfl (fun ls hl => ?_)
        refine lv_iinc (v := nI (q + 1)) (lv' := [(5, .int (nI (q + 1))), (4, .int (nI q)), (3, .int (nI (pegX M k q))), (6, .int (nI (pegX M k q))), (0, .ref (ad 0)), (1, .int (nI k)), (2, .int (nI 0))]) hx hb dX5_pegs_68 hl (k := 3) rfl (n_inc q 1) (by decide) rfl (fun ls hl => ?_)
        refine lv_goto (tgt := 28) hx hb dX5_pegs_71 (by decide) ?_
        have hl0 : lv_has ls 7 [(5, .int (nI (q + 1))), (4, .int (nI ((best (pegX M k) (q + 1)).2))), (3, .int (nI ((best (pegX M k) (q + 1)).1))), (0, .ref (ad 0)), (1, .int (nI k)), (2, .int (nI 0))] := by rw [(show nI ((best (pegX M k) (q + 1)).2) = nI q from by rw [best_t (by omega)]), (show nI ((best (pegX M k) (q + 1)).1) = nI (pegX M k q) from by rw [best_t (by omega)])]; exact lv_sub hl [0, 1, 2, 4, 5, 6] rfl
        exact ih28 (q + 1) (by omega) _ _ _ (hP) hS hl0
  have hl0 : lv_has ls 7 [(5, .int (nI 0)), (4, .int (nI ((best (pegX M k) 0).2))), (3, .int (nI ((best (pegX M k) 0).1))), (0, .ref (ad 0)), (1, .int (nI k)), (2, .int (nI 0))] := by rw [(show nI ((best (pegX M k) 0).2) = nI 0 from rfl), (show nI ((best (pegX M k) 0).1) = nI 13 from rfl)]; exact lv_sub hl [0, 1, 2, 3, 4, 5] rfl
  exact L28 12 0 (by omega) _ _ _ (hP) hS hl0
set_option maxHeartbeats 4000000 in
set_option maxRecDepth 100000 in
theorem f_pegs_1 {l : Launch} {g : gE} {ad : Nat → Nat} (hI : g_inj ad 55) (M : gMem) (J : gMeL) (hw : wfX M) (k : Nat) (hk : k < M 23 3) : CI l g ad dsX 55 yX5_pegs cX5_pegs 7 (some .int) 4 [.ref (ad 0), .int (nI k), .int (nI 1)] M J (nI (best (pegX M k) 12).2) M J := by
  refine CI.of (plainFor_of_name (by decide)) (Nat.le_of_ble_eq_true rfl) (fun p9 e9 s9 m9 args9 below9 meth9 c9 CF hK hr9 hlk9 hP hS ls hl => ?_)
  have hx := CF.1
  have hb := CF.2.1
  have hA : ∀ q, g_A ad 55 q → g_A ad 55 q := fun _ h => h
  have hl : lv_has ls 7 [(0, .ref (ad 0)), (1, .int (nI k)), (2, .int (nI 1))] := hl
  have hnc := hw.nc
  have hnf := hw.nf
  refine lv_aload_n hx hb dX5_pegs_0 rfl (lv_at hl 0 rfl) ?_
  refine lv_iload_n hx hb dX5_pegs_1 rfl (lv_at hl 1 rfl) ?_
  refine x_callVI CF hK hP hS hA hl (As := [.int (nI k)]) (rest := []) (c_isFigure_t hI M J k (by omega) (by omega)) kw_X5_isFigure wd2_27 (by decide) dX_0 rfl rfl ⟨Nat.le_of_ble_eq_true rfl, Nat.le_of_ble_eq_true rfl⟩ ⟨Nat.le_refl _, Nat.le_refl _⟩ (Nat.le_of_ble_eq_true rfl) dX5_pegs_2 (fun H locs hP hS => ?_)
  refine x_yeq (u := (1 : Int)) (tgt := 17) hx hb (rfl) dX5_pegs_5 (by decide) (fun h_1 => (by omega : False).elim) (fun h_1 => ?_)
  refine lv_iload_n hx hb dX5_pegs_8 rfl (lv_at hl 2 rfl) ?_
  refine lv_iconst (v := nI 0) hx hb dX5_pegs_9 (by decide) ?_
  refine lv_iconst (v := nI 1) hx hb dX5_pegs_10 (by decide) ?_
  refine x_callSP CF hK hP hS hl (As := [.int (nI 1), .int (nI 0), .int (nI 1)]) (rest := []) (c_isWithin_t _ _ _ (w_in (by omega) (by omega) (by omega))) kw_X5_isWithin wd1_190 rfl ⟨Nat.le_of_ble_eq_true rfl, Nat.le_of_ble_eq_true rfl⟩ ⟨Nat.le_refl _, Nat.le_refl _⟩ (Nat.le_of_ble_eq_true rfl) dX5_pegs_11 (fun H locs hP hS => ?_)
  refine x_yne (u := (1 : Int)) (tgt := 19) hx hb (rfl) dX5_pegs_14 (by decide) (fun h_2 => ?_) (fun h_2 => (by omega : False).elim)
  refine lv_bipush (v := nI 13) hx hb dX5_pegs_19 (by decide) ?_
  refine lv_istore_n (lv' := [(3, .int (nI 13)), (0, .ref (ad 0)), (1, .int (nI k)), (2, .int (nI 1))]) hx hb dX5_pegs_21 rfl hl (by decide) rfl (fun ls hl => ?_)
  refine lv_iconst (v := nI 0) hx hb dX5_pegs_22 (by decide) ?_
  refine lv_istore (lv' := [(4, .int (nI 0)), (3, .int (nI 13)), (0, .ref (ad 0)), (1, .int (nI k)), (2, .int (nI 1))]) hx hb dX5_pegs_23 hl (by decide) rfl (fun ls hl => ?_)
  refine lv_iconst (v := nI 0) hx hb dX5_pegs_25 (by decide) ?_
  refine lv_istore (lv' := [(5, .int (nI 0)), (4, .int (nI 0)), (3, .int (nI 13)), (0, .ref (ad 0)), (1, .int (nI k)), (2, .int (nI 1))]) hx hb dX5_pegs_26 hl (by decide) rfl (fun ls hl => ?_)
  have L28 : ∀ (d28 : Nat) (q : Nat), (q + d28 = 12) → (∀ (H : Heap) (locs : List Loc) (ls : Array Slot), g_P g ad dsX 55 M J H → va_S (g_A ad 55) s9.heap H locs → lv_has ls 7 [(5, .int (nI q)), (4, .int (nI ((best (pegX M k) q).2))), (3, .int (nI ((best (pegX M k) q).1))), (0, .ref (ad 0)), (1, .int (nI k)), (2, .int (nI 1))] → W p9 l e9 (g_rm 4) s9 m9 args9 below9 meth9 c9 H locs 0 0 (MQ below9 (va_Qi (fun r' (_ : Unit) => r' = (nI (best (pegX M k) 12).2)) (fun _ t => g_P g ad dsX 55 M J t.heap) (g_A ad 55)) args9 s9 0 0 (g_A ad 55)) (F0 m9 28 ls [])) := by
    intro d28
    induction d28 with
    | zero =>
      intro q h_q H locs ls hP hS hl
      refine lv_iload hx hb dX5_pegs_28 (lv_at hl 0 rfl) ?_
      refine lv_bipush (v := nI 12) hx hb dX5_pegs_30 (by decide) ?_
      refine x_zge (u := (q : Nat)) (v := (12 : Int)) (tgt := 74) hx hb (nI_toInt (by omega)) (rfl) dX5_pegs_32 (by decide) (fun h_3 => ?_) (fun h_3 => (by omega : False).elim)
      refine lv_iload_n hx hb dX5_pegs_74 rfl (lv_at hl 5 rfl) ?_
      refine x_yne (u := (1 : Int)) (tgt := 82) hx hb (rfl) dX5_pegs_75 (by decide) (fun h_4 => ?_) (fun h_4 => (by omega : False).elim)
      refine lv_iload hx hb dX5_pegs_82 (lv_at hl 1 rfl) ?_
      exact x_reti hx hb hr9 hlk9 hS hP (by rw [show q = 12 by omega]) dX5_pegs_84
    | succ d28 ih28 =>
      intro q h_q H locs ls hP hS hl
      have b1 := best_le (pegX M k) q
      have b2 := best_2 (pegX M k) q
      have b3 : pegX M k q ≤ 12 := cntN_le _ _
      refine lv_iload hx hb dX5_pegs_28 (lv_at hl 0 rfl) ?_
      refine lv_bipush (v := nI 12) hx hb dX5_pegs_30 (by decide) ?_
      refine x_zge (u := (q : Nat)) (v := (12 : Int)) (tgt := 74) hx hb (nI_toInt (by omega)) (rfl) dX5_pegs_32 (by decide) (fun h_5 => (by omega : False).elim) (fun h_5 => ?_)
      refine lv_aload_n hx hb dX5_pegs_35 rfl (lv_at hl 3 rfl) ?_
      refine x_getr CF hK hP 0 (by decide) dX_0 rfl uX5 0 (by decide) (j := 23) rfl wd1_164 rfl dX5_pegs_36 ?_
      refine lv_aload_n hx hb dX5_pegs_39 rfl (lv_at hl 3 rfl) ?_
      refine x_getr CF hK hP 0 (by decide) dX_0 rfl uX5 0 (by decide) (j := 23) rfl wd1_164 rfl dX5_pegs_40 ?_
      refine x_getr CF hK hP 23 (by decide) dX_23 rfl uX1 2 (by decide) (j := 31) rfl wd1_72 rfl dX5_pegs_43 ?_
      refine lv_iload_n hx hb dX5_pegs_46 rfl (lv_at hl 4 rfl) ?_
      refine x_aald CF hK hP 31 (by decide) (t := 0) dX_31 (by decide) k (by omega) (by decide) (j := (32 + k)) (oX_fig k (by omega)) dX5_pegs_47 ?_
      refine lv_iload hx hb dX5_pegs_48 (lv_at hl 0 rfl) ?_
      refine x_callVI CF hK hP hS hA hl (As := [.ref (ad (32 + k)), .int (nI q)]) (rest := []) (c_pegsBy hI M J hw k (by omega) q (by omega)) kw_X1_pegsBy wd2_208 (by decide) dX_23 rfl rfl ⟨Nat.le_of_ble_eq_true rfl, Nat.le_of_ble_eq_true rfl⟩ ⟨Nat.le_refl _, Nat.le_refl _⟩ (Nat.le_of_ble_eq_true rfl) dX5_pegs_50 (fun H locs hP hS => ?_)
      refine lv_istore (lv' := [(6, .int (nI (pegX M k q))), (5, .int (nI q)), (4, .int (nI ((best (pegX M k) q).2))), (3, .int (nI ((best (pegX M k) q).1))), (0, .ref (ad 0)), (1, .int (nI k)), (2, .int (nI 1))]) hx hb dX5_pegs_53 hl (by decide) rfl (fun ls hl => ?_)
      refine lv_iload hx hb dX5_pegs_55 (lv_at hl 0 rfl) ?_
      refine lv_iload_n hx hb dX5_pegs_57 rfl (lv_at hl 3 rfl) ?_
      refine x_zge (u := (pegX M k q : Nat)) (v := ((best (pegX M k) q).1 : Nat)) (tgt := 68) hx hb (nI_toInt (by omega)) (nI_toInt (by omega)) dX5_pegs_58 (by decide) (fun h_6 => ?_) (fun h_6 => ?_)
      · refine lv_iinc (v := nI (q + 1)) (lv' := [(5, .int (nI (q + 1))), (6, .int (nI (pegX M k q))), (4, .int (nI ((best (pegX M k) q).2))), (3, .int (nI ((best (pegX M k) q).1))), (0, .ref (ad 0)), (1, .int (nI k)), (2, .int (nI 1))]) hx hb dX5_pegs_68 hl (k := 1) rfl (n_inc q 1) (by decide) rfl (fun ls hl => ?_)
        refine lv_goto (tgt := 28) hx hb dX5_pegs_71 (by decide) ?_
        have hl0 : lv_has ls 7 [(5, .int (nI (q + 1))), (4, .int (nI ((best (pegX M k) (q + 1)).2))), (3, .int (nI ((best (pegX M k) (q + 1)).1))), (0, .ref (ad 0)), (1, .int (nI k)), (2, .int (nI 1))] := by rw [(show nI ((best (pegX M k) (q + 1)).2) = nI ((best (pegX M k) q).2) from by rw [best_f (by omega)]), (show nI ((best (pegX M k) (q + 1)).1) = nI ((best (pegX M k) q).1) from by rw [best_f (by omega)])]; exact lv_sub hl [0, 2, 3, 4, 5, 6] rfl
        exact ih28 (q + 1) (by omega) _ _ _ (hP) hS hl0
      · refine lv_iload hx hb dX5_pegs_61 (lv_at hl 0 rfl) ?_
        refine lv_istore_n (lv' := [(3, .int (nI (pegX M k q))), (6, .int (nI (pegX M k q))), (5, .int (nI q)), (4, .int (nI ((best (pegX M k) q).2))), (0, .ref (ad 0)), (1, .int (nI k)), (2, .int (nI 1))]) hx hb dX5_pegs_63 rfl hl (by decide) rfl (fun ls hl => ?_)
        refine lv_iload hx hb dX5_pegs_64 (lv_at hl 2 rfl) ?_
        refine lv_istore (lv' := [(4, .int (nI q)), (3, .int (nI (pegX M k q))), (6, .int (nI (pegX M k q))), (5, .int (nI q)), (0, .ref (ad 0)), (1, .int (nI k)), (2, .int (nI 1))]) hx hb dX5_pegs_66 hl (by decide) rfl (fun ls hl => ?_)
        refine lv_iinc (v := nI (q + 1)) (lv' := [(5, .int (nI (q + 1))), (4, .int (nI q)), (3, .int (nI (pegX M k q))), (6, .int (nI (pegX M k q))), (0, .ref (ad 0)), (1, .int (nI k)), (2, .int (nI 1))]) hx hb dX5_pegs_68 hl (k := 3) rfl (n_inc q 1) (by decide) rfl (fun ls hl => ?_)
        refine lv_goto (tgt := 28) hx hb dX5_pegs_71 (by decide) ?_
        have hl0 : lv_has ls 7 [(5, .int (nI (q + 1))), (4, .int (nI ((best (pegX M k) (q + 1)).2))), (3, .int (nI ((best (pegX M k) (q + 1)).1))), (0, .ref (ad 0)), (1, .int (nI k)), (2, .int (nI 1))] := by rw [(show nI ((best (pegX M k) (q + 1)).2) = nI q from by rw [best_t (by omega)]), (show nI ((best (pegX M k) (q + 1)).1) = nI (pegX M k q) from by rw [best_t (by omega)])]; exact lv_sub hl [0, 1, 2, 4, 5, 6] rfl
        exact ih28 (q + 1) (by omega) _ _ _ (hP) hS hl0
  have hl0 : lv_has ls 7 [(5, .int (nI 0)), (4, .int (nI ((best (pegX M k) 0).2))), (3, .int (nI ((best (pegX M k) 0).1))), (0, .ref (ad 0)), (1, .int (nI k)), (2, .int (nI 1))] := by rw [(show nI ((best (pegX M k) 0).2) = nI 0 from rfl), (show nI ((best (pegX M k) 0).1) = nI 13 from rfl)]; exact lv_sub hl [0, 1, 2, 3, 4, 5] rfl
  exact L28 12 0 (by omega) _ _ _ (hP) hS hl0
set_option maxHeartbeats 4000000 in
set_option maxRecDepth 100000 in
theorem f_pegs_bad {l : Launch} {g : gE} {ad : Nat → Nat} (hI : g_inj ad 55) (M : gMem) (J : gMeL) (hw : wfX M) (k w : Int32) (h : ¬ (inR k (M 23 3) ∧ inR w 2)) : CI l g ad dsX 55 yX5_pegs cX5_pegs 7 (some .int) 4 [.ref (ad 0), .int k, .int w] M J (nI 4294967295) M J := by
  refine CI.of (plainFor_of_name (by decide)) (Nat.le_of_ble_eq_true rfl) (fun p9 e9 s9 m9 args9 below9 meth9 c9 CF hK hr9 hlk9 hP hS ls hl => ?_)
  have hx := CF.1
  have hb := CF.2.1
  have hA : ∀ q, g_A ad 55 q → g_A ad 55 q := fun _ h => h
  have hl : lv_has ls 7 [(0, .ref (ad 0)), (1, .int k), (2, .int w)] := hl
  have hnc := hw.nc
  have hnf := hw.nf
  refine lv_aload_n hx hb dX5_pegs_0 rfl (lv_at hl 0 rfl) ?_
  refine lv_iload_n hx hb dX5_pegs_1 rfl (lv_at hl 1 rfl) ?_
  rcases n_int (x := k) (n := M 23 3) (by omega) with ⟨k1, h_k1, rfl⟩ | ho_k
  · refine x_callVI CF hK hP hS hA hl (As := [.int (nI k1)]) (rest := []) (c_isFigure_t hI M J k1 (by omega) (by omega)) kw_X5_isFigure wd2_27 (by decide) dX_0 rfl rfl ⟨Nat.le_of_ble_eq_true rfl, Nat.le_of_ble_eq_true rfl⟩ ⟨Nat.le_refl _, Nat.le_refl _⟩ (Nat.le_of_ble_eq_true rfl) dX5_pegs_2 (fun H locs hP hS => ?_)
    refine x_yeq (u := (1 : Int)) (tgt := 17) hx hb (rfl) dX5_pegs_5 (by decide) (fun h_1 => (by omega : False).elim) (fun h_1 => ?_)
    refine lv_iload_n hx hb dX5_pegs_8 rfl (lv_at hl 2 rfl) ?_
    refine lv_iconst (v := nI 0) hx hb dX5_pegs_9 (by decide) ?_
    refine lv_iconst (v := nI 1) hx hb dX5_pegs_10 (by decide) ?_
    rcases n_int (x := w) (n := 2) (by omega) with ⟨w1, h_w1, rfl⟩ | ho_w
    · refine x_callSP CF hK hP hS hl (As := [.int (nI w1), .int (nI 0), .int (nI 1)]) (rest := []) (c_isWithin_t _ _ _ (w_in (by omega) (by omega) (by omega))) kw_X5_isWithin wd1_190 rfl ⟨Nat.le_of_ble_eq_true rfl, Nat.le_of_ble_eq_true rfl⟩ ⟨Nat.le_refl _, Nat.le_refl _⟩ (Nat.le_of_ble_eq_true rfl) dX5_pegs_11 (fun H locs hP hS => ?_)
      refine x_yne (u := (1 : Int)) (tgt := 19) hx hb (rfl) dX5_pegs_14 (by decide) (fun h_2 => ?_) (fun h_2 => (by omega : False).elim)
      exact absurd ⟨inR_n h_k1 (by omega), inR_n h_w1 (by decide)⟩ h
    · refine x_callSP CF hK hP hS hl (As := [.int w, .int (nI 0), .int (nI 1)]) (rest := []) (c_isWithin_f _ _ _ (w_out (by omega) (by omega) (by omega))) kw_X5_isWithin wd1_190 rfl ⟨Nat.le_of_ble_eq_true rfl, Nat.le_of_ble_eq_true rfl⟩ ⟨Nat.le_refl _, Nat.le_refl _⟩ (Nat.le_of_ble_eq_true rfl) dX5_pegs_11 (fun H locs hP hS => ?_)
      refine x_yne (u := (0 : Int)) (tgt := 19) hx hb (rfl) dX5_pegs_14 (by decide) (fun h_3 => (by omega : False).elim) (fun h_3 => ?_)
      refine lv_iconst (v := nI 4294967295) hx hb dX5_pegs_17 (by decide) ?_
      exact x_reti hx hb hr9 hlk9 hS hP (by first | rfl | (show nI 4294967295 = nI 4294967295; first | rfl | omega)) dX5_pegs_18
  · refine x_callVI CF hK hP hS hA hl (As := [.int k]) (rest := []) (c_isFigure_f hI M J k ho_k (by omega)) kw_X5_isFigure wd2_27 (by decide) dX_0 rfl rfl ⟨Nat.le_of_ble_eq_true rfl, Nat.le_of_ble_eq_true rfl⟩ ⟨Nat.le_refl _, Nat.le_refl _⟩ (Nat.le_of_ble_eq_true rfl) dX5_pegs_2 (fun H locs hP hS => ?_)
    refine x_yeq (u := (0 : Int)) (tgt := 17) hx hb (rfl) dX5_pegs_5 (by decide) (fun h_4 => ?_) (fun h_4 => (by omega : False).elim)
    refine lv_iconst (v := nI 4294967295) hx hb dX5_pegs_17 (by decide) ?_
    exact x_reti hx hb hr9 hlk9 hS hP (by first | rfl | (show nI 4294967295 = nI 4294967295; first | rfl | omega)) dX5_pegs_18
set_option maxHeartbeats 4000000 in
set_option maxRecDepth 100000 in
theorem f_beats_ok {l : Launch} {g : gE} {ad : Nat → Nat} (hI : g_inj ad 55) (M : gMem) (J : gMeL) (hw : wfX M) (a v : Nat) (ha : a < 12) (h1 : 1 ≤ v) (h : v < 100) : CI l g ad dsX 55 yX5_beats cX5_beats 4 (some .int) 2 [.ref (ad 0), .int (nI a), .int (nI v)] M J (nI (M 37 a)) (u2 M 37 a v) J := by
  refine CI.of (plainFor_of_name (by decide)) (Nat.le_of_ble_eq_true rfl) (fun p9 e9 s9 m9 args9 below9 meth9 c9 CF hK hr9 hlk9 hP hS ls hl => ?_)
  have hx := CF.1
  have hb := CF.2.1
  have hA : ∀ q, g_A ad 55 q → g_A ad 55 q := fun _ h => h
  have hl : lv_has ls 4 [(0, .ref (ad 0)), (1, .int (nI a)), (2, .int (nI v))] := hl
  have hnc := hw.nc
  have hnf := hw.nf
  refine lv_iload_n hx hb dX5_beats_0 rfl (lv_at hl 1 rfl) ?_
  refine x_callSP CF hK hP hS hl (As := [.int (nI a)]) (rest := []) (c_isAngle_t a (by omega)) kw_X5_isAngle wd2_2 rfl ⟨Nat.le_of_ble_eq_true rfl, Nat.le_of_ble_eq_true rfl⟩ ⟨Nat.le_refl _, Nat.le_refl _⟩ (Nat.le_of_ble_eq_true rfl) dX5_beats_1 (fun H locs hP hS => ?_)
  refine x_yeq (u := (1 : Int)) (tgt := 17) hx hb (rfl) dX5_beats_4 (by decide) (fun h_1 => (by omega : False).elim) (fun h_1 => ?_)
  refine lv_iload_n hx hb dX5_beats_7 rfl (lv_at hl 2 rfl) ?_
  refine lv_iconst (v := nI 1) hx hb dX5_beats_8 (by decide) ?_
  refine lv_bipush (v := nI 99) hx hb dX5_beats_9 (by decide) ?_
  refine x_callSP CF hK hP hS hl (As := [.int (nI v), .int (nI 1), .int (nI 99)]) (rest := []) (c_isWithin_t _ _ _ (w_in (by omega) (by omega) (by omega))) kw_X5_isWithin wd1_190 rfl ⟨Nat.le_of_ble_eq_true rfl, Nat.le_of_ble_eq_true rfl⟩ ⟨Nat.le_refl _, Nat.le_refl _⟩ (Nat.le_of_ble_eq_true rfl) dX5_beats_11 (fun H locs hP hS => ?_)
  refine x_yne (u := (1 : Int)) (tgt := 19) hx hb (rfl) dX5_beats_14 (by decide) (fun h_2 => ?_) (fun h_2 => (by omega : False).elim)
  refine lv_aload_n hx hb dX5_beats_19 rfl (lv_at hl 0 rfl) ?_
  refine x_getr CF hK hP 0 (by decide) dX_0 rfl uX5 0 (by decide) (j := 23) rfl wd1_164 rfl dX5_beats_20 ?_
  refine x_getr CF hK hP 23 (by decide) dX_23 rfl uX1 8 (by decide) (j := 37) rfl wd1_84 rfl dX5_beats_23 ?_
  refine lv_iload_n hx hb dX5_beats_26 rfl (lv_at hl 1 rfl) ?_
  refine x_iald CF hK hP 37 (by decide) dX_37 a (by omega) (by decide) dX5_beats_27 ?_
  refine lv_istore_n (lv' := [(3, .int (nI (M 37 a))), (0, .ref (ad 0)), (1, .int (nI a)), (2, .int (nI v))]) hx hb dX5_beats_28 rfl hl (by decide) rfl (fun ls hl => ?_)
  refine lv_aload_n hx hb dX5_beats_29 rfl (lv_at hl 1 rfl) ?_
  refine x_getr CF hK hP 0 (by decide) dX_0 rfl uX5 0 (by decide) (j := 23) rfl wd1_164 rfl dX5_beats_30 ?_
  refine x_getr CF hK hP 23 (by decide) dX_23 rfl uX1 8 (by decide) (j := 37) rfl wd1_84 rfl dX5_beats_33 ?_
  refine lv_iload_n hx hb dX5_beats_36 rfl (lv_at hl 2 rfl) ?_
  refine lv_iload_n hx hb dX5_beats_37 rfl (lv_at hl 3 rfl) ?_
  refine x_iast CF hK hI hA hP hS 37 (by decide) dX_37 a (by omega) (by decide) v dX5_beats_38 (fun H locs hP hS => ?_)
  refine lv_iload_n hx hb dX5_beats_39 rfl (lv_at hl 0 rfl) ?_
  exact x_reti hx hb hr9 hlk9 hS hP (by first | rfl | (show nI (M 37 a) = nI (M 37 a); first | rfl | omega)) dX5_beats_40
set_option maxHeartbeats 4000000 in
set_option maxRecDepth 100000 in
theorem f_beats_bad {l : Launch} {g : gE} {ad : Nat → Nat} (hI : g_inj ad 55) (M : gMem) (J : gMeL) (a v : Int32) (h : ¬ (inR a 12 ∧ inR1 v 100)) : CI l g ad dsX 55 yX5_beats cX5_beats 4 (some .int) 2 [.ref (ad 0), .int a, .int v] M J (nI 4294967295) M J := by
  refine CI.of (plainFor_of_name (by decide)) (Nat.le_of_ble_eq_true rfl) (fun p9 e9 s9 m9 args9 below9 meth9 c9 CF hK hr9 hlk9 hP hS ls hl => ?_)
  have hx := CF.1
  have hb := CF.2.1
  have hA : ∀ q, g_A ad 55 q → g_A ad 55 q := fun _ h => h
  have hl : lv_has ls 4 [(0, .ref (ad 0)), (1, .int a), (2, .int v)] := hl
  refine lv_iload_n hx hb dX5_beats_0 rfl (lv_at hl 1 rfl) ?_
  rcases n_int (x := a) (n := 12) (by omega) with ⟨a1, h_a1, rfl⟩ | ho_a
  · refine x_callSP CF hK hP hS hl (As := [.int (nI a1)]) (rest := []) (c_isAngle_t a1 (by omega)) kw_X5_isAngle wd2_2 rfl ⟨Nat.le_of_ble_eq_true rfl, Nat.le_of_ble_eq_true rfl⟩ ⟨Nat.le_refl _, Nat.le_refl _⟩ (Nat.le_of_ble_eq_true rfl) dX5_beats_1 (fun H locs hP hS => ?_)
    refine x_yeq (u := (1 : Int)) (tgt := 17) hx hb (rfl) dX5_beats_4 (by decide) (fun h_1 => (by omega : False).elim) (fun h_1 => ?_)
    refine lv_iload_n hx hb dX5_beats_7 rfl (lv_at hl 2 rfl) ?_
    refine lv_iconst (v := nI 1) hx hb dX5_beats_8 (by decide) ?_
    refine lv_bipush (v := nI 99) hx hb dX5_beats_9 (by decide) ?_
    rcases n_int1 (x := v) (n := 100) (by omega) with ⟨v1, g_v1, h_v1, rfl⟩ | ho_v
    · refine x_callSP CF hK hP hS hl (As := [.int (nI v1), .int (nI 1), .int (nI 99)]) (rest := []) (c_isWithin_t _ _ _ (w_in (by omega) (by omega) (by omega))) kw_X5_isWithin wd1_190 rfl ⟨Nat.le_of_ble_eq_true rfl, Nat.le_of_ble_eq_true rfl⟩ ⟨Nat.le_refl _, Nat.le_refl _⟩ (Nat.le_of_ble_eq_true rfl) dX5_beats_11 (fun H locs hP hS => ?_)
      refine x_yne (u := (1 : Int)) (tgt := 19) hx hb (rfl) dX5_beats_14 (by decide) (fun h_2 => ?_) (fun h_2 => (by omega : False).elim)
      exact absurd ⟨inR_n h_a1 (by decide), inR1_n g_v1 h_v1 (by decide)⟩ h
    · refine x_callSP CF hK hP hS hl (As := [.int v, .int (nI 1), .int (nI 99)]) (rest := []) (c_isWithin_f _ _ _ (w_out (by omega) (by omega) (by omega))) kw_X5_isWithin wd1_190 rfl ⟨Nat.le_of_ble_eq_true rfl, Nat.le_of_ble_eq_true rfl⟩ ⟨Nat.le_refl _, Nat.le_refl _⟩ (Nat.le_of_ble_eq_true rfl) dX5_beats_11 (fun H locs hP hS => ?_)
      refine x_yne (u := (0 : Int)) (tgt := 19) hx hb (rfl) dX5_beats_14 (by decide) (fun h_3 => (by omega : False).elim) (fun h_3 => ?_)
      refine lv_iconst (v := nI 4294967295) hx hb dX5_beats_17 (by decide) ?_
      exact x_reti hx hb hr9 hlk9 hS hP (by first | rfl | (show nI 4294967295 = nI 4294967295; first | rfl | omega)) dX5_beats_18
  · refine x_callSP CF hK hP hS hl (As := [.int a]) (rest := []) (c_isAngle_f a ho_a) kw_X5_isAngle wd2_2 rfl ⟨Nat.le_of_ble_eq_true rfl, Nat.le_of_ble_eq_true rfl⟩ ⟨Nat.le_refl _, Nat.le_refl _⟩ (Nat.le_of_ble_eq_true rfl) dX5_beats_1 (fun H locs hP hS => ?_)
    refine x_yeq (u := (0 : Int)) (tgt := 17) hx hb (rfl) dX5_beats_4 (by decide) (fun h_4 => ?_) (fun h_4 => (by omega : False).elim)
    refine lv_iconst (v := nI 4294967295) hx hb dX5_beats_17 (by decide) ?_
    exact x_reti hx hb hr9 hlk9 hS hP (by first | rfl | (show nI 4294967295 = nI 4294967295; first | rfl | omega)) dX5_beats_18
set_option maxHeartbeats 4000000 in
set_option maxRecDepth 100000 in
theorem f_when_ok {l : Launch} {g : gE} {ad : Nat → Nat} (hI : g_inj ad 55) (M : gMem) (J : gMeL) (hw : wfX M) (a : Nat) (ha : a < 12) : CI l g ad dsX 55 yX5_when cX5_when 2 (some .int) 4 [.ref (ad 0), .int (nI a)] M J (nI (bts (M 37) (M 23 5) a (M 23 6) 12)) M J := by
  refine CI.of (plainFor_of_name (by decide)) (Nat.le_of_ble_eq_true rfl) (fun p9 e9 s9 m9 args9 below9 meth9 c9 CF hK hr9 hlk9 hP hS ls hl => ?_)
  have hx := CF.1
  have hb := CF.2.1
  have hA : ∀ q, g_A ad 55 q → g_A ad 55 q := fun _ h => h
  have hl : lv_has ls 2 [(0, .ref (ad 0)), (1, .int (nI a))] := hl
  have hnc := hw.nc
  have hnf := hw.nf
  refine lv_iload_n hx hb dX5_when_0 rfl (lv_at hl 1 rfl) ?_
  refine x_callSP CF hK hP hS hl (As := [.int (nI a)]) (rest := []) (c_isAngle_t a (by omega)) kw_X5_isAngle wd2_2 rfl ⟨Nat.le_of_ble_eq_true rfl, Nat.le_of_ble_eq_true rfl⟩ ⟨Nat.le_refl _, Nat.le_refl _⟩ (Nat.le_of_ble_eq_true rfl) dX5_when_1 (fun H locs hP hS => ?_)
  refine x_yne (u := (1 : Int)) (tgt := 9) hx hb (rfl) dX5_when_4 (by decide) (fun h_1 => ?_) (fun h_1 => (by omega : False).elim)
  refine lv_aload_n hx hb dX5_when_9 rfl (lv_at hl 0 rfl) ?_
  refine x_getr CF hK hP 0 (by decide) dX_0 rfl uX5 0 (by decide) (j := 23) rfl wd1_164 rfl dX5_when_10 ?_
  refine lv_iload_n hx hb dX5_when_13 rfl (lv_at hl 1 rfl) ?_
  refine x_callVI CF hK hP hS hA hl (As := [.int (nI a)]) (rest := []) (c_beatsTill hI M J hw a (by omega)) kw_X1_beatsTill wd2_221 (by decide) dX_23 rfl rfl ⟨Nat.le_of_ble_eq_true rfl, Nat.le_of_ble_eq_true rfl⟩ ⟨Nat.le_refl _, Nat.le_refl _⟩ (Nat.le_of_ble_eq_true rfl) dX5_when_14 (fun H locs hP hS => ?_)
  exact x_reti hx hb hr9 hlk9 hS hP (by first | rfl | (show nI (bts (M 37) (M 23 5) a (M 23 6) 12) = nI (bts (M 37) (M 23 5) a (M 23 6) 12); first | rfl | omega)) dX5_when_17
set_option maxHeartbeats 4000000 in
set_option maxRecDepth 100000 in
theorem f_when_bad {l : Launch} {g : gE} {ad : Nat → Nat} (hI : g_inj ad 55) (M : gMem) (J : gMeL) (a : Int32) (h : ¬ inR a 12) : CI l g ad dsX 55 yX5_when cX5_when 2 (some .int) 4 [.ref (ad 0), .int a] M J (nI 4294967295) M J := by
  refine CI.of (plainFor_of_name (by decide)) (Nat.le_of_ble_eq_true rfl) (fun p9 e9 s9 m9 args9 below9 meth9 c9 CF hK hr9 hlk9 hP hS ls hl => ?_)
  have hx := CF.1
  have hb := CF.2.1
  have hA : ∀ q, g_A ad 55 q → g_A ad 55 q := fun _ h => h
  have hl : lv_has ls 2 [(0, .ref (ad 0)), (1, .int a)] := hl
  refine lv_iload_n hx hb dX5_when_0 rfl (lv_at hl 1 rfl) ?_
  rcases n_int (x := a) (n := 12) (by omega) with ⟨a1, h_a1, rfl⟩ | ho_a
  · refine x_callSP CF hK hP hS hl (As := [.int (nI a1)]) (rest := []) (c_isAngle_t a1 (by omega)) kw_X5_isAngle wd2_2 rfl ⟨Nat.le_of_ble_eq_true rfl, Nat.le_of_ble_eq_true rfl⟩ ⟨Nat.le_refl _, Nat.le_refl _⟩ (Nat.le_of_ble_eq_true rfl) dX5_when_1 (fun H locs hP hS => ?_)
    refine x_yne (u := (1 : Int)) (tgt := 9) hx hb (rfl) dX5_when_4 (by decide) (fun h_1 => ?_) (fun h_1 => (by omega : False).elim)
    exact absurd (inR_n h_a1 (by decide)) h
  · refine x_callSP CF hK hP hS hl (As := [.int a]) (rest := []) (c_isAngle_f a ho_a) kw_X5_isAngle wd2_2 rfl ⟨Nat.le_of_ble_eq_true rfl, Nat.le_of_ble_eq_true rfl⟩ ⟨Nat.le_refl _, Nat.le_refl _⟩ (Nat.le_of_ble_eq_true rfl) dX5_when_1 (fun H locs hP hS => ?_)
    refine x_yne (u := (0 : Int)) (tgt := 9) hx hb (rfl) dX5_when_4 (by decide) (fun h_2 => (by omega : False).elim) (fun h_2 => ?_)
    refine lv_iconst (v := nI 4294967295) hx hb dX5_when_7 (by decide) ?_
    exact x_reti hx hb hr9 hlk9 hS hP (by first | rfl | (show nI 4294967295 = nI 4294967295; first | rfl | omega)) dX5_when_8
set_option maxHeartbeats 4000000 in
set_option maxRecDepth 100000 in
theorem f_at_ok {l : Launch} {g : gE} {ad : Nat → Nat} (hI : g_inj ad 55) (M : gMem) (J : gMeL) (hw : wfX M) (b : Nat) (h : b < 100000) : CI l g ad dsX 55 yX5_at cX5_at 2 (some .int) 4 [.ref (ad 0), .int (nI b)] M J (nI (aftX M b)) M J := by
  refine CI.of (plainFor_of_name (by decide)) (Nat.le_of_ble_eq_true rfl) (fun p9 e9 s9 m9 args9 below9 meth9 c9 CF hK hr9 hlk9 hP hS ls hl => ?_)
  have hx := CF.1
  have hb := CF.2.1
  have hA : ∀ q, g_A ad 55 q → g_A ad 55 q := fun _ h => h
  have hl : lv_has ls 2 [(0, .ref (ad 0)), (1, .int (nI b))] := hl
  have hnc := hw.nc
  have hnf := hw.nf
  refine lv_iload_n hx hb dX5_at_0 rfl (lv_at hl 1 rfl) ?_
  refine lv_iconst (v := nI 0) hx hb dX5_at_1 (by decide) ?_
  refine lv_ldc (v := nI 99999) hx hb CF.2.2.2.1 (CF.2.2.2.2 _ (List.mem_cons_of_mem _ wd2_229)) dX5_at_2 ?_
  refine x_callSP CF hK hP hS hl (As := [.int (nI b), .int (nI 0), .int (nI 99999)]) (rest := []) (c_isWithin_t _ _ _ (w_in (by omega) (by omega) (by omega))) kw_X5_isWithin wd1_190 rfl ⟨Nat.le_of_ble_eq_true rfl, Nat.le_of_ble_eq_true rfl⟩ ⟨Nat.le_refl _, Nat.le_refl _⟩ (Nat.le_of_ble_eq_true rfl) dX5_at_4 (fun H locs hP hS => ?_)
  refine x_yne (u := (1 : Int)) (tgt := 12) hx hb (rfl) dX5_at_7 (by decide) (fun h_1 => ?_) (fun h_1 => (by omega : False).elim)
  refine lv_aload_n hx hb dX5_at_12 rfl (lv_at hl 0 rfl) ?_
  refine x_getr CF hK hP 0 (by decide) dX_0 rfl uX5 0 (by decide) (j := 23) rfl wd1_164 rfl dX5_at_13 ?_
  refine lv_iload_n hx hb dX5_at_16 rfl (lv_at hl 1 rfl) ?_
  refine x_callVI CF hK hP hS hA hl (As := [.int (nI b)]) (rest := []) (c_angleAfter hI M J hw b (by omega)) kw_X1_angleAfter wd2_230 (by decide) dX_23 rfl rfl ⟨Nat.le_of_ble_eq_true rfl, Nat.le_of_ble_eq_true rfl⟩ ⟨Nat.le_refl _, Nat.le_refl _⟩ (Nat.le_of_ble_eq_true rfl) dX5_at_17 (fun H locs hP hS => ?_)
  exact x_reti hx hb hr9 hlk9 hS hP (by first | rfl | (show nI (aftX M b) = nI (aftX M b); first | rfl | omega)) dX5_at_20
set_option maxHeartbeats 4000000 in
set_option maxRecDepth 100000 in
theorem f_at_bad {l : Launch} {g : gE} {ad : Nat → Nat} (hI : g_inj ad 55) (M : gMem) (J : gMeL) (b : Int32) (h : ¬ inR b 100000) : CI l g ad dsX 55 yX5_at cX5_at 2 (some .int) 4 [.ref (ad 0), .int b] M J (nI 4294967295) M J := by
  refine CI.of (plainFor_of_name (by decide)) (Nat.le_of_ble_eq_true rfl) (fun p9 e9 s9 m9 args9 below9 meth9 c9 CF hK hr9 hlk9 hP hS ls hl => ?_)
  have hx := CF.1
  have hb := CF.2.1
  have hA : ∀ q, g_A ad 55 q → g_A ad 55 q := fun _ h => h
  have hl : lv_has ls 2 [(0, .ref (ad 0)), (1, .int b)] := hl
  refine lv_iload_n hx hb dX5_at_0 rfl (lv_at hl 1 rfl) ?_
  refine lv_iconst (v := nI 0) hx hb dX5_at_1 (by decide) ?_
  refine lv_ldc (v := nI 99999) hx hb CF.2.2.2.1 (CF.2.2.2.2 _ (List.mem_cons_of_mem _ wd2_229)) dX5_at_2 ?_
  rcases n_int (x := b) (n := 100000) (by omega) with ⟨b1, h_b1, rfl⟩ | ho_b
  · refine x_callSP CF hK hP hS hl (As := [.int (nI b1), .int (nI 0), .int (nI 99999)]) (rest := []) (c_isWithin_t _ _ _ (w_in (by omega) (by omega) (by omega))) kw_X5_isWithin wd1_190 rfl ⟨Nat.le_of_ble_eq_true rfl, Nat.le_of_ble_eq_true rfl⟩ ⟨Nat.le_refl _, Nat.le_refl _⟩ (Nat.le_of_ble_eq_true rfl) dX5_at_4 (fun H locs hP hS => ?_)
    refine x_yne (u := (1 : Int)) (tgt := 12) hx hb (rfl) dX5_at_7 (by decide) (fun h_1 => ?_) (fun h_1 => (by omega : False).elim)
    exact absurd (inR_n h_b1 (by decide)) h
  · refine x_callSP CF hK hP hS hl (As := [.int b, .int (nI 0), .int (nI 99999)]) (rest := []) (c_isWithin_f _ _ _ (w_out (by omega) (by omega) (by omega))) kw_X5_isWithin wd1_190 rfl ⟨Nat.le_of_ble_eq_true rfl, Nat.le_of_ble_eq_true rfl⟩ ⟨Nat.le_refl _, Nat.le_refl _⟩ (Nat.le_of_ble_eq_true rfl) dX5_at_4 (fun H locs hP hS => ?_)
    refine x_yne (u := (0 : Int)) (tgt := 12) hx hb (rfl) dX5_at_7 (by decide) (fun h_2 => (by omega : False).elim) (fun h_2 => ?_)
    refine lv_iconst (v := nI 4294967295) hx hb dX5_at_10 (by decide) ?_
    exact x_reti hx hb hr9 hlk9 hS hP (by first | rfl | (show nI 4294967295 = nI 4294967295; first | rfl | omega)) dX5_at_11
set_option maxHeartbeats 4000000 in
set_option maxRecDepth 100000 in
theorem f_hand_ok {l : Launch} {g : gE} {ad : Nat → Nat} (hI : g_inj ad 55) (M : gMem) (J : gMeL) (hw : wfX M) (k v : Nat) (hk : k < 4) (h : v < 1024) : CI l g ad dsX 55 yX5_hand cX5_hand 4 (some .int) 2 [.ref (ad 0), .int (nI k), .int (nI v)] M J (nI (M 38 k)) (u2 M 38 k v) J := by
  refine CI.of (plainFor_of_name (by decide)) (Nat.le_of_ble_eq_true rfl) (fun p9 e9 s9 m9 args9 below9 meth9 c9 CF hK hr9 hlk9 hP hS ls hl => ?_)
  have hx := CF.1
  have hb := CF.2.1
  have hA : ∀ q, g_A ad 55 q → g_A ad 55 q := fun _ h => h
  have hl : lv_has ls 4 [(0, .ref (ad 0)), (1, .int (nI k)), (2, .int (nI v))] := hl
  have hnc := hw.nc
  have hnf := hw.nf
  refine lv_iload_n hx hb dX5_hand_0 rfl (lv_at hl 1 rfl) ?_
  refine lv_iconst (v := nI 0) hx hb dX5_hand_1 (by decide) ?_
  refine lv_iconst (v := nI 3) hx hb dX5_hand_2 (by decide) ?_
  refine x_callSP CF hK hP hS hl (As := [.int (nI k), .int (nI 0), .int (nI 3)]) (rest := []) (c_isWithin_t _ _ _ (w_in (by omega) (by omega) (by omega))) kw_X5_isWithin wd1_190 rfl ⟨Nat.le_of_ble_eq_true rfl, Nat.le_of_ble_eq_true rfl⟩ ⟨Nat.le_refl _, Nat.le_refl _⟩ (Nat.le_of_ble_eq_true rfl) dX5_hand_3 (fun H locs hP hS => ?_)
  refine x_yeq (u := (1 : Int)) (tgt := 20) hx hb (rfl) dX5_hand_6 (by decide) (fun h_1 => (by omega : False).elim) (fun h_1 => ?_)
  refine lv_iload_n hx hb dX5_hand_9 rfl (lv_at hl 2 rfl) ?_
  refine lv_iconst (v := nI 0) hx hb dX5_hand_10 (by decide) ?_
  refine lv_sipush (v := nI 1023) hx hb dX5_hand_11 (by decide) ?_
  refine x_callSP CF hK hP hS hl (As := [.int (nI v), .int (nI 0), .int (nI 1023)]) (rest := []) (c_isWithin_t _ _ _ (w_in (by omega) (by omega) (by omega))) kw_X5_isWithin wd1_190 rfl ⟨Nat.le_of_ble_eq_true rfl, Nat.le_of_ble_eq_true rfl⟩ ⟨Nat.le_refl _, Nat.le_refl _⟩ (Nat.le_of_ble_eq_true rfl) dX5_hand_14 (fun H locs hP hS => ?_)
  refine x_yne (u := (1 : Int)) (tgt := 22) hx hb (rfl) dX5_hand_17 (by decide) (fun h_2 => ?_) (fun h_2 => (by omega : False).elim)
  refine lv_aload_n hx hb dX5_hand_22 rfl (lv_at hl 0 rfl) ?_
  refine x_getr CF hK hP 0 (by decide) dX_0 rfl uX5 0 (by decide) (j := 23) rfl wd1_164 rfl dX5_hand_23 ?_
  refine x_getr CF hK hP 23 (by decide) dX_23 rfl uX1 9 (by decide) (j := 38) rfl wd1_86 rfl dX5_hand_26 ?_
  refine lv_iload_n hx hb dX5_hand_29 rfl (lv_at hl 1 rfl) ?_
  refine x_iald CF hK hP 38 (by decide) dX_38 k (by omega) (by decide) dX5_hand_30 ?_
  refine lv_istore_n (lv' := [(3, .int (nI (M 38 k))), (0, .ref (ad 0)), (1, .int (nI k)), (2, .int (nI v))]) hx hb dX5_hand_31 rfl hl (by decide) rfl (fun ls hl => ?_)
  refine lv_aload_n hx hb dX5_hand_32 rfl (lv_at hl 1 rfl) ?_
  refine x_getr CF hK hP 0 (by decide) dX_0 rfl uX5 0 (by decide) (j := 23) rfl wd1_164 rfl dX5_hand_33 ?_
  refine x_getr CF hK hP 23 (by decide) dX_23 rfl uX1 9 (by decide) (j := 38) rfl wd1_86 rfl dX5_hand_36 ?_
  refine lv_iload_n hx hb dX5_hand_39 rfl (lv_at hl 2 rfl) ?_
  refine lv_iload_n hx hb dX5_hand_40 rfl (lv_at hl 3 rfl) ?_
  refine x_iast CF hK hI hA hP hS 38 (by decide) dX_38 k (by omega) (by decide) v dX5_hand_41 (fun H locs hP hS => ?_)
  refine lv_iload_n hx hb dX5_hand_42 rfl (lv_at hl 0 rfl) ?_
  exact x_reti hx hb hr9 hlk9 hS hP (by first | rfl | (show nI (M 38 k) = nI (M 38 k); first | rfl | omega)) dX5_hand_43
set_option maxHeartbeats 4000000 in
set_option maxRecDepth 100000 in
theorem f_hand_bad {l : Launch} {g : gE} {ad : Nat → Nat} (hI : g_inj ad 55) (M : gMem) (J : gMeL) (k v : Int32) (h : ¬ (inR k 4 ∧ inR v 1024)) : CI l g ad dsX 55 yX5_hand cX5_hand 4 (some .int) 2 [.ref (ad 0), .int k, .int v] M J (nI 4294967295) M J := by
  refine CI.of (plainFor_of_name (by decide)) (Nat.le_of_ble_eq_true rfl) (fun p9 e9 s9 m9 args9 below9 meth9 c9 CF hK hr9 hlk9 hP hS ls hl => ?_)
  have hx := CF.1
  have hb := CF.2.1
  have hA : ∀ q, g_A ad 55 q → g_A ad 55 q := fun _ h => h
  have hl : lv_has ls 4 [(0, .ref (ad 0)), (1, .int k), (2, .int v)] := hl
  refine lv_iload_n hx hb dX5_hand_0 rfl (lv_at hl 1 rfl) ?_
  refine lv_iconst (v := nI 0) hx hb dX5_hand_1 (by decide) ?_
  refine lv_iconst (v := nI 3) hx hb dX5_hand_2 (by decide) ?_
  rcases n_int (x := k) (n := 4) (by omega) with ⟨k1, h_k1, rfl⟩ | ho_k
  · refine x_callSP CF hK hP hS hl (As := [.int (nI k1), .int (nI 0), .int (nI 3)]) (rest := []) (c_isWithin_t _ _ _ (w_in (by omega) (by omega) (by omega))) kw_X5_isWithin wd1_190 rfl ⟨Nat.le_of_ble_eq_true rfl, Nat.le_of_ble_eq_true rfl⟩ ⟨Nat.le_refl _, Nat.le_refl _⟩ (Nat.le_of_ble_eq_true rfl) dX5_hand_3 (fun H locs hP hS => ?_)
    refine x_yeq (u := (1 : Int)) (tgt := 20) hx hb (rfl) dX5_hand_6 (by decide) (fun h_1 => (by omega : False).elim) (fun h_1 => ?_)
    refine lv_iload_n hx hb dX5_hand_9 rfl (lv_at hl 2 rfl) ?_
    refine lv_iconst (v := nI 0) hx hb dX5_hand_10 (by decide) ?_
    refine lv_sipush (v := nI 1023) hx hb dX5_hand_11 (by decide) ?_
    rcases n_int (x := v) (n := 1024) (by omega) with ⟨v1, h_v1, rfl⟩ | ho_v
    · refine x_callSP CF hK hP hS hl (As := [.int (nI v1), .int (nI 0), .int (nI 1023)]) (rest := []) (c_isWithin_t _ _ _ (w_in (by omega) (by omega) (by omega))) kw_X5_isWithin wd1_190 rfl ⟨Nat.le_of_ble_eq_true rfl, Nat.le_of_ble_eq_true rfl⟩ ⟨Nat.le_refl _, Nat.le_refl _⟩ (Nat.le_of_ble_eq_true rfl) dX5_hand_14 (fun H locs hP hS => ?_)
      refine x_yne (u := (1 : Int)) (tgt := 22) hx hb (rfl) dX5_hand_17 (by decide) (fun h_2 => ?_) (fun h_2 => (by omega : False).elim)
      exact absurd ⟨inR_n h_k1 (by decide), inR_n h_v1 (by decide)⟩ h
    · refine x_callSP CF hK hP hS hl (As := [.int v, .int (nI 0), .int (nI 1023)]) (rest := []) (c_isWithin_f _ _ _ (w_out (by omega) (by omega) (by omega))) kw_X5_isWithin wd1_190 rfl ⟨Nat.le_of_ble_eq_true rfl, Nat.le_of_ble_eq_true rfl⟩ ⟨Nat.le_refl _, Nat.le_refl _⟩ (Nat.le_of_ble_eq_true rfl) dX5_hand_14 (fun H locs hP hS => ?_)
      refine x_yne (u := (0 : Int)) (tgt := 22) hx hb (rfl) dX5_hand_17 (by decide) (fun h_3 => (by omega : False).elim) (fun h_3 => ?_)
      refine lv_iconst (v := nI 4294967295) hx hb dX5_hand_20 (by decide) ?_
      exact x_reti hx hb hr9 hlk9 hS hP (by first | rfl | (show nI 4294967295 = nI 4294967295; first | rfl | omega)) dX5_hand_21
  · refine x_callSP CF hK hP hS hl (As := [.int k, .int (nI 0), .int (nI 3)]) (rest := []) (c_isWithin_f _ _ _ (w_out (by omega) (by omega) (by omega))) kw_X5_isWithin wd1_190 rfl ⟨Nat.le_of_ble_eq_true rfl, Nat.le_of_ble_eq_true rfl⟩ ⟨Nat.le_refl _, Nat.le_refl _⟩ (Nat.le_of_ble_eq_true rfl) dX5_hand_3 (fun H locs hP hS => ?_)
    refine x_yeq (u := (0 : Int)) (tgt := 20) hx hb (rfl) dX5_hand_6 (by decide) (fun h_4 => ?_) (fun h_4 => (by omega : False).elim)
    refine lv_iconst (v := nI 4294967295) hx hb dX5_hand_20 (by decide) ?_
    exact x_reti hx hb hr9 hlk9 hS hP (by first | rfl | (show nI 4294967295 = nI 4294967295; first | rfl | omega)) dX5_hand_21
set_option maxHeartbeats 4000000 in
set_option maxRecDepth 100000 in
theorem f_whose_ok {l : Launch} {g : gE} {ad : Nat → Nat} (hI : g_inj ad 55) (M : gMem) (J : gMeL) (hw : wfX M) (c : Nat) (hc : c < M 23 1) : CI l g ad dsX 55 yX5_whose cX5_whose 5 (some .int) 4 [.ref (ad 0), .int (nI c)] M J (nI (whoS (stpS (M (25 + c)) 12) (M 38))) M J := by
  refine CI.of (plainFor_of_name (by decide)) (Nat.le_of_ble_eq_true rfl) (fun p9 e9 s9 m9 args9 below9 meth9 c9 CF hK hr9 hlk9 hP hS ls hl => ?_)
  have hx := CF.1
  have hb := CF.2.1
  have hA : ∀ q, g_A ad 55 q → g_A ad 55 q := fun _ h => h
  have hl : lv_has ls 5 [(0, .ref (ad 0)), (1, .int (nI c))] := hl
  have hnc := hw.nc
  have hnf := hw.nf
  have hq9 : ∀ a, a < 12 → M (25 + c) a ≤ 9 := fun a ha => hw.hair (by omega) ha
  have hst := stpS_lt hq9 (k := 12) (by omega)
  refine lv_aload_n hx hb dX5_whose_0 rfl (lv_at hl 0 rfl) ?_
  refine lv_iload_n hx hb dX5_whose_1 rfl (lv_at hl 1 rfl) ?_
  refine x_callVI CF hK hP hS hA hl (As := [.int (nI c)]) (rest := []) (c_isCam_t hI M J c (by omega) (by omega)) kw_X5_isCam wd1_238 (by decide) dX_0 rfl rfl ⟨Nat.le_of_ble_eq_true rfl, Nat.le_of_ble_eq_true rfl⟩ ⟨Nat.le_refl _, Nat.le_refl _⟩ (Nat.le_of_ble_eq_true rfl) dX5_whose_2 (fun H locs hP hS => ?_)
  refine x_yne (u := (1 : Int)) (tgt := 10) hx hb (rfl) dX5_whose_5 (by decide) (fun h_1 => ?_) (fun h_1 => (by omega : False).elim)
  refine lv_aload_n hx hb dX5_whose_10 rfl (lv_at hl 0 rfl) ?_
  refine x_getr CF hK hP 0 (by decide) dX_0 rfl uX5 0 (by decide) (j := 23) rfl wd1_164 rfl dX5_whose_11 ?_
  refine x_getr CF hK hP 23 (by decide) dX_23 rfl uX1 0 (by decide) (j := 24) rfl wd1_68 rfl dX5_whose_14 ?_
  refine lv_iload_n hx hb dX5_whose_17 rfl (lv_at hl 1 rfl) ?_
  refine x_aald CF hK hP 24 (by decide) (t := 2) dX_24 (by decide) c (by omega) (by decide) (j := (25 + c)) (oX_hair c (by omega)) dX5_whose_18 ?_
  refine x_callSI CF hK hP hS hA hl (As := [.ref (ad (25 + c))]) (rest := []) (c_stepsIn hI M J c (by omega) hq9) kw_X5_stepsIn wd3_2 rfl ⟨Nat.le_of_ble_eq_true rfl, Nat.le_of_ble_eq_true rfl⟩ ⟨Nat.le_refl _, Nat.le_refl _⟩ (Nat.le_of_ble_eq_true rfl) dX5_whose_19 (fun H locs hP hS => ?_)
  refine lv_istore_n (lv' := [(2, .int (nI (stpS (M (25 + c)) 12))), (0, .ref (ad 0)), (1, .int (nI c))]) hx hb dX5_whose_22 rfl hl (by decide) rfl (fun ls hl => ?_)
  refine lv_iconst (v := nI 0) hx hb dX5_whose_23 (by decide) ?_
  refine lv_istore_n (lv' := [(3, .int (nI 0)), (2, .int (nI (stpS (M (25 + c)) 12))), (0, .ref (ad 0)), (1, .int (nI c))]) hx hb dX5_whose_24 rfl hl (by decide) rfl (fun ls hl => ?_)
  refine lv_iconst (v := nI 0) hx hb dX5_whose_25 (by decide) ?_
  refine lv_istore (lv' := [(4, .int (nI 0)), (3, .int (nI 0)), (2, .int (nI (stpS (M (25 + c)) 12))), (0, .ref (ad 0)), (1, .int (nI c))]) hx hb dX5_whose_26 hl (by decide) rfl (fun ls hl => ?_)
  have L28 : ∀ (d28 : Nat) (q : Nat), (q + d28 = 4) → (∀ (H : Heap) (locs : List Loc) (ls : Array Slot), g_P g ad dsX 55 M J H → va_S (g_A ad 55) s9.heap H locs → lv_has ls 5 [(4, .int (nI q)), (3, .int (nI (setN (fun k => decide ((stpS (M (25 + c)) 12) &&& (M 38 k ^^^ 4294967295) = 0)) q))), (2, .int (nI (stpS (M (25 + c)) 12))), (0, .ref (ad 0)), (1, .int (nI c))] → W p9 l e9 (g_rm 4) s9 m9 args9 below9 meth9 c9 H locs 0 0 (MQ below9 (va_Qi (fun r' (_ : Unit) => r' = (nI (whoS (stpS (M (25 + c)) 12) (M 38)))) (fun _ t => g_P g ad dsX 55 M J t.heap) (g_A ad 55)) args9 s9 0 0 (g_A ad 55)) (F0 m9 28 ls [])) := by
    intro d28
    induction d28 with
    | zero =>
      intro q h_q H locs ls hP hS hl
      refine lv_iload hx hb dX5_whose_28 (lv_at hl 0 rfl) ?_
      refine lv_iconst (v := nI 4) hx hb dX5_whose_30 (by decide) ?_
      refine x_zge (u := (q : Nat)) (v := (4 : Int)) (tgt := 64) hx hb (nI_toInt (by omega)) (rfl) dX5_whose_31 (by decide) (fun h_2 => ?_) (fun h_2 => (by omega : False).elim)
      refine lv_iload_n hx hb dX5_whose_64 rfl (lv_at hl 1 rfl) ?_
      exact x_reti hx hb hr9 hlk9 hS hP (by rw [show q = 4 by omega]; rfl) dX5_whose_65
    | succ d28 ih28 =>
      intro q h_q H locs ls hP hS hl
      have b1 : (stpS (M (25 + c)) 12) &&& (M 38 q ^^^ 4294967295) < 4096 := and_lt _ hst
      refine lv_iload hx hb dX5_whose_28 (lv_at hl 0 rfl) ?_
      refine lv_iconst (v := nI 4) hx hb dX5_whose_30 (by decide) ?_
      refine x_zge (u := (q : Nat)) (v := (4 : Int)) (tgt := 64) hx hb (nI_toInt (by omega)) (rfl) dX5_whose_31 (by decide) (fun h_3 => (by omega : False).elim) (fun h_3 => ?_)
      refine lv_iload_n hx hb dX5_whose_34 rfl (lv_at hl 2 rfl) ?_
      refine lv_aload_n hx hb dX5_whose_35 rfl (lv_at hl 3 rfl) ?_
      refine x_getr CF hK hP 0 (by decide) dX_0 rfl uX5 0 (by decide) (j := 23) rfl wd1_164 rfl dX5_whose_36 ?_
      refine x_getr CF hK hP 23 (by decide) dX_23 rfl uX1 9 (by decide) (j := 38) rfl wd1_86 rfl dX5_whose_39 ?_
      refine lv_iload hx hb dX5_whose_42 (lv_at hl 0 rfl) ?_
      refine x_iald CF hK hP 38 (by decide) dX_38 q (by omega) (by decide) dX5_whose_44 ?_
      refine lv_iconst (v := nI 4294967295) hx hb dX5_whose_45 (by decide) ?_
      refine x_ixor hx hb dX5_whose_46 ?_
      refine x_iand hx hb dX5_whose_47 ?_
      refine x_yne (u := ((stpS (M (25 + c)) 12) &&& ((M 38 q) ^^^ 4294967295) : Nat)) (tgt := 58) hx hb (nI_toInt (by omega)) dX5_whose_48 (by decide) (fun h_4 => ?_) (fun h_4 => ?_)
      · refine lv_iinc (v := nI (q + 1)) (lv' := [(4, .int (nI (q + 1))), (3, .int (nI (setN (fun k => decide ((stpS (M (25 + c)) 12) &&& (M 38 k ^^^ 4294967295) = 0)) q))), (2, .int (nI (stpS (M (25 + c)) 12))), (0, .ref (ad 0)), (1, .int (nI c))]) hx hb dX5_whose_58 hl (k := 0) rfl (n_inc q 1) (by decide) rfl (fun ls hl => ?_)
        refine lv_goto (tgt := 28) hx hb dX5_whose_61 (by decide) ?_
        have hl0 : lv_has ls 5 [(4, .int (nI (q + 1))), (3, .int (nI (setN (fun k => decide ((stpS (M (25 + c)) 12) &&& (M 38 k ^^^ 4294967295) = 0)) (q + 1)))), (2, .int (nI (stpS (M (25 + c)) 12))), (0, .ref (ad 0)), (1, .int (nI c))] := by rw [(show nI (setN (fun k => decide ((stpS (M (25 + c)) 12) &&& (M 38 k ^^^ 4294967295) = 0)) (q + 1)) = nI (setN (fun k => decide ((stpS (M (25 + c)) 12) &&& (M 38 k ^^^ 4294967295) = 0)) q) from by first | rfl | (congr 1; omega) | (refine congrArg nI ?_; first | rfl | (exact (setN_t (decide_eq_true (by omega)))) | (exact (setN_f (decide_eq_false (by omega)))) | (rw [Nat.or_zero]; exact (setN_f (decide_eq_false (by omega))))))]; exact lv_sub hl [0, 1, 2, 3, 4] rfl
        exact ih28 (q + 1) (by omega) _ _ _ (hP) hS hl0
      · refine lv_iload_n hx hb dX5_whose_51 rfl (lv_at hl 1 rfl) ?_
        refine lv_iconst (v := nI 1) hx hb dX5_whose_52 (by decide) ?_
        refine lv_iload hx hb dX5_whose_53 (lv_at hl 0 rfl) ?_
        refine x_ishl hx hb (by omega) dX5_whose_55 ?_
        refine x_ior hx hb dX5_whose_56 ?_
        refine lv_istore_n (lv' := [(3, .int (nI ((setN (fun k => decide ((stpS (M (25 + c)) 12) &&& (M 38 k ^^^ 4294967295) = 0)) q) ||| (1 <<< q)))), (4, .int (nI q)), (2, .int (nI (stpS (M (25 + c)) 12))), (0, .ref (ad 0)), (1, .int (nI c))]) hx hb dX5_whose_57 rfl hl (by decide) rfl (fun ls hl => ?_)
        refine lv_iinc (v := nI (q + 1)) (lv' := [(4, .int (nI (q + 1))), (3, .int (nI ((setN (fun k => decide ((stpS (M (25 + c)) 12) &&& (M 38 k ^^^ 4294967295) = 0)) q) ||| (1 <<< q)))), (2, .int (nI (stpS (M (25 + c)) 12))), (0, .ref (ad 0)), (1, .int (nI c))]) hx hb dX5_whose_58 hl (k := 1) rfl (n_inc q 1) (by decide) rfl (fun ls hl => ?_)
        refine lv_goto (tgt := 28) hx hb dX5_whose_61 (by decide) ?_
        have hl0 : lv_has ls 5 [(4, .int (nI (q + 1))), (3, .int (nI (setN (fun k => decide ((stpS (M (25 + c)) 12) &&& (M 38 k ^^^ 4294967295) = 0)) (q + 1)))), (2, .int (nI (stpS (M (25 + c)) 12))), (0, .ref (ad 0)), (1, .int (nI c))] := by rw [(show nI (setN (fun k => decide ((stpS (M (25 + c)) 12) &&& (M 38 k ^^^ 4294967295) = 0)) (q + 1)) = nI ((setN (fun k => decide ((stpS (M (25 + c)) 12) &&& (M 38 k ^^^ 4294967295) = 0)) q) ||| (1 <<< q)) from by first | rfl | (congr 1; omega) | (refine congrArg nI ?_; first | rfl | (exact (setN_t (decide_eq_true (by omega)))) | (exact (setN_f (decide_eq_false (by omega)))) | (rw [Nat.or_zero]; exact (setN_f (decide_eq_false (by omega))))))]; exact lv_sub hl [0, 1, 2, 3, 4] rfl
        exact ih28 (q + 1) (by omega) _ _ _ (hP) hS hl0
  have hl0 : lv_has ls 5 [(4, .int (nI 0)), (3, .int (nI (setN (fun k => decide ((stpS (M (25 + c)) 12) &&& (M 38 k ^^^ 4294967295) = 0)) 0))), (2, .int (nI (stpS (M (25 + c)) 12))), (0, .ref (ad 0)), (1, .int (nI c))] := by rw [(show nI (setN (fun k => decide ((stpS (M (25 + c)) 12) &&& (M 38 k ^^^ 4294967295) = 0)) 0) = nI 0 from rfl)]; exact lv_sub hl [0, 1, 2, 3, 4] rfl
  exact L28 4 0 (by omega) _ _ _ (hP) hS hl0
set_option maxHeartbeats 4000000 in
set_option maxRecDepth 100000 in
theorem f_whose_bad {l : Launch} {g : gE} {ad : Nat → Nat} (hI : g_inj ad 55) (M : gMem) (J : gMeL) (hw : wfX M) (c : Int32) (h : ¬ inR c (M 23 1)) : CI l g ad dsX 55 yX5_whose cX5_whose 5 (some .int) 4 [.ref (ad 0), .int c] M J (nI 4294967295) M J := by
  refine CI.of (plainFor_of_name (by decide)) (Nat.le_of_ble_eq_true rfl) (fun p9 e9 s9 m9 args9 below9 meth9 c9 CF hK hr9 hlk9 hP hS ls hl => ?_)
  have hx := CF.1
  have hb := CF.2.1
  have hA : ∀ q, g_A ad 55 q → g_A ad 55 q := fun _ h => h
  have hl : lv_has ls 5 [(0, .ref (ad 0)), (1, .int c)] := hl
  have hnc := hw.nc
  have hnf := hw.nf
  refine lv_aload_n hx hb dX5_whose_0 rfl (lv_at hl 0 rfl) ?_
  refine lv_iload_n hx hb dX5_whose_1 rfl (lv_at hl 1 rfl) ?_
  rcases n_int (x := c) (n := M 23 1) (by omega) with ⟨c1, h_c1, rfl⟩ | ho_c
  · refine x_callVI CF hK hP hS hA hl (As := [.int (nI c1)]) (rest := []) (c_isCam_t hI M J c1 (by omega) (by omega)) kw_X5_isCam wd1_238 (by decide) dX_0 rfl rfl ⟨Nat.le_of_ble_eq_true rfl, Nat.le_of_ble_eq_true rfl⟩ ⟨Nat.le_refl _, Nat.le_refl _⟩ (Nat.le_of_ble_eq_true rfl) dX5_whose_2 (fun H locs hP hS => ?_)
    refine x_yne (u := (1 : Int)) (tgt := 10) hx hb (rfl) dX5_whose_5 (by decide) (fun h_1 => ?_) (fun h_1 => (by omega : False).elim)
    exact absurd (inR_n h_c1 (by omega)) h
  · refine x_callVI CF hK hP hS hA hl (As := [.int c]) (rest := []) (c_isCam_f hI M J c ho_c (by omega)) kw_X5_isCam wd1_238 (by decide) dX_0 rfl rfl ⟨Nat.le_of_ble_eq_true rfl, Nat.le_of_ble_eq_true rfl⟩ ⟨Nat.le_refl _, Nat.le_refl _⟩ (Nat.le_of_ble_eq_true rfl) dX5_whose_2 (fun H locs hP hS => ?_)
    refine x_yne (u := (0 : Int)) (tgt := 10) hx hb (rfl) dX5_whose_5 (by decide) (fun h_2 => (by omega : False).elim) (fun h_2 => ?_)
    refine lv_iconst (v := nI 4294967295) hx hb dX5_whose_8 (by decide) ?_
    exact x_reti hx hb hr9 hlk9 hS hP (by first | rfl | (show nI 4294967295 = nI 4294967295; first | rfl | omega)) dX5_whose_9
set_option maxHeartbeats 4000000 in
set_option maxRecDepth 100000 in
theorem f_image {l : Launch} {g : gE} {ad : Nat → Nat} (hI : g_inj ad 55) (M : gMem) (J : gMeL)  : CI l g ad dsX 55 yX5_image cX5_image 1 (some .int) 2 [.ref (ad 0)] M J (nI 1) (u2 (bl 39 23 M) 0 2 1) J := by
  refine CI.of (plainFor_of_name (by decide)) (Nat.le_of_ble_eq_true rfl) (fun p9 e9 s9 m9 args9 below9 meth9 c9 CF hK hr9 hlk9 hP hS ls hl => ?_)
  have hx := CF.1
  have hb := CF.2.1
  have hA : ∀ q, g_A ad 55 q → g_A ad 55 q := fun _ h => h
  have hl : lv_has ls 1 [(0, .ref (ad 0))] := hl
  refine lv_aload_n hx hb dX5_image_0 rfl (lv_at hl 0 rfl) ?_
  refine x_getr CF hK hP 0 (by decide) dX_0 rfl uX5 1 (by decide) (j := 39) rfl wd1_165 rfl dX5_image_1 ?_
  refine lv_aload_n hx hb dX5_image_4 rfl (lv_at hl 0 rfl) ?_
  refine x_getr CF hK hP 0 (by decide) dX_0 rfl uX5 0 (by decide) (j := 23) rfl wd1_164 rfl dX5_image_5 ?_
  refine x_callVV CF hK hP hS hA hl (As := [.ref (ad 23)]) (rest := []) (c_playLike_in hI M J) kw_X1_becomeLike wd3_12 (by decide) dX_39 rfl rfl ⟨Nat.le_of_ble_eq_true rfl, Nat.le_of_ble_eq_true rfl⟩ ⟨Nat.le_refl _, Nat.le_refl _⟩ (Nat.le_of_ble_eq_true rfl) dX5_image_8 (fun H locs hP hS => ?_)
  refine lv_aload_n hx hb dX5_image_11 rfl (lv_at hl 0 rfl) ?_
  refine lv_iconst (v := nI 1) hx hb dX5_image_12 (by decide) ?_
  refine x_puti CF hK hI hA hP hS 0 (by decide) dX_0 rfl uX5 tyX5 tyX5_ok nmX5 2 (by decide) rfl wd1_166 rfl rfl 1 (ty := .boolean) rfl (by decide) (by decide) dX5_image_13 (fun H locs hP hS => ?_)
  refine lv_iconst (v := nI 1) hx hb dX5_image_16 (by decide) ?_
  exact x_reti hx hb hr9 hlk9 hS hP (by first | rfl | (show nI 1 = nI 1; first | rfl | omega)) dX5_image_17
set_option maxHeartbeats 4000000 in
set_option maxRecDepth 100000 in
theorem f_restore_ok {l : Launch} {g : gE} {ad : Nat → Nat} (hI : g_inj ad 55) (M : gMem) (J : gMeL) (h : M 0 2 = 1) : CI l g ad dsX 55 yX5_restore cX5_restore 1 (some .int) 2 [.ref (ad 0)] M J (nI 1) (bl 23 39 M) J := by
  refine CI.of (plainFor_of_name (by decide)) (Nat.le_of_ble_eq_true rfl) (fun p9 e9 s9 m9 args9 below9 meth9 c9 CF hK hr9 hlk9 hP hS ls hl => ?_)
  have hx := CF.1
  have hb := CF.2.1
  have hA : ∀ q, g_A ad 55 q → g_A ad 55 q := fun _ h => h
  have hl : lv_has ls 1 [(0, .ref (ad 0))] := hl
  refine lv_aload_n hx hb dX5_restore_0 rfl (lv_at hl 0 rfl) ?_
  refine x_geti CF hK hP 0 (by decide) dX_0 rfl uX5 2 (by decide) rfl wd1_166 rfl dX5_restore_1 ?_
  refine x_ri (show (nI (M 0 2)) = nI 1 from congrArg nI h) ?_
  refine x_yne (u := (1 : Int)) (tgt := 10) hx hb (rfl) dX5_restore_4 (by decide) (fun h_1 => ?_) (fun h_1 => (by omega : False).elim)
  refine lv_aload_n hx hb dX5_restore_10 rfl (lv_at hl 0 rfl) ?_
  refine x_getr CF hK hP 0 (by decide) dX_0 rfl uX5 0 (by decide) (j := 23) rfl wd1_164 rfl dX5_restore_11 ?_
  refine lv_aload_n hx hb dX5_restore_14 rfl (lv_at hl 0 rfl) ?_
  refine x_getr CF hK hP 0 (by decide) dX_0 rfl uX5 1 (by decide) (j := 39) rfl wd1_165 rfl dX5_restore_15 ?_
  refine x_callVV CF hK hP hS hA hl (As := [.ref (ad 39)]) (rest := []) (c_playLike_ni hI M J) kw_X1_becomeLike wd3_12 (by decide) dX_23 rfl rfl ⟨Nat.le_of_ble_eq_true rfl, Nat.le_of_ble_eq_true rfl⟩ ⟨Nat.le_refl _, Nat.le_refl _⟩ (Nat.le_of_ble_eq_true rfl) dX5_restore_18 (fun H locs hP hS => ?_)
  refine lv_iconst (v := nI 1) hx hb dX5_restore_21 (by decide) ?_
  exact x_reti hx hb hr9 hlk9 hS hP (by first | rfl | (show nI 1 = nI 1; first | rfl | omega)) dX5_restore_22
set_option maxHeartbeats 4000000 in
set_option maxRecDepth 100000 in
theorem f_restore_none {l : Launch} {g : gE} {ad : Nat → Nat} (hI : g_inj ad 55) (M : gMem) (J : gMeL) (h : M 0 2 = 0) : CI l g ad dsX 55 yX5_restore cX5_restore 1 (some .int) 2 [.ref (ad 0)] M J (nI 4294967292) M J := by
  refine CI.of (plainFor_of_name (by decide)) (Nat.le_of_ble_eq_true rfl) (fun p9 e9 s9 m9 args9 below9 meth9 c9 CF hK hr9 hlk9 hP hS ls hl => ?_)
  have hx := CF.1
  have hb := CF.2.1
  have hA : ∀ q, g_A ad 55 q → g_A ad 55 q := fun _ h => h
  have hl : lv_has ls 1 [(0, .ref (ad 0))] := hl
  refine lv_aload_n hx hb dX5_restore_0 rfl (lv_at hl 0 rfl) ?_
  refine x_geti CF hK hP 0 (by decide) dX_0 rfl uX5 2 (by decide) rfl wd1_166 rfl dX5_restore_1 ?_
  refine x_ri (show (nI (M 0 2)) = nI 0 from congrArg nI h) ?_
  refine x_yne (u := (0 : Int)) (tgt := 10) hx hb (rfl) dX5_restore_4 (by decide) (fun h_1 => (by omega : False).elim) (fun h_1 => ?_)
  refine lv_bipush (v := nI 4294967292) hx hb dX5_restore_7 (by decide) ?_
  exact x_reti hx hb hr9 hlk9 hS hP (by first | rfl | (show nI 4294967292 = nI 4294967292; first | rfl | omega)) dX5_restore_9
