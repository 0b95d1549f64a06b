set_option maxHeartbeats 4000000 in
set_option maxRecDepth 100000 in
theorem c_bitCount {l : Launch} {g : gE} (x : Nat) (h : x < 4096) : CP l g yJ6_bitCount_0f7a4 cJ6_bitCount_0f7a4 1 (some .int) 0 [.int (nI x)] (nI (pop x)) := by
  refine CP.of (by decide +kernel) (Nat.le_of_ble_eq_true rfl) (fun p9 e9 s9 m9 args9 below9 meth9 c9 CF hK hr9 hlk9 hS ls hl => ?_)
  have hx := CF.1
  have hb := CF.2.1
  have hl : lv_has ls 1 [(0, .int (nI x))] := hl
  have h9 := bc_ok h
  refine lv_iload_n hx hb dJ6_bitCount_0f7a4_0 rfl (lv_at hl 0 rfl) ?_
  refine lv_iload_n hx hb dJ6_bitCount_0f7a4_1 rfl (lv_at hl 0 rfl) ?_
  refine lv_iconst (v := nI 1) hx hb dJ6_bitCount_0f7a4_2 (by decide) ?_
  refine x_iushr hx hb (by omega) (by omega) dJ6_bitCount_0f7a4_3 ?_
  refine lv_ldcw (v := nI 1431655765) hx hb CF.2.2.2.1 (CF.2.2.2.2 _ (List.mem_cons_of_mem _ wd2_58)) dJ6_bitCount_0f7a4_4 ?_
  refine x_iand hx hb dJ6_bitCount_0f7a4_7 ?_
  refine x_isub hx hb (Nat.le_trans Nat.and_le_left (by rw [Nat.shiftRight_eq_div_pow]; omega)) dJ6_bitCount_0f7a4_8 ?_
  refine x_ri (show (nI (x - ((x >>> 1) &&& 1431655765))) = nI (bc1 x) from rfl) ?_
  refine lv_istore_n (lv' := [(0, .int (nI (bc1 x)))]) hx hb dJ6_bitCount_0f7a4_9 rfl hl (by decide) rfl (fun ls hl => ?_)
  refine lv_iload_n hx hb dJ6_bitCount_0f7a4_10 rfl (lv_at hl 0 rfl) ?_
  refine lv_ldcw (v := nI 858993459) hx hb CF.2.2.2.1 (CF.2.2.2.2 _ (List.mem_cons_of_mem _ wd2_59)) dJ6_bitCount_0f7a4_11 ?_
  refine x_iand hx hb dJ6_bitCount_0f7a4_14 ?_
  refine lv_iload_n hx hb dJ6_bitCount_0f7a4_15 rfl (lv_at hl 0 rfl) ?_
  refine lv_iconst (v := nI 2) hx hb dJ6_bitCount_0f7a4_16 (by decide) ?_
  refine x_iushr hx hb (by omega) (by omega) dJ6_bitCount_0f7a4_17 ?_
  refine lv_ldcw (v := nI 858993459) hx hb CF.2.2.2.1 (CF.2.2.2.2 _ (List.mem_cons_of_mem _ wd2_59)) dJ6_bitCount_0f7a4_18 ?_
  refine x_iand hx hb dJ6_bitCount_0f7a4_21 ?_
  refine x_iadd hx hb dJ6_bitCount_0f7a4_22 ?_
  refine x_ri (show (nI (((bc1 x) &&& 858993459) + (((bc1 x) >>> 2) &&& 858993459))) = nI (bc2 x) from rfl) ?_
  refine lv_istore_n (lv' := [(0, .int (nI (bc2 x)))]) hx hb dJ6_bitCount_0f7a4_23 rfl hl (by decide) rfl (fun ls hl => ?_)
  refine lv_iload_n hx hb dJ6_bitCount_0f7a4_24 rfl (lv_at hl 0 rfl) ?_
  refine lv_iload_n hx hb dJ6_bitCount_0f7a4_25 rfl (lv_at hl 0 rfl) ?_
  refine lv_iconst (v := nI 4) hx hb dJ6_bitCount_0f7a4_26 (by decide) ?_
  refine x_iushr hx hb (by omega) (by omega) dJ6_bitCount_0f7a4_27 ?_
  refine x_iadd hx hb dJ6_bitCount_0f7a4_28 ?_
  refine lv_ldcw (v := nI 252645135) hx hb CF.2.2.2.1 (CF.2.2.2.2 _ (List.mem_cons_of_mem _ wd2_60)) dJ6_bitCount_0f7a4_29 ?_
  refine x_iand hx hb dJ6_bitCount_0f7a4_32 ?_
  refine x_ri (show (nI (((bc2 x) + ((bc2 x) >>> 4)) &&& 252645135)) = nI (bc3 x) from rfl) ?_
  refine lv_istore_n (lv' := [(0, .int (nI (bc3 x)))]) hx hb dJ6_bitCount_0f7a4_33 rfl hl (by decide) rfl (fun ls hl => ?_)
  refine lv_iload_n hx hb dJ6_bitCount_0f7a4_34 rfl (lv_at hl 0 rfl) ?_
  refine lv_iload_n hx hb dJ6_bitCount_0f7a4_35 rfl (lv_at hl 0 rfl) ?_
  refine lv_bipush (v := nI 8) hx hb dJ6_bitCount_0f7a4_36 (by decide) ?_
  refine x_iushr hx hb (by omega) (by omega) dJ6_bitCount_0f7a4_38 ?_
  refine x_iadd hx hb dJ6_bitCount_0f7a4_39 ?_
  refine x_ri (show (nI ((bc3 x) + ((bc3 x) >>> 8))) = nI (bc4 x) from rfl) ?_
  refine lv_istore_n (lv' := [(0, .int (nI (bc4 x)))]) hx hb dJ6_bitCount_0f7a4_40 rfl hl (by decide) rfl (fun ls hl => ?_)
  refine lv_iload_n hx hb dJ6_bitCount_0f7a4_41 rfl (lv_at hl 0 rfl) ?_
  refine lv_iload_n hx hb dJ6_bitCount_0f7a4_42 rfl (lv_at hl 0 rfl) ?_
  refine lv_bipush (v := nI 16) hx hb dJ6_bitCount_0f7a4_43 (by decide) ?_
  refine x_iushr hx hb (by omega) (by omega) dJ6_bitCount_0f7a4_45 ?_
  refine x_iadd hx hb dJ6_bitCount_0f7a4_46 ?_
  refine x_ri (show (nI ((bc4 x) + ((bc4 x) >>> 16))) = nI (bc5 x) from rfl) ?_
  refine lv_istore_n (lv' := [(0, .int (nI (bc5 x)))]) hx hb dJ6_bitCount_0f7a4_47 rfl hl (by decide) rfl (fun ls hl => ?_)
  refine lv_iload_n hx hb dJ6_bitCount_0f7a4_48 rfl (lv_at hl 0 rfl) ?_
  refine lv_bipush (v := nI 63) hx hb dJ6_bitCount_0f7a4_49 (by decide) ?_
  refine x_iand hx hb dJ6_bitCount_0f7a4_51 ?_
  exact x_retp hx hb hr9 hlk9 hS (congrArg nI h9.2.2.2.2) dJ6_bitCount_0f7a4_52
set_option maxHeartbeats 4000000 in
set_option maxRecDepth 100000 in
theorem c_max {l : Launch} {g : gE} (x y : Int32) : CP l g yJ9_max_7cf53 cJ9_max_7cf53 2 (some .int) 0 [.int x, .int y] (if x.toInt < y.toInt then y else x) := by
  refine CP.of (by decide +kernel) (Nat.le_of_ble_eq_true rfl) (fun p9 e9 s9 m9 args9 below9 meth9 c9 CF hK hr9 hlk9 hS ls hl => ?_)
  have hx := CF.1
  have hb := CF.2.1
  have hl : lv_has ls 2 [(0, .int x), (1, .int y)] := hl
  refine lv_iload_n hx hb dJ9_max_7cf53_0 rfl (lv_at hl 0 rfl) ?_
  refine lv_iload_n hx hb dJ9_max_7cf53_1 rfl (lv_at hl 1 rfl) ?_
  refine x_zlt (u := _) (v := _) (tgt := 9) hx hb (rfl) (rfl) dJ9_max_7cf53_2 (by decide) (fun h_1 => ?_) (fun h_1 => ?_)
  · refine lv_iload_n hx hb dJ9_max_7cf53_9 rfl (lv_at hl 1 rfl) ?_
    exact x_retp hx hb hr9 hlk9 hS ((if_pos h_1).symm) dJ9_max_7cf53_10
  · refine lv_iload_n hx hb dJ9_max_7cf53_5 rfl (lv_at hl 0 rfl) ?_
    refine lv_goto (tgt := 10) hx hb dJ9_max_7cf53_6 (by decide) ?_
    exact x_retp hx hb hr9 hlk9 hS ((if_neg (Int.not_lt.mpr h_1)).symm) dJ9_max_7cf53_10
set_option maxHeartbeats 4000000 in
set_option maxRecDepth 100000 in
theorem c_min {l : Launch} {g : gE} (x y : Nat) (hx9 : x < 2 ^ 31) (hy9 : y < 2 ^ 31) : CP l g yJ9_min_7cf53 cJ9_min_7cf53 2 (some .int) 0 [.int (nI x), .int (nI y)] (nI (min x y)) := by
  refine CP.of (by decide +kernel) (Nat.le_of_ble_eq_true rfl) (fun p9 e9 s9 m9 args9 below9 meth9 c9 CF hK hr9 hlk9 hS ls hl => ?_)
  have hx := CF.1
  have hb := CF.2.1
  have hl : lv_has ls 2 [(0, .int (nI x)), (1, .int (nI y))] := hl
  refine lv_iload_n hx hb dJ9_min_7cf53_0 rfl (lv_at hl 0 rfl) ?_
  refine lv_iload_n hx hb dJ9_min_7cf53_1 rfl (lv_at hl 1 rfl) ?_
  refine x_zgt (u := (x : Nat)) (v := (y : Nat)) (tgt := 9) hx hb (nI_toInt (by omega)) (nI_toInt (by omega)) dJ9_min_7cf53_2 (by decide) (fun h_1 => ?_) (fun h_1 => ?_)
  · refine lv_iload_n hx hb dJ9_min_7cf53_9 rfl (lv_at hl 1 rfl) ?_
    exact x_retp hx hb hr9 hlk9 hS (by congr 1; omega) dJ9_min_7cf53_10
  · refine lv_iload_n hx hb dJ9_min_7cf53_5 rfl (lv_at hl 0 rfl) ?_
    refine lv_goto (tgt := 10) hx hb dJ9_min_7cf53_6 (by decide) ?_
    exact x_retp hx hb hr9 hlk9 hS (by congr 1; omega) dJ9_min_7cf53_10
theorem n_abs {x y : Nat} (hx : x < 2 ^ 30) (hy : y < 2 ^ 30) (h : ¬ 0 ≤ (nI x - nI y).toInt) : -(nI x - nI y) = nI (x - y + (y - x)) := by
  rw [pk_sub_toInt hx hy] at h
  rw [Int32.neg_sub, pk_sub (by omega)]
  congr 1; omega
theorem n_abs2 {x y : Nat} (hx : x < 2 ^ 30) (hy : y < 2 ^ 30) (h : 0 ≤ (nI x - nI y).toInt) : nI x - nI y = nI (x - y + (y - x)) := by
  rw [pk_sub_toInt hx hy] at h
  rw [pk_sub (by omega)]
  congr 1; omega
set_option maxHeartbeats 4000000 in
set_option maxRecDepth 100000 in
theorem c_abs {l : Launch} {g : gE} (x y : Nat) (hx9 : x < 2 ^ 30) (hy9 : y < 2 ^ 30) : CP l g yJ9_abs_0f7a4 cJ9_abs_0f7a4 1 (some .int) 0 [.int (nI x - nI y)] (nI (x - y + (y - x))) := by
  refine CP.of (by decide +kernel) (Nat.le_of_ble_eq_true rfl) (fun p9 e9 s9 m9 args9 below9 meth9 c9 CF hK hr9 hlk9 hS ls hl => ?_)
  have hx := CF.1
  have hb := CF.2.1
  have hl : lv_has ls 1 [(0, .int (nI x - nI y))] := hl
  refine lv_iload_n hx hb dJ9_abs_0f7a4_0 rfl (lv_at hl 0 rfl) ?_
  refine x_yge (u := _) (tgt := 9) hx hb (rfl) dJ9_abs_0f7a4_1 (by decide) (fun h_1 => ?_) (fun h_1 => ?_)
  · refine lv_iload_n hx hb dJ9_abs_0f7a4_9 rfl (lv_at hl 0 rfl) ?_
    exact x_retp hx hb hr9 hlk9 hS (n_abs2 hx9 hy9 h_1) dJ9_abs_0f7a4_10
  · refine lv_iload_n hx hb dJ9_abs_0f7a4_4 rfl (lv_at hl 0 rfl) ?_
    refine lv_ineg hx hb dJ9_abs_0f7a4_5 ?_
    refine lv_goto (tgt := 10) hx hb dJ9_abs_0f7a4_6 (by decide) ?_
    exact x_retp hx hb hr9 hlk9 hS (n_abs hx9 hy9 (by omega)) dJ9_abs_0f7a4_10
set_option maxHeartbeats 4000000 in
set_option maxRecDepth 100000 in
theorem c_isAngle_t {l : Launch} {g : gE} (a : Nat) (h : a < 12) : CP l g yX5_isAngle cX5_isAngle 1 (some .boolean) 1 [.int (nI a)] (nI 1) := by
  refine CP.of (plainFor_of_name (by decide)) (Nat.le_of_ble_eq_true rfl) (fun p9 e9 s9 m9 args9 below9 meth9 c9 CF hK hr9 hlk9 hS ls hl => ?_)
  have hx := CF.1
  have hb := CF.2.1
  have hl : lv_has ls 1 [(0, .int (nI a))] := hl
  refine lv_iload_n hx hb dX5_isAngle_0 rfl (lv_at hl 0 rfl) ?_
  refine lv_iconst (v := nI 0) hx hb dX5_isAngle_1 (by decide) ?_
  refine lv_bipush (v := nI 11) hx hb dX5_isAngle_2 (by decide) ?_
  refine x_callPP CF hK hS hl (As := [.int (nI a), .int (nI 0), .int (nI 11)]) (rest := []) (c_isWithin_t _ _ _ (w_in (by omega) (by omega) (by omega))) kw_X5_isWithin wd1_190 rfl ⟨Nat.le_of_ble_eq_true rfl, Nat.le_of_ble_eq_true rfl⟩ ⟨Nat.le_refl _, Nat.le_refl _⟩ (Nat.le_of_ble_eq_true rfl) dX5_isAngle_4 (fun H locs hS => ?_)
  exact x_retpz hx hb hr9 hlk9 hS (by first | rfl | (show nI 1 = nI 1; first | rfl | omega)) (rfl) dX5_isAngle_7
set_option maxHeartbeats 4000000 in
set_option maxRecDepth 100000 in
theorem c_isAngle_f {l : Launch} {g : gE} (v : Int32) (h : v.toInt < 0 ∨ ((12 : Nat) : Int) ≤ v.toInt) : CP l g yX5_isAngle cX5_isAngle 1 (some .boolean) 1 [.int v] (nI 0) := by
  refine CP.of (plainFor_of_name (by decide)) (Nat.le_of_ble_eq_true rfl) (fun p9 e9 s9 m9 args9 below9 meth9 c9 CF hK hr9 hlk9 hS ls hl => ?_)
  have hx := CF.1
  have hb := CF.2.1
  have hl : lv_has ls 1 [(0, .int v)] := hl
  refine lv_iload_n hx hb dX5_isAngle_0 rfl (lv_at hl 0 rfl) ?_
  refine lv_iconst (v := nI 0) hx hb dX5_isAngle_1 (by decide) ?_
  refine lv_bipush (v := nI 11) hx hb dX5_isAngle_2 (by decide) ?_
  refine x_callPP CF hK hS hl (As := [.int v, .int (nI 0), .int (nI 11)]) (rest := []) (c_isWithin_f _ _ _ (w_out (by omega) (by omega) (by omega))) kw_X5_isWithin wd1_190 rfl ⟨Nat.le_of_ble_eq_true rfl, Nat.le_of_ble_eq_true rfl⟩ ⟨Nat.le_refl _, Nat.le_refl _⟩ (Nat.le_of_ble_eq_true rfl) dX5_isAngle_4 (fun H locs hS => ?_)
  exact x_retpz hx hb hr9 hlk9 hS (by first | rfl | (show nI 0 = nI 0; first | rfl | omega)) (rfl) dX5_isAngle_7
set_option maxHeartbeats 4000000 in
set_option maxRecDepth 100000 in
theorem c_isKind_t {l : Launch} {g : gE} (a : Nat) (h : a < 4) : CP l g yX5_isKind cX5_isKind 1 (some .boolean) 1 [.int (nI a)] (nI 1) := by
  refine CP.of (plainFor_of_name (by decide)) (Nat.le_of_ble_eq_true rfl) (fun p9 e9 s9 m9 args9 below9 meth9 c9 CF hK hr9 hlk9 hS ls hl => ?_)
  have hx := CF.1
  have hb := CF.2.1
  have hl : lv_has ls 1 [(0, .int (nI a))] := hl
  refine lv_iload_n hx hb dX5_isKind_0 rfl (lv_at hl 0 rfl) ?_
  refine lv_iconst (v := nI 0) hx hb dX5_isKind_1 (by decide) ?_
  refine lv_iconst (v := nI 3) hx hb dX5_isKind_2 (by decide) ?_
  refine x_callPP CF hK hS hl (As := [.int (nI a), .int (nI 0), .int (nI 3)]) (rest := []) (c_isWithin_t _ _ _ (w_in (by omega) (by omega) (by omega))) kw_X5_isWithin wd1_190 rfl ⟨Nat.le_of_ble_eq_true rfl, Nat.le_of_ble_eq_true rfl⟩ ⟨Nat.le_refl _, Nat.le_refl _⟩ (Nat.le_of_ble_eq_true rfl) dX5_isKind_3 (fun H locs hS => ?_)
  exact x_retpz hx hb hr9 hlk9 hS (by first | rfl | (show nI 1 = nI 1; first | rfl | omega)) (rfl) dX5_isKind_6
set_option maxHeartbeats 4000000 in
set_option maxRecDepth 100000 in
theorem c_isKind_f {l : Launch} {g : gE} (v : Int32) (h : v.toInt < 0 ∨ ((4 : Nat) : Int) ≤ v.toInt) : CP l g yX5_isKind cX5_isKind 1 (some .boolean) 1 [.int v] (nI 0) := by
  refine CP.of (plainFor_of_name (by decide)) (Nat.le_of_ble_eq_true rfl) (fun p9 e9 s9 m9 args9 below9 meth9 c9 CF hK hr9 hlk9 hS ls hl => ?_)
  have hx := CF.1
  have hb := CF.2.1
  have hl : lv_has ls 1 [(0, .int v)] := hl
  refine lv_iload_n hx hb dX5_isKind_0 rfl (lv_at hl 0 rfl) ?_
  refine lv_iconst (v := nI 0) hx hb dX5_isKind_1 (by decide) ?_
  refine lv_iconst (v := nI 3) hx hb dX5_isKind_2 (by decide) ?_
  refine x_callPP CF hK hS hl (As := [.int v, .int (nI 0), .int (nI 3)]) (rest := []) (c_isWithin_f _ _ _ (w_out (by omega) (by omega) (by omega))) kw_X5_isWithin wd1_190 rfl ⟨Nat.le_of_ble_eq_true rfl, Nat.le_of_ble_eq_true rfl⟩ ⟨Nat.le_refl _, Nat.le_refl _⟩ (Nat.le_of_ble_eq_true rfl) dX5_isKind_3 (fun H locs hS => ?_)
  exact x_retpz hx hb hr9 hlk9 hS (by first | rfl | (show nI 0 = nI 0; first | rfl | omega)) (rfl) dX5_isKind_6
set_option maxHeartbeats 4000000 in
set_option maxRecDepth 100000 in
theorem c_isPlace_t {l : Launch} {g : gE} (a : Nat) (h : a < 4) : CP l g yX5_isPlace cX5_isPlace 1 (some .boolean) 1 [.int (nI a)] (nI 1) := by
  refine CP.of (plainFor_of_name (by decide)) (Nat.le_of_ble_eq_true rfl) (fun p9 e9 s9 m9 args9 below9 meth9 c9 CF hK hr9 hlk9 hS ls hl => ?_)
  have hx := CF.1
  have hb := CF.2.1
  have hl : lv_has ls 1 [(0, .int (nI a))] := hl
  refine lv_iload_n hx hb dX5_isPlace_0 rfl (lv_at hl 0 rfl) ?_
  refine lv_iconst (v := nI 0) hx hb dX5_isPlace_1 (by decide) ?_
  refine lv_iconst (v := nI 3) hx hb dX5_isPlace_2 (by decide) ?_
  refine x_callPP CF hK hS hl (As := [.int (nI a), .int (nI 0), .int (nI 3)]) (rest := []) (c_isWithin_t _ _ _ (w_in (by omega) (by omega) (by omega))) kw_X5_isWithin wd1_190 rfl ⟨Nat.le_of_ble_eq_true rfl, Nat.le_of_ble_eq_true rfl⟩ ⟨Nat.le_refl _, Nat.le_refl _⟩ (Nat.le_of_ble_eq_true rfl) dX5_isPlace_3 (fun H locs hS => ?_)
  exact x_retpz hx hb hr9 hlk9 hS (by first | rfl | (show nI 1 = nI 1; first | rfl | omega)) (rfl) dX5_isPlace_6
set_option maxHeartbeats 4000000 in
set_option maxRecDepth 100000 in
theorem c_isPlace_f {l : Launch} {g : gE} (v : Int32) (h : v.toInt < 0 ∨ ((4 : Nat) : Int) ≤ v.toInt) : CP l g yX5_isPlace cX5_isPlace 1 (some .boolean) 1 [.int v] (nI 0) := by
  refine CP.of (plainFor_of_name (by decide)) (Nat.le_of_ble_eq_true rfl) (fun p9 e9 s9 m9 args9 below9 meth9 c9 CF hK hr9 hlk9 hS ls hl => ?_)
  have hx := CF.1
  have hb := CF.2.1
  have hl : lv_has ls 1 [(0, .int v)] := hl
  refine lv_iload_n hx hb dX5_isPlace_0 rfl (lv_at hl 0 rfl) ?_
  refine lv_iconst (v := nI 0) hx hb dX5_isPlace_1 (by decide) ?_
  refine lv_iconst (v := nI 3) hx hb dX5_isPlace_2 (by decide) ?_
  refine x_callPP CF hK hS hl (As := [.int v, .int (nI 0), .int (nI 3)]) (rest := []) (c_isWithin_f _ _ _ (w_out (by omega) (by omega) (by omega))) kw_X5_isWithin wd1_190 rfl ⟨Nat.le_of_ble_eq_true rfl, Nat.le_of_ble_eq_true rfl⟩ ⟨Nat.le_refl _, Nat.le_refl _⟩ (Nat.le_of_ble_eq_true rfl) dX5_isPlace_3 (fun H locs hS => ?_)
  exact x_retpz hx hb hr9 hlk9 hS (by first | rfl | (show nI 0 = nI 0; first | rfl | omega)) (rfl) dX5_isPlace_6
set_option maxHeartbeats 4000000 in
set_option maxRecDepth 100000 in
theorem c_isSheet_t {l : Launch} {g : gE} (a : Nat) (h : a < 4) : CP l g yX5_isSheet cX5_isSheet 1 (some .boolean) 1 [.int (nI a)] (nI 1) := by
  refine CP.of (plainFor_of_name (by decide)) (Nat.le_of_ble_eq_true rfl) (fun p9 e9 s9 m9 args9 below9 meth9 c9 CF hK hr9 hlk9 hS ls hl => ?_)
  have hx := CF.1
  have hb := CF.2.1
  have hl : lv_has ls 1 [(0, .int (nI a))] := hl
  refine lv_iload_n hx hb dX5_isSheet_0 rfl (lv_at hl 0 rfl) ?_
  refine lv_iconst (v := nI 0) hx hb dX5_isSheet_1 (by decide) ?_
  refine lv_iconst (v := nI 3) hx hb dX5_isSheet_2 (by decide) ?_
  refine x_callPP CF hK hS hl (As := [.int (nI a), .int (nI 0), .int (nI 3)]) (rest := []) (c_isWithin_t _ _ _ (w_in (by omega) (by omega) (by omega))) kw_X5_isWithin wd1_190 rfl ⟨Nat.le_of_ble_eq_true rfl, Nat.le_of_ble_eq_true rfl⟩ ⟨Nat.le_refl _, Nat.le_refl _⟩ (Nat.le_of_ble_eq_true rfl) dX5_isSheet_3 (fun H locs hS => ?_)
  exact x_retpz hx hb hr9 hlk9 hS (by first | rfl | (show nI 1 = nI 1; first | rfl | omega)) (rfl) dX5_isSheet_6
set_option maxHeartbeats 4000000 in
set_option maxRecDepth 100000 in
theorem c_isSheet_f {l : Launch} {g : gE} (v : Int32) (h : v.toInt < 0 ∨ ((4 : Nat) : Int) ≤ v.toInt) : CP l g yX5_isSheet cX5_isSheet 1 (some .boolean) 1 [.int v] (nI 0) := by
  refine CP.of (plainFor_of_name (by decide)) (Nat.le_of_ble_eq_true rfl) (fun p9 e9 s9 m9 args9 below9 meth9 c9 CF hK hr9 hlk9 hS ls hl => ?_)
  have hx := CF.1
  have hb := CF.2.1
  have hl : lv_has ls 1 [(0, .int v)] := hl
  refine lv_iload_n hx hb dX5_isSheet_0 rfl (lv_at hl 0 rfl) ?_
  refine lv_iconst (v := nI 0) hx hb dX5_isSheet_1 (by decide) ?_
  refine lv_iconst (v := nI 3) hx hb dX5_isSheet_2 (by decide) ?_
  refine x_callPP CF hK hS hl (As := [.int v, .int (nI 0), .int (nI 3)]) (rest := []) (c_isWithin_f _ _ _ (w_out (by omega) (by omega) (by omega))) kw_X5_isWithin wd1_190 rfl ⟨Nat.le_of_ble_eq_true rfl, Nat.le_of_ble_eq_true rfl⟩ ⟨Nat.le_refl _, Nat.le_refl _⟩ (Nat.le_of_ble_eq_true rfl) dX5_isSheet_3 (fun H locs hS => ?_)
  exact x_retpz hx hb hr9 hlk9 hS (by first | rfl | (show nI 0 = nI 0; first | rfl | omega)) (rfl) dX5_isSheet_6
set_option maxHeartbeats 4000000 in
set_option maxRecDepth 100000 in
theorem c_isLane_t {l : Launch} {g : gE} (a : Nat) (h : a < 3) : CP l g yX5_isLane cX5_isLane 1 (some .boolean) 1 [.int (nI a)] (nI 1) := by
  refine CP.of (plainFor_of_name (by decide)) (Nat.le_of_ble_eq_true rfl) (fun p9 e9 s9 m9 args9 below9 meth9 c9 CF hK hr9 hlk9 hS ls hl => ?_)
  have hx := CF.1
  have hb := CF.2.1
  have hl : lv_has ls 1 [(0, .int (nI a))] := hl
  refine lv_iload_n hx hb dX5_isLane_0 rfl (lv_at hl 0 rfl) ?_
  refine lv_iconst (v := nI 0) hx hb dX5_isLane_1 (by decide) ?_
  refine lv_iconst (v := nI 2) hx hb dX5_isLane_2 (by decide) ?_
  refine x_callPP CF hK hS hl (As := [.int (nI a), .int (nI 0), .int (nI 2)]) (rest := []) (c_isWithin_t _ _ _ (w_in (by omega) (by omega) (by omega))) kw_X5_isWithin wd1_190 rfl ⟨Nat.le_of_ble_eq_true rfl, Nat.le_of_ble_eq_true rfl⟩ ⟨Nat.le_refl _, Nat.le_refl _⟩ (Nat.le_of_ble_eq_true rfl) dX5_isLane_3 (fun H locs hS => ?_)
  exact x_retpz hx hb hr9 hlk9 hS (by first | rfl | (show nI 1 = nI 1; first | rfl | omega)) (rfl) dX5_isLane_6
set_option maxHeartbeats 4000000 in
set_option maxRecDepth 100000 in
theorem c_isLane_f {l : Launch} {g : gE} (v : Int32) (h : v.toInt < 0 ∨ ((3 : Nat) : Int) ≤ v.toInt) : CP l g yX5_isLane cX5_isLane 1 (some .boolean) 1 [.int v] (nI 0) := by
  refine CP.of (plainFor_of_name (by decide)) (Nat.le_of_ble_eq_true rfl) (fun p9 e9 s9 m9 args9 below9 meth9 c9 CF hK hr9 hlk9 hS ls hl => ?_)
  have hx := CF.1
  have hb := CF.2.1
  have hl : lv_has ls 1 [(0, .int v)] := hl
  refine lv_iload_n hx hb dX5_isLane_0 rfl (lv_at hl 0 rfl) ?_
  refine lv_iconst (v := nI 0) hx hb dX5_isLane_1 (by decide) ?_
  refine lv_iconst (v := nI 2) hx hb dX5_isLane_2 (by decide) ?_
  refine x_callPP CF hK hS hl (As := [.int v, .int (nI 0), .int (nI 2)]) (rest := []) (c_isWithin_f _ _ _ (w_out (by omega) (by omega) (by omega))) kw_X5_isWithin wd1_190 rfl ⟨Nat.le_of_ble_eq_true rfl, Nat.le_of_ble_eq_true rfl⟩ ⟨Nat.le_refl _, Nat.le_refl _⟩ (Nat.le_of_ble_eq_true rfl) dX5_isLane_3 (fun H locs hS => ?_)
  exact x_retpz hx hb hr9 hlk9 hS (by first | rfl | (show nI 0 = nI 0; first | rfl | omega)) (rfl) dX5_isLane_6
set_option maxHeartbeats 4000000 in
set_option maxRecDepth 100000 in
theorem c_movedOn_n {l : Launch} {g : gE} (x b : Nat) (h : x < 4096) (h2 : b < 12) : CP l g yX5_movedOn cX5_movedOn 3 (some .int) 2 [.int (nI x), .int (nI b)] (nI (rot x b)) := by
  refine CP.of (plainFor_of_name (by decide)) (Nat.le_of_ble_eq_true rfl) (fun p9 e9 s9 m9 args9 below9 meth9 c9 CF hK hr9 hlk9 hS ls hl => ?_)
  have hx := CF.1
  have hb := CF.2.1
  have hl : lv_has ls 3 [(0, .int (nI x)), (1, .int (nI b))] := hl
  refine lv_iload_n hx hb dX5_movedOn_0 rfl (lv_at hl 1 rfl) ?_
  refine x_callPP CF hK hS hl (As := [.int (nI b)]) (rest := []) (c_angleOf_n b (by omega)) kw_X5_angleOf wd2_142 rfl ⟨Nat.le_of_ble_eq_true rfl, Nat.le_of_ble_eq_true rfl⟩ ⟨Nat.le_refl _, Nat.le_refl _⟩ (Nat.le_of_ble_eq_true rfl) dX5_movedOn_1 (fun H locs hS => ?_)
  refine x_ri (show (nI (b % 12)) = nI b from congrArg nI (Nat.mod_eq_of_lt (by omega))) ?_
  refine lv_istore_n (lv' := [(2, .int (nI b)), (0, .int (nI x)), (1, .int (nI b))]) hx hb dX5_movedOn_4 rfl hl (by decide) rfl (fun ls hl => ?_)
  refine lv_iload_n hx hb dX5_movedOn_5 rfl (lv_at hl 1 rfl) ?_
  refine lv_iload_n hx hb dX5_movedOn_6 rfl (lv_at hl 0 rfl) ?_
  refine x_ishl hx hb (by omega) dX5_movedOn_7 ?_
  refine lv_iload_n hx hb dX5_movedOn_8 rfl (lv_at hl 1 rfl) ?_
  refine lv_bipush (v := nI 12) hx hb dX5_movedOn_9 (by decide) ?_
  refine lv_iload_n hx hb dX5_movedOn_11 rfl (lv_at hl 0 rfl) ?_
  refine x_isub hx hb (by omega) dX5_movedOn_12 ?_
  refine x_iushr hx hb (by omega) (by omega) dX5_movedOn_13 ?_
  refine x_ior hx hb dX5_movedOn_14 ?_
  refine lv_sipush (v := nI 4095) hx hb dX5_movedOn_15 (by decide) ?_
  refine x_iand hx hb dX5_movedOn_18 ?_
  exact x_retp hx hb hr9 hlk9 hS (by first | rfl | (show nI (((x <<< b) ||| (x >>> (12 - b))) &&& 4095) = nI (rot x b); first | rfl | omega)) dX5_movedOn_19
set_option maxHeartbeats 4000000 in
set_option maxRecDepth 100000 in
theorem c_movedOn_m {l : Launch} {g : gE} (x : Nat) (h : x < 4096) : CP l g yX5_movedOn cX5_movedOn 3 (some .int) 2 [.int (nI x), .int (nI 4294967295)] (nI (rot x 11)) := by
  refine CP.of (plainFor_of_name (by decide)) (Nat.le_of_ble_eq_true rfl) (fun p9 e9 s9 m9 args9 below9 meth9 c9 CF hK hr9 hlk9 hS ls hl => ?_)
  have hx := CF.1
  have hb := CF.2.1
  have hl : lv_has ls 3 [(0, .int (nI x)), (1, .int (nI 4294967295))] := hl
  refine lv_iload_n (x := nI 0 - nI 1) hx hb dX5_movedOn_0 rfl (lv_at hl 1 rfl) ?_
  refine x_callPP CF hK hS hl (As := [.int (nI 0 - nI 1)]) (rest := []) (c_angleOf_s 0 1 (by omega) (by omega)) kw_X5_angleOf wd2_142 rfl ⟨Nat.le_of_ble_eq_true rfl, Nat.le_of_ble_eq_true rfl⟩ ⟨Nat.le_refl _, Nat.le_refl _⟩ (Nat.le_of_ble_eq_true rfl) dX5_movedOn_1 (fun H locs hS => ?_)
  refine x_ri (show (nI ((0 + 11 * 1) % 12)) = nI 11 from by decide) ?_
  refine lv_istore_n (lv' := [(2, .int (nI 11)), (0, .int (nI x)), (1, .int (nI 4294967295))]) hx hb dX5_movedOn_4 rfl hl (by decide) rfl (fun ls hl => ?_)
  refine lv_iload_n hx hb dX5_movedOn_5 rfl (lv_at hl 1 rfl) ?_
  refine lv_iload_n hx hb dX5_movedOn_6 rfl (lv_at hl 0 rfl) ?_
  refine x_ishl hx hb (by omega) dX5_movedOn_7 ?_
  refine lv_iload_n hx hb dX5_movedOn_8 rfl (lv_at hl 1 rfl) ?_
  refine lv_bipush (v := nI 12) hx hb dX5_movedOn_9 (by decide) ?_
  refine lv_iload_n hx hb dX5_movedOn_11 rfl (lv_at hl 0 rfl) ?_
  refine x_isub hx hb (by omega) dX5_movedOn_12 ?_
  refine x_iushr hx hb (by omega) (by omega) dX5_movedOn_13 ?_
  refine x_ior hx hb dX5_movedOn_14 ?_
  refine lv_sipush (v := nI 4095) hx hb dX5_movedOn_15 (by decide) ?_
  refine x_iand hx hb dX5_movedOn_18 ?_
  exact x_retp hx hb hr9 hlk9 hS (by first | rfl | (show nI (((x <<< 11) ||| (x >>> (12 - 11))) &&& 4095) = nI (rot x 11); first | rfl | omega)) dX5_movedOn_19
