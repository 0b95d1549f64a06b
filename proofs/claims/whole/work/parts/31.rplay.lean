set_option maxHeartbeats 4000000 in
set_option maxRecDepth 100000 in
theorem r_in_t {l : Launch} {g : gE} (v lo hi : Int64) (h : lo.toInt ≤ v.toInt ∧ v.toInt ≤ hi.toInt) : CP l g yX6_in cX6_in 6 (some .boolean) 0 [.long v, .long lo, .long hi] (nI 1) := by
  refine CP.of (plainFor_of_name (by decide)) (Nat.le_of_ble_eq_true rfl) (fun p9 e9 s9 m9 args9 below9 meth9 c9 CF hK hr9 hlk9 hS ls hl => ?_)
  have hx := CF.1
  have hb := CF.2.1
  have hl : lv_has ls 6 [(0, .long v), (2, .long lo), (4, .long hi)] := hl
  refine lv_lload_n hx hb dX6_in_0 rfl (lv_at hl 0 rfl) ?_
  refine lv_lload_n hx hb dX6_in_1 rfl (lv_at hl 1 rfl) ?_
  refine W.lcmp hx hb dX6_in_2 ?_
  refine x_ylt (u := _) (tgt := 17) hx hb (rfl) dX6_in_3 (by decide) (fun h_1 => (absurd ((lgc_neg _ _).mp h_1) (by omega) : False).elim) (fun h_1 => ?_)
  refine lv_lload_n hx hb dX6_in_6 rfl (lv_at hl 0 rfl) ?_
  refine lv_lload hx hb dX6_in_7 (lv_at hl 2 rfl) ?_
  refine W.lcmp hx hb dX6_in_9 ?_
  refine x_ygt (u := _) (tgt := 17) hx hb (rfl) dX6_in_10 (by decide) (fun h_2 => (absurd ((lgc_pos _ _).mp h_2) (by omega) : False).elim) (fun h_2 => ?_)
  refine lv_iconst (v := nI 1) hx hb dX6_in_13 (by decide) ?_
  refine lv_goto (tgt := 18) hx hb dX6_in_14 (by decide) ?_
  exact x_retpz hx hb hr9 hlk9 hS (by first | rfl | (show nI 1 = nI 1; first | rfl | omega)) (rfl) dX6_in_18
set_option maxHeartbeats 4000000 in
set_option maxRecDepth 100000 in
theorem r_in_f {l : Launch} {g : gE} (v lo hi : Int64) (h : v.toInt < lo.toInt ∨ hi.toInt < v.toInt) : CP l g yX6_in cX6_in 6 (some .boolean) 0 [.long v, .long lo, .long hi] (nI 0) := by
  refine CP.of (plainFor_of_name (by decide)) (Nat.le_of_ble_eq_true rfl) (fun p9 e9 s9 m9 args9 below9 meth9 c9 CF hK hr9 hlk9 hS ls hl => ?_)
  have hx := CF.1
  have hb := CF.2.1
  have hl : lv_has ls 6 [(0, .long v), (2, .long lo), (4, .long hi)] := hl
  refine lv_lload_n hx hb dX6_in_0 rfl (lv_at hl 0 rfl) ?_
  refine lv_lload_n hx hb dX6_in_1 rfl (lv_at hl 1 rfl) ?_
  refine W.lcmp hx hb dX6_in_2 ?_
  refine x_ylt (u := _) (tgt := 17) hx hb (rfl) dX6_in_3 (by decide) (fun h_1 => ?_) (fun h_1 => ?_)
  · refine lv_iconst (v := nI 0) hx hb dX6_in_17 (by decide) ?_
    exact x_retpz hx hb hr9 hlk9 hS (by first | rfl | (show nI 0 = nI 0; first | rfl | omega)) (rfl) dX6_in_18
  · refine lv_lload_n hx hb dX6_in_6 rfl (lv_at hl 0 rfl) ?_
    refine lv_lload hx hb dX6_in_7 (lv_at hl 2 rfl) ?_
    refine W.lcmp hx hb dX6_in_9 ?_
    refine x_ygt (u := _) (tgt := 17) hx hb (rfl) dX6_in_10 (by decide) (fun h_2 => ?_) (fun h_2 => ?_)
    · refine lv_iconst (v := nI 0) hx hb dX6_in_17 (by decide) ?_
      exact x_retpz hx hb hr9 hlk9 hS (by first | rfl | (show nI 0 = nI 0; first | rfl | omega)) (rfl) dX6_in_18
    · have h1 := lgc_neg v lo
      have h2 := lgc_pos v hi
      exact (by omega : False).elim
set_option maxHeartbeats 4000000 in
set_option maxRecDepth 100000 in
theorem r_has {l : Launch} {g : gE} (x k : Nat) (h : x < 4096) (hk : k < 12) : CP l g yX6_has cX6_has 2 (some .boolean) 0 [.int (nI x), .int (nI k)] (nI (x >>> k &&& 1)) := by
  refine CP.of (plainFor_of_name (by decide)) (Nat.le_of_ble_eq_true rfl) (fun p9 e9 s9 m9 args9 below9 meth9 c9 CF hK hr9 hlk9 hS ls hl => ?_)
  have hx := CF.1
  have hb := CF.2.1
  have hl : lv_has ls 2 [(0, .int (nI x)), (1, .int (nI k))] := hl
  have b1 := and1_lt (x >>> k)
  refine lv_iload_n hx hb dX6_has_0 rfl (lv_at hl 0 rfl) ?_
  refine lv_iload_n hx hb dX6_has_1 rfl (lv_at hl 1 rfl) ?_
  refine x_ishr hx hb (by omega) (by omega) dX6_has_2 ?_
  refine lv_iconst (v := nI 1) hx hb dX6_has_3 (by decide) ?_
  refine x_iand hx hb dX6_has_4 ?_
  refine lv_iconst (v := nI 1) hx hb dX6_has_5 (by decide) ?_
  refine x_zne (u := ((x >>> k) &&& 1 : Nat)) (v := (1 : Int)) (tgt := 13) hx hb (nI_toInt (by omega)) (rfl) dX6_has_6 (by decide) (fun h_1 => ?_) (fun h_1 => ?_)
  · refine lv_iconst (v := nI 0) hx hb dX6_has_13 (by decide) ?_
    exact x_retpz hx hb hr9 hlk9 hS (congrArg nI (by omega)) (rfl) dX6_has_14
  · refine lv_iconst (v := nI 1) hx hb dX6_has_9 (by decide) ?_
    refine lv_goto (tgt := 14) hx hb dX6_has_10 (by decide) ?_
    exact x_retpz hx hb hr9 hlk9 hS (congrArg nI (by omega)) (rfl) dX6_has_14
set_option maxHeartbeats 4000000 in
set_option maxRecDepth 100000 in
theorem r_ones {l : Launch} {g : gE} (x : Nat) (h : x < 4096) : CP l g yX6_ones cX6_ones 3 (some .int) 0 [.int (nI x)] (nI (pop x)) := by
  refine CP.of (plainFor_of_name (by decide)) (Nat.le_of_ble_eq_true rfl) (fun p9 e9 s9 m9 args9 below9 meth9 c9 CF hK hr9 hlk9 hS ls hl => ?_)
  have hx := CF.1
  have hb := CF.2.1
  have hl : lv_has ls 3 [(0, .int (nI x))] := hl
  refine lv_iconst (v := nI 0) hx hb dX6_ones_0 (by decide) ?_
  refine lv_istore_n (lv' := [(1, .int (nI 0)), (0, .int (nI x))]) hx hb dX6_ones_1 rfl hl (by decide) rfl (fun ls hl => ?_)
  refine lv_iconst (v := nI 0) hx hb dX6_ones_2 (by decide) ?_
  refine lv_istore_n (lv' := [(2, .int (nI 0)), (1, .int (nI 0)), (0, .int (nI x))]) hx hb dX6_ones_3 rfl hl (by decide) rfl (fun ls hl => ?_)
  have L4 : ∀ (d4 : Nat) (k : Nat), (k + d4 = 12) → (∀ (H : Heap) (locs : List Loc) (ls : Array Slot), va_S (fun _ => False) s9.heap H locs → lv_has ls 3 [(2, .int (nI k)), (1, .int (nI (cntN x k))), (0, .int (nI x))] → W p9 l e9 (g_rm 0) s9 m9 args9 below9 meth9 c9 H locs 0 0 (MQ below9 (va_Qi (fun r' (_ : Unit) => r' = (nI (pop x))) (fun _ _ => True) (fun _ => False)) args9 s9 0 0 (fun _ => False)) (F0 m9 4 ls [])) := by
    intro d4
    induction d4 with
    | zero =>
      intro k h_k H locs ls hS hl
      refine lv_iload_n hx hb dX6_ones_4 rfl (lv_at hl 0 rfl) ?_
      refine lv_bipush (v := nI 12) hx hb dX6_ones_5 (by decide) ?_
      refine x_zge (u := (k : Nat)) (v := (12 : Int)) (tgt := 24) hx hb (nI_toInt (by omega)) (rfl) dX6_ones_7 (by decide) (fun h_1 => ?_) (fun h_1 => (by omega : False).elim)
      refine lv_iload_n hx hb dX6_ones_24 rfl (lv_at hl 1 rfl) ?_
      exact x_retp hx hb hr9 hlk9 hS (by rw [show k = 12 by omega]; rfl) dX6_ones_25
    | succ d4 ih4 =>
      intro k h_k H locs ls hS hl
      refine lv_iload_n hx hb dX6_ones_4 rfl (lv_at hl 0 rfl) ?_
      refine lv_bipush (v := nI 12) hx hb dX6_ones_5 (by decide) ?_
      refine x_zge (u := (k : Nat)) (v := (12 : Int)) (tgt := 24) hx hb (nI_toInt (by omega)) (rfl) dX6_ones_7 (by decide) (fun h_2 => (by omega : False).elim) (fun h_2 => ?_)
      refine lv_iload_n hx hb dX6_ones_10 rfl (lv_at hl 1 rfl) ?_
      refine lv_iload_n hx hb dX6_ones_11 rfl (lv_at hl 2 rfl) ?_
      refine lv_iload_n hx hb dX6_ones_12 rfl (lv_at hl 0 rfl) ?_
      refine x_ishr hx hb (by omega) (by omega) dX6_ones_13 ?_
      refine lv_iconst (v := nI 1) hx hb dX6_ones_14 (by decide) ?_
      refine x_iand hx hb dX6_ones_15 ?_
      refine x_iadd hx hb dX6_ones_16 ?_
      refine lv_istore_n (lv' := [(1, .int (nI ((cntN x k) + ((x >>> k) &&& 1)))), (2, .int (nI k)), (0, .int (nI x))]) hx hb dX6_ones_17 rfl hl (by decide) rfl (fun ls hl => ?_)
      refine lv_iinc (v := nI (k + 1)) (lv' := [(2, .int (nI (k + 1))), (1, .int (nI ((cntN x k) + ((x >>> k) &&& 1)))), (0, .int (nI x))]) hx hb dX6_ones_18 hl (k := 1) rfl (n_inc k 1) (by decide) rfl (fun ls hl => ?_)
      refine lv_goto (tgt := 4) hx hb dX6_ones_21 (by decide) ?_
      have hl0 : lv_has ls 3 [(2, .int (nI (k + 1))), (1, .int (nI (cntN x (k + 1)))), (0, .int (nI x))] := by rw [(show nI (cntN x (k + 1)) = nI ((cntN x k) + ((x >>> k) &&& 1)) from rfl)]; exact lv_sub hl [0, 1, 2] rfl
      exact ih4 (k + 1) (by omega) _ _ _ hS hl0
  have hl0 : lv_has ls 3 [(2, .int (nI 0)), (1, .int (nI (cntN x 0))), (0, .int (nI x))] := by rw [(show nI (cntN x 0) = nI 0 from rfl)]; exact lv_sub hl [0, 1, 2] rfl
  exact L4 12 0 (by omega) _ _ _ hS hl0
set_option maxHeartbeats 4000000 in
set_option maxRecDepth 100000 in
theorem r_turned {l : Launch} {g : gE} (x b : Nat) (h : x < 4096) (h2 : b < 12) : CP l g yX6_turned cX6_turned 2 (some .int) 0 [.int (nI x), .int (nI b)] (nI (rot x b)) := by
  refine CP.of (plainFor_of_name (by decide)) (Nat.le_of_ble_eq_true rfl) (fun p9 e9 s9 m9 args9 below9 meth9 c9 CF hK hr9 hlk9 hS ls hl => ?_)
  have hx := CF.1
  have hb := CF.2.1
  have hl : lv_has ls 2 [(0, .int (nI x)), (1, .int (nI b))] := hl
  refine lv_iload_n hx hb dX6_turned_0 rfl (lv_at hl 0 rfl) ?_
  refine lv_iload_n hx hb dX6_turned_1 rfl (lv_at hl 1 rfl) ?_
  refine x_ishl hx hb (by omega) dX6_turned_2 ?_
  refine lv_iload_n hx hb dX6_turned_3 rfl (lv_at hl 0 rfl) ?_
  refine lv_bipush (v := nI 12) hx hb dX6_turned_4 (by decide) ?_
  refine lv_iload_n hx hb dX6_turned_6 rfl (lv_at hl 1 rfl) ?_
  refine x_isub hx hb (by omega) dX6_turned_7 ?_
  refine x_ishr hx hb (by omega) (by omega) dX6_turned_8 ?_
  refine x_ior hx hb dX6_turned_9 ?_
  refine lv_sipush (v := nI 4095) hx hb dX6_turned_10 (by decide) ?_
  refine x_iand hx hb dX6_turned_13 ?_
  exact x_retp hx hb hr9 hlk9 hS (by first | rfl | (show nI (((x <<< b) ||| (x >>> (12 - b))) &&& 4095) = nI (rot x b); first | rfl | omega)) dX6_turned_14
set_option maxHeartbeats 4000000 in
set_option maxRecDepth 100000 in
theorem r_isAngle_t {l : Launch} {g : gE} (a : Nat) (h : a < 12) : CP l g yX6_isAngle cX6_isAngle 1 (some .boolean) 1 [.int (nI a)] (nI 1) := by
  refine CP.of (plainFor_of_name (by decide)) (Nat.le_of_ble_eq_true rfl) (fun p9 e9 s9 m9 args9 below9 meth9 c9 CF hK hr9 hlk9 hS ls hl => ?_)
  have hx := CF.1
  have hb := CF.2.1
  have hl : lv_has ls 1 [(0, .int (nI a))] := hl
  refine lv_iload_n hx hb dX6_isAngle_0 rfl (lv_at hl 0 rfl) ?_
  refine lv_i2l hx hb dX6_isAngle_1 (nI_l (by omega)) ?_
  refine lv_lconst (v := (0 : Int64)) hx hb dX6_isAngle_2 rfl ?_
  refine lv_ldc2 hx hb CF.2.2.2.1 (CF.2.2.2.2 _ (List.mem_cons_of_mem _ wd3_177)) dX6_isAngle_3 ?_
  refine x_callPP CF hK hS hl (As := [.long (lN a), .long (0 : Int64), .long (11 : Int64)]) (rest := []) (r_in_t _ _ _ (il_in (lo := 0) (hi := 11) (by omega) (by omega) (by omega))) kw_X6_in wd3_147 rfl ⟨Nat.le_of_ble_eq_true rfl, Nat.le_of_ble_eq_true rfl⟩ ⟨Nat.le_refl _, Nat.le_refl _⟩ (Nat.le_of_ble_eq_true rfl) dX6_isAngle_6 (fun H locs hS => ?_)
  exact x_retpz hx hb hr9 hlk9 hS (by first | rfl | (show nI 1 = nI 1; first | rfl | omega)) (rfl) dX6_isAngle_9
set_option maxHeartbeats 4000000 in
set_option maxRecDepth 100000 in
theorem r_isAngle_f {l : Launch} {g : gE} (v : Int32) (h : v.toInt < 0 ∨ ((12 : Nat) : Int) ≤ v.toInt) : CP l g yX6_isAngle cX6_isAngle 1 (some .boolean) 1 [.int v] (nI 0) := by
  refine CP.of (plainFor_of_name (by decide)) (Nat.le_of_ble_eq_true rfl) (fun p9 e9 s9 m9 args9 below9 meth9 c9 CF hK hr9 hlk9 hS ls hl => ?_)
  have hx := CF.1
  have hb := CF.2.1
  have hl : lv_has ls 1 [(0, .int v)] := hl
  refine lv_iload_n hx hb dX6_isAngle_0 rfl (lv_at hl 0 rfl) ?_
  refine lv_i2l hx hb dX6_isAngle_1 rfl ?_
  refine lv_lconst (v := (0 : Int64)) hx hb dX6_isAngle_2 rfl ?_
  refine lv_ldc2 hx hb CF.2.2.2.1 (CF.2.2.2.2 _ (List.mem_cons_of_mem _ wd3_177)) dX6_isAngle_3 ?_
  refine x_callPP CF hK hS hl (As := [.long v.toInt64, .long (0 : Int64), .long (11 : Int64)]) (rest := []) (r_in_f _ _ _ (il_out (lo := 0) (hi := 11) (by omega) (by omega) (by omega))) kw_X6_in wd3_147 rfl ⟨Nat.le_of_ble_eq_true rfl, Nat.le_of_ble_eq_true rfl⟩ ⟨Nat.le_refl _, Nat.le_refl _⟩ (Nat.le_of_ble_eq_true rfl) dX6_isAngle_6 (fun H locs hS => ?_)
  exact x_retpz hx hb hr9 hlk9 hS (by first | rfl | (show nI 0 = nI 0; first | rfl | omega)) (rfl) dX6_isAngle_9
set_option maxHeartbeats 4000000 in
set_option maxRecDepth 100000 in
theorem r_isSheet_t {l : Launch} {g : gE} (a : Nat) (h : a < 4) : CP l g yX6_isSheet cX6_isSheet 1 (some .boolean) 1 [.int (nI a)] (nI 1) := by
  refine CP.of (plainFor_of_name (by decide)) (Nat.le_of_ble_eq_true rfl) (fun p9 e9 s9 m9 args9 below9 meth9 c9 CF hK hr9 hlk9 hS ls hl => ?_)
  have hx := CF.1
  have hb := CF.2.1
  have hl : lv_has ls 1 [(0, .int (nI a))] := hl
  refine lv_iload_n hx hb dX6_isSheet_0 rfl (lv_at hl 0 rfl) ?_
  refine lv_i2l hx hb dX6_isSheet_1 (nI_l (by omega)) ?_
  refine lv_lconst (v := (0 : Int64)) hx hb dX6_isSheet_2 rfl ?_
  refine lv_ldc2 hx hb CF.2.2.2.1 (CF.2.2.2.2 _ (List.mem_cons_of_mem _ wd3_191)) dX6_isSheet_3 ?_
  refine x_callPP CF hK hS hl (As := [.long (lN a), .long (0 : Int64), .long (3 : Int64)]) (rest := []) (r_in_t _ _ _ (il_in (lo := 0) (hi := 3) (by omega) (by omega) (by omega))) kw_X6_in wd3_147 rfl ⟨Nat.le_of_ble_eq_true rfl, Nat.le_of_ble_eq_true rfl⟩ ⟨Nat.le_refl _, Nat.le_refl _⟩ (Nat.le_of_ble_eq_true rfl) dX6_isSheet_6 (fun H locs hS => ?_)
  exact x_retpz hx hb hr9 hlk9 hS (by first | rfl | (show nI 1 = nI 1; first | rfl | omega)) (rfl) dX6_isSheet_9
set_option maxHeartbeats 4000000 in
set_option maxRecDepth 100000 in
theorem r_isSheet_f {l : Launch} {g : gE} (v : Int32) (h : v.toInt < 0 ∨ ((4 : Nat) : Int) ≤ v.toInt) : CP l g yX6_isSheet cX6_isSheet 1 (some .boolean) 1 [.int v] (nI 0) := by
  refine CP.of (plainFor_of_name (by decide)) (Nat.le_of_ble_eq_true rfl) (fun p9 e9 s9 m9 args9 below9 meth9 c9 CF hK hr9 hlk9 hS ls hl => ?_)
  have hx := CF.1
  have hb := CF.2.1
  have hl : lv_has ls 1 [(0, .int v)] := hl
  refine lv_iload_n hx hb dX6_isSheet_0 rfl (lv_at hl 0 rfl) ?_
  refine lv_i2l hx hb dX6_isSheet_1 rfl ?_
  refine lv_lconst (v := (0 : Int64)) hx hb dX6_isSheet_2 rfl ?_
  refine lv_ldc2 hx hb CF.2.2.2.1 (CF.2.2.2.2 _ (List.mem_cons_of_mem _ wd3_191)) dX6_isSheet_3 ?_
  refine x_callPP CF hK hS hl (As := [.long v.toInt64, .long (0 : Int64), .long (3 : Int64)]) (rest := []) (r_in_f _ _ _ (il_out (lo := 0) (hi := 3) (by omega) (by omega) (by omega))) kw_X6_in wd3_147 rfl ⟨Nat.le_of_ble_eq_true rfl, Nat.le_of_ble_eq_true rfl⟩ ⟨Nat.le_refl _, Nat.le_refl _⟩ (Nat.le_of_ble_eq_true rfl) dX6_isSheet_6 (fun H locs hS => ?_)
  exact x_retpz hx hb hr9 hlk9 hS (by first | rfl | (show nI 0 = nI 0; first | rfl | omega)) (rfl) dX6_isSheet_9
theorem il_cap {x : Int32} {X : Nat} (h : x.toInt < 0 ∨ (X : Int) ≤ x.toInt) (hX : X < 2 ^ 24) : x.toInt64.toInt < (0 : Int64).toInt ∨ (nI X - nI 1).toInt64.toInt < x.toInt64.toInt := by
  rw [Int32.toInt_toInt64, Int32.toInt_toInt64, z_sub (by omega) (by omega), show (0 : Int64).toInt = 0 from rfl]; omega
set_option maxHeartbeats 4000000 in
set_option maxRecDepth 100000 in
theorem r_isCam_t {l : Launch} {g : gE} {ad : Nat → Nat} (hI : g_inj ad 14) (M : gMem) (J : gMeL) (c : Nat) (h : c < M 1 0) (h2 : M 1 0 ≤ 6) : CI l g ad dsR 14 yX6_isCam cX6_isCam 2 (some .boolean) 1 [.ref (ad 0), .int (nI c)] M J (nI 1) M J := by
  refine CI.of (plainFor_of_name (by decide)) (Nat.le_of_ble_eq_true rfl) (fun p9 e9 s9 m9 args9 below9 meth9 c9 CF hK hr9 hlk9 hP hS ls hl => ?_)
  have hx := CF.1
  have hb := CF.2.1
  have hA : ∀ q, g_A ad 14 q → g_A ad 14 q := fun _ h => h
  have hl : lv_has ls 2 [(0, .ref (ad 0)), (1, .int (nI c))] := hl
  refine lv_iload_n hx hb dX6_isCam_0 rfl (lv_at hl 1 rfl) ?_
  refine lv_i2l hx hb dX6_isCam_1 (nI_l (by omega)) ?_
  refine lv_lconst (v := (0 : Int64)) hx hb dX6_isCam_2 rfl ?_
  refine lv_aload_n hx hb dX6_isCam_3 rfl (lv_at hl 0 rfl) ?_
  refine x_getr CF hK hP 0 (by decide) dR_0 rfl uX6 0 (by decide) (j := 1) rfl wd3_96 rfl dX6_isCam_4 ?_
  refine lv_iconst (v := nI 0) hx hb dX6_isCam_7 (by decide) ?_
  refine x_iald CF hK hP 1 (by decide) dR_1 0 (by omega) (by decide) dX6_isCam_8 ?_
  refine lv_iconst (v := nI 1) hx hb dX6_isCam_9 (by decide) ?_
  refine x_isub hx hb (by omega) dX6_isCam_10 ?_
  refine lv_i2l hx hb dX6_isCam_11 (nI_l (by omega)) ?_
  refine x_callSP CF hK hP hS hl (As := [.long (lN c), .long (0 : Int64), .long (lN ((M 1 0) - 1))]) (rest := []) (r_in_t _ _ _ (il_in (lo := 0) (hi := ((M 1 0) - 1)) (by omega) (by omega) (by omega))) kw_X6_in wd3_147 rfl ⟨Nat.le_of_ble_eq_true rfl, Nat.le_of_ble_eq_true rfl⟩ ⟨Nat.le_refl _, Nat.le_refl _⟩ (Nat.le_of_ble_eq_true rfl) dX6_isCam_12 (fun H locs hP hS => ?_)
  exact x_retz hx hb hr9 hlk9 hS hP (by first | rfl | (show nI 1 = nI 1; first | rfl | omega)) (rfl) dX6_isCam_15
set_option maxHeartbeats 4000000 in
set_option maxRecDepth 100000 in
theorem r_isCam_f {l : Launch} {g : gE} {ad : Nat → Nat} (hI : g_inj ad 14) (M : gMem) (J : gMeL) (v : Int32) (h : v.toInt < 0 ∨ ((M 1 0 : Nat) : Int) ≤ v.toInt) (h2 : M 1 0 ≤ 6) : CI l g ad dsR 14 yX6_isCam cX6_isCam 2 (some .boolean) 1 [.ref (ad 0), .int v] M J (nI 0) M J := by
  refine CI.of (plainFor_of_name (by decide)) (Nat.le_of_ble_eq_true rfl) (fun p9 e9 s9 m9 args9 below9 meth9 c9 CF hK hr9 hlk9 hP hS ls hl => ?_)
  have hx := CF.1
  have hb := CF.2.1
  have hA : ∀ q, g_A ad 14 q → g_A ad 14 q := fun _ h => h
  have hl : lv_has ls 2 [(0, .ref (ad 0)), (1, .int v)] := hl
  refine lv_iload_n hx hb dX6_isCam_0 rfl (lv_at hl 1 rfl) ?_
  refine lv_i2l hx hb dX6_isCam_1 rfl ?_
  refine lv_lconst (v := (0 : Int64)) hx hb dX6_isCam_2 rfl ?_
  refine lv_aload_n hx hb dX6_isCam_3 rfl (lv_at hl 0 rfl) ?_
  refine x_getr CF hK hP 0 (by decide) dR_0 rfl uX6 0 (by decide) (j := 1) rfl wd3_96 rfl dX6_isCam_4 ?_
  refine lv_iconst (v := nI 0) hx hb dX6_isCam_7 (by decide) ?_
  refine x_iald CF hK hP 1 (by decide) dR_1 0 (by omega) (by decide) dX6_isCam_8 ?_
  refine lv_iconst (v := nI 1) hx hb dX6_isCam_9 (by decide) ?_
  refine lv_isub hx hb dX6_isCam_10 ?_
  refine lv_i2l hx hb dX6_isCam_11 rfl ?_
  refine x_callSP CF hK hP hS hl (As := [.long v.toInt64, .long (0 : Int64), .long ((nI (M 1 0) - nI 1).toInt64)]) (rest := []) (r_in_f _ _ _ (il_cap h (by omega))) kw_X6_in wd3_147 rfl ⟨Nat.le_of_ble_eq_true rfl, Nat.le_of_ble_eq_true rfl⟩ ⟨Nat.le_refl _, Nat.le_refl _⟩ (Nat.le_of_ble_eq_true rfl) dX6_isCam_12 (fun H locs hP hS => ?_)
  exact x_retz hx hb hr9 hlk9 hS hP (by first | rfl | (show nI 0 = nI 0; first | rfl | omega)) (rfl) dX6_isCam_15
set_option maxHeartbeats 4000000 in
set_option maxRecDepth 100000 in
theorem r_isFigure_t {l : Launch} {g : gE} {ad : Nat → Nat} (hI : g_inj ad 14) (M : gMem) (J : gMeL) (c : Nat) (h : c < M 1 73) (h2 : M 1 73 ≤ 5) : CI l g ad dsR 14 yX6_isFigure cX6_isFigure 2 (some .boolean) 1 [.ref (ad 0), .int (nI c)] M J (nI 1) M J := by
  refine CI.of (plainFor_of_name (by decide)) (Nat.le_of_ble_eq_true rfl) (fun p9 e9 s9 m9 args9 below9 meth9 c9 CF hK hr9 hlk9 hP hS ls hl => ?_)
  have hx := CF.1
  have hb := CF.2.1
  have hA : ∀ q, g_A ad 14 q → g_A ad 14 q := fun _ h => h
  have hl : lv_has ls 2 [(0, .ref (ad 0)), (1, .int (nI c))] := hl
  refine lv_iload_n hx hb dX6_isFigure_0 rfl (lv_at hl 1 rfl) ?_
  refine lv_i2l hx hb dX6_isFigure_1 (nI_l (by omega)) ?_
  refine lv_lconst (v := (0 : Int64)) hx hb dX6_isFigure_2 rfl ?_
  refine lv_aload_n hx hb dX6_isFigure_3 rfl (lv_at hl 0 rfl) ?_
  refine x_getr CF hK hP 0 (by decide) dR_0 rfl uX6 0 (by decide) (j := 1) rfl wd3_96 rfl dX6_isFigure_4 ?_
  refine lv_bipush (v := nI 73) hx hb dX6_isFigure_7 (by decide) ?_
  refine x_iald CF hK hP 1 (by decide) dR_1 73 (by omega) (by decide) dX6_isFigure_9 ?_
  refine lv_iconst (v := nI 1) hx hb dX6_isFigure_10 (by decide) ?_
  refine x_isub hx hb (by omega) dX6_isFigure_11 ?_
  refine lv_i2l hx hb dX6_isFigure_12 (nI_l (by omega)) ?_
  refine x_callSP CF hK hP hS hl (As := [.long (lN c), .long (0 : Int64), .long (lN ((M 1 73) - 1))]) (rest := []) (r_in_t _ _ _ (il_in (lo := 0) (hi := ((M 1 73) - 1)) (by omega) (by omega) (by omega))) kw_X6_in wd3_147 rfl ⟨Nat.le_of_ble_eq_true rfl, Nat.le_of_ble_eq_true rfl⟩ ⟨Nat.le_refl _, Nat.le_refl _⟩ (Nat.le_of_ble_eq_true rfl) dX6_isFigure_13 (fun H locs hP hS => ?_)
  exact x_retz hx hb hr9 hlk9 hS hP (by first | rfl | (show nI 1 = nI 1; first | rfl | omega)) (rfl) dX6_isFigure_16
set_option maxHeartbeats 4000000 in
set_option maxRecDepth 100000 in
theorem r_isFigure_f {l : Launch} {g : gE} {ad : Nat → Nat} (hI : g_inj ad 14) (M : gMem) (J : gMeL) (v : Int32) (h : v.toInt < 0 ∨ ((M 1 73 : Nat) : Int) ≤ v.toInt) (h2 : M 1 73 ≤ 5) : CI l g ad dsR 14 yX6_isFigure cX6_isFigure 2 (some .boolean) 1 [.ref (ad 0), .int v] M J (nI 0) M J := by
  refine CI.of (plainFor_of_name (by decide)) (Nat.le_of_ble_eq_true rfl) (fun p9 e9 s9 m9 args9 below9 meth9 c9 CF hK hr9 hlk9 hP hS ls hl => ?_)
  have hx := CF.1
  have hb := CF.2.1
  have hA : ∀ q, g_A ad 14 q → g_A ad 14 q := fun _ h => h
  have hl : lv_has ls 2 [(0, .ref (ad 0)), (1, .int v)] := hl
  refine lv_iload_n hx hb dX6_isFigure_0 rfl (lv_at hl 1 rfl) ?_
  refine lv_i2l hx hb dX6_isFigure_1 rfl ?_
  refine lv_lconst (v := (0 : Int64)) hx hb dX6_isFigure_2 rfl ?_
  refine lv_aload_n hx hb dX6_isFigure_3 rfl (lv_at hl 0 rfl) ?_
  refine x_getr CF hK hP 0 (by decide) dR_0 rfl uX6 0 (by decide) (j := 1) rfl wd3_96 rfl dX6_isFigure_4 ?_
  refine lv_bipush (v := nI 73) hx hb dX6_isFigure_7 (by decide) ?_
  refine x_iald CF hK hP 1 (by decide) dR_1 73 (by omega) (by decide) dX6_isFigure_9 ?_
  refine lv_iconst (v := nI 1) hx hb dX6_isFigure_10 (by decide) ?_
  refine lv_isub hx hb dX6_isFigure_11 ?_
  refine lv_i2l hx hb dX6_isFigure_12 rfl ?_
  refine x_callSP CF hK hP hS hl (As := [.long v.toInt64, .long (0 : Int64), .long ((nI (M 1 73) - nI 1).toInt64)]) (rest := []) (r_in_f _ _ _ (il_cap h (by omega))) kw_X6_in wd3_147 rfl ⟨Nat.le_of_ble_eq_true rfl, Nat.le_of_ble_eq_true rfl⟩ ⟨Nat.le_refl _, Nat.le_refl _⟩ (Nat.le_of_ble_eq_true rfl) dX6_isFigure_13 (fun H locs hP hS => ?_)
  exact x_retz hx hb hr9 hlk9 hS hP (by first | rfl | (show nI 0 = nI 0; first | rfl | omega)) (rfl) dX6_isFigure_16
set_option maxHeartbeats 4000000 in
set_option maxRecDepth 100000 in
theorem r_isGood_0_t {l : Launch} {g : gE} {ad : Nat → Nat} (hI : g_inj ad 14) (M : gMem) (J : gMeL) (hw : wfR M) (v : Nat) (h : v < 4) : CI l g ad dsR 14 yX6_isGood cX6_isGood 3 (some .boolean) 2 [.ref (ad 0), .int (nI 0), .int (nI v)] M J (nI 1) M J := by
  refine CI.of (plainFor_of_name (by decide)) (Nat.le_of_ble_eq_true rfl) (fun p9 e9 s9 m9 args9 below9 meth9 c9 CF hK hr9 hlk9 hP hS ls hl => ?_)
  have hx := CF.1
  have hb := CF.2.1
  have hA : ∀ q, g_A ad 14 q → g_A ad 14 q := fun _ h => h
  have hl : lv_has ls 3 [(0, .ref (ad 0)), (1, .int (nI 0)), (2, .int (nI v))] := hl
  have hnc := hw.nc
  have hnf := hw.nf
  have hwy := hw.way
  refine lv_iload_n hx hb dX6_isGood_0 rfl (lv_at hl 1 rfl) ?_
  refine x_yne (u := (0 : Int)) (tgt := 16) hx hb (rfl) dX6_isGood_1 (by decide) (fun h_1 => (by omega : False).elim) (fun h_1 => ?_)
  refine lv_iload_n hx hb dX6_isGood_4 rfl (lv_at hl 2 rfl) ?_
  refine lv_i2l hx hb dX6_isGood_5 (nI_l (by omega)) ?_
  refine lv_lconst (v := (0 : Int64)) hx hb dX6_isGood_6 rfl ?_
  refine lv_ldc2 hx hb CF.2.2.2.1 (CF.2.2.2.2 _ (List.mem_cons_of_mem _ wd3_191)) dX6_isGood_7 ?_
  refine x_callSP CF hK hP hS hl (As := [.long (lN v), .long (0 : Int64), .long (3 : Int64)]) (rest := []) (r_in_t _ _ _ (il_in (lo := 0) (hi := 3) (by omega) (by omega) (by omega))) kw_X6_in wd3_147 rfl ⟨Nat.le_of_ble_eq_true rfl, Nat.le_of_ble_eq_true rfl⟩ ⟨Nat.le_refl _, Nat.le_refl _⟩ (Nat.le_of_ble_eq_true rfl) dX6_isGood_10 (fun H locs hP hS => ?_)
  refine lv_goto (tgt := 50) hx hb dX6_isGood_13 (by decide) ?_
  exact x_retz hx hb hr9 hlk9 hS hP (by first | rfl | (show nI 1 = nI 1; first | rfl | omega)) (rfl) dX6_isGood_50
set_option maxHeartbeats 4000000 in
set_option maxRecDepth 100000 in
theorem r_isGood_0_f {l : Launch} {g : gE} {ad : Nat → Nat} (hI : g_inj ad 14) (M : gMem) (J : gMeL) (hw : wfR M) (v : Int32) (h : v.toInt < 0 ∨ ((4 : Nat) : Int) ≤ v.toInt) : CI l g ad dsR 14 yX6_isGood cX6_isGood 3 (some .boolean) 2 [.ref (ad 0), .int (nI 0), .int v] M J (nI 0) M J := by
  refine CI.of (plainFor_of_name (by decide)) (Nat.le_of_ble_eq_true rfl) (fun p9 e9 s9 m9 args9 below9 meth9 c9 CF hK hr9 hlk9 hP hS ls hl => ?_)
  have hx := CF.1
  have hb := CF.2.1
  have hA : ∀ q, g_A ad 14 q → g_A ad 14 q := fun _ h => h
  have hl : lv_has ls 3 [(0, .ref (ad 0)), (1, .int (nI 0)), (2, .int v)] := hl
  have hnc := hw.nc
  have hnf := hw.nf
  have hwy := hw.way
  refine lv_iload_n hx hb dX6_isGood_0 rfl (lv_at hl 1 rfl) ?_
  refine x_yne (u := (0 : Int)) (tgt := 16) hx hb (rfl) dX6_isGood_1 (by decide) (fun h_1 => (by omega : False).elim) (fun h_1 => ?_)
  refine lv_iload_n hx hb dX6_isGood_4 rfl (lv_at hl 2 rfl) ?_
  refine lv_i2l hx hb dX6_isGood_5 rfl ?_
  refine lv_lconst (v := (0 : Int64)) hx hb dX6_isGood_6 rfl ?_
  refine lv_ldc2 hx hb CF.2.2.2.1 (CF.2.2.2.2 _ (List.mem_cons_of_mem _ wd3_191)) dX6_isGood_7 ?_
  refine x_callSP CF hK hP hS hl (As := [.long v.toInt64, .long (0 : Int64), .long (3 : Int64)]) (rest := []) (r_in_f _ _ _ (il_out (lo := 0) (hi := 3) (by omega) (by omega) (by omega))) kw_X6_in wd3_147 rfl ⟨Nat.le_of_ble_eq_true rfl, Nat.le_of_ble_eq_true rfl⟩ ⟨Nat.le_refl _, Nat.le_refl _⟩ (Nat.le_of_ble_eq_true rfl) dX6_isGood_10 (fun H locs hP hS => ?_)
  refine lv_goto (tgt := 50) hx hb dX6_isGood_13 (by decide) ?_
  exact x_retz hx hb hr9 hlk9 hS hP (by first | rfl | (show nI 0 = nI 0; first | rfl | omega)) (rfl) dX6_isGood_50
set_option maxHeartbeats 4000000 in
set_option maxRecDepth 100000 in
theorem r_isGood_1_t {l : Launch} {g : gE} {ad : Nat → Nat} (hI : g_inj ad 14) (M : gMem) (J : gMeL) (hw : wfR M) (v : Nat) (h : v < M 1 0) : CI l g ad dsR 14 yX6_isGood cX6_isGood 3 (some .boolean) 2 [.ref (ad 0), .int (nI 1), .int (nI v)] M J (nI 1) M J := by
  refine CI.of (plainFor_of_name (by decide)) (Nat.le_of_ble_eq_true rfl) (fun p9 e9 s9 m9 args9 below9 meth9 c9 CF hK hr9 hlk9 hP hS ls hl => ?_)
  have hx := CF.1
  have hb := CF.2.1
  have hA : ∀ q, g_A ad 14 q → g_A ad 14 q := fun _ h => h
  have hl : lv_has ls 3 [(0, .ref (ad 0)), (1, .int (nI 1)), (2, .int (nI v))] := hl
  have hnc := hw.nc
  have hnf := hw.nf
  have hwy := hw.way
  refine lv_iload_n hx hb dX6_isGood_0 rfl (lv_at hl 1 rfl) ?_
  refine x_yne (u := (1 : Int)) (tgt := 16) hx hb (rfl) dX6_isGood_1 (by decide) (fun h_1 => ?_) (fun h_1 => (by omega : False).elim)
  refine lv_iload_n hx hb dX6_isGood_16 rfl (lv_at hl 1 rfl) ?_
  refine lv_iconst (v := nI 1) hx hb dX6_isGood_17 (by decide) ?_
  refine x_zne (u := (1 : Int)) (v := (1 : Int)) (tgt := 29) hx hb (rfl) (rfl) dX6_isGood_18 (by decide) (fun h_2 => (by omega : False).elim) (fun h_2 => ?_)
  refine lv_aload_n hx hb dX6_isGood_21 rfl (lv_at hl 0 rfl) ?_
  refine lv_iload_n hx hb dX6_isGood_22 rfl (lv_at hl 2 rfl) ?_
  refine x_callVI CF hK hP hS hA hl (As := [.int (nI v)]) (rest := []) (r_isCam_t hI M J v (by omega) (by omega)) kw_X6_isCam wd3_170 (by decide) dR_0 rfl rfl ⟨Nat.le_of_ble_eq_true rfl, Nat.le_of_ble_eq_true rfl⟩ ⟨Nat.le_refl _, Nat.le_refl _⟩ (Nat.le_of_ble_eq_true rfl) dX6_isGood_23 (fun H locs hP hS => ?_)
  refine lv_goto (tgt := 50) hx hb dX6_isGood_26 (by decide) ?_
  exact x_retz hx hb hr9 hlk9 hS hP (by first | rfl | (show nI 1 = nI 1; first | rfl | omega)) (rfl) dX6_isGood_50
set_option maxHeartbeats 4000000 in
set_option maxRecDepth 100000 in
theorem r_isGood_1_f {l : Launch} {g : gE} {ad : Nat → Nat} (hI : g_inj ad 14) (M : gMem) (J : gMeL) (hw : wfR M) (v : Int32) (h : v.toInt < 0 ∨ ((M 1 0 : Nat) : Int) ≤ v.toInt) : CI l g ad dsR 14 yX6_isGood cX6_isGood 3 (some .boolean) 2 [.ref (ad 0), .int (nI 1), .int v] M J (nI 0) M J := by
  refine CI.of (plainFor_of_name (by decide)) (Nat.le_of_ble_eq_true rfl) (fun p9 e9 s9 m9 args9 below9 meth9 c9 CF hK hr9 hlk9 hP hS ls hl => ?_)
  have hx := CF.1
  have hb := CF.2.1
  have hA : ∀ q, g_A ad 14 q → g_A ad 14 q := fun _ h => h
  have hl : lv_has ls 3 [(0, .ref (ad 0)), (1, .int (nI 1)), (2, .int v)] := hl
  have hnc := hw.nc
  have hnf := hw.nf
  have hwy := hw.way
  refine lv_iload_n hx hb dX6_isGood_0 rfl (lv_at hl 1 rfl) ?_
  refine x_yne (u := (1 : Int)) (tgt := 16) hx hb (rfl) dX6_isGood_1 (by decide) (fun h_1 => ?_) (fun h_1 => (by omega : False).elim)
  refine lv_iload_n hx hb dX6_isGood_16 rfl (lv_at hl 1 rfl) ?_
  refine lv_iconst (v := nI 1) hx hb dX6_isGood_17 (by decide) ?_
  refine x_zne (u := (1 : Int)) (v := (1 : Int)) (tgt := 29) hx hb (rfl) (rfl) dX6_isGood_18 (by decide) (fun h_2 => (by omega : False).elim) (fun h_2 => ?_)
  refine lv_aload_n hx hb dX6_isGood_21 rfl (lv_at hl 0 rfl) ?_
  refine lv_iload_n hx hb dX6_isGood_22 rfl (lv_at hl 2 rfl) ?_
  refine x_callVI CF hK hP hS hA hl (As := [.int v]) (rest := []) (r_isCam_f hI M J v h (by omega)) kw_X6_isCam wd3_170 (by decide) dR_0 rfl rfl ⟨Nat.le_of_ble_eq_true rfl, Nat.le_of_ble_eq_true rfl⟩ ⟨Nat.le_refl _, Nat.le_refl _⟩ (Nat.le_of_ble_eq_true rfl) dX6_isGood_23 (fun H locs hP hS => ?_)
  refine lv_goto (tgt := 50) hx hb dX6_isGood_26 (by decide) ?_
  exact x_retz hx hb hr9 hlk9 hS hP (by first | rfl | (show nI 0 = nI 0; first | rfl | omega)) (rfl) dX6_isGood_50
set_option maxHeartbeats 4000000 in
set_option maxRecDepth 100000 in
theorem r_isGood_2_t {l : Launch} {g : gE} {ad : Nat → Nat} (hI : g_inj ad 14) (M : gMem) (J : gMeL) (hw : wfR M) (v : Nat) (h : v < 12) : CI l g ad dsR 14 yX6_isGood cX6_isGood 3 (some .boolean) 2 [.ref (ad 0), .int (nI 2), .int (nI v)] M J (nI 1) M J := by
  refine CI.of (plainFor_of_name (by decide)) (Nat.le_of_ble_eq_true rfl) (fun p9 e9 s9 m9 args9 below9 meth9 c9 CF hK hr9 hlk9 hP hS ls hl => ?_)
  have hx := CF.1
  have hb := CF.2.1
  have hA : ∀ q, g_A ad 14 q → g_A ad 14 q := fun _ h => h
  have hl : lv_has ls 3 [(0, .ref (ad 0)), (1, .int (nI 2)), (2, .int (nI v))] := hl
  have hnc := hw.nc
  have hnf := hw.nf
  have hwy := hw.way
  refine lv_iload_n hx hb dX6_isGood_0 rfl (lv_at hl 1 rfl) ?_
  refine x_yne (u := (2 : Int)) (tgt := 16) hx hb (rfl) dX6_isGood_1 (by decide) (fun h_1 => ?_) (fun h_1 => (by omega : False).elim)
  refine lv_iload_n hx hb dX6_isGood_16 rfl (lv_at hl 1 rfl) ?_
  refine lv_iconst (v := nI 1) hx hb dX6_isGood_17 (by decide) ?_
  refine x_zne (u := (2 : Int)) (v := (1 : Int)) (tgt := 29) hx hb (rfl) (rfl) dX6_isGood_18 (by decide) (fun h_2 => ?_) (fun h_2 => (by omega : False).elim)
  refine lv_iload_n hx hb dX6_isGood_29 rfl (lv_at hl 1 rfl) ?_
  refine lv_iconst (v := nI 2) hx hb dX6_isGood_30 (by decide) ?_
  refine x_zne (u := (2 : Int)) (v := (2 : Int)) (tgt := 41) hx hb (rfl) (rfl) dX6_isGood_31 (by decide) (fun h_3 => (by omega : False).elim) (fun h_3 => ?_)
  refine lv_iload_n hx hb dX6_isGood_34 rfl (lv_at hl 2 rfl) ?_
  refine x_callSP CF hK hP hS hl (As := [.int (nI v)]) (rest := []) (r_isAngle_t v (by omega)) kw_X6_isAngle wd3_174 rfl ⟨Nat.le_of_ble_eq_true rfl, Nat.le_of_ble_eq_true rfl⟩ ⟨Nat.le_refl _, Nat.le_refl _⟩ (Nat.le_of_ble_eq_true rfl) dX6_isGood_35 (fun H locs hP hS => ?_)
  refine lv_goto (tgt := 50) hx hb dX6_isGood_38 (by decide) ?_
  exact x_retz hx hb hr9 hlk9 hS hP (by first | rfl | (show nI 1 = nI 1; first | rfl | omega)) (rfl) dX6_isGood_50
set_option maxHeartbeats 4000000 in
set_option maxRecDepth 100000 in
theorem r_isGood_2_f {l : Launch} {g : gE} {ad : Nat → Nat} (hI : g_inj ad 14) (M : gMem) (J : gMeL) (hw : wfR M) (v : Int32) (h : v.toInt < 0 ∨ ((12 : Nat) : Int) ≤ v.toInt) : CI l g ad dsR 14 yX6_isGood cX6_isGood 3 (some .boolean) 2 [.ref (ad 0), .int (nI 2), .int v] M J (nI 0) M J := by
  refine CI.of (plainFor_of_name (by decide)) (Nat.le_of_ble_eq_true rfl) (fun p9 e9 s9 m9 args9 below9 meth9 c9 CF hK hr9 hlk9 hP hS ls hl => ?_)
  have hx := CF.1
  have hb := CF.2.1
  have hA : ∀ q, g_A ad 14 q → g_A ad 14 q := fun _ h => h
  have hl : lv_has ls 3 [(0, .ref (ad 0)), (1, .int (nI 2)), (2, .int v)] := hl
  have hnc := hw.nc
  have hnf := hw.nf
  have hwy := hw.way
  refine lv_iload_n hx hb dX6_isGood_0 rfl (lv_at hl 1 rfl) ?_
  refine x_yne (u := (2 : Int)) (tgt := 16) hx hb (rfl) dX6_isGood_1 (by decide) (fun h_1 => ?_) (fun h_1 => (by omega : False).elim)
  refine lv_iload_n hx hb dX6_isGood_16 rfl (lv_at hl 1 rfl) ?_
  refine lv_iconst (v := nI 1) hx hb dX6_isGood_17 (by decide) ?_
  refine x_zne (u := (2 : Int)) (v := (1 : Int)) (tgt := 29) hx hb (rfl) (rfl) dX6_isGood_18 (by decide) (fun h_2 => ?_) (fun h_2 => (by omega : False).elim)
  refine lv_iload_n hx hb dX6_isGood_29 rfl (lv_at hl 1 rfl) ?_
  refine lv_iconst (v := nI 2) hx hb dX6_isGood_30 (by decide) ?_
  refine x_zne (u := (2 : Int)) (v := (2 : Int)) (tgt := 41) hx hb (rfl) (rfl) dX6_isGood_31 (by decide) (fun h_3 => (by omega : False).elim) (fun h_3 => ?_)
  refine lv_iload_n hx hb dX6_isGood_34 rfl (lv_at hl 2 rfl) ?_
  refine x_callSP CF hK hP hS hl (As := [.int v]) (rest := []) (r_isAngle_f v h) kw_X6_isAngle wd3_174 rfl ⟨Nat.le_of_ble_eq_true rfl, Nat.le_of_ble_eq_true rfl⟩ ⟨Nat.le_refl _, Nat.le_refl _⟩ (Nat.le_of_ble_eq_true rfl) dX6_isGood_35 (fun H locs hP hS => ?_)
  refine lv_goto (tgt := 50) hx hb dX6_isGood_38 (by decide) ?_
  exact x_retz hx hb hr9 hlk9 hS hP (by first | rfl | (show nI 0 = nI 0; first | rfl | omega)) (rfl) dX6_isGood_50
set_option maxHeartbeats 4000000 in
set_option maxRecDepth 100000 in
theorem r_isGood_3_t {l : Launch} {g : gE} {ad : Nat → Nat} (hI : g_inj ad 14) (M : gMem) (J : gMeL) (hw : wfR M) (v : Nat) (h : v < 4) : CI l g ad dsR 14 yX6_isGood cX6_isGood 3 (some .boolean) 2 [.ref (ad 0), .int (nI 3), .int (nI v)] M J (nI 1) M J := by
  refine CI.of (plainFor_of_name (by decide)) (Nat.le_of_ble_eq_true rfl) (fun p9 e9 s9 m9 args9 below9 meth9 c9 CF hK hr9 hlk9 hP hS ls hl => ?_)
  have hx := CF.1
  have hb := CF.2.1
  have hA : ∀ q, g_A ad 14 q → g_A ad 14 q := fun _ h => h
  have hl : lv_has ls 3 [(0, .ref (ad 0)), (1, .int (nI 3)), (2, .int (nI v))] := hl
  have hnc := hw.nc
  have hnf := hw.nf
  have hwy := hw.way
  refine lv_iload_n hx hb dX6_isGood_0 rfl (lv_at hl 1 rfl) ?_
  refine x_yne (u := (3 : Int)) (tgt := 16) hx hb (rfl) dX6_isGood_1 (by decide) (fun h_1 => ?_) (fun h_1 => (by omega : False).elim)
  refine lv_iload_n hx hb dX6_isGood_16 rfl (lv_at hl 1 rfl) ?_
  refine lv_iconst (v := nI 1) hx hb dX6_isGood_17 (by decide) ?_
  refine x_zne (u := (3 : Int)) (v := (1 : Int)) (tgt := 29) hx hb (rfl) (rfl) dX6_isGood_18 (by decide) (fun h_2 => ?_) (fun h_2 => (by omega : False).elim)
  refine lv_iload_n hx hb dX6_isGood_29 rfl (lv_at hl 1 rfl) ?_
  refine lv_iconst (v := nI 2) hx hb dX6_isGood_30 (by decide) ?_
  refine x_zne (u := (3 : Int)) (v := (2 : Int)) (tgt := 41) hx hb (rfl) (rfl) dX6_isGood_31 (by decide) (fun h_3 => ?_) (fun h_3 => (by omega : False).elim)
  refine lv_iload_n hx hb dX6_isGood_41 rfl (lv_at hl 2 rfl) ?_
  refine lv_i2l hx hb dX6_isGood_42 (nI_l (by omega)) ?_
  refine lv_lconst (v := (0 : Int64)) hx hb dX6_isGood_43 rfl ?_
  refine lv_ldc2 hx hb CF.2.2.2.1 (CF.2.2.2.2 _ (List.mem_cons_of_mem _ wd3_191)) dX6_isGood_44 ?_
  refine x_callSP CF hK hP hS hl (As := [.long (lN v), .long (0 : Int64), .long (3 : Int64)]) (rest := []) (r_in_t _ _ _ (il_in (lo := 0) (hi := 3) (by omega) (by omega) (by omega))) kw_X6_in wd3_147 rfl ⟨Nat.le_of_ble_eq_true rfl, Nat.le_of_ble_eq_true rfl⟩ ⟨Nat.le_refl _, Nat.le_refl _⟩ (Nat.le_of_ble_eq_true rfl) dX6_isGood_47 (fun H locs hP hS => ?_)
  exact x_retz hx hb hr9 hlk9 hS hP (by first | rfl | (show nI 1 = nI 1; first | rfl | omega)) (rfl) dX6_isGood_50
set_option maxHeartbeats 4000000 in
set_option maxRecDepth 100000 in
theorem r_isGood_3_f {l : Launch} {g : gE} {ad : Nat → Nat} (hI : g_inj ad 14) (M : gMem) (J : gMeL) (hw : wfR M) (v : Int32) (h : v.toInt < 0 ∨ ((4 : Nat) : Int) ≤ v.toInt) : CI l g ad dsR 14 yX6_isGood cX6_isGood 3 (some .boolean) 2 [.ref (ad 0), .int (nI 3), .int v] M J (nI 0) M J := by
  refine CI.of (plainFor_of_name (by decide)) (Nat.le_of_ble_eq_true rfl) (fun p9 e9 s9 m9 args9 below9 meth9 c9 CF hK hr9 hlk9 hP hS ls hl => ?_)
  have hx := CF.1
  have hb := CF.2.1
  have hA : ∀ q, g_A ad 14 q → g_A ad 14 q := fun _ h => h
  have hl : lv_has ls 3 [(0, .ref (ad 0)), (1, .int (nI 3)), (2, .int v)] := hl
  have hnc := hw.nc
  have hnf := hw.nf
  have hwy := hw.way
  refine lv_iload_n hx hb dX6_isGood_0 rfl (lv_at hl 1 rfl) ?_
  refine x_yne (u := (3 : Int)) (tgt := 16) hx hb (rfl) dX6_isGood_1 (by decide) (fun h_1 => ?_) (fun h_1 => (by omega : False).elim)
  refine lv_iload_n hx hb dX6_isGood_16 rfl (lv_at hl 1 rfl) ?_
  refine lv_iconst (v := nI 1) hx hb dX6_isGood_17 (by decide) ?_
  refine x_zne (u := (3 : Int)) (v := (1 : Int)) (tgt := 29) hx hb (rfl) (rfl) dX6_isGood_18 (by decide) (fun h_2 => ?_) (fun h_2 => (by omega : False).elim)
  refine lv_iload_n hx hb dX6_isGood_29 rfl (lv_at hl 1 rfl) ?_
  refine lv_iconst (v := nI 2) hx hb dX6_isGood_30 (by decide) ?_
  refine x_zne (u := (3 : Int)) (v := (2 : Int)) (tgt := 41) hx hb (rfl) (rfl) dX6_isGood_31 (by decide) (fun h_3 => ?_) (fun h_3 => (by omega : False).elim)
  refine lv_iload_n hx hb dX6_isGood_41 rfl (lv_at hl 2 rfl) ?_
  refine lv_i2l hx hb dX6_isGood_42 rfl ?_
  refine lv_lconst (v := (0 : Int64)) hx hb dX6_isGood_43 rfl ?_
  refine lv_ldc2 hx hb CF.2.2.2.1 (CF.2.2.2.2 _ (List.mem_cons_of_mem _ wd3_191)) dX6_isGood_44 ?_
  refine x_callSP CF hK hP hS hl (As := [.long v.toInt64, .long (0 : Int64), .long (3 : Int64)]) (rest := []) (r_in_f _ _ _ (il_out (lo := 0) (hi := 3) (by omega) (by omega) (by omega))) kw_X6_in wd3_147 rfl ⟨Nat.le_of_ble_eq_true rfl, Nat.le_of_ble_eq_true rfl⟩ ⟨Nat.le_refl _, Nat.le_refl _⟩ (Nat.le_of_ble_eq_true rfl) dX6_isGood_47 (fun H locs hP hS => ?_)
  exact x_retz hx hb hr9 hlk9 hS hP (by first | rfl | (show nI 0 = nI 0; first | rfl | omega)) (rfl) dX6_isGood_50
set_option maxHeartbeats 4000000 in
set_option maxRecDepth 100000 in
theorem r_aheadOf {l : Launch} {g : gE} {ad : Nat → Nat} (hI : g_inj ad 14) (M : gMem) (J : gMeL) (hw : wfR M) (a : Nat) (ha : a < 12) : CI l g ad dsR 14 yX6_aheadOf cX6_aheadOf 2 (some .int) 0 [.ref (ad 0), .int (nI a)] M J (nI (ahd (M 1 105) a 1)) M J := by
  refine CI.of (plainFor_of_name (by decide)) (Nat.le_of_ble_eq_true rfl) (fun p9 e9 s9 m9 args9 below9 meth9 c9 CF hK hr9 hlk9 hP hS ls hl => ?_)
  have hx := CF.1
  have hb := CF.2.1
  have hA : ∀ q, g_A ad 14 q → g_A ad 14 q := fun _ h => h
  have hl : lv_has ls 2 [(0, .ref (ad 0)), (1, .int (nI a))] := hl
  have hnc := hw.nc
  have hnf := hw.nf
  have hwy := hw.way
  refine lv_iload_n hx hb dX6_aheadOf_0 rfl (lv_at hl 1 rfl) ?_
  refine lv_aload_n hx hb dX6_aheadOf_1 rfl (lv_at hl 0 rfl) ?_
  refine x_getr CF hK hP 0 (by decide) dR_0 rfl uX6 0 (by decide) (j := 1) rfl wd3_96 rfl dX6_aheadOf_2 ?_
  refine lv_bipush (v := nI 105) hx hb dX6_aheadOf_5 (by decide) ?_
  refine x_iald CF hK hP 1 (by decide) dR_1 105 (by omega) (by decide) dX6_aheadOf_7 ?_
  refine x_yne (u := (M 1 105 : Nat)) (tgt := 16) hx hb (nI_toInt (by omega)) dX6_aheadOf_8 (by decide) (fun h_1 => ?_) (fun h_1 => ?_)
  · refine lv_iconst (v := nI 1) hx hb dX6_aheadOf_16 (by decide) ?_
    refine x_iadd hx hb dX6_aheadOf_17 ?_
    refine lv_bipush (v := nI 12) hx hb dX6_aheadOf_18 (by decide) ?_
    refine x_irem hx hb (by omega) (by omega) (by omega) dX6_aheadOf_20 ?_
    exact x_reti hx hb hr9 hlk9 hS hP (congrArg nI (by rw [ahd, if_neg (by omega)])) dX6_aheadOf_21
  · refine lv_bipush (v := nI 11) hx hb dX6_aheadOf_11 (by decide) ?_
    refine lv_goto (tgt := 17) hx hb dX6_aheadOf_13 (by decide) ?_
    refine x_iadd hx hb dX6_aheadOf_17 ?_
    refine lv_bipush (v := nI 12) hx hb dX6_aheadOf_18 (by decide) ?_
    refine x_irem hx hb (by omega) (by omega) (by omega) dX6_aheadOf_20 ?_
    exact x_reti hx hb hr9 hlk9 hS hP (congrArg nI (by rw [ahd, if_pos (by omega)])) dX6_aheadOf_21
set_option maxHeartbeats 4000000 in
set_option maxRecDepth 100000 in
theorem r_behind {l : Launch} {g : gE} {ad : Nat → Nat} (hI : g_inj ad 14) (M : gMem) (J : gMeL) (hw : wfR M) (a : Nat) (ha : a < 12) : CI l g ad dsR 14 yX6_behind cX6_behind 2 (some .int) 0 [.ref (ad 0), .int (nI a)] M J (nI (bhd (M 1 105) a)) M J := by
  refine CI.of (plainFor_of_name (by decide)) (Nat.le_of_ble_eq_true rfl) (fun p9 e9 s9 m9 args9 below9 meth9 c9 CF hK hr9 hlk9 hP hS ls hl => ?_)
  have hx := CF.1
  have hb := CF.2.1
  have hA : ∀ q, g_A ad 14 q → g_A ad 14 q := fun _ h => h
  have hl : lv_has ls 2 [(0, .ref (ad 0)), (1, .int (nI a))] := hl
  have hnc := hw.nc
  have hnf := hw.nf
  have hwy := hw.way
  refine lv_iload_n hx hb dX6_behind_0 rfl (lv_at hl 1 rfl) ?_
  refine lv_aload_n hx hb dX6_behind_1 rfl (lv_at hl 0 rfl) ?_
  refine x_getr CF hK hP 0 (by decide) dR_0 rfl uX6 0 (by decide) (j := 1) rfl wd3_96 rfl dX6_behind_2 ?_
  refine lv_bipush (v := nI 105) hx hb dX6_behind_5 (by decide) ?_
  refine x_iald CF hK hP 1 (by decide) dR_1 105 (by omega) (by decide) dX6_behind_7 ?_
  refine x_yne (u := (M 1 105 : Nat)) (tgt := 15) hx hb (nI_toInt (by omega)) dX6_behind_8 (by decide) (fun h_1 => ?_) (fun h_1 => ?_)
  · refine lv_bipush (v := nI 11) hx hb dX6_behind_15 (by decide) ?_
    refine x_iadd hx hb dX6_behind_17 ?_
    refine lv_bipush (v := nI 12) hx hb dX6_behind_18 (by decide) ?_
    refine x_irem hx hb (by omega) (by omega) (by omega) dX6_behind_20 ?_
    exact x_reti hx hb hr9 hlk9 hS hP (congrArg nI (by rw [bhd, if_neg (by omega)])) dX6_behind_21
  · refine lv_iconst (v := nI 1) hx hb dX6_behind_11 (by decide) ?_
    refine lv_goto (tgt := 17) hx hb dX6_behind_12 (by decide) ?_
    refine x_iadd hx hb dX6_behind_17 ?_
    refine lv_bipush (v := nI 12) hx hb dX6_behind_18 (by decide) ?_
    refine x_irem hx hb (by omega) (by omega) (by omega) dX6_behind_20 ?_
    exact x_reti hx hb hr9 hlk9 hS hP (congrArg nI (by rw [bhd, if_pos (by omega)])) dX6_behind_21
set_option maxHeartbeats 4000000 in
set_option maxRecDepth 100000 in
theorem r_hairOf {l : Launch} {g : gE} {ad : Nat → Nat} (hI : g_inj ad 14) (M : gMem) (J : gMeL) (hw : wfR M) (f : Nat) (hf5 : f < 5) (a : Nat) (ha : a < 12) : CI l g ad dsR 14 yX6_hairOf cX6_hairOf 3 (some .int) 0 [.ref (ad 0), .int (nI f), .int (nI a)] M J (nI (hr (rowR M (M 1 (79 + f))) (M 1 (84 + f)) a)) M J := by
  refine CI.of (plainFor_of_name (by decide)) (Nat.le_of_ble_eq_true rfl) (fun p9 e9 s9 m9 args9 below9 meth9 c9 CF hK hr9 hlk9 hP hS ls hl => ?_)
  have hx := CF.1
  have hb := CF.2.1
  have hA : ∀ q, g_A ad 14 q → g_A ad 14 q := fun _ h => h
  have hl : lv_has ls 3 [(0, .ref (ad 0)), (1, .int (nI f)), (2, .int (nI a))] := hl
  have hnc := hw.nc
  have hnf := hw.nf
  have hwy := hw.way
  have hf := hw.fig hf5
  have hB : ∀ a, a < 12 → (rowR M (M 1 (79 + f))) a ≤ 9 := fun a ha => hw.row (by omega) ha
  refine lv_aload_n hx hb dX6_hairOf_0 rfl (lv_at hl 0 rfl) ?_
  refine x_getr CF hK hP 0 (by decide) dR_0 rfl uX6 0 (by decide) (j := 1) rfl wd3_96 rfl dX6_hairOf_1 ?_
  refine lv_iconst (v := nI 1) hx hb dX6_hairOf_4 (by decide) ?_
  refine lv_bipush (v := nI 12) hx hb dX6_hairOf_5 (by decide) ?_
  refine lv_aload_n hx hb dX6_hairOf_7 rfl (lv_at hl 0 rfl) ?_
  refine x_getr CF hK hP 0 (by decide) dR_0 rfl uX6 0 (by decide) (j := 1) rfl wd3_96 rfl dX6_hairOf_8 ?_
  refine lv_bipush (v := nI 79) hx hb dX6_hairOf_11 (by decide) ?_
  refine lv_iload_n hx hb dX6_hairOf_13 rfl (lv_at hl 1 rfl) ?_
  refine x_iadd hx hb dX6_hairOf_14 ?_
  refine x_iald CF hK hP 1 (by decide) dR_1 (79 + f) (by omega) (by decide) dX6_hairOf_15 ?_
  refine x_imul hx hb dX6_hairOf_16 ?_
  refine x_iadd hx hb dX6_hairOf_17 ?_
  refine lv_iload_n hx hb dX6_hairOf_18 rfl (lv_at hl 2 rfl) ?_
  refine lv_aload_n hx hb dX6_hairOf_19 rfl (lv_at hl 0 rfl) ?_
  refine x_getr CF hK hP 0 (by decide) dR_0 rfl uX6 0 (by decide) (j := 1) rfl wd3_96 rfl dX6_hairOf_20 ?_
  refine lv_bipush (v := nI 84) hx hb dX6_hairOf_23 (by decide) ?_
  refine lv_iload_n hx hb dX6_hairOf_25 rfl (lv_at hl 1 rfl) ?_
  refine x_iadd hx hb dX6_hairOf_26 ?_
  refine x_iald CF hK hP 1 (by decide) dR_1 (84 + f) (by omega) (by decide) dX6_hairOf_27 ?_
  refine x_iadd hx hb dX6_hairOf_28 ?_
  refine lv_bipush (v := nI 12) hx hb dX6_hairOf_29 (by decide) ?_
  refine x_irem hx hb (by omega) (by omega) (by omega) dX6_hairOf_31 ?_
  refine x_iadd hx hb dX6_hairOf_32 ?_
  refine x_iald CF hK hP 1 (by decide) dR_1 ((1 + (12 * (M 1 (79 + f)))) + ((a + (M 1 (84 + f))) % 12)) (by omega) (by decide) dX6_hairOf_33 ?_
  exact x_reti hx hb hr9 hlk9 hS hP (by first | rfl | (show nI (M 1 ((1 + (12 * (M 1 (79 + f)))) + ((a + (M 1 (84 + f))) % 12))) = nI (hr (rowR M (M 1 (79 + f))) (M 1 (84 + f)) a); first | rfl | omega)) dX6_hairOf_34
set_option maxHeartbeats 4000000 in
set_option maxRecDepth 100000 in
theorem r_heightOf {l : Launch} {g : gE} {ad : Nat → Nat} (hI : g_inj ad 14) (M : gMem) (J : gMeL) (hw : wfR M) (f : Nat) (hf5 : f < 5) (a : Nat) (ha : a < 12) : CI l g ad dsR 14 yX6_heightOf cX6_heightOf 7 (some .int) 1 [.ref (ad 0), .int (nI f), .int (nI a)] M J (nI (hgtR M f a)) M J := by
  refine CI.of (plainFor_of_name (by decide)) (Nat.le_of_ble_eq_true rfl) (fun p9 e9 s9 m9 args9 below9 meth9 c9 CF hK hr9 hlk9 hP hS ls hl => ?_)
  have hx := CF.1
  have hb := CF.2.1
  have hA : ∀ q, g_A ad 14 q → g_A ad 14 q := fun _ h => h
  have hl : lv_has ls 7 [(0, .ref (ad 0)), (1, .int (nI f)), (2, .int (nI a))] := hl
  have hnc := hw.nc
  have hnf := hw.nf
  have hwy := hw.way
  have hf := hw.fig hf5
  have hB : ∀ a, a < 12 → (rowR M (M 1 (79 + f))) a ≤ 9 := fun a ha => hw.row (by omega) ha
  have b1 := hr_le hB (M 1 (84 + f)) a
  have b2 := hr_le hB (M 1 (84 + f)) (ahd (M 1 105) a 1)
  have b3 := ahd_lt (M 1 105) a 1
  refine lv_aload_n hx hb dX6_heightOf_0 rfl (lv_at hl 0 rfl) ?_
  refine lv_iload_n hx hb dX6_heightOf_1 rfl (lv_at hl 1 rfl) ?_
  refine lv_iload_n hx hb dX6_heightOf_2 rfl (lv_at hl 2 rfl) ?_
  refine x_callVI CF hK hP hS hA hl (As := [.int (nI f), .int (nI a)]) (rest := []) (r_hairOf hI M J hw f (by omega) a (by omega)) kw_X6_hairOf wd3_223 (by decide) dR_0 rfl rfl ⟨Nat.le_of_ble_eq_true rfl, Nat.le_of_ble_eq_true rfl⟩ ⟨Nat.le_refl _, Nat.le_refl _⟩ (Nat.le_of_ble_eq_true rfl) dX6_heightOf_3 (fun H locs hP hS => ?_)
  refine lv_istore_n (lv' := [(3, .int (nI (hr (rowR M (M 1 (79 + f))) (M 1 (84 + f)) a))), (0, .ref (ad 0)), (1, .int (nI f)), (2, .int (nI a))]) hx hb dX6_heightOf_6 rfl hl (by decide) rfl (fun ls hl => ?_)
  refine lv_aload_n hx hb dX6_heightOf_7 rfl (lv_at hl 1 rfl) ?_
  refine x_getr CF hK hP 0 (by decide) dR_0 rfl uX6 0 (by decide) (j := 1) rfl wd3_96 rfl dX6_heightOf_8 ?_
  refine lv_bipush (v := nI 74) hx hb dX6_heightOf_11 (by decide) ?_
  refine lv_iload_n hx hb dX6_heightOf_13 rfl (lv_at hl 2 rfl) ?_
  refine x_iadd hx hb dX6_heightOf_14 ?_
  refine x_iald CF hK hP 1 (by decide) dR_1 (74 + f) (by omega) (by decide) dX6_heightOf_15 ?_
  rcases (show M 1 (74 + f) = 1 ∨ M 1 (74 + f) = 2 ∨ M 1 (74 + f) = 3 ∨ (M 1 (74 + f) < 1 ∨ 3 < M 1 (74 + f)) by omega) with sw_1 | sw_1 | sw_1 | sw_1
  · refine lv_tableIn (tgt := 44) hx hb dX6_heightOf_16 (by rw [sw_1]; decide) (by rw [sw_1]; decide) (off := 28) (by rw [sw_1]; rfl) (by decide) ?_
    refine lv_iconst (v := nI 2) hx hb dX6_heightOf_44 (by decide) ?_
    refine lv_iload_n hx hb dX6_heightOf_45 rfl (lv_at hl 0 rfl) ?_
    refine x_imul hx hb dX6_heightOf_46 ?_
    exact x_reti hx hb hr9 hlk9 hS hP (congrArg nI (by rw [hgtR, hgt, if_pos sw_1])) dX6_heightOf_47
  · refine lv_tableIn (tgt := 72) hx hb dX6_heightOf_16 (by rw [sw_1]; decide) (by rw [sw_1]; decide) (off := 56) (by rw [sw_1]; rfl) (by decide) ?_
    refine lv_iload_n hx hb dX6_heightOf_72 rfl (lv_at hl 0 rfl) ?_
    refine lv_istore (lv' := [(4, .int (nI (hr (rowR M (M 1 (79 + f))) (M 1 (84 + f)) a))), (3, .int (nI (hr (rowR M (M 1 (79 + f))) (M 1 (84 + f)) a))), (0, .ref (ad 0)), (1, .int (nI f)), (2, .int (nI a))]) hx hb dX6_heightOf_73 hl (by decide) rfl (fun ls hl => ?_)
    refine lv_iload_n hx hb dX6_heightOf_75 rfl (lv_at hl 4 rfl) ?_
    refine lv_istore (lv' := [(5, .int (nI a)), (4, .int (nI (hr (rowR M (M 1 (79 + f))) (M 1 (84 + f)) a))), (3, .int (nI (hr (rowR M (M 1 (79 + f))) (M 1 (84 + f)) a))), (0, .ref (ad 0)), (1, .int (nI f)), (2, .int (nI a))]) hx hb dX6_heightOf_76 hl (by decide) rfl (fun ls hl => ?_)
    refine lv_iconst (v := nI 1) hx hb dX6_heightOf_78 (by decide) ?_
    refine lv_istore (lv' := [(6, .int (nI 1)), (5, .int (nI a)), (4, .int (nI (hr (rowR M (M 1 (79 + f))) (M 1 (84 + f)) a))), (3, .int (nI (hr (rowR M (M 1 (79 + f))) (M 1 (84 + f)) a))), (0, .ref (ad 0)), (1, .int (nI f)), (2, .int (nI a))]) hx hb dX6_heightOf_79 hl (by decide) rfl (fun ls hl => ?_)
    have L81 : ∀ (d81 : Nat) (j : Nat), (j + d81 = 11) → (∀ (H : Heap) (locs : List Loc) (ls : Array Slot), g_P g ad dsR 14 M J H → va_S (g_A ad 14) s9.heap H locs → lv_has ls 7 [(6, .int (nI (j + 1))), (5, .int (nI (ahd (M 1 105) a j))), (4, .int (nI (slw (rowR M (M 1 (79 + f))) (M 1 (84 + f)) (M 1 105) a (j + 1)))), (3, .int (nI (hr (rowR M (M 1 (79 + f))) (M 1 (84 + f)) a))), (0, .ref (ad 0)), (1, .int (nI f)), (2, .int (nI a))] → W p9 l e9 (g_rm 1) s9 m9 args9 below9 meth9 c9 H locs 0 0 (MQ below9 (va_Qi (fun r' (_ : Unit) => r' = (nI (hgtR M f a))) (fun _ t => g_P g ad dsR 14 M J t.heap) (g_A ad 14)) args9 s9 0 0 (g_A ad 14)) (F0 m9 81 ls [])) := by
      intro d81
      induction d81 with
      | zero =>
        intro j hj H locs ls hP hS hl
        refine lv_iload hx hb dX6_heightOf_81 (lv_at hl 0 rfl) ?_
        refine lv_bipush (v := nI 12) hx hb dX6_heightOf_83 (by decide) ?_
        refine x_zge (u := (j + 1 : Nat)) (v := (12 : Int)) (tgt := 134) hx hb (nI_toInt (by omega)) (rfl) dX6_heightOf_85 (by decide) (fun h_2 => ?_) (fun h_2 => (by omega : False).elim)
        refine lv_iload hx hb dX6_heightOf_134 (lv_at hl 2 rfl) ?_
        exact x_reti hx hb hr9 hlk9 hS hP (congrArg nI (by rw [show j = 11 by omega, hgtR, hgt, if_neg (by omega), if_pos sw_1])) dX6_heightOf_136
      | succ d81 ih81 =>
        intro j hj H locs ls hP hS hl
        have c0 := ahd_lt (M 1 105) a j
        have c1 := ahd_lt (M 1 105) a (j + 1)
        have c2 := hr_le hB (M 1 (84 + f)) (ahd (M 1 105) a (j + 1))
        have c3 := slw_le hB (M 1 (84 + f)) (M 1 105) a (j + 1)
        refine lv_iload hx hb dX6_heightOf_81 (lv_at hl 0 rfl) ?_
        refine lv_bipush (v := nI 12) hx hb dX6_heightOf_83 (by decide) ?_
        refine x_zge (u := (j + 1 : Nat)) (v := (12 : Int)) (tgt := 134) hx hb (nI_toInt (by omega)) (rfl) dX6_heightOf_85 (by decide) (fun h_3 => (by omega : False).elim) (fun h_3 => ?_)
        refine lv_aload_n hx hb dX6_heightOf_88 rfl (lv_at hl 4 rfl) ?_
        refine lv_iload hx hb dX6_heightOf_89 (lv_at hl 1 rfl) ?_
        refine x_callVI CF hK hP hS hA hl (As := [.int (nI (ahd (M 1 105) a j))]) (rest := []) (r_aheadOf hI M J hw (ahd (M 1 105) a j) (by omega)) kw_X6_aheadOf wd3_227 (by decide) dR_0 rfl rfl ⟨Nat.le_of_ble_eq_true rfl, Nat.le_of_ble_eq_true rfl⟩ ⟨Nat.le_refl _, Nat.le_refl _⟩ (Nat.le_of_ble_eq_true rfl) dX6_heightOf_91 (fun H locs hP hS => ?_)
        refine x_ri (show (nI (ahd (M 1 105) (ahd (M 1 105) a j) 1)) = nI (ahd (M 1 105) a (j + 1)) from congrArg nI (ahd_1 _ _ _)) ?_
        refine lv_istore (lv' := [(5, .int (nI (ahd (M 1 105) a (j + 1)))), (6, .int (nI (j + 1))), (4, .int (nI (slw (rowR M (M 1 (79 + f))) (M 1 (84 + f)) (M 1 105) a (j + 1)))), (3, .int (nI (hr (rowR M (M 1 (79 + f))) (M 1 (84 + f)) a))), (0, .ref (ad 0)), (1, .int (nI f)), (2, .int (nI a))]) hx hb dX6_heightOf_94 hl (by decide) rfl (fun ls hl => ?_)
        refine lv_aload_n hx hb dX6_heightOf_96 rfl (lv_at hl 4 rfl) ?_
        refine lv_iload_n hx hb dX6_heightOf_97 rfl (lv_at hl 5 rfl) ?_
        refine lv_iload hx hb dX6_heightOf_98 (lv_at hl 0 rfl) ?_
        refine x_callVI CF hK hP hS hA hl (As := [.int (nI f), .int (nI (ahd (M 1 105) a (j + 1)))]) (rest := []) (r_hairOf hI M J hw f (by omega) (ahd (M 1 105) a (j + 1)) (by omega)) kw_X6_hairOf wd3_223 (by decide) dR_0 rfl rfl ⟨Nat.le_of_ble_eq_true rfl, Nat.le_of_ble_eq_true rfl⟩ ⟨Nat.le_refl _, Nat.le_refl _⟩ (Nat.le_of_ble_eq_true rfl) dX6_heightOf_100 (fun H locs hP hS => ?_)
        refine lv_iload hx hb dX6_heightOf_103 (lv_at hl 1 rfl) ?_
        refine lv_isub hx hb dX6_heightOf_105 ?_
        refine lv_iload hx hb dX6_heightOf_106 (lv_at hl 2 rfl) ?_
        refine x_zle (u := (hr (rowR M (M 1 (79 + f))) (M 1 (84 + f)) (ahd (M 1 105) a (j + 1)) : Nat) - ((j + 1 : Nat) : Int)) (v := (slw (rowR M (M 1 (79 + f))) (M 1 (84 + f)) (M 1 105) a (j + 1) : Nat)) (tgt := 124) hx hb (z_sub (by omega) (by omega)) (nI_toInt (by omega)) dX6_heightOf_108 (by decide) (fun h_4 => ?_) (fun h_4 => ?_)
        · refine lv_iload hx hb dX6_heightOf_124 (lv_at hl 2 rfl) ?_
          refine lv_istore (lv' := [(4, .int (nI (slw (rowR M (M 1 (79 + f))) (M 1 (84 + f)) (M 1 105) a (j + 1)))), (5, .int (nI (ahd (M 1 105) a (j + 1)))), (6, .int (nI (j + 1))), (3, .int (nI (hr (rowR M (M 1 (79 + f))) (M 1 (84 + f)) a))), (0, .ref (ad 0)), (1, .int (nI f)), (2, .int (nI a))]) hx hb dX6_heightOf_126 hl (by decide) rfl (fun ls hl => ?_)
          refine lv_iinc (v := nI (j + 1 + 1)) (lv' := [(6, .int (nI (j + 1 + 1))), (4, .int (nI (slw (rowR M (M 1 (79 + f))) (M 1 (84 + f)) (M 1 105) a (j + 1)))), (5, .int (nI (ahd (M 1 105) a (j + 1)))), (3, .int (nI (hr (rowR M (M 1 (79 + f))) (M 1 (84 + f)) a))), (0, .ref (ad 0)), (1, .int (nI f)), (2, .int (nI a))]) hx hb dX6_heightOf_128 hl (k := 2) rfl (n_inc (j + 1) 1) (by decide) rfl (fun ls hl => ?_)
          refine lv_goto (tgt := 81) hx hb dX6_heightOf_131 (by decide) ?_
          have hl0 : lv_has ls 7 [(6, .int (nI ((j + 1) + 1))), (5, .int (nI (ahd (M 1 105) a (j + 1)))), (4, .int (nI (slw (rowR M (M 1 (79 + f))) (M 1 (84 + f)) (M 1 105) a ((j + 1) + 1)))), (3, .int (nI (hr (rowR M (M 1 (79 + f))) (M 1 (84 + f)) a))), (0, .ref (ad 0)), (1, .int (nI f)), (2, .int (nI a))] := by rw [(show nI ((j + 1) + 1) = nI (j + 1 + 1) from by first | rfl | (congr 1; omega) | (refine congrArg nI ?_; first | rfl | (exact (setN_t (decide_eq_true (by omega)))) | (exact (setN_f (decide_eq_false (by omega)))) | (rw [Nat.or_zero]; exact (setN_f (decide_eq_false (by omega)))))), (show nI (slw (rowR M (M 1 (79 + f))) (M 1 (84 + f)) (M 1 105) a ((j + 1) + 1)) = nI (slw (rowR M (M 1 (79 + f))) (M 1 (84 + f)) (M 1 105) a (j + 1)) from by refine congrArg nI ?_; rw [show slw (rowR M (M 1 (79 + f))) (M 1 (84 + f)) (M 1 105) a (j + 1 + 1) = max (slw (rowR M (M 1 (79 + f))) (M 1 (84 + f)) (M 1 105) a (j + 1)) (hr (rowR M (M 1 (79 + f))) (M 1 (84 + f)) (ahd (M 1 105) a (j + 1)) - (j + 1)) from rfl]; omega)]; exact lv_sub hl [0, 2, 1, 3, 4, 5, 6] rfl
          exact ih81 (j + 1) (by omega) _ _ _ (hP) hS hl0
        · refine lv_aload_n hx hb dX6_heightOf_111 rfl (lv_at hl 4 rfl) ?_
          refine lv_iload_n hx hb dX6_heightOf_112 rfl (lv_at hl 5 rfl) ?_
          refine lv_iload hx hb dX6_heightOf_113 (lv_at hl 0 rfl) ?_
          refine x_callVI CF hK hP hS hA hl (As := [.int (nI f), .int (nI (ahd (M 1 105) a (j + 1)))]) (rest := []) (r_hairOf hI M J hw f (by omega) (ahd (M 1 105) a (j + 1)) (by omega)) kw_X6_hairOf wd3_223 (by decide) dR_0 rfl rfl ⟨Nat.le_of_ble_eq_true rfl, Nat.le_of_ble_eq_true rfl⟩ ⟨Nat.le_refl _, Nat.le_refl _⟩ (Nat.le_of_ble_eq_true rfl) dX6_heightOf_115 (fun H locs hP hS => ?_)
          refine lv_iload hx hb dX6_heightOf_118 (lv_at hl 1 rfl) ?_
          refine x_isub hx hb (by omega) dX6_heightOf_120 ?_
          refine lv_goto (tgt := 126) hx hb dX6_heightOf_121 (by decide) ?_
          refine lv_istore (lv' := [(4, .int (nI ((hr (rowR M (M 1 (79 + f))) (M 1 (84 + f)) (ahd (M 1 105) a (j + 1))) - (j + 1)))), (5, .int (nI (ahd (M 1 105) a (j + 1)))), (6, .int (nI (j + 1))), (3, .int (nI (hr (rowR M (M 1 (79 + f))) (M 1 (84 + f)) a))), (0, .ref (ad 0)), (1, .int (nI f)), (2, .int (nI a))]) hx hb dX6_heightOf_126 hl (by decide) rfl (fun ls hl => ?_)
          refine lv_iinc (v := nI (j + 1 + 1)) (lv' := [(6, .int (nI (j + 1 + 1))), (4, .int (nI ((hr (rowR M (M 1 (79 + f))) (M 1 (84 + f)) (ahd (M 1 105) a (j + 1))) - (j + 1)))), (5, .int (nI (ahd (M 1 105) a (j + 1)))), (3, .int (nI (hr (rowR M (M 1 (79 + f))) (M 1 (84 + f)) a))), (0, .ref (ad 0)), (1, .int (nI f)), (2, .int (nI a))]) hx hb dX6_heightOf_128 hl (k := 2) rfl (n_inc (j + 1) 1) (by decide) rfl (fun ls hl => ?_)
          refine lv_goto (tgt := 81) hx hb dX6_heightOf_131 (by decide) ?_
          have hl0 : lv_has ls 7 [(6, .int (nI ((j + 1) + 1))), (5, .int (nI (ahd (M 1 105) a (j + 1)))), (4, .int (nI (slw (rowR M (M 1 (79 + f))) (M 1 (84 + f)) (M 1 105) a ((j + 1) + 1)))), (3, .int (nI (hr (rowR M (M 1 (79 + f))) (M 1 (84 + f)) a))), (0, .ref (ad 0)), (1, .int (nI f)), (2, .int (nI a))] := by rw [(show nI ((j + 1) + 1) = nI (j + 1 + 1) from by first | rfl | (congr 1; omega) | (refine congrArg nI ?_; first | rfl | (exact (setN_t (decide_eq_true (by omega)))) | (exact (setN_f (decide_eq_false (by omega)))) | (rw [Nat.or_zero]; exact (setN_f (decide_eq_false (by omega)))))), (show nI (slw (rowR M (M 1 (79 + f))) (M 1 (84 + f)) (M 1 105) a ((j + 1) + 1)) = nI ((hr (rowR M (M 1 (79 + f))) (M 1 (84 + f)) (ahd (M 1 105) a (j + 1))) - (j + 1)) from by refine congrArg nI ?_; rw [show slw (rowR M (M 1 (79 + f))) (M 1 (84 + f)) (M 1 105) a (j + 1 + 1) = max (slw (rowR M (M 1 (79 + f))) (M 1 (84 + f)) (M 1 105) a (j + 1)) (hr (rowR M (M 1 (79 + f))) (M 1 (84 + f)) (ahd (M 1 105) a (j + 1)) - (j + 1)) from rfl]; omega)]; exact lv_sub hl [0, 2, 1, 3, 4, 5, 6] rfl
          exact ih81 (j + 1) (by omega) _ _ _ (hP) hS hl0
    have hl0 : lv_has ls 7 [(6, .int (nI (0 + 1))), (5, .int (nI (ahd (M 1 105) a 0))), (4, .int (nI (slw (rowR M (M 1 (79 + f))) (M 1 (84 + f)) (M 1 105) a (0 + 1)))), (3, .int (nI (hr (rowR M (M 1 (79 + f))) (M 1 (84 + f)) a))), (0, .ref (ad 0)), (1, .int (nI f)), (2, .int (nI a))] := by rw [(show nI (0 + 1) = nI 1 from rfl), (show nI (ahd (M 1 105) a 0) = nI a from congrArg nI (ahd_0 ha)), (show nI (slw (rowR M (M 1 (79 + f))) (M 1 (84 + f)) (M 1 105) a (0 + 1)) = nI (hr (rowR M (M 1 (79 + f))) (M 1 (84 + f)) a) from congrArg nI (slw_1 ha))]; exact lv_sub hl [0, 1, 2, 3, 4, 5, 6] rfl
    exact L81 11 0 (by omega) _ _ _ (hP) hS hl0
  · refine lv_tableIn (tgt := 48) hx hb dX6_heightOf_16 (by rw [sw_1]; decide) (by rw [sw_1]; decide) (off := 32) (by rw [sw_1]; rfl) (by decide) ?_
    refine lv_iconst (v := nI 2) hx hb dX6_heightOf_48 (by decide) ?_
    refine lv_iload_n hx hb dX6_heightOf_49 rfl (lv_at hl 0 rfl) ?_
    refine x_imul hx hb dX6_heightOf_50 ?_
    refine lv_iload_n hx hb dX6_heightOf_51 rfl (lv_at hl 0 rfl) ?_
    refine lv_aload_n hx hb dX6_heightOf_52 rfl (lv_at hl 1 rfl) ?_
    refine lv_iload_n hx hb dX6_heightOf_53 rfl (lv_at hl 2 rfl) ?_
    refine lv_aload_n hx hb dX6_heightOf_54 rfl (lv_at hl 1 rfl) ?_
    refine lv_iload_n hx hb dX6_heightOf_55 rfl (lv_at hl 3 rfl) ?_
    refine x_callVI CF hK hP hS hA hl (As := [.int (nI a)]) (rest := [.int (nI f), .ref (ad 0), .int (nI (hr (rowR M (M 1 (79 + f))) (M 1 (84 + f)) a)), .int (nI (2 * (hr (rowR M (M 1 (79 + f))) (M 1 (84 + f)) a)))]) (r_aheadOf hI M J hw a (by omega)) kw_X6_aheadOf wd3_227 (by decide) dR_0 rfl rfl ⟨Nat.le_of_ble_eq_true rfl, Nat.le_of_ble_eq_true rfl⟩ ⟨Nat.le_refl _, Nat.le_refl _⟩ (Nat.le_of_ble_eq_true rfl) dX6_heightOf_56 (fun H locs hP hS => ?_)
    refine x_callVI CF hK hP hS hA hl (As := [.int (nI f), .int (nI (ahd (M 1 105) a 1))]) (rest := [.int (nI (hr (rowR M (M 1 (79 + f))) (M 1 (84 + f)) a)), .int (nI (2 * (hr (rowR M (M 1 (79 + f))) (M 1 (84 + f)) a)))]) (r_hairOf hI M J hw f (by omega) (ahd (M 1 105) a 1) (by omega)) kw_X6_hairOf wd3_223 (by decide) dR_0 rfl rfl ⟨Nat.le_of_ble_eq_true rfl, Nat.le_of_ble_eq_true rfl⟩ ⟨Nat.le_refl _, Nat.le_refl _⟩ (Nat.le_of_ble_eq_true rfl) dX6_heightOf_59 (fun H locs hP hS => ?_)
    refine x_zle (u := (hr (rowR M (M 1 (79 + f))) (M 1 (84 + f)) a : Nat)) (v := (hr (rowR M (M 1 (79 + f))) (M 1 (84 + f)) (ahd (M 1 105) a 1) : Nat)) (tgt := 69) hx hb (nI_toInt (by omega)) (nI_toInt (by omega)) dX6_heightOf_62 (by decide) (fun h_5 => ?_) (fun h_5 => ?_)
    · refine lv_iconst (v := nI 0) hx hb dX6_heightOf_69 (by decide) ?_
      refine x_iadd hx hb dX6_heightOf_70 ?_
      exact x_reti hx hb hr9 hlk9 hS hP (congrArg nI (by rw [hgtR, hgt, if_neg (by omega), if_neg (by omega), if_pos sw_1, if_neg (by omega)]; rfl)) dX6_heightOf_71
    · refine lv_iconst (v := nI 1) hx hb dX6_heightOf_65 (by decide) ?_
      refine lv_goto (tgt := 70) hx hb dX6_heightOf_66 (by decide) ?_
      refine x_iadd hx hb dX6_heightOf_70 ?_
      exact x_reti hx hb hr9 hlk9 hS hP (congrArg nI (by rw [hgtR, hgt, if_neg (by omega), if_neg (by omega), if_pos sw_1, if_pos (by omega)])) dX6_heightOf_71
  · refine lv_tableOut (tgt := 137) hx hb dX6_heightOf_16 (by rw [tz (by omega)]; omega) (by decide) ?_
    refine lv_iload_n hx hb dX6_heightOf_137 rfl (lv_at hl 0 rfl) ?_
    exact x_reti hx hb hr9 hlk9 hS hP (congrArg nI (by rw [hgtR, hgt, if_neg (by omega), if_neg (by omega), if_neg (by omega)])) dX6_heightOf_138
theorem hgtR_le {M : gMem} (hw : wfR M) {f : Nat} (hf : f < 5) (a : Nat) : hgtR M f a ≤ 19 := hgt_le (fun q hq => hw.row (by have := (hw.fig hf).2.1; omega) hq) _ _ _ _
set_option maxHeartbeats 4000000 in
set_option maxRecDepth 100000 in
theorem r_upsOf {l : Launch} {g : gE} {ad : Nat → Nat} (hI : g_inj ad 14) (M : gMem) (J : gMeL) (hw : wfR M) (f : Nat) (hf5 : f < 5) : CI l g ad dsR 14 yX6_upsOf cX6_upsOf 4 (some .int) 2 [.ref (ad 0), .int (nI f)] M J (nI (upsR M f)) M J := by
  refine CI.of (plainFor_of_name (by decide)) (Nat.le_of_ble_eq_true rfl) (fun p9 e9 s9 m9 args9 below9 meth9 c9 CF hK hr9 hlk9 hP hS ls hl => ?_)
  have hx := CF.1
  have hb := CF.2.1
  have hA : ∀ q, g_A ad 14 q → g_A ad 14 q := fun _ h => h
  have hl : lv_has ls 4 [(0, .ref (ad 0)), (1, .int (nI f))] := hl
  have hnc := hw.nc
  have hnf := hw.nf
  have hwy := hw.way
  have hln := hw.line
  refine lv_iconst (v := nI 0) hx hb dX6_upsOf_0 (by decide) ?_
  refine lv_istore_n (lv' := [(2, .int (nI 0)), (0, .ref (ad 0)), (1, .int (nI f))]) hx hb dX6_upsOf_1 rfl hl (by decide) rfl (fun ls hl => ?_)
  refine lv_iconst (v := nI 0) hx hb dX6_upsOf_2 (by decide) ?_
  refine lv_istore_n (lv' := [(3, .int (nI 0)), (2, .int (nI 0)), (0, .ref (ad 0)), (1, .int (nI f))]) hx hb dX6_upsOf_3 rfl hl (by decide) rfl (fun ls hl => ?_)
  have L4 : ∀ (d4 : Nat) (a : Nat), (a + d4 = 12) → (∀ (H : Heap) (locs : List Loc) (ls : Array Slot), g_P g ad dsR 14 M J H → va_S (g_A ad 14) s9.heap H locs → lv_has ls 4 [(3, .int (nI a)), (2, .int (nI (setN (fun q => decide (M 1 104 ≤ hgtR M f q)) a))), (0, .ref (ad 0)), (1, .int (nI f))] → W p9 l e9 (g_rm 2) s9 m9 args9 below9 meth9 c9 H locs 0 0 (MQ below9 (va_Qi (fun r' (_ : Unit) => r' = (nI (upsR M f))) (fun _ t => g_P g ad dsR 14 M J t.heap) (g_A ad 14)) args9 s9 0 0 (g_A ad 14)) (F0 m9 4 ls [])) := by
    intro d4
    induction d4 with
    | zero =>
      intro a h_a H locs ls hP hS hl
      refine lv_iload_n hx hb dX6_upsOf_4 rfl (lv_at hl 0 rfl) ?_
      refine lv_bipush (v := nI 12) hx hb dX6_upsOf_5 (by decide) ?_
      refine x_zge (u := (a : Nat)) (v := (12 : Int)) (tgt := 42) hx hb (nI_toInt (by omega)) (rfl) dX6_upsOf_7 (by decide) (fun h_1 => ?_) (fun h_1 => (by omega : False).elim)
      refine lv_iload_n hx hb dX6_upsOf_42 rfl (lv_at hl 1 rfl) ?_
      exact x_reti hx hb hr9 hlk9 hS hP (by rw [show a = 12 by omega]; rfl) dX6_upsOf_43
    | succ d4 ih4 =>
      intro a h_a H locs ls hP hS hl
      have b1 := hgtR_le hw hf5 a
      refine lv_iload_n hx hb dX6_upsOf_4 rfl (lv_at hl 0 rfl) ?_
      refine lv_bipush (v := nI 12) hx hb dX6_upsOf_5 (by decide) ?_
      refine x_zge (u := (a : Nat)) (v := (12 : Int)) (tgt := 42) hx hb (nI_toInt (by omega)) (rfl) dX6_upsOf_7 (by decide) (fun h_2 => (by omega : False).elim) (fun h_2 => ?_)
      refine lv_iload_n hx hb dX6_upsOf_10 rfl (lv_at hl 1 rfl) ?_
      refine lv_aload_n hx hb dX6_upsOf_11 rfl (lv_at hl 2 rfl) ?_
      refine lv_iload_n hx hb dX6_upsOf_12 rfl (lv_at hl 3 rfl) ?_
      refine lv_iload_n hx hb dX6_upsOf_13 rfl (lv_at hl 0 rfl) ?_
      refine x_callVI CF hK hP hS hA hl (As := [.int (nI f), .int (nI a)]) (rest := [.int (nI (setN (fun q => decide (M 1 104 ≤ hgtR M f q)) a))]) (r_heightOf hI M J hw f (by omega) a (by omega)) kw_X6_heightOf wd3_219 (by decide) dR_0 rfl rfl ⟨Nat.le_of_ble_eq_true rfl, Nat.le_of_ble_eq_true rfl⟩ ⟨Nat.le_refl _, Nat.le_refl _⟩ (Nat.le_of_ble_eq_true rfl) dX6_upsOf_14 (fun H locs hP hS => ?_)
      refine lv_aload_n hx hb dX6_upsOf_17 rfl (lv_at hl 2 rfl) ?_
      refine x_getr CF hK hP 0 (by decide) dR_0 rfl uX6 0 (by decide) (j := 1) rfl wd3_96 rfl dX6_upsOf_18 ?_
      refine lv_bipush (v := nI 104) hx hb dX6_upsOf_21 (by decide) ?_
      refine x_iald CF hK hP 1 (by decide) dR_1 104 (by omega) (by decide) dX6_upsOf_23 ?_
      refine x_zlt (u := (hgtR M f a : Nat)) (v := (M 1 104 : Nat)) (tgt := 33) hx hb (nI_toInt (by omega)) (nI_toInt (by omega)) dX6_upsOf_24 (by decide) (fun h_3 => ?_) (fun h_3 => ?_)
      · refine lv_iconst (v := nI 0) hx hb dX6_upsOf_33 (by decide) ?_
        refine x_ior hx hb dX6_upsOf_34 ?_
        refine lv_istore_n (lv' := [(2, .int (nI ((setN (fun q => decide (M 1 104 ≤ hgtR M f q)) a) ||| 0))), (3, .int (nI a)), (0, .ref (ad 0)), (1, .int (nI f))]) hx hb dX6_upsOf_35 rfl hl (by decide) rfl (fun ls hl => ?_)
        refine lv_iinc (v := nI (a + 1)) (lv' := [(3, .int (nI (a + 1))), (2, .int (nI ((setN (fun q => decide (M 1 104 ≤ hgtR M f q)) a) ||| 0))), (0, .ref (ad 0)), (1, .int (nI f))]) hx hb dX6_upsOf_36 hl (k := 1) rfl (n_inc a 1) (by decide) rfl (fun ls hl => ?_)
        refine lv_goto (tgt := 4) hx hb dX6_upsOf_39 (by decide) ?_
        have hl0 : lv_has ls 4 [(3, .int (nI (a + 1))), (2, .int (nI (setN (fun q => decide (M 1 104 ≤ hgtR M f q)) (a + 1)))), (0, .ref (ad 0)), (1, .int (nI f))] := by rw [(show nI (setN (fun q => decide (M 1 104 ≤ hgtR M f q)) (a + 1)) = nI ((setN (fun q => decide (M 1 104 ≤ hgtR M f q)) a) ||| 0) from by first | rfl | (congr 1; omega) | (refine congrArg nI ?_; first | rfl | (exact (setN_t (decide_eq_true (by omega)))) | (exact (setN_f (decide_eq_false (by omega)))) | (rw [Nat.or_zero]; exact (setN_f (decide_eq_false (by omega))))))]; exact lv_sub hl [0, 1, 2, 3] rfl
        exact ih4 (a + 1) (by omega) _ _ _ (hP) hS hl0
      · refine lv_iconst (v := nI 1) hx hb dX6_upsOf_27 (by decide) ?_
        refine lv_iload_n hx hb dX6_upsOf_28 rfl (lv_at hl 0 rfl) ?_
        refine x_ishl hx hb (by omega) dX6_upsOf_29 ?_
        refine lv_goto (tgt := 34) hx hb dX6_upsOf_30 (by decide) ?_
        refine x_ior hx hb dX6_upsOf_34 ?_
        refine lv_istore_n (lv' := [(2, .int (nI ((setN (fun q => decide (M 1 104 ≤ hgtR M f q)) a) ||| (1 <<< a)))), (3, .int (nI a)), (0, .ref (ad 0)), (1, .int (nI f))]) hx hb dX6_upsOf_35 rfl hl (by decide) rfl (fun ls hl => ?_)
        refine lv_iinc (v := nI (a + 1)) (lv' := [(3, .int (nI (a + 1))), (2, .int (nI ((setN (fun q => decide (M 1 104 ≤ hgtR M f q)) a) ||| (1 <<< a)))), (0, .ref (ad 0)), (1, .int (nI f))]) hx hb dX6_upsOf_36 hl (k := 1) rfl (n_inc a 1) (by decide) rfl (fun ls hl => ?_)
        refine lv_goto (tgt := 4) hx hb dX6_upsOf_39 (by decide) ?_
        have hl0 : lv_has ls 4 [(3, .int (nI (a + 1))), (2, .int (nI (setN (fun q => decide (M 1 104 ≤ hgtR M f q)) (a + 1)))), (0, .ref (ad 0)), (1, .int (nI f))] := by rw [(show nI (setN (fun q => decide (M 1 104 ≤ hgtR M f q)) (a + 1)) = nI ((setN (fun q => decide (M 1 104 ≤ hgtR M f q)) a) ||| (1 <<< a)) from by first | rfl | (congr 1; omega) | (refine congrArg nI ?_; first | rfl | (exact (setN_t (decide_eq_true (by omega)))) | (exact (setN_f (decide_eq_false (by omega)))) | (rw [Nat.or_zero]; exact (setN_f (decide_eq_false (by omega))))))]; exact lv_sub hl [0, 1, 2, 3] rfl
        exact ih4 (a + 1) (by omega) _ _ _ (hP) hS hl0
  have hl0 : lv_has ls 4 [(3, .int (nI 0)), (2, .int (nI (setN (fun q => decide (M 1 104 ≤ hgtR M f q)) 0))), (0, .ref (ad 0)), (1, .int (nI f))] := by rw [(show nI (setN (fun q => decide (M 1 104 ≤ hgtR M f q)) 0) = nI 0 from rfl)]; exact lv_sub hl [0, 1, 2, 3] rfl
  exact L4 12 0 (by omega) _ _ _ (hP) hS hl0
set_option maxHeartbeats 4000000 in
set_option maxRecDepth 100000 in
theorem r_strikesOf {l : Launch} {g : gE} {ad : Nat → Nat} (hI : g_inj ad 14) (M : gMem) (J : gMeL) (hw : wfR M) (a b : Nat) (ha : a < 5) (hb5 : b < 5) : CI l g ad dsR 14 yX6_strikesOf cX6_strikesOf 6 (some .int) 3 [.ref (ad 0), .int (nI a), .int (nI b)] M J (nI (strR M a b)) M J := by
  refine CI.of (plainFor_of_name (by decide)) (Nat.le_of_ble_eq_true rfl) (fun p9 e9 s9 m9 args9 below9 meth9 c9 CF hK hr9 hlk9 hP hS ls hl => ?_)
  have hx := CF.1
  have hb := CF.2.1
  have hA : ∀ q, g_A ad 14 q → g_A ad 14 q := fun _ h => h
  have hl : lv_has ls 6 [(0, .ref (ad 0)), (1, .int (nI a)), (2, .int (nI b))] := hl
  have hnc := hw.nc
  have hnf := hw.nf
  have hwy := hw.way
  have hf := hw.fig ha
  have hf2 := hw.fig hb5
  have b1 : (upsR M a &&& upsR M b) < 4096 := and_lt _ (upsR_lt M a)
  refine lv_aload_n hx hb dX6_strikesOf_0 rfl (lv_at hl 0 rfl) ?_
  refine x_getr CF hK hP 0 (by decide) dR_0 rfl uX6 0 (by decide) (j := 1) rfl wd3_96 rfl dX6_strikesOf_1 ?_
  refine lv_bipush (v := nI 89) hx hb dX6_strikesOf_4 (by decide) ?_
  refine lv_iload_n hx hb dX6_strikesOf_6 rfl (lv_at hl 1 rfl) ?_
  refine x_iadd hx hb dX6_strikesOf_7 ?_
  refine x_iald CF hK hP 1 (by decide) dR_1 (89 + a) (by omega) (by decide) dX6_strikesOf_8 ?_
  refine lv_aload_n hx hb dX6_strikesOf_9 rfl (lv_at hl 0 rfl) ?_
  refine x_getr CF hK hP 0 (by decide) dR_0 rfl uX6 0 (by decide) (j := 1) rfl wd3_96 rfl dX6_strikesOf_10 ?_
  refine lv_bipush (v := nI 89) hx hb dX6_strikesOf_13 (by decide) ?_
  refine lv_iload_n hx hb dX6_strikesOf_15 rfl (lv_at hl 2 rfl) ?_
  refine x_iadd hx hb dX6_strikesOf_16 ?_
  refine x_iald CF hK hP 1 (by decide) dR_1 (89 + b) (by omega) (by decide) dX6_strikesOf_17 ?_
  refine x_zeq (u := (M 1 (89 + a) : Nat)) (v := (M 1 (89 + b) : Nat)) (tgt := 23) hx hb (nI_toInt (by omega)) (nI_toInt (by omega)) dX6_strikesOf_18 (by decide) (fun h_1 => ?_) (fun h_1 => ?_)
  · refine lv_aload_n hx hb dX6_strikesOf_23 rfl (lv_at hl 0 rfl) ?_
    refine lv_iload_n hx hb dX6_strikesOf_24 rfl (lv_at hl 1 rfl) ?_
    refine x_callVI CF hK hP hS hA hl (As := [.int (nI a)]) (rest := []) (r_upsOf hI M J hw a (by omega)) kw_X6_upsOf wd3_235 (by decide) dR_0 rfl rfl ⟨Nat.le_of_ble_eq_true rfl, Nat.le_of_ble_eq_true rfl⟩ ⟨Nat.le_refl _, Nat.le_refl _⟩ (Nat.le_of_ble_eq_true rfl) dX6_strikesOf_25 (fun H locs hP hS => ?_)
    refine lv_aload_n hx hb dX6_strikesOf_28 rfl (lv_at hl 0 rfl) ?_
    refine lv_iload_n hx hb dX6_strikesOf_29 rfl (lv_at hl 2 rfl) ?_
    refine x_callVI CF hK hP hS hA hl (As := [.int (nI b)]) (rest := [.int (nI (upsR M a))]) (r_upsOf hI M J hw b (by omega)) kw_X6_upsOf wd3_235 (by decide) dR_0 rfl rfl ⟨Nat.le_of_ble_eq_true rfl, Nat.le_of_ble_eq_true rfl⟩ ⟨Nat.le_refl _, Nat.le_refl _⟩ (Nat.le_of_ble_eq_true rfl) dX6_strikesOf_30 (fun H locs hP hS => ?_)
    refine x_iand hx hb dX6_strikesOf_33 ?_
    refine lv_istore_n (lv' := [(3, .int (nI ((upsR M a) &&& (upsR M b)))), (0, .ref (ad 0)), (1, .int (nI a)), (2, .int (nI b))]) hx hb dX6_strikesOf_34 rfl hl (by decide) rfl (fun ls hl => ?_)
    refine lv_iconst (v := nI 0) hx hb dX6_strikesOf_35 (by decide) ?_
    refine lv_istore (lv' := [(4, .int (nI 0)), (3, .int (nI ((upsR M a) &&& (upsR M b)))), (0, .ref (ad 0)), (1, .int (nI a)), (2, .int (nI b))]) hx hb dX6_strikesOf_36 hl (by decide) rfl (fun ls hl => ?_)
    refine lv_iconst (v := nI 0) hx hb dX6_strikesOf_38 (by decide) ?_
    refine lv_istore (lv' := [(5, .int (nI 0)), (4, .int (nI 0)), (3, .int (nI ((upsR M a) &&& (upsR M b)))), (0, .ref (ad 0)), (1, .int (nI a)), (2, .int (nI b))]) hx hb dX6_strikesOf_39 hl (by decide) rfl (fun ls hl => ?_)
    have L41 : ∀ (d41 : Nat) (k : Nat), (k + d41 = 12) → (∀ (H : Heap) (locs : List Loc) (ls : Array Slot), g_P g ad dsR 14 M J H → va_S (g_A ad 14) s9.heap H locs → lv_has ls 6 [(5, .int (nI k)), (4, .int (nI (setN (bitR (upsR M a &&& upsR M b) (M 1 105)) k))), (3, .int (nI ((upsR M a) &&& (upsR M b)))), (0, .ref (ad 0)), (1, .int (nI a)), (2, .int (nI b))] → W p9 l e9 (g_rm 3) s9 m9 args9 below9 meth9 c9 H locs 0 0 (MQ below9 (va_Qi (fun r' (_ : Unit) => r' = (nI (strR M a b))) (fun _ t => g_P g ad dsR 14 M J t.heap) (g_A ad 14)) args9 s9 0 0 (g_A ad 14)) (F0 m9 41 ls [])) := by
      intro d41
      induction d41 with
      | zero =>
        intro k h_k H locs ls hP hS hl
        refine lv_iload hx hb dX6_strikesOf_41 (lv_at hl 0 rfl) ?_
        refine lv_bipush (v := nI 12) hx hb dX6_strikesOf_43 (by decide) ?_
        refine x_zge (u := (k : Nat)) (v := (12 : Int)) (tgt := 89) hx hb (nI_toInt (by omega)) (rfl) dX6_strikesOf_45 (by decide) (fun h_2 => ?_) (fun h_2 => (by omega : False).elim)
        refine lv_iload hx hb dX6_strikesOf_89 (lv_at hl 1 rfl) ?_
        exact x_reti hx hb hr9 hlk9 hS hP (by rw [show k = 12 by omega, strR, if_pos (by omega)]) dX6_strikesOf_91
      | succ d41 ih41 =>
        intro k h_k H locs ls hP hS hl
        have c1 := ahd_lt (M 1 105) k 1
        have c2 := and1_lt ((upsR M a &&& upsR M b) >>> k)
        have c3 := and1_lt ((upsR M a &&& upsR M b) >>> ahd (M 1 105) k 1)
        refine lv_iload hx hb dX6_strikesOf_41 (lv_at hl 0 rfl) ?_
        refine lv_bipush (v := nI 12) hx hb dX6_strikesOf_43 (by decide) ?_
        refine x_zge (u := (k : Nat)) (v := (12 : Int)) (tgt := 89) hx hb (nI_toInt (by omega)) (rfl) dX6_strikesOf_45 (by decide) (fun h_3 => (by omega : False).elim) (fun h_3 => ?_)
        refine lv_iload hx hb dX6_strikesOf_48 (lv_at hl 1 rfl) ?_
        refine lv_iload_n hx hb dX6_strikesOf_50 rfl (lv_at hl 2 rfl) ?_
        refine lv_iload hx hb dX6_strikesOf_51 (lv_at hl 0 rfl) ?_
        refine x_callSP CF hK hP hS hl (As := [.int (nI ((upsR M a) &&& (upsR M b))), .int (nI k)]) (rest := [.int (nI (setN (bitR (upsR M a &&& upsR M b) (M 1 105)) k))]) (r_has ((upsR M a) &&& (upsR M b)) k (by omega) (by omega)) kw_X6_has wd4_7 rfl ⟨Nat.le_of_ble_eq_true rfl, Nat.le_of_ble_eq_true rfl⟩ ⟨Nat.le_refl _, Nat.le_refl _⟩ (Nat.le_of_ble_eq_true rfl) dX6_strikesOf_53 (fun H locs hP hS => ?_)
        refine x_yeq (u := (((upsR M a) &&& (upsR M b)) >>> k &&& 1 : Nat)) (tgt := 79) hx hb (nI_toInt (by omega)) dX6_strikesOf_56 (by decide) (fun h_4 => ?_) (fun h_4 => ?_)
        · refine lv_iconst (v := nI 0) hx hb dX6_strikesOf_79 (by decide) ?_
          refine x_ior hx hb dX6_strikesOf_80 ?_
          refine lv_istore (lv' := [(4, .int (nI ((setN (bitR (upsR M a &&& upsR M b) (M 1 105)) k) ||| 0))), (5, .int (nI k)), (3, .int (nI ((upsR M a) &&& (upsR M b)))), (0, .ref (ad 0)), (1, .int (nI a)), (2, .int (nI b))]) hx hb dX6_strikesOf_81 hl (by decide) rfl (fun ls hl => ?_)
          refine lv_iinc (v := nI (k + 1)) (lv' := [(5, .int (nI (k + 1))), (4, .int (nI ((setN (bitR (upsR M a &&& upsR M b) (M 1 105)) k) ||| 0))), (3, .int (nI ((upsR M a) &&& (upsR M b)))), (0, .ref (ad 0)), (1, .int (nI a)), (2, .int (nI b))]) hx hb dX6_strikesOf_83 hl (k := 1) rfl (n_inc k 1) (by decide) rfl (fun ls hl => ?_)
          refine lv_goto (tgt := 41) hx hb dX6_strikesOf_86 (by decide) ?_
          have hl0 : lv_has ls 6 [(5, .int (nI (k + 1))), (4, .int (nI (setN (bitR (upsR M a &&& upsR M b) (M 1 105)) (k + 1)))), (3, .int (nI ((upsR M a) &&& (upsR M b)))), (0, .ref (ad 0)), (1, .int (nI a)), (2, .int (nI b))] := by rw [(show nI (setN (bitR (upsR M a &&& upsR M b) (M 1 105)) (k + 1)) = nI ((setN (bitR (upsR M a &&& upsR M b) (M 1 105)) k) ||| 0) from by refine congrArg nI ?_; rw [Nat.or_zero]; exact setN_f (decide_eq_false (by omega)))]; exact lv_sub hl [0, 1, 2, 3, 4, 5] rfl
          exact ih41 (k + 1) (by omega) _ _ _ (hP) hS hl0
        · refine lv_iload_n hx hb dX6_strikesOf_59 rfl (lv_at hl 2 rfl) ?_
          refine lv_aload_n hx hb dX6_strikesOf_60 rfl (lv_at hl 3 rfl) ?_
          refine lv_iload hx hb dX6_strikesOf_61 (lv_at hl 0 rfl) ?_
          refine x_callVI CF hK hP hS hA hl (As := [.int (nI k)]) (rest := [.int (nI ((upsR M a) &&& (upsR M b))), .int (nI (setN (bitR (upsR M a &&& upsR M b) (M 1 105)) k))]) (r_aheadOf hI M J hw k (by omega)) kw_X6_aheadOf wd3_227 (by decide) dR_0 rfl rfl ⟨Nat.le_of_ble_eq_true rfl, Nat.le_of_ble_eq_true rfl⟩ ⟨Nat.le_refl _, Nat.le_refl _⟩ (Nat.le_of_ble_eq_true rfl) dX6_strikesOf_63 (fun H locs hP hS => ?_)
          refine x_callSP CF hK hP hS hl (As := [.int (nI ((upsR M a) &&& (upsR M b))), .int (nI (ahd (M 1 105) k 1))]) (rest := [.int (nI (setN (bitR (upsR M a &&& upsR M b) (M 1 105)) k))]) (r_has ((upsR M a) &&& (upsR M b)) (ahd (M 1 105) k 1) (by omega) (by omega)) kw_X6_has wd4_7 rfl ⟨Nat.le_of_ble_eq_true rfl, Nat.le_of_ble_eq_true rfl⟩ ⟨Nat.le_refl _, Nat.le_refl _⟩ (Nat.le_of_ble_eq_true rfl) dX6_strikesOf_66 (fun H locs hP hS => ?_)
          refine x_yne (u := (((upsR M a) &&& (upsR M b)) >>> (ahd (M 1 105) k 1) &&& 1 : Nat)) (tgt := 79) hx hb (nI_toInt (by omega)) dX6_strikesOf_69 (by decide) (fun h_5 => ?_) (fun h_5 => ?_)
          · refine lv_iconst (v := nI 0) hx hb dX6_strikesOf_79 (by decide) ?_
            refine x_ior hx hb dX6_strikesOf_80 ?_
            refine lv_istore (lv' := [(4, .int (nI ((setN (bitR (upsR M a &&& upsR M b) (M 1 105)) k) ||| 0))), (5, .int (nI k)), (3, .int (nI ((upsR M a) &&& (upsR M b)))), (0, .ref (ad 0)), (1, .int (nI a)), (2, .int (nI b))]) hx hb dX6_strikesOf_81 hl (by decide) rfl (fun ls hl => ?_)
            refine lv_iinc (v := nI (k + 1)) (lv' := [(5, .int (nI (k + 1))), (4, .int (nI ((setN (bitR (upsR M a &&& upsR M b) (M 1 105)) k) ||| 0))), (3, .int (nI ((upsR M a) &&& (upsR M b)))), (0, .ref (ad 0)), (1, .int (nI a)), (2, .int (nI b))]) hx hb dX6_strikesOf_83 hl (k := 1) rfl (n_inc k 1) (by decide) rfl (fun ls hl => ?_)
            refine lv_goto (tgt := 41) hx hb dX6_strikesOf_86 (by decide) ?_
            have hl0 : lv_has ls 6 [(5, .int (nI (k + 1))), (4, .int (nI (setN (bitR (upsR M a &&& upsR M b) (M 1 105)) (k + 1)))), (3, .int (nI ((upsR M a) &&& (upsR M b)))), (0, .ref (ad 0)), (1, .int (nI a)), (2, .int (nI b))] := by rw [(show nI (setN (bitR (upsR M a &&& upsR M b) (M 1 105)) (k + 1)) = nI ((setN (bitR (upsR M a &&& upsR M b) (M 1 105)) k) ||| 0) from by refine congrArg nI ?_; rw [Nat.or_zero]; exact setN_f (decide_eq_false (by omega)))]; exact lv_sub hl [0, 1, 2, 3, 4, 5] rfl
            exact ih41 (k + 1) (by omega) _ _ _ (hP) hS hl0
          · refine lv_iconst (v := nI 1) hx hb dX6_strikesOf_72 (by decide) ?_
            refine lv_iload hx hb dX6_strikesOf_73 (lv_at hl 0 rfl) ?_
            refine x_ishl hx hb (by omega) dX6_strikesOf_75 ?_
            refine lv_goto (tgt := 80) hx hb dX6_strikesOf_76 (by decide) ?_
            refine x_ior hx hb dX6_strikesOf_80 ?_
            refine lv_istore (lv' := [(4, .int (nI ((setN (bitR (upsR M a &&& upsR M b) (M 1 105)) k) ||| (1 <<< k)))), (5, .int (nI k)), (3, .int (nI ((upsR M a) &&& (upsR M b)))), (0, .ref (ad 0)), (1, .int (nI a)), (2, .int (nI b))]) hx hb dX6_strikesOf_81 hl (by decide) rfl (fun ls hl => ?_)
            refine lv_iinc (v := nI (k + 1)) (lv' := [(5, .int (nI (k + 1))), (4, .int (nI ((setN (bitR (upsR M a &&& upsR M b) (M 1 105)) k) ||| (1 <<< k)))), (3, .int (nI ((upsR M a) &&& (upsR M b)))), (0, .ref (ad 0)), (1, .int (nI a)), (2, .int (nI b))]) hx hb dX6_strikesOf_83 hl (k := 1) rfl (n_inc k 1) (by decide) rfl (fun ls hl => ?_)
            refine lv_goto (tgt := 41) hx hb dX6_strikesOf_86 (by decide) ?_
            have hl0 : lv_has ls 6 [(5, .int (nI (k + 1))), (4, .int (nI (setN (bitR (upsR M a &&& upsR M b) (M 1 105)) (k + 1)))), (3, .int (nI ((upsR M a) &&& (upsR M b)))), (0, .ref (ad 0)), (1, .int (nI a)), (2, .int (nI b))] := by rw [(show nI (setN (bitR (upsR M a &&& upsR M b) (M 1 105)) (k + 1)) = nI ((setN (bitR (upsR M a &&& upsR M b) (M 1 105)) k) ||| (1 <<< k)) from by refine congrArg nI ?_; rw [setN_t (decide_eq_true (by omega))])]; exact lv_sub hl [0, 1, 2, 3, 4, 5] rfl
            exact ih41 (k + 1) (by omega) _ _ _ (hP) hS hl0
    have hl0 : lv_has ls 6 [(5, .int (nI 0)), (4, .int (nI (setN (bitR (upsR M a &&& upsR M b) (M 1 105)) 0))), (3, .int (nI ((upsR M a) &&& (upsR M b)))), (0, .ref (ad 0)), (1, .int (nI a)), (2, .int (nI b))] := by rw [(show nI (setN (bitR (upsR M a &&& upsR M b) (M 1 105)) 0) = nI 0 from rfl)]; exact lv_sub hl [0, 1, 2, 3, 4, 5] rfl
    exact L41 12 0 (by omega) _ _ _ (hP) hS hl0
  · refine lv_iconst (v := nI 0) hx hb dX6_strikesOf_21 (by decide) ?_
    exact x_reti hx hb hr9 hlk9 hS hP (by rw [strR, if_neg (by omega)]) dX6_strikesOf_22
