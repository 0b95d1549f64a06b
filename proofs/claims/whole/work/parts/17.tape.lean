set_option maxHeartbeats 4000000 in
set_option maxRecDepth 100000 in
theorem c_byteOf {l : Launch} {g : gE} (w : Int64) (k : Nat) (hk : k < 8) : CP l g yX5_byteOf cX5_byteOf 3 (some .int) 0 [.long w, .int (nI k)] (nI (byt w k)) := by
  refine CP.of (plainFor_of_name (by decide)) (Nat.le_of_ble_eq_true rfl) (fun p9 e9 s9 m9 args9 below9 meth9 c9 CF hK hr9 hlk9 hS ls hl => ?_)
  have hx := CF.1
  have hb := CF.2.1
  have hl : lv_has ls 3 [(0, .long w), (2, .int (nI k))] := hl
  refine lv_lload_n hx hb dX5_byteOf_0 rfl (lv_at hl 0 rfl) ?_
  refine lv_bipush (v := nI 8) hx hb dX5_byteOf_1 (by decide) ?_
  refine lv_iload_n hx hb dX5_byteOf_3 rfl (lv_at hl 1 rfl) ?_
  refine x_imul hx hb dX5_byteOf_4 ?_
  refine lv_lushr hx hb dX5_byteOf_5 rfl ?_
  refine lv_l2i hx hb dX5_byteOf_6 rfl ?_
  refine lv_sipush (v := nI 255) hx hb dX5_byteOf_7 (by decide) ?_
  refine lv_iand hx hb dX5_byteOf_10 ?_
  exact x_retp hx hb hr9 hlk9 hS (n_byt w hk) dX5_byteOf_11
set_option maxHeartbeats 4000000 in
set_option maxRecDepth 100000 in
theorem c_areBytes_t {l : Launch} {g : gE} (w : Int64) (n : Nat) (hn : n ≤ 8) (h : ∀ q, q < n → (32 ≤ byt w q ∧ byt w q ≤ 126)) : CP l g yX5_areBytesOfTape cX5_areBytesOfTape 4 (some .boolean) 1 [.long w, .int (nI n)] (nI 1) := by
  refine CP.of (plainFor_of_name (by decide)) (Nat.le_of_ble_eq_true rfl) (fun p9 e9 s9 m9 args9 below9 meth9 c9 CF hK hr9 hlk9 hS ls hl => ?_)
  have hx := CF.1
  have hb := CF.2.1
  have hl : lv_has ls 4 [(0, .long w), (2, .int (nI n))] := hl
  refine lv_iconst (v := nI 0) hx hb dX5_areBytesOfTape_0 (by decide) ?_
  refine lv_istore_n (lv' := [(3, .int (nI 0)), (0, .long w), (2, .int (nI n))]) hx hb dX5_areBytesOfTape_1 rfl hl (by decide) rfl (fun ls hl => ?_)
  have L2 : ∀ (d2 : Nat) (k : Nat), (k + d2 = n) → (∀ (H : Heap) (locs : List Loc) (ls : Array Slot), va_S (fun _ => False) s9.heap H locs → lv_has ls 4 [(3, .int (nI k)), (0, .long w), (2, .int (nI n))] → W p9 l e9 (g_rm 1) s9 m9 args9 below9 meth9 c9 H locs 0 0 (MQ below9 (va_Qi (fun r' (_ : Unit) => r' = (nI 1)) (fun _ _ => True) (fun _ => False)) args9 s9 0 0 (fun _ => False)) (F0 m9 2 ls [])) := by
    intro d2
    induction d2 with
    | zero =>
      intro k h_k H locs ls hS hl
      refine lv_iload_n hx hb dX5_areBytesOfTape_2 rfl (lv_at hl 0 rfl) ?_
      refine lv_iload_n hx hb dX5_areBytesOfTape_3 rfl (lv_at hl 2 rfl) ?_
      refine x_zge (u := (k : Nat)) (v := (n : Nat)) (tgt := 30) hx hb (nI_toInt (by omega)) (nI_toInt (by omega)) dX5_areBytesOfTape_4 (by decide) (fun h_1 => ?_) (fun h_1 => (by omega : False).elim)
      refine lv_iconst (v := nI 1) hx hb dX5_areBytesOfTape_30 (by decide) ?_
      exact x_retpz hx hb hr9 hlk9 hS (by first | rfl | (show nI 1 = nI 1; first | rfl | omega)) (rfl) dX5_areBytesOfTape_31
    | succ d2 ih2 =>
      intro k h_k H locs ls hS hl
      have b1 := h k (by omega)
      have b2 := byt_lt w k
      refine lv_iload_n hx hb dX5_areBytesOfTape_2 rfl (lv_at hl 0 rfl) ?_
      refine lv_iload_n hx hb dX5_areBytesOfTape_3 rfl (lv_at hl 2 rfl) ?_
      refine x_zge (u := (k : Nat)) (v := (n : Nat)) (tgt := 30) hx hb (nI_toInt (by omega)) (nI_toInt (by omega)) dX5_areBytesOfTape_4 (by decide) (fun h_2 => (by omega : False).elim) (fun h_2 => ?_)
      refine lv_lload_n hx hb dX5_areBytesOfTape_7 rfl (lv_at hl 1 rfl) ?_
      refine lv_iload_n hx hb dX5_areBytesOfTape_8 rfl (lv_at hl 0 rfl) ?_
      refine x_callPP CF hK hS hl (As := [.long w, .int (nI k)]) (rest := []) (c_byteOf w k (by omega)) kw_X5_byteOf wd1_196 rfl ⟨Nat.le_of_ble_eq_true rfl, Nat.le_of_ble_eq_true rfl⟩ ⟨Nat.le_refl _, Nat.le_refl _⟩ (Nat.le_of_ble_eq_true rfl) dX5_areBytesOfTape_9 (fun H locs hS => ?_)
      refine lv_bipush (v := nI 32) hx hb dX5_areBytesOfTape_12 (by decide) ?_
      refine lv_bipush (v := nI 126) hx hb dX5_areBytesOfTape_14 (by decide) ?_
      refine x_callPP CF hK hS hl (As := [.int (nI (byt w k)), .int (nI 32), .int (nI 126)]) (rest := []) (c_isWithin_t _ _ _ (w_in (by omega) (by omega) (by omega))) kw_X5_isWithin wd1_190 rfl ⟨Nat.le_of_ble_eq_true rfl, Nat.le_of_ble_eq_true rfl⟩ ⟨Nat.le_refl _, Nat.le_refl _⟩ (Nat.le_of_ble_eq_true rfl) dX5_areBytesOfTape_16 (fun H locs hS => ?_)
      refine x_yne (u := (1 : Int)) (tgt := 24) hx hb (rfl) dX5_areBytesOfTape_19 (by decide) (fun h_3 => ?_) (fun h_3 => (by omega : False).elim)
      refine lv_iinc (v := nI (k + 1)) (lv' := [(3, .int (nI (k + 1))), (0, .long w), (2, .int (nI n))]) hx hb dX5_areBytesOfTape_24 hl (k := 0) rfl (n_inc k 1) (by decide) rfl (fun ls hl => ?_)
      refine lv_goto (tgt := 2) hx hb dX5_areBytesOfTape_27 (by decide) ?_
      have hl0 : lv_has ls 4 [(3, .int (nI (k + 1))), (0, .long w), (2, .int (nI n))] := lv_sub hl [0, 1, 2] rfl
      exact ih2 (k + 1) (by omega) _ _ _ hS hl0
  have hl0 : lv_has ls 4 [(3, .int (nI 0)), (0, .long w), (2, .int (nI n))] := lv_sub hl [0, 1, 2] rfl
  exact L2 n 0 (by omega) _ _ _ hS hl0
set_option maxHeartbeats 4000000 in
set_option maxRecDepth 100000 in
theorem c_areBytes_f {l : Launch} {g : gE} (w : Int64) (n : Nat) (hn : n ≤ 8) (h : ∃ q, q < n ∧ ¬ (32 ≤ byt w q ∧ byt w q ≤ 126)) : CP l g yX5_areBytesOfTape cX5_areBytesOfTape 4 (some .boolean) 1 [.long w, .int (nI n)] (nI 0) := by
  refine CP.of (plainFor_of_name (by decide)) (Nat.le_of_ble_eq_true rfl) (fun p9 e9 s9 m9 args9 below9 meth9 c9 CF hK hr9 hlk9 hS ls hl => ?_)
  have hx := CF.1
  have hb := CF.2.1
  have hl : lv_has ls 4 [(0, .long w), (2, .int (nI n))] := hl
  refine lv_iconst (v := nI 0) hx hb dX5_areBytesOfTape_0 (by decide) ?_
  refine lv_istore_n (lv' := [(3, .int (nI 0)), (0, .long w), (2, .int (nI n))]) hx hb dX5_areBytesOfTape_1 rfl hl (by decide) rfl (fun ls hl => ?_)
  have L2 : ∀ (d2 : Nat) (k : Nat), (k + d2 = n) → (∃ q, k ≤ q ∧ q < n ∧ ¬ (32 ≤ byt w q ∧ byt w q ≤ 126)) → (∀ (H : Heap) (locs : List Loc) (ls : Array Slot), va_S (fun _ => False) s9.heap H locs → lv_has ls 4 [(3, .int (nI k)), (0, .long w), (2, .int (nI n))] → W p9 l e9 (g_rm 1) s9 m9 args9 below9 meth9 c9 H locs 0 0 (MQ below9 (va_Qi (fun r' (_ : Unit) => r' = (nI 0)) (fun _ _ => True) (fun _ => False)) args9 s9 0 0 (fun _ => False)) (F0 m9 2 ls [])) := by
    intro d2
    induction d2 with
    | zero =>
      intro k hk hq H locs ls hS hl
      obtain ⟨q, h1, h2, -⟩ := hq; exact absurd h1 (by omega)
    | succ d2 ih2 =>
      intro k hk hq H locs ls hS hl
      have b2 := byt_lt w k
      refine lv_iload_n hx hb dX5_areBytesOfTape_2 rfl (lv_at hl 0 rfl) ?_
      refine lv_iload_n hx hb dX5_areBytesOfTape_3 rfl (lv_at hl 2 rfl) ?_
      refine x_zge (u := (k : Nat)) (v := (n : Nat)) (tgt := 30) hx hb (nI_toInt (by omega)) (nI_toInt (by omega)) dX5_areBytesOfTape_4 (by decide) (fun h_1 => (by omega : False).elim) (fun h_1 => ?_)
      refine lv_lload_n hx hb dX5_areBytesOfTape_7 rfl (lv_at hl 1 rfl) ?_
      refine lv_iload_n hx hb dX5_areBytesOfTape_8 rfl (lv_at hl 0 rfl) ?_
      refine x_callPP CF hK hS hl (As := [.long w, .int (nI k)]) (rest := []) (c_byteOf w k (by omega)) kw_X5_byteOf wd1_196 rfl ⟨Nat.le_of_ble_eq_true rfl, Nat.le_of_ble_eq_true rfl⟩ ⟨Nat.le_refl _, Nat.le_refl _⟩ (Nat.le_of_ble_eq_true rfl) dX5_areBytesOfTape_9 (fun H locs hS => ?_)
      refine lv_bipush (v := nI 32) hx hb dX5_areBytesOfTape_12 (by decide) ?_
      refine lv_bipush (v := nI 126) hx hb dX5_areBytesOfTape_14 (by decide) ?_
      by_cases q_2 : 32 ≤ byt w k ∧ byt w k ≤ 126
      · refine x_callPP CF hK hS hl (As := [.int (nI (byt w k)), .int (nI 32), .int (nI 126)]) (rest := []) (c_isWithin_t _ _ _ (w_in (by omega) (by omega) (by omega))) kw_X5_isWithin wd1_190 rfl ⟨Nat.le_of_ble_eq_true rfl, Nat.le_of_ble_eq_true rfl⟩ ⟨Nat.le_refl _, Nat.le_refl _⟩ (Nat.le_of_ble_eq_true rfl) dX5_areBytesOfTape_16 (fun H locs hS => ?_)
        refine x_yne (u := (1 : Int)) (tgt := 24) hx hb (rfl) dX5_areBytesOfTape_19 (by decide) (fun h_3 => ?_) (fun h_3 => (by omega : False).elim)
        refine lv_iinc (v := nI (k + 1)) (lv' := [(3, .int (nI (k + 1))), (0, .long w), (2, .int (nI n))]) hx hb dX5_areBytesOfTape_24 hl (k := 0) rfl (n_inc k 1) (by decide) rfl (fun ls hl => ?_)
        refine lv_goto (tgt := 2) hx hb dX5_areBytesOfTape_27 (by decide) ?_
        have hl0 : lv_has ls 4 [(3, .int (nI (k + 1))), (0, .long w), (2, .int (nI n))] := lv_sub hl [0, 1, 2] rfl
        exact ih2 (k + 1) (by omega) (by obtain ⟨q, h1, h2, h3⟩ := hq; exact ⟨q, (Nat.lt_or_ge k q).elim (fun h4 => h4) (fun h4 => absurd (by rw [show q = k by omega]; exact q_2) h3), h2, h3⟩) _ _ _ hS hl0
      · refine x_callPP CF hK hS hl (As := [.int (nI (byt w k)), .int (nI 32), .int (nI 126)]) (rest := []) (c_isWithin_f _ _ _ (w_out (by rw [tz (by omega)]; omega) (by omega) (by omega))) kw_X5_isWithin wd1_190 rfl ⟨Nat.le_of_ble_eq_true rfl, Nat.le_of_ble_eq_true rfl⟩ ⟨Nat.le_refl _, Nat.le_refl _⟩ (Nat.le_of_ble_eq_true rfl) dX5_areBytesOfTape_16 (fun H locs hS => ?_)
        refine x_yne (u := (0 : Int)) (tgt := 24) hx hb (rfl) dX5_areBytesOfTape_19 (by decide) (fun h_4 => (by omega : False).elim) (fun h_4 => ?_)
        refine lv_iconst (v := nI 0) hx hb dX5_areBytesOfTape_22 (by decide) ?_
        exact x_retpz hx hb hr9 hlk9 hS (by first | rfl | (show nI 0 = nI 0; first | rfl | omega)) (rfl) dX5_areBytesOfTape_23
  have hl0 : lv_has ls 4 [(3, .int (nI 0)), (0, .long w), (2, .int (nI n))] := lv_sub hl [0, 1, 2] rfl
  exact L2 n 0 (by omega) (by obtain ⟨q, h1, h2⟩ := h; exact ⟨q, by omega, h1, h2⟩) _ _ _ hS hl0
theorem apM_len (M : gMem) (w : Int64) (n j : Nat) : apM M w n j 1 2 = M 1 2 + j := by simp [apM]
set_option maxHeartbeats 4000000 in
set_option maxRecDepth 100000 in
theorem c_append_ok {l : Launch} {g : gE} {ad : Nat → Nat} (hI : g_inj ad 55) (M : gMem) (J : gMeL) (w : Int64) (n : Nat) (hn1 : 1 ≤ n) (hn : n ≤ 8) (h : M 1 2 + n ≤ 40) : CI l g ad dsX 55 yX4_append cX4_append 5 (some .int) 1 [.ref (ad 1), .long w, .int (nI n)] M J (nI (M 1 2 + n)) (apM M w n n) J := by
  refine CI.of (plainFor_of_name (by decide)) (Nat.le_of_ble_eq_true rfl) (fun p9 e9 s9 m9 args9 below9 meth9 c9 CF hK hr9 hlk9 hP hS ls hl => ?_)
  have hx := CF.1
  have hb := CF.2.1
  have hA : ∀ q, g_A ad 55 q → g_A ad 55 q := fun _ h => h
  have hl : lv_has ls 5 [(0, .ref (ad 1)), (1, .long w), (3, .int (nI n))] := hl
  refine lv_aload_n hx hb dX4_append_0 rfl (lv_at hl 0 rfl) ?_
  refine x_geti CF hK hP 1 (by decide) dX_1 rfl uX4 2 (by decide) rfl wd1_117 rfl dX4_append_1 ?_
  refine lv_iload_n hx hb dX4_append_4 rfl (lv_at hl 2 rfl) ?_
  refine x_iadd hx hb dX4_append_5 ?_
  refine lv_bipush (v := nI 40) hx hb dX4_append_6 (by decide) ?_
  refine x_zle (u := ((M 1 2) + n : Nat)) (v := (40 : Int)) (tgt := 14) hx hb (nI_toInt (by omega)) (rfl) dX4_append_8 (by decide) (fun h_1 => ?_) (fun h_1 => (by omega : False).elim)
  refine lv_iload_n hx hb dX4_append_14 rfl (lv_at hl 2 rfl) ?_
  refine lv_iconst (v := nI 1) hx hb dX4_append_15 (by decide) ?_
  refine x_isub hx hb (by omega) dX4_append_16 ?_
  refine lv_istore (lv' := [(4, .int (nI (n - 1))), (0, .ref (ad 1)), (1, .long w), (3, .int (nI n))]) hx hb dX4_append_17 hl (by decide) rfl (fun ls hl => ?_)
  have L19 : ∀ (d19 : Nat) (j : Nat), (j + d19 = n) → (∀ (H : Heap) (locs : List Loc) (ls : Array Slot), g_P g ad dsX 55 (apM M w n j) J H → va_S (g_A ad 55) s9.heap H locs → lv_has ls 5 [(4, .int (nI n - nI (j + 1))), (0, .ref (ad 1)), (1, .long w), (3, .int (nI n))] → W p9 l e9 (g_rm 1) s9 m9 args9 below9 meth9 c9 H locs 0 0 (MQ below9 (va_Qi (fun r' (_ : Unit) => r' = (nI (M 1 2 + n))) (fun _ t => g_P g ad dsX 55 (apM M w n n) J t.heap) (g_A ad 55)) args9 s9 0 0 (g_A ad 55)) (F0 m9 19 ls [])) := by
    intro d19
    induction d19 with
    | zero =>
      intro j hj H locs ls hP hS hl
      refine lv_iload hx hb dX4_append_19 (lv_at hl 0 rfl) ?_
      refine x_ylt (u := (n : Int) - ((j + 1 : Nat) : Int)) (tgt := 55) hx hb (z_sub (by omega) (by omega)) dX4_append_21 (by decide) (fun h_2 => ?_) (fun h_2 => (by omega : False).elim)
      refine lv_aload_n hx hb dX4_append_55 rfl (lv_at hl 1 rfl) ?_
      refine x_geti CF hK hP 1 (by decide) dX_1 rfl uX4 2 (by decide) rfl wd1_117 rfl dX4_append_56 ?_
      refine x_ri (show (nI ((apM M w n j) 1 2)) = nI (M 1 2 + j) from congrArg nI (apM_len M w n j)) ?_
      exact x_reti hx hb hr9 hlk9 hS (by rw [show apM M w n n = apM M w n j by congr 1; omega]; exact hP) (by congr 1; omega) dX4_append_59
    | succ d19 ih19 =>
      intro j hj H locs ls hP hS hl
      refine lv_iload hx hb dX4_append_19 (lv_at hl 0 rfl) ?_
      refine x_ylt (u := (n : Int) - ((j + 1 : Nat) : Int)) (tgt := 55) hx hb (z_sub (by omega) (by omega)) dX4_append_21 (by decide) (fun h_3 => (by omega : False).elim) (fun h_3 => ?_)
      refine lv_aload_n hx hb dX4_append_24 rfl (lv_at hl 1 rfl) ?_
      refine x_getr CF hK hP 1 (by decide) dX_1 rfl uX4 0 (by decide) (j := 2) rfl wd1_114 rfl dX4_append_25 ?_
      refine lv_aload_n hx hb dX4_append_28 rfl (lv_at hl 1 rfl) ?_
      refine x_geti CF hK hP 1 (by decide) dX_1 rfl uX4 2 (by decide) rfl wd1_117 rfl dX4_append_29 ?_
      refine x_ri (show (nI ((apM M w n j) 1 2)) = nI (M 1 2 + j) from congrArg nI (apM_len M w n j)) ?_
      refine lv_lload_n hx hb dX4_append_32 rfl (lv_at hl 2 rfl) ?_
      refine lv_iload hx hb dX4_append_33 (lv_at hl 0 rfl) ?_
      refine x_ri (show (nI n - nI (j + 1)) = nI (n - (j + 1)) from pk_sub (by omega)) ?_
      refine x_callNP CF hK hP hS hl (As := [.long w, .int (nI (n - (j + 1)))]) (rest := [.int (nI (M 1 2 + j)), .ref (ad 2)]) (c_byteOf w (n - (j + 1)) (by omega)) kw_X5_byteOf hK.2.2.2.2.1 rfl ⟨Nat.le_of_ble_eq_true rfl, Nat.le_of_ble_eq_true rfl⟩ ⟨Nat.le_refl _, Nat.le_refl _⟩ (Nat.le_of_ble_eq_true rfl) dX4_append_35 (fun H locs hP hS => ?_)
      refine x_iast CF hK hI hA hP hS 2 (by decide) dX_2 (M 1 2 + j) (by omega) (by decide) (byt w (n - (j + 1))) dX4_append_38 (fun H locs hP hS => ?_)
      refine lv_aload_n hx hb dX4_append_39 rfl (lv_at hl 1 rfl) ?_
      refine lv_dup hx hb dX4_append_40 rfl ?_
      refine x_geti CF hK hP 1 (by decide) dX_1 rfl uX4 2 (by decide) rfl wd1_117 rfl dX4_append_41 ?_
      refine x_ri (show (nI ((u2 (apM M w n j) 2 (M 1 2 + j) (byt w (n - (j + 1)))) 1 2)) = nI (M 1 2 + j) from congrArg nI (by simp [u2, apM])) ?_
      refine lv_iconst (v := nI 1) hx hb dX4_append_44 (by decide) ?_
      refine x_iadd hx hb dX4_append_45 ?_
      refine x_puti CF hK hI hA hP hS 1 (by decide) dX_1 rfl uX4 tyX4 tyX4_ok nmX4 2 (by decide) rfl wd1_117 rfl rfl ((M 1 2 + j) + 1) (ty := .int) rfl rfl rfl dX4_append_46 (fun H locs hP hS => ?_)
      have hP : g_P g ad dsX 55 (apM M w n (j + 1)) J H := (by rw [← apM_s]; exact hP)
      refine lv_iinc (v := nI n - nI (j + 1 + 1)) (lv' := [(4, .int (nI n - nI (j + 1 + 1))), (0, .ref (ad 1)), (1, .long w), (3, .int (nI n))]) hx hb dX4_append_49 hl (k := 0) rfl (n_dec n (j + 1)) (by decide) rfl (fun ls hl => ?_)
      refine lv_goto (tgt := 19) hx hb dX4_append_52 (by decide) ?_
      have hl0 : lv_has ls 5 [(4, .int (nI n - nI ((j + 1) + 1))), (0, .ref (ad 1)), (1, .long w), (3, .int (nI n))] := by rw [(show nI n - nI ((j + 1) + 1) = nI n - nI (j + 1 + 1) from by first | rfl | (congr 1; omega) | (refine congrArg nI ?_; first | rfl | (exact (setN_t (decide_eq_true (by omega)))) | (exact (setN_f (decide_eq_false (by omega)))) | (rw [Nat.or_zero]; exact (setN_f (decide_eq_false (by omega))))))]; exact lv_sub hl [0, 1, 2, 3] rfl
      exact ih19 (j + 1) (by omega) _ _ _ (hP) hS hl0
  have hl0 : lv_has ls 5 [(4, .int (nI n - nI (0 + 1))), (0, .ref (ad 1)), (1, .long w), (3, .int (nI n))] := by rw [(show nI n - nI (0 + 1) = nI (n - 1) from (pk_sub (by omega)))]; exact lv_sub hl [0, 1, 2, 3] rfl
  exact L19 n 0 (by omega) _ _ _ (by rw [apM_0]; exact hP) hS hl0
set_option maxHeartbeats 4000000 in
set_option maxRecDepth 100000 in
theorem c_append_full {l : Launch} {g : gE} {ad : Nat → Nat} (hI : g_inj ad 55) (M : gMem) (J : gMeL) (w : Int64) (n : Nat) (hn : n ≤ 8) (h : 40 < M 1 2 + n) (h2 : M 1 2 ≤ 40) : CI l g ad dsX 55 yX4_append cX4_append 5 (some .int) 0 [.ref (ad 1), .long w, .int (nI n)] M J (nI 4294967293) M J := by
  refine CI.of (plainFor_of_name (by decide)) (Nat.le_of_ble_eq_true rfl) (fun p9 e9 s9 m9 args9 below9 meth9 c9 CF hK hr9 hlk9 hP hS ls hl => ?_)
  have hx := CF.1
  have hb := CF.2.1
  have hA : ∀ q, g_A ad 55 q → g_A ad 55 q := fun _ h => h
  have hl : lv_has ls 5 [(0, .ref (ad 1)), (1, .long w), (3, .int (nI n))] := hl
  refine lv_aload_n hx hb dX4_append_0 rfl (lv_at hl 0 rfl) ?_
  refine x_geti CF hK hP 1 (by decide) dX_1 rfl uX4 2 (by decide) rfl wd1_117 rfl dX4_append_1 ?_
  refine lv_iload_n hx hb dX4_append_4 rfl (lv_at hl 2 rfl) ?_
  refine x_iadd hx hb dX4_append_5 ?_
  refine lv_bipush (v := nI 40) hx hb dX4_append_6 (by decide) ?_
  refine x_zle (u := ((M 1 2) + n : Nat)) (v := (40 : Int)) (tgt := 14) hx hb (nI_toInt (by omega)) (rfl) dX4_append_8 (by decide) (fun h_1 => (by omega : False).elim) (fun h_1 => ?_)
  refine lv_bipush (v := nI 4294967293) hx hb dX4_append_11 (by decide) ?_
  exact x_reti hx hb hr9 hlk9 hS hP (by first | rfl | (show nI 4294967293 = nI 4294967293; first | rfl | omega)) dX4_append_13
set_option maxHeartbeats 4000000 in
set_option maxRecDepth 100000 in
theorem c_clear {l : Launch} {g : gE} {ad : Nat → Nat} (hI : g_inj ad 55) (M : gMem) (J : gMeL)  : CV l g ad dsX 55 yX4_clear cX4_clear 1 0 [.ref (ad 1)] M J (u2 M 1 2 0) J := by
  refine CV.of (plainFor_of_name (by decide)) (Nat.le_of_ble_eq_true rfl) (fun p9 e9 s9 m9 args9 below9 meth9 c9 CF hK hr9 hlk9 hP hS ls hl => ?_)
  have hx := CF.1
  have hb := CF.2.1
  have hA : ∀ q, g_A ad 55 q → g_A ad 55 q := fun _ h => h
  have hl : lv_has ls 1 [(0, .ref (ad 1))] := hl
  refine lv_aload_n hx hb dX4_clear_0 rfl (lv_at hl 0 rfl) ?_
  refine lv_iconst (v := nI 0) hx hb dX4_clear_1 (by decide) ?_
  refine x_puti CF hK hI hA hP hS 1 (by decide) dX_1 rfl uX4 tyX4 tyX4_ok nmX4 2 (by decide) rfl wd1_117 rfl rfl 0 (ty := .int) rfl rfl rfl dX4_clear_2 (fun H locs hP hS => ?_)
  exact x_retv hx hb hr9 hlk9 hS hP dX4_clear_5
set_option maxHeartbeats 4000000 in
set_option maxRecDepth 100000 in
theorem c_digitOf_t {l : Launch} {g : gE} (b : Nat) (h : 48 ≤ b ∧ b ≤ 57) : CP l g yX4_digitOf cX4_digitOf 1 (some .int) 1 [.int (nI b)] (nI (b - 48)) := by
  refine CP.of (plainFor_of_name (by decide)) (Nat.le_of_ble_eq_true rfl) (fun p9 e9 s9 m9 args9 below9 meth9 c9 CF hK hr9 hlk9 hS ls hl => ?_)
  have hx := CF.1
  have hb := CF.2.1
  have hl : lv_has ls 1 [(0, .int (nI b))] := hl
  refine lv_iload_n hx hb dX4_digitOf_0 rfl (lv_at hl 0 rfl) ?_
  refine lv_bipush (v := nI 48) hx hb dX4_digitOf_1 (by decide) ?_
  refine lv_bipush (v := nI 57) hx hb dX4_digitOf_3 (by decide) ?_
  refine x_callNPP CF hK hS hl (As := [.int (nI b), .int (nI 48), .int (nI 57)]) (rest := []) (c_isWithin_t _ _ _ (w_in (by omega) (by omega) (by omega))) kw_X5_isWithin hK.2.2.2.2.2 rfl ⟨Nat.le_of_ble_eq_true rfl, Nat.le_of_ble_eq_true rfl⟩ ⟨Nat.le_refl _, Nat.le_refl _⟩ (Nat.le_of_ble_eq_true rfl) dX4_digitOf_5 (fun H locs hS => ?_)
  refine x_yeq (u := (1 : Int)) (tgt := 18) hx hb (rfl) dX4_digitOf_8 (by decide) (fun h_1 => (by omega : False).elim) (fun h_1 => ?_)
  refine lv_iload_n hx hb dX4_digitOf_11 rfl (lv_at hl 0 rfl) ?_
  refine lv_bipush (v := nI 48) hx hb dX4_digitOf_12 (by decide) ?_
  refine x_isub hx hb (by omega) dX4_digitOf_14 ?_
  refine lv_goto (tgt := 19) hx hb dX4_digitOf_15 (by decide) ?_
  exact x_retp hx hb hr9 hlk9 hS (by first | rfl | (show nI (b - 48) = nI (b - 48); first | rfl | omega)) dX4_digitOf_19
set_option maxHeartbeats 4000000 in
set_option maxRecDepth 100000 in
theorem c_digitOf_f {l : Launch} {g : gE} (b : Nat) (h : ¬ (48 ≤ b ∧ b ≤ 57)) (h2 : b < 256) : CP l g yX4_digitOf cX4_digitOf 1 (some .int) 1 [.int (nI b)] (nI 4294967295) := by
  refine CP.of (plainFor_of_name (by decide)) (Nat.le_of_ble_eq_true rfl) (fun p9 e9 s9 m9 args9 below9 meth9 c9 CF hK hr9 hlk9 hS ls hl => ?_)
  have hx := CF.1
  have hb := CF.2.1
  have hl : lv_has ls 1 [(0, .int (nI b))] := hl
  refine lv_iload_n hx hb dX4_digitOf_0 rfl (lv_at hl 0 rfl) ?_
  refine lv_bipush (v := nI 48) hx hb dX4_digitOf_1 (by decide) ?_
  refine lv_bipush (v := nI 57) hx hb dX4_digitOf_3 (by decide) ?_
  refine x_callNPP CF hK hS hl (As := [.int (nI b), .int (nI 48), .int (nI 57)]) (rest := []) (c_isWithin_f _ _ _ (w_out (by rw [tz (by omega)]; omega) (by omega) (by omega))) kw_X5_isWithin hK.2.2.2.2.2 rfl ⟨Nat.le_of_ble_eq_true rfl, Nat.le_of_ble_eq_true rfl⟩ ⟨Nat.le_refl _, Nat.le_refl _⟩ (Nat.le_of_ble_eq_true rfl) dX4_digitOf_5 (fun H locs hS => ?_)
  refine x_yeq (u := (0 : Int)) (tgt := 18) hx hb (rfl) dX4_digitOf_8 (by decide) (fun h_1 => ?_) (fun h_1 => (by omega : False).elim)
  refine lv_iconst (v := nI 4294967295) hx hb dX4_digitOf_18 (by decide) ?_
  exact x_retp hx hb hr9 hlk9 hS (by first | rfl | (show nI 4294967295 = nI 4294967295; first | rfl | omega)) dX4_digitOf_19
set_option maxHeartbeats 4000000 in
set_option maxRecDepth 100000 in
theorem c_wishSign_t {l : Launch} {g : gE} (b : Nat) (h : b = 46 ∨ b = 100 ∨ b = 117) : CP l g yX4_wishSignOf cX4_wishSignOf 1 (some .int) 0 [.int (nI b)] (nI b) := by
  refine CP.of (plainFor_of_name (by decide)) (Nat.le_of_ble_eq_true rfl) (fun p9 e9 s9 m9 args9 below9 meth9 c9 CF hK hr9 hlk9 hS ls hl => ?_)
  have hx := CF.1
  have hb := CF.2.1
  have hl : lv_has ls 1 [(0, .int (nI b))] := hl
  refine lv_iload_n hx hb dX4_wishSignOf_0 rfl (lv_at hl 0 rfl) ?_
  rcases (show b = 46 ∨ b = 100 ∨ b = 117 ∨ (b ≠ 46 ∧ b ≠ 100 ∧ b ≠ 117) by omega) with sw_1 | sw_1 | sw_1 | sw_1
  · refine lv_lookup (off := 35) (tgt := 36) hx hb dX4_wishSignOf_1 (by decide) (by rw [sw_1]; decide +kernel) (by decide) ?_
    refine lv_iload_n hx hb dX4_wishSignOf_36 rfl (lv_at hl 0 rfl) ?_
    exact x_retp hx hb hr9 hlk9 hS (by first | rfl | (show nI b = nI b; first | rfl | omega)) dX4_wishSignOf_37
  · refine lv_lookup (off := 35) (tgt := 36) hx hb dX4_wishSignOf_1 (by decide) (by rw [sw_1]; decide +kernel) (by decide) ?_
    refine lv_iload_n hx hb dX4_wishSignOf_36 rfl (lv_at hl 0 rfl) ?_
    exact x_retp hx hb hr9 hlk9 hS (by first | rfl | (show nI b = nI b; first | rfl | omega)) dX4_wishSignOf_37
  · refine lv_lookup (off := 35) (tgt := 36) hx hb dX4_wishSignOf_1 (by decide) (by rw [sw_1]; decide +kernel) (by decide) ?_
    refine lv_iload_n hx hb dX4_wishSignOf_36 rfl (lv_at hl 0 rfl) ?_
    exact x_retp hx hb hr9 hlk9 hS (by first | rfl | (show nI b = nI b; first | rfl | omega)) dX4_wishSignOf_37
  · refine lv_lookup (off := 37) (tgt := 38) hx hb dX4_wishSignOf_1 (by decide) (by simp only [Op.lookupswitch.offset]; rw [if_neg (by rw [tz (by omega)]; omega), if_neg (by rw [tz (by omega)]; omega), if_neg (by rw [tz (by omega)]; omega)]) (by decide) ?_
    exact (by omega : False).elim
set_option maxHeartbeats 4000000 in
set_option maxRecDepth 100000 in
theorem c_wishSign_f {l : Launch} {g : gE} (b : Nat) (h : ¬ (b = 46 ∨ b = 100 ∨ b = 117)) (h2 : b < 256) : CP l g yX4_wishSignOf cX4_wishSignOf 1 (some .int) 0 [.int (nI b)] (nI 4294967295) := by
  refine CP.of (plainFor_of_name (by decide)) (Nat.le_of_ble_eq_true rfl) (fun p9 e9 s9 m9 args9 below9 meth9 c9 CF hK hr9 hlk9 hS ls hl => ?_)
  have hx := CF.1
  have hb := CF.2.1
  have hl : lv_has ls 1 [(0, .int (nI b))] := hl
  refine lv_iload_n hx hb dX4_wishSignOf_0 rfl (lv_at hl 0 rfl) ?_
  rcases (show b = 46 ∨ b = 100 ∨ b = 117 ∨ (b ≠ 46 ∧ b ≠ 100 ∧ b ≠ 117) by omega) with sw_1 | sw_1 | sw_1 | sw_1
  · refine lv_lookup (off := 35) (tgt := 36) hx hb dX4_wishSignOf_1 (by decide) (by rw [sw_1]; decide +kernel) (by decide) ?_
    exact (by omega : False).elim
  · refine lv_lookup (off := 35) (tgt := 36) hx hb dX4_wishSignOf_1 (by decide) (by rw [sw_1]; decide +kernel) (by decide) ?_
    exact (by omega : False).elim
  · refine lv_lookup (off := 35) (tgt := 36) hx hb dX4_wishSignOf_1 (by decide) (by rw [sw_1]; decide +kernel) (by decide) ?_
    exact (by omega : False).elim
  · refine lv_lookup (off := 37) (tgt := 38) hx hb dX4_wishSignOf_1 (by decide) (by simp only [Op.lookupswitch.offset]; rw [if_neg (by rw [tz (by omega)]; omega), if_neg (by rw [tz (by omega)]; omega), if_neg (by rw [tz (by omega)]; omega)]) (by decide) ?_
    refine lv_iconst (v := nI 4294967295) hx hb dX4_wishSignOf_38 (by decide) ?_
    exact x_retp hx hb hr9 hlk9 hS (by first | rfl | (show nI 4294967295 = nI 4294967295; first | rfl | omega)) dX4_wishSignOf_39
set_option maxHeartbeats 4000000 in
set_option maxRecDepth 100000 in
theorem c_read_d {l : Launch} {g : gE} {ad : Nat → Nat} (hI : g_inj ad 55) (M : gMem) (J : gMeL) (hlen : M 1 2 ≤ 40) (hby : ∀ q, q < 40 → M 2 q < 256) : CI l g ad dsX 55 yX4_read cX4_read 5 (some .int) 2 [.ref (ad 1), .int (nI 0)] M J (nI (flt (rdF (M 2) okd (M 1 2) 0 0 (M 1 2)))) (rowN M 3 12 (rdS (M 2) okd (fun b => b - 48) 0 0 (M 1 2) (M 3))) J := by
  refine CI.of (plainFor_of_name (by decide)) (Nat.le_of_ble_eq_true rfl) (fun p9 e9 s9 m9 args9 below9 meth9 c9 CF hK hr9 hlk9 hP hS ls hl => ?_)
  have hx := CF.1
  have hb := CF.2.1
  have hA : ∀ q, g_A ad 55 q → g_A ad 55 q := fun _ h => h
  have hl : lv_has ls 5 [(0, .ref (ad 1)), (1, .int (nI 0))] := hl
  refine lv_iconst (v := nI 0) hx hb dX4_read_0 (by decide) ?_
  refine lv_istore_n (lv' := [(2, .int (nI 0)), (0, .ref (ad 1)), (1, .int (nI 0))]) hx hb dX4_read_1 rfl hl (by decide) rfl (fun ls hl => ?_)
  refine lv_iconst (v := nI 0) hx hb dX4_read_2 (by decide) ?_
  refine lv_istore_n (lv' := [(3, .int (nI 0)), (2, .int (nI 0)), (0, .ref (ad 1)), (1, .int (nI 0))]) hx hb dX4_read_3 rfl hl (by decide) rfl (fun ls hl => ?_)
  have L4 : ∀ (d4 : Nat) (place : Nat) (found : Nat) (f : Nat → Nat), (place + d4 = M 1 2) → (found ≤ 12) → (rdF (M 2) okd (M 1 2) place found d4 = rdF (M 2) okd (M 1 2) 0 0 (M 1 2)) → (rdS (M 2) okd (fun b => b - 48) place found d4 f = rdS (M 2) okd (fun b => b - 48) 0 0 (M 1 2) (M 3)) → (∀ (H : Heap) (locs : List Loc) (ls : Array Slot), g_P g ad dsX 55 (rowN M 3 12 f) J H → va_S (g_A ad 55) s9.heap H locs → lv_has ls 5 [(3, .int (nI place)), (2, .int (nI found)), (0, .ref (ad 1)), (1, .int (nI 0))] → W p9 l e9 (g_rm 2) s9 m9 args9 below9 meth9 c9 H locs 0 0 (MQ below9 (va_Qi (fun r' (_ : Unit) => r' = (nI (flt (rdF (M 2) okd (M 1 2) 0 0 (M 1 2))))) (fun _ t => g_P g ad dsX 55 (rowN M 3 12 (rdS (M 2) okd (fun b => b - 48) 0 0 (M 1 2) (M 3))) J t.heap) (g_A ad 55)) args9 s9 0 0 (g_A ad 55)) (F0 m9 4 ls [])) := by
    intro d4
    induction d4 with
    | zero =>
      intro place found f hp hf hR hSS H locs ls hP hS hl
      refine lv_iload_n hx hb dX4_read_4 rfl (lv_at hl 0 rfl) ?_
      refine lv_aload_n hx hb dX4_read_5 rfl (lv_at hl 2 rfl) ?_
      refine x_geti CF hK hP 1 (by decide) dX_1 rfl uX4 2 (by decide) rfl wd1_117 rfl dX4_read_6 ?_
      refine x_ri (show (nI ((rowN M 3 12 f) 1 2)) = nI (M 1 2) from by rw [rowN_out (by decide)]) ?_
      refine x_zge (u := (place : Nat)) (v := (M 1 2 : Nat)) (tgt := 86) hx hb (nI_toInt (by omega)) (nI_toInt (by omega)) dX4_read_9 (by decide) (fun h_1 => ?_) (fun h_1 => (by omega : False).elim)
      refine lv_iload_n hx hb dX4_read_86 rfl (lv_at hl 1 rfl) ?_
      refine lv_bipush (v := nI 12) hx hb dX4_read_87 (by decide) ?_
      refine x_zge (u := (found : Nat)) (v := (12 : Int)) (tgt := 102) hx hb (nI_toInt (by omega)) (rfl) dX4_read_89 (by decide) (fun h_2 => ?_) (fun h_2 => ?_)
      · refine lv_iconst (v := nI 0) hx hb dX4_read_102 (by decide) ?_
        exact x_reti hx hb hr9 hlk9 hS (by rw [← hSS]; exact hP) (by rw [← hR, rdF, if_neg (by omega)]; rfl) dX4_read_103
      · refine lv_bipush (v := nI 4294967276) hx hb dX4_read_92 (by decide) ?_
        refine lv_aload_n hx hb dX4_read_94 rfl (lv_at hl 2 rfl) ?_
        refine x_geti CF hK hP 1 (by decide) dX_1 rfl uX4 2 (by decide) rfl wd1_117 rfl dX4_read_95 ?_
        refine x_ri (show (nI ((rowN M 3 12 f) 1 2)) = nI (M 1 2) from by rw [rowN_out (by decide)]) ?_
        refine x_isub hx hb (by omega) dX4_read_98 ?_
        refine lv_goto (tgt := 103) hx hb dX4_read_99 (by decide) ?_
        exact x_reti hx hb hr9 hlk9 hS (by rw [← hSS]; exact hP) (by rw [← hR, rdF, if_pos (by omega)]; rfl) dX4_read_103
    | succ d4 ih4 =>
      intro place found f hp hf hR hSS H locs ls hP hS hl
      have b1 := hby place (by omega)
      rw [rdF] at hR
      rw [rdS] at hSS
      refine lv_iload_n hx hb dX4_read_4 rfl (lv_at hl 0 rfl) ?_
      refine lv_aload_n hx hb dX4_read_5 rfl (lv_at hl 2 rfl) ?_
      refine x_geti CF hK hP 1 (by decide) dX_1 rfl uX4 2 (by decide) rfl wd1_117 rfl dX4_read_6 ?_
      refine x_ri (show (nI ((rowN M 3 12 f) 1 2)) = nI (M 1 2) from by rw [rowN_out (by decide)]) ?_
      refine x_zge (u := (place : Nat)) (v := (M 1 2 : Nat)) (tgt := 86) hx hb (nI_toInt (by omega)) (nI_toInt (by omega)) dX4_read_9 (by decide) (fun h_3 => (by omega : False).elim) (fun h_3 => ?_)
      refine lv_aload_n hx hb dX4_read_12 rfl (lv_at hl 2 rfl) ?_
      refine x_getr CF hK hP 1 (by decide) dX_1 rfl uX4 0 (by decide) (j := 2) rfl wd1_114 rfl dX4_read_13 ?_
      refine lv_iload_n hx hb dX4_read_16 rfl (lv_at hl 0 rfl) ?_
      refine x_iald CF hK hP 2 (by decide) dX_2 place (by omega) (by decide) dX4_read_17 ?_
      refine x_ri (show (nI ((rowN M 3 12 f) 2 place)) = nI (M 2 place) from by rw [rowN_out (by decide)]) ?_
      refine lv_bipush (v := nI 32) hx hb dX4_read_18 (by decide) ?_
      refine x_zne (u := (M 2 place : Nat)) (v := (32 : Int)) (tgt := 26) hx hb (nI_toInt (by omega)) (rfl) dX4_read_20 (by decide) (fun h_4 => ?_) (fun h_4 => ?_)
      · refine lv_iload_n hx hb dX4_read_26 rfl (lv_at hl 3 rfl) ?_
        refine x_yeq (u := (0 : Int)) (tgt := 42) hx hb (rfl) dX4_read_27 (by decide) (fun h_5 => ?_) (fun h_5 => (by omega : False).elim)
        refine lv_aload_n hx hb dX4_read_42 rfl (lv_at hl 2 rfl) ?_
        refine x_getr CF hK hP 1 (by decide) dX_1 rfl uX4 0 (by decide) (j := 2) rfl wd1_114 rfl dX4_read_43 ?_
        refine lv_iload_n hx hb dX4_read_46 rfl (lv_at hl 0 rfl) ?_
        refine x_iald CF hK hP 2 (by decide) dX_2 place (by omega) (by decide) dX4_read_47 ?_
        refine x_ri (show (nI ((rowN M 3 12 f) 2 place)) = nI (M 2 place) from by rw [rowN_out (by decide)]) ?_
        by_cases o_6 : okd (M 2 place) = true
        · refine x_callSP CF hK hP hS hl (As := [.int (nI (M 2 place))]) (rest := []) (c_digitOf_t (M 2 place) (of_decide_eq_true o_6)) kw_X4_digitOf wd1_219 rfl ⟨Nat.le_of_ble_eq_true rfl, Nat.le_of_ble_eq_true rfl⟩ ⟨Nat.le_refl _, Nat.le_refl _⟩ (Nat.le_of_ble_eq_true rfl) dX4_read_48 (fun H locs hP hS => ?_)
          refine lv_istore (lv' := [(4, .int (nI ((M 2 place) - 48))), (3, .int (nI place)), (2, .int (nI found)), (0, .ref (ad 1)), (1, .int (nI 0))]) hx hb dX4_read_51 hl (by decide) rfl (fun ls hl => ?_)
          refine lv_iload hx hb dX4_read_53 (lv_at hl 0 rfl) ?_
          refine x_ylt (u := ((M 2 place) - 48 : Nat)) (tgt := 64) hx hb (nI_toInt (by omega)) dX4_read_55 (by decide) (fun h_7 => ?_) (fun h_7 => ?_)
          · refine lv_bipush (v := nI 4294967276) hx hb dX4_read_64 (by decide) ?_
            refine lv_iload_n hx hb dX4_read_66 rfl (lv_at hl 1 rfl) ?_
            refine x_isub hx hb (by omega) dX4_read_67 ?_
            exact x_reti hx hb hr9 hlk9 hS (by rw [if_neg (by omega), if_neg (fun h => by have := h.2; omega)] at hSS; rw [← hSS]; exact hP) (by rw [if_neg (by omega), if_neg (fun h => by have := h.2; omega)] at hR; rw [← hR]; rfl) dX4_read_68
          · refine lv_iload_n hx hb dX4_read_58 rfl (lv_at hl 2 rfl) ?_
            refine lv_bipush (v := nI 12) hx hb dX4_read_59 (by decide) ?_
            refine x_zlt (u := (found : Nat)) (v := (12 : Int)) (tgt := 69) hx hb (nI_toInt (by omega)) (rfl) dX4_read_61 (by decide) (fun h_8 => ?_) (fun h_8 => ?_)
            · refine lv_aload_n hx hb dX4_read_69 rfl (lv_at hl 3 rfl) ?_
              refine x_getr CF hK hP 1 (by decide) dX_1 rfl uX4 1 (by decide) (j := 3) rfl wd1_115 rfl dX4_read_70 ?_
              refine lv_iload_n hx hb dX4_read_73 rfl (lv_at hl 2 rfl) ?_
              refine lv_iload hx hb dX4_read_74 (lv_at hl 0 rfl) ?_
              refine x_iast CF hK hI hA hP hS 3 (by decide) dX_3 found (by omega) (by decide) ((M 2 place) - 48) dX4_read_76 (fun H locs hP hS => ?_)
              refine lv_iinc (v := nI (found + 1)) (lv' := [(2, .int (nI (found + 1))), (4, .int (nI ((M 2 place) - 48))), (3, .int (nI place)), (0, .ref (ad 1)), (1, .int (nI 0))]) hx hb dX4_read_77 hl (k := 2) rfl (n_inc found 1) (by decide) rfl (fun ls hl => ?_)
              refine lv_iinc (v := nI (place + 1)) (lv' := [(3, .int (nI (place + 1))), (2, .int (nI (found + 1))), (4, .int (nI ((M 2 place) - 48))), (0, .ref (ad 1)), (1, .int (nI 0))]) hx hb dX4_read_80 hl (k := 2) rfl (n_inc place 1) (by decide) rfl (fun ls hl => ?_)
              refine lv_goto (tgt := 4) hx hb dX4_read_83 (by decide) ?_
              have hl0 : lv_has ls 5 [(3, .int (nI (place + 1))), (2, .int (nI (found + 1))), (0, .ref (ad 1)), (1, .int (nI 0))] := lv_sub hl [0, 1, 3, 4] rfl
              exact ih4 (place + 1) (found + 1) _ (by omega) (by omega) (by rw [if_neg (by omega), if_pos ⟨o_6, by omega⟩] at hR; exact hR) (by rw [if_neg (by omega), if_pos ⟨o_6, by omega⟩] at hSS; exact hSS) _ _ _ (by rw [← rowN_u (by omega)]; exact hP) hS hl0
            · refine lv_bipush (v := nI 4294967276) hx hb dX4_read_64 (by decide) ?_
              refine lv_iload_n hx hb dX4_read_66 rfl (lv_at hl 1 rfl) ?_
              refine x_isub hx hb (by omega) dX4_read_67 ?_
              exact x_reti hx hb hr9 hlk9 hS (by rw [if_neg (by omega), if_neg (fun h => by have := h.2; omega)] at hSS; rw [← hSS]; exact hP) (by rw [if_neg (by omega), if_neg (fun h => by have := h.2; omega)] at hR; rw [← hR]; rfl) dX4_read_68
        · refine x_callSP CF hK hP hS hl (As := [.int (nI (M 2 place))]) (rest := []) (c_digitOf_f (M 2 place) (fun q9 => o_6 (decide_eq_true q9)) (by omega)) kw_X4_digitOf wd1_219 rfl ⟨Nat.le_of_ble_eq_true rfl, Nat.le_of_ble_eq_true rfl⟩ ⟨Nat.le_refl _, Nat.le_refl _⟩ (Nat.le_of_ble_eq_true rfl) dX4_read_48 (fun H locs hP hS => ?_)
          refine lv_istore (lv' := [(4, .int (nI 4294967295)), (3, .int (nI place)), (2, .int (nI found)), (0, .ref (ad 1)), (1, .int (nI 0))]) hx hb dX4_read_51 hl (by decide) rfl (fun ls hl => ?_)
          refine lv_iload hx hb dX4_read_53 (lv_at hl 0 rfl) ?_
          refine x_ylt (u := (-1 : Int)) (tgt := 64) hx hb (rfl) dX4_read_55 (by decide) (fun h_9 => ?_) (fun h_9 => (by omega : False).elim)
          refine lv_bipush (v := nI 4294967276) hx hb dX4_read_64 (by decide) ?_
          refine lv_iload_n hx hb dX4_read_66 rfl (lv_at hl 1 rfl) ?_
          refine x_isub hx hb (by omega) dX4_read_67 ?_
          exact x_reti hx hb hr9 hlk9 hS (by rw [if_neg (by omega), if_neg (by simp [o_6])] at hSS; rw [← hSS]; exact hP) (by rw [if_neg (by omega), if_neg (by simp [o_6])] at hR; rw [← hR]; rfl) dX4_read_68
      · refine lv_goto (tgt := 80) hx hb dX4_read_23 (by decide) ?_
        refine lv_iinc (v := nI (place + 1)) (lv' := [(3, .int (nI (place + 1))), (2, .int (nI found)), (0, .ref (ad 1)), (1, .int (nI 0))]) hx hb dX4_read_80 hl (k := 0) rfl (n_inc place 1) (by decide) rfl (fun ls hl => ?_)
        refine lv_goto (tgt := 4) hx hb dX4_read_83 (by decide) ?_
        have hl0 : lv_has ls 5 [(3, .int (nI (place + 1))), (2, .int (nI found)), (0, .ref (ad 1)), (1, .int (nI 0))] := lv_sub hl [0, 1, 2, 3] rfl
        exact ih4 (place + 1) found f (by omega) (hf) (by rw [if_pos (by omega)] at hR; exact hR) (by rw [if_pos (by omega)] at hSS; exact hSS) _ _ _ (hP) hS hl0
  have hl0 : lv_has ls 5 [(3, .int (nI 0)), (2, .int (nI 0)), (0, .ref (ad 1)), (1, .int (nI 0))] := lv_sub hl [0, 1, 2, 3] rfl
  exact L4 (M 1 2) 0 0 (M 3) (by omega) (by omega) (rfl) (rfl) _ _ _ (by rw [rowN_self]; exact hP) hS hl0
set_option maxHeartbeats 4000000 in
set_option maxRecDepth 100000 in
theorem c_read_w {l : Launch} {g : gE} {ad : Nat → Nat} (hI : g_inj ad 55) (M : gMem) (J : gMeL) (hlen : M 1 2 ≤ 40) (hby : ∀ q, q < 40 → M 2 q < 256) : CI l g ad dsX 55 yX4_read cX4_read 5 (some .int) 2 [.ref (ad 1), .int (nI 1)] M J (nI (flt (rdF (M 2) okw (M 1 2) 0 0 (M 1 2)))) (rowN M 3 12 (rdS (M 2) okw (fun b => b) 0 0 (M 1 2) (M 3))) J := by
  refine CI.of (plainFor_of_name (by decide)) (Nat.le_of_ble_eq_true rfl) (fun p9 e9 s9 m9 args9 below9 meth9 c9 CF hK hr9 hlk9 hP hS ls hl => ?_)
  have hx := CF.1
  have hb := CF.2.1
  have hA : ∀ q, g_A ad 55 q → g_A ad 55 q := fun _ h => h
  have hl : lv_has ls 5 [(0, .ref (ad 1)), (1, .int (nI 1))] := hl
  refine lv_iconst (v := nI 0) hx hb dX4_read_0 (by decide) ?_
  refine lv_istore_n (lv' := [(2, .int (nI 0)), (0, .ref (ad 1)), (1, .int (nI 1))]) hx hb dX4_read_1 rfl hl (by decide) rfl (fun ls hl => ?_)
  refine lv_iconst (v := nI 0) hx hb dX4_read_2 (by decide) ?_
  refine lv_istore_n (lv' := [(3, .int (nI 0)), (2, .int (nI 0)), (0, .ref (ad 1)), (1, .int (nI 1))]) hx hb dX4_read_3 rfl hl (by decide) rfl (fun ls hl => ?_)
  have L4 : ∀ (d4 : Nat) (place : Nat) (found : Nat) (f : Nat → Nat), (place + d4 = M 1 2) → (found ≤ 12) → (rdF (M 2) okw (M 1 2) place found d4 = rdF (M 2) okw (M 1 2) 0 0 (M 1 2)) → (rdS (M 2) okw (fun b => b) place found d4 f = rdS (M 2) okw (fun b => b) 0 0 (M 1 2) (M 3)) → (∀ (H : Heap) (locs : List Loc) (ls : Array Slot), g_P g ad dsX 55 (rowN M 3 12 f) J H → va_S (g_A ad 55) s9.heap H locs → lv_has ls 5 [(3, .int (nI place)), (2, .int (nI found)), (0, .ref (ad 1)), (1, .int (nI 1))] → W p9 l e9 (g_rm 2) s9 m9 args9 below9 meth9 c9 H locs 0 0 (MQ below9 (va_Qi (fun r' (_ : Unit) => r' = (nI (flt (rdF (M 2) okw (M 1 2) 0 0 (M 1 2))))) (fun _ t => g_P g ad dsX 55 (rowN M 3 12 (rdS (M 2) okw (fun b => b) 0 0 (M 1 2) (M 3))) J t.heap) (g_A ad 55)) args9 s9 0 0 (g_A ad 55)) (F0 m9 4 ls [])) := by
    intro d4
    induction d4 with
    | zero =>
      intro place found f hp hf hR hSS H locs ls hP hS hl
      refine lv_iload_n hx hb dX4_read_4 rfl (lv_at hl 0 rfl) ?_
      refine lv_aload_n hx hb dX4_read_5 rfl (lv_at hl 2 rfl) ?_
      refine x_geti CF hK hP 1 (by decide) dX_1 rfl uX4 2 (by decide) rfl wd1_117 rfl dX4_read_6 ?_
      refine x_ri (show (nI ((rowN M 3 12 f) 1 2)) = nI (M 1 2) from by rw [rowN_out (by decide)]) ?_
      refine x_zge (u := (place : Nat)) (v := (M 1 2 : Nat)) (tgt := 86) hx hb (nI_toInt (by omega)) (nI_toInt (by omega)) dX4_read_9 (by decide) (fun h_1 => ?_) (fun h_1 => (by omega : False).elim)
      refine lv_iload_n hx hb dX4_read_86 rfl (lv_at hl 1 rfl) ?_
      refine lv_bipush (v := nI 12) hx hb dX4_read_87 (by decide) ?_
      refine x_zge (u := (found : Nat)) (v := (12 : Int)) (tgt := 102) hx hb (nI_toInt (by omega)) (rfl) dX4_read_89 (by decide) (fun h_2 => ?_) (fun h_2 => ?_)
      · refine lv_iconst (v := nI 0) hx hb dX4_read_102 (by decide) ?_
        exact x_reti hx hb hr9 hlk9 hS (by rw [← hSS]; exact hP) (by rw [← hR, rdF, if_neg (by omega)]; rfl) dX4_read_103
      · refine lv_bipush (v := nI 4294967276) hx hb dX4_read_92 (by decide) ?_
        refine lv_aload_n hx hb dX4_read_94 rfl (lv_at hl 2 rfl) ?_
        refine x_geti CF hK hP 1 (by decide) dX_1 rfl uX4 2 (by decide) rfl wd1_117 rfl dX4_read_95 ?_
        refine x_ri (show (nI ((rowN M 3 12 f) 1 2)) = nI (M 1 2) from by rw [rowN_out (by decide)]) ?_
        refine x_isub hx hb (by omega) dX4_read_98 ?_
        refine lv_goto (tgt := 103) hx hb dX4_read_99 (by decide) ?_
        exact x_reti hx hb hr9 hlk9 hS (by rw [← hSS]; exact hP) (by rw [← hR, rdF, if_pos (by omega)]; rfl) dX4_read_103
    | succ d4 ih4 =>
      intro place found f hp hf hR hSS H locs ls hP hS hl
      have b1 := hby place (by omega)
      rw [rdF] at hR
      rw [rdS] at hSS
      refine lv_iload_n hx hb dX4_read_4 rfl (lv_at hl 0 rfl) ?_
      refine lv_aload_n hx hb dX4_read_5 rfl (lv_at hl 2 rfl) ?_
      refine x_geti CF hK hP 1 (by decide) dX_1 rfl uX4 2 (by decide) rfl wd1_117 rfl dX4_read_6 ?_
      refine x_ri (show (nI ((rowN M 3 12 f) 1 2)) = nI (M 1 2) from by rw [rowN_out (by decide)]) ?_
      refine x_zge (u := (place : Nat)) (v := (M 1 2 : Nat)) (tgt := 86) hx hb (nI_toInt (by omega)) (nI_toInt (by omega)) dX4_read_9 (by decide) (fun h_3 => (by omega : False).elim) (fun h_3 => ?_)
      refine lv_aload_n hx hb dX4_read_12 rfl (lv_at hl 2 rfl) ?_
      refine x_getr CF hK hP 1 (by decide) dX_1 rfl uX4 0 (by decide) (j := 2) rfl wd1_114 rfl dX4_read_13 ?_
      refine lv_iload_n hx hb dX4_read_16 rfl (lv_at hl 0 rfl) ?_
      refine x_iald CF hK hP 2 (by decide) dX_2 place (by omega) (by decide) dX4_read_17 ?_
      refine x_ri (show (nI ((rowN M 3 12 f) 2 place)) = nI (M 2 place) from by rw [rowN_out (by decide)]) ?_
      refine lv_bipush (v := nI 32) hx hb dX4_read_18 (by decide) ?_
      refine x_zne (u := (M 2 place : Nat)) (v := (32 : Int)) (tgt := 26) hx hb (nI_toInt (by omega)) (rfl) dX4_read_20 (by decide) (fun h_4 => ?_) (fun h_4 => ?_)
      · refine lv_iload_n hx hb dX4_read_26 rfl (lv_at hl 3 rfl) ?_
        refine x_yeq (u := (1 : Int)) (tgt := 42) hx hb (rfl) dX4_read_27 (by decide) (fun h_5 => (by omega : False).elim) (fun h_5 => ?_)
        refine lv_aload_n hx hb dX4_read_30 rfl (lv_at hl 2 rfl) ?_
        refine x_getr CF hK hP 1 (by decide) dX_1 rfl uX4 0 (by decide) (j := 2) rfl wd1_114 rfl dX4_read_31 ?_
        refine lv_iload_n hx hb dX4_read_34 rfl (lv_at hl 0 rfl) ?_
        refine x_iald CF hK hP 2 (by decide) dX_2 place (by omega) (by decide) dX4_read_35 ?_
        refine x_ri (show (nI ((rowN M 3 12 f) 2 place)) = nI (M 2 place) from by rw [rowN_out (by decide)]) ?_
        by_cases o_6 : okw (M 2 place) = true
        · refine x_callSP CF hK hP hS hl (As := [.int (nI (M 2 place))]) (rest := []) (c_wishSign_t (M 2 place) (of_decide_eq_true o_6)) kw_X4_wishSignOf wd1_216 rfl ⟨Nat.le_of_ble_eq_true rfl, Nat.le_of_ble_eq_true rfl⟩ ⟨Nat.le_refl _, Nat.le_refl _⟩ (Nat.le_of_ble_eq_true rfl) dX4_read_36 (fun H locs hP hS => ?_)
          refine lv_goto (tgt := 51) hx hb dX4_read_39 (by decide) ?_
          refine lv_istore (lv' := [(4, .int (nI (M 2 place))), (3, .int (nI place)), (2, .int (nI found)), (0, .ref (ad 1)), (1, .int (nI 1))]) hx hb dX4_read_51 hl (by decide) rfl (fun ls hl => ?_)
          refine lv_iload hx hb dX4_read_53 (lv_at hl 0 rfl) ?_
          refine x_ylt (u := ((M 2 place) : Nat)) (tgt := 64) hx hb (nI_toInt (by omega)) dX4_read_55 (by decide) (fun h_7 => ?_) (fun h_7 => ?_)
          · refine lv_bipush (v := nI 4294967276) hx hb dX4_read_64 (by decide) ?_
            refine lv_iload_n hx hb dX4_read_66 rfl (lv_at hl 1 rfl) ?_
            refine x_isub hx hb (by omega) dX4_read_67 ?_
            exact x_reti hx hb hr9 hlk9 hS (by rw [if_neg (by omega), if_neg (fun h => by have := h.2; omega)] at hSS; rw [← hSS]; exact hP) (by rw [if_neg (by omega), if_neg (fun h => by have := h.2; omega)] at hR; rw [← hR]; rfl) dX4_read_68
          · refine lv_iload_n hx hb dX4_read_58 rfl (lv_at hl 2 rfl) ?_
            refine lv_bipush (v := nI 12) hx hb dX4_read_59 (by decide) ?_
            refine x_zlt (u := (found : Nat)) (v := (12 : Int)) (tgt := 69) hx hb (nI_toInt (by omega)) (rfl) dX4_read_61 (by decide) (fun h_8 => ?_) (fun h_8 => ?_)
            · refine lv_aload_n hx hb dX4_read_69 rfl (lv_at hl 3 rfl) ?_
              refine x_getr CF hK hP 1 (by decide) dX_1 rfl uX4 1 (by decide) (j := 3) rfl wd1_115 rfl dX4_read_70 ?_
              refine lv_iload_n hx hb dX4_read_73 rfl (lv_at hl 2 rfl) ?_
              refine lv_iload hx hb dX4_read_74 (lv_at hl 0 rfl) ?_
              refine x_iast CF hK hI hA hP hS 3 (by decide) dX_3 found (by omega) (by decide) (M 2 place) dX4_read_76 (fun H locs hP hS => ?_)
              refine lv_iinc (v := nI (found + 1)) (lv' := [(2, .int (nI (found + 1))), (4, .int (nI (M 2 place))), (3, .int (nI place)), (0, .ref (ad 1)), (1, .int (nI 1))]) hx hb dX4_read_77 hl (k := 2) rfl (n_inc found 1) (by decide) rfl (fun ls hl => ?_)
              refine lv_iinc (v := nI (place + 1)) (lv' := [(3, .int (nI (place + 1))), (2, .int (nI (found + 1))), (4, .int (nI (M 2 place))), (0, .ref (ad 1)), (1, .int (nI 1))]) hx hb dX4_read_80 hl (k := 2) rfl (n_inc place 1) (by decide) rfl (fun ls hl => ?_)
              refine lv_goto (tgt := 4) hx hb dX4_read_83 (by decide) ?_
              have hl0 : lv_has ls 5 [(3, .int (nI (place + 1))), (2, .int (nI (found + 1))), (0, .ref (ad 1)), (1, .int (nI 1))] := lv_sub hl [0, 1, 3, 4] rfl
              exact ih4 (place + 1) (found + 1) _ (by omega) (by omega) (by rw [if_neg (by omega), if_pos ⟨o_6, by omega⟩] at hR; exact hR) (by rw [if_neg (by omega), if_pos ⟨o_6, by omega⟩] at hSS; exact hSS) _ _ _ (by rw [← rowN_u (by omega)]; exact hP) hS hl0
            · refine lv_bipush (v := nI 4294967276) hx hb dX4_read_64 (by decide) ?_
              refine lv_iload_n hx hb dX4_read_66 rfl (lv_at hl 1 rfl) ?_
              refine x_isub hx hb (by omega) dX4_read_67 ?_
              exact x_reti hx hb hr9 hlk9 hS (by rw [if_neg (by omega), if_neg (fun h => by have := h.2; omega)] at hSS; rw [← hSS]; exact hP) (by rw [if_neg (by omega), if_neg (fun h => by have := h.2; omega)] at hR; rw [← hR]; rfl) dX4_read_68
        · refine x_callSP CF hK hP hS hl (As := [.int (nI (M 2 place))]) (rest := []) (c_wishSign_f (M 2 place) (fun q9 => o_6 (decide_eq_true q9)) (by omega)) kw_X4_wishSignOf wd1_216 rfl ⟨Nat.le_of_ble_eq_true rfl, Nat.le_of_ble_eq_true rfl⟩ ⟨Nat.le_refl _, Nat.le_refl _⟩ (Nat.le_of_ble_eq_true rfl) dX4_read_36 (fun H locs hP hS => ?_)
          refine lv_goto (tgt := 51) hx hb dX4_read_39 (by decide) ?_
          refine lv_istore (lv' := [(4, .int (nI 4294967295)), (3, .int (nI place)), (2, .int (nI found)), (0, .ref (ad 1)), (1, .int (nI 1))]) hx hb dX4_read_51 hl (by decide) rfl (fun ls hl => ?_)
          refine lv_iload hx hb dX4_read_53 (lv_at hl 0 rfl) ?_
          refine x_ylt (u := (-1 : Int)) (tgt := 64) hx hb (rfl) dX4_read_55 (by decide) (fun h_9 => ?_) (fun h_9 => (by omega : False).elim)
          refine lv_bipush (v := nI 4294967276) hx hb dX4_read_64 (by decide) ?_
          refine lv_iload_n hx hb dX4_read_66 rfl (lv_at hl 1 rfl) ?_
          refine x_isub hx hb (by omega) dX4_read_67 ?_
          exact x_reti hx hb hr9 hlk9 hS (by rw [if_neg (by omega), if_neg (by simp [o_6])] at hSS; rw [← hSS]; exact hP) (by rw [if_neg (by omega), if_neg (by simp [o_6])] at hR; rw [← hR]; rfl) dX4_read_68
      · refine lv_goto (tgt := 80) hx hb dX4_read_23 (by decide) ?_
        refine lv_iinc (v := nI (place + 1)) (lv' := [(3, .int (nI (place + 1))), (2, .int (nI found)), (0, .ref (ad 1)), (1, .int (nI 1))]) hx hb dX4_read_80 hl (k := 0) rfl (n_inc place 1) (by decide) rfl (fun ls hl => ?_)
        refine lv_goto (tgt := 4) hx hb dX4_read_83 (by decide) ?_
        have hl0 : lv_has ls 5 [(3, .int (nI (place + 1))), (2, .int (nI found)), (0, .ref (ad 1)), (1, .int (nI 1))] := lv_sub hl [0, 1, 2, 3] rfl
        exact ih4 (place + 1) found f (by omega) (hf) (by rw [if_pos (by omega)] at hR; exact hR) (by rw [if_pos (by omega)] at hSS; exact hSS) _ _ _ (hP) hS hl0
  have hl0 : lv_has ls 5 [(3, .int (nI 0)), (2, .int (nI 0)), (0, .ref (ad 1)), (1, .int (nI 1))] := lv_sub hl [0, 1, 2, 3] rfl
  exact L4 (M 1 2) 0 0 (M 3) (by omega) (by omega) (rfl) (rfl) _ _ _ (by rw [rowN_self]; exact hP) hS hl0
set_option maxHeartbeats 4000000 in
set_option maxRecDepth 100000 in
theorem c_takeTape_d {l : Launch} {g : gE} {ad : Nat → Nat} (hI : g_inj ad 55) (M : gMem) (J : gMeL) (hlen : M 1 2 ≤ 40) (hby : ∀ q, q < 40 → M 2 q < 256) : CI l g ad dsX 55 yX5_takeTape cX5_takeTape 3 (some .int) 3 [.ref (ad 0), .int (nI 0)] M J (nI (flt (rdF (M 2) okd (M 1 2) 0 0 (M 1 2)))) (u2 (rowN M 3 12 (rdS (M 2) okd (fun b => b - 48) 0 0 (M 1 2) (M 3))) 1 2 0) J := by
  refine CI.of (plainFor_of_name (by decide)) (Nat.le_of_ble_eq_true rfl) (fun p9 e9 s9 m9 args9 below9 meth9 c9 CF hK hr9 hlk9 hP hS ls hl => ?_)
  have hx := CF.1
  have hb := CF.2.1
  have hA : ∀ q, g_A ad 55 q → g_A ad 55 q := fun _ h => h
  have hl : lv_has ls 3 [(0, .ref (ad 0)), (1, .int (nI 0))] := hl
  refine lv_aload_n hx hb dX5_takeTape_0 rfl (lv_at hl 0 rfl) ?_
  refine x_getr CF hK hP 0 (by decide) dX_0 rfl uX5 3 (by decide) (j := 1) rfl wd1_167 rfl dX5_takeTape_1 ?_
  refine lv_iload_n hx hb dX5_takeTape_4 rfl (lv_at hl 1 rfl) ?_
  refine x_callVI CF hK hP hS hA hl (As := [.int (nI 0)]) (rest := []) (c_read_d hI M J hlen hby) kw_X4_read wd1_212 (by decide) dX_1 rfl rfl ⟨Nat.le_of_ble_eq_true rfl, Nat.le_of_ble_eq_true rfl⟩ ⟨Nat.le_refl _, Nat.le_refl _⟩ (Nat.le_of_ble_eq_true rfl) dX5_takeTape_5 (fun H locs hP hS => ?_)
  refine lv_istore_n (lv' := [(2, .int (nI (flt (rdF (M 2) okd (M 1 2) 0 0 (M 1 2))))), (0, .ref (ad 0)), (1, .int (nI 0))]) hx hb dX5_takeTape_8 rfl hl (by decide) rfl (fun ls hl => ?_)
  refine lv_aload_n hx hb dX5_takeTape_9 rfl (lv_at hl 1 rfl) ?_
  refine x_getr CF hK hP 0 (by decide) dX_0 rfl uX5 3 (by decide) (j := 1) rfl wd1_167 rfl dX5_takeTape_10 ?_
  refine x_callVV CF hK hP hS hA hl (As := []) (rest := []) (c_clear hI (rowN M 3 12 (rdS (M 2) okd (fun b => b - 48) 0 0 (M 1 2) (M 3))) J) kw_X4_clear wd1_223 (by decide) dX_1 rfl rfl ⟨Nat.le_of_ble_eq_true rfl, Nat.le_of_ble_eq_true rfl⟩ ⟨Nat.le_refl _, Nat.le_refl _⟩ (Nat.le_of_ble_eq_true rfl) dX5_takeTape_13 (fun H locs hP hS => ?_)
  refine lv_iload_n hx hb dX5_takeTape_16 rfl (lv_at hl 0 rfl) ?_
  exact x_reti hx hb hr9 hlk9 hS hP (by first | rfl | (show nI (flt (rdF (M 2) okd (M 1 2) 0 0 (M 1 2))) = nI (flt (rdF (M 2) okd (M 1 2) 0 0 (M 1 2))); first | rfl | omega)) dX5_takeTape_17
set_option maxHeartbeats 4000000 in
set_option maxRecDepth 100000 in
theorem c_takeTape_w {l : Launch} {g : gE} {ad : Nat → Nat} (hI : g_inj ad 55) (M : gMem) (J : gMeL) (hlen : M 1 2 ≤ 40) (hby : ∀ q, q < 40 → M 2 q < 256) : CI l g ad dsX 55 yX5_takeTape cX5_takeTape 3 (some .int) 3 [.ref (ad 0), .int (nI 1)] M J (nI (flt (rdF (M 2) okw (M 1 2) 0 0 (M 1 2)))) (u2 (rowN M 3 12 (rdS (M 2) okw (fun b => b) 0 0 (M 1 2) (M 3))) 1 2 0) J := by
  refine CI.of (plainFor_of_name (by decide)) (Nat.le_of_ble_eq_true rfl) (fun p9 e9 s9 m9 args9 below9 meth9 c9 CF hK hr9 hlk9 hP hS ls hl => ?_)
  have hx := CF.1
  have hb := CF.2.1
  have hA : ∀ q, g_A ad 55 q → g_A ad 55 q := fun _ h => h
  have hl : lv_has ls 3 [(0, .ref (ad 0)), (1, .int (nI 1))] := hl
  refine lv_aload_n hx hb dX5_takeTape_0 rfl (lv_at hl 0 rfl) ?_
  refine x_getr CF hK hP 0 (by decide) dX_0 rfl uX5 3 (by decide) (j := 1) rfl wd1_167 rfl dX5_takeTape_1 ?_
  refine lv_iload_n hx hb dX5_takeTape_4 rfl (lv_at hl 1 rfl) ?_
  refine x_callVI CF hK hP hS hA hl (As := [.int (nI 1)]) (rest := []) (c_read_w hI M J hlen hby) kw_X4_read wd1_212 (by decide) dX_1 rfl rfl ⟨Nat.le_of_ble_eq_true rfl, Nat.le_of_ble_eq_true rfl⟩ ⟨Nat.le_refl _, Nat.le_refl _⟩ (Nat.le_of_ble_eq_true rfl) dX5_takeTape_5 (fun H locs hP hS => ?_)
  refine lv_istore_n (lv' := [(2, .int (nI (flt (rdF (M 2) okw (M 1 2) 0 0 (M 1 2))))), (0, .ref (ad 0)), (1, .int (nI 1))]) hx hb dX5_takeTape_8 rfl hl (by decide) rfl (fun ls hl => ?_)
  refine lv_aload_n hx hb dX5_takeTape_9 rfl (lv_at hl 1 rfl) ?_
  refine x_getr CF hK hP 0 (by decide) dX_0 rfl uX5 3 (by decide) (j := 1) rfl wd1_167 rfl dX5_takeTape_10 ?_
  refine x_callVV CF hK hP hS hA hl (As := []) (rest := []) (c_clear hI (rowN M 3 12 (rdS (M 2) okw (fun b => b) 0 0 (M 1 2) (M 3))) J) kw_X4_clear wd1_223 (by decide) dX_1 rfl rfl ⟨Nat.le_of_ble_eq_true rfl, Nat.le_of_ble_eq_true rfl⟩ ⟨Nat.le_refl _, Nat.le_refl _⟩ (Nat.le_of_ble_eq_true rfl) dX5_takeTape_13 (fun H locs hP hS => ?_)
  refine lv_iload_n hx hb dX5_takeTape_16 rfl (lv_at hl 0 rfl) ?_
  exact x_reti hx hb hr9 hlk9 hS hP (by first | rfl | (show nI (flt (rdF (M 2) okw (M 1 2) 0 0 (M 1 2))) = nI (flt (rdF (M 2) okw (M 1 2) 0 0 (M 1 2))); first | rfl | omega)) dX5_takeTape_17
