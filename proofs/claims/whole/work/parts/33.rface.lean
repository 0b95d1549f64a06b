set_option maxHeartbeats 4000000 in
set_option maxRecDepth 100000 in
theorem r_isSign_d_t {l : Launch} {g : gE} (b : Nat) (h : 48 ≤ b ∧ b ≤ 57) : CP l g yX6_isSign cX6_isSign 2 (some .boolean) 1 [.int (nI b), .int (nI 1)] (nI 1) := by
  refine CP.of (plainFor_of_name (by decide)) (Nat.le_of_ble_eq_true rfl) (fun p9 e9 s9 m9 args9 below9 meth9 c9 CF hK hr9 hlk9 hS ls hl => ?_)
  have hx := CF.1
  have hb := CF.2.1
  have hl : lv_has ls 2 [(0, .int (nI b)), (1, .int (nI 1))] := hl
  refine lv_iload_n hx hb dX6_isSign_0 rfl (lv_at hl 1 rfl) ?_
  refine x_yeq (u := (1 : Int)) (tgt := 18) hx hb (rfl) dX6_isSign_1 (by decide) (fun h_1 => (by omega : False).elim) (fun h_1 => ?_)
  refine lv_iload_n hx hb dX6_isSign_4 rfl (lv_at hl 0 rfl) ?_
  refine lv_i2l hx hb dX6_isSign_5 (nI_l (by omega)) ?_
  refine lv_ldc2 hx hb CF.2.2.2.1 (CF.2.2.2.2 _ (List.mem_cons_of_mem _ wd3_164)) dX6_isSign_6 ?_
  refine lv_ldc2 hx hb CF.2.2.2.1 (CF.2.2.2.2 _ (List.mem_cons_of_mem _ wd3_165)) dX6_isSign_9 ?_
  refine x_callPP CF hK hS hl (As := [.long (lN b), .long (48 : Int64), .long (57 : Int64)]) (rest := []) (r_in_t _ _ _ (il_in (lo := 48) (hi := 57) (by omega) (by omega) (by omega))) kw_X6_in wd3_147 rfl ⟨Nat.le_of_ble_eq_true rfl, Nat.le_of_ble_eq_true rfl⟩ ⟨Nat.le_refl _, Nat.le_refl _⟩ (Nat.le_of_ble_eq_true rfl) dX6_isSign_12 (fun H locs hS => ?_)
  refine lv_goto (tgt := 41) hx hb dX6_isSign_15 (by decide) ?_
  exact x_retpz hx hb hr9 hlk9 hS (by first | rfl | (show nI 1 = nI 1; first | rfl | omega)) (rfl) dX6_isSign_41
set_option maxHeartbeats 4000000 in
set_option maxRecDepth 100000 in
theorem r_isSign_d_f {l : Launch} {g : gE} (b : Nat) (h : ¬ (48 ≤ b ∧ b ≤ 57)) (h2 : b < 256) : CP l g yX6_isSign cX6_isSign 2 (some .boolean) 1 [.int (nI b), .int (nI 1)] (nI 0) := by
  refine CP.of (plainFor_of_name (by decide)) (Nat.le_of_ble_eq_true rfl) (fun p9 e9 s9 m9 args9 below9 meth9 c9 CF hK hr9 hlk9 hS ls hl => ?_)
  have hx := CF.1
  have hb := CF.2.1
  have hl : lv_has ls 2 [(0, .int (nI b)), (1, .int (nI 1))] := hl
  refine lv_iload_n hx hb dX6_isSign_0 rfl (lv_at hl 1 rfl) ?_
  refine x_yeq (u := (1 : Int)) (tgt := 18) hx hb (rfl) dX6_isSign_1 (by decide) (fun h_1 => (by omega : False).elim) (fun h_1 => ?_)
  refine lv_iload_n hx hb dX6_isSign_4 rfl (lv_at hl 0 rfl) ?_
  refine lv_i2l hx hb dX6_isSign_5 (nI_l (by omega)) ?_
  refine lv_ldc2 hx hb CF.2.2.2.1 (CF.2.2.2.2 _ (List.mem_cons_of_mem _ wd3_164)) dX6_isSign_6 ?_
  refine lv_ldc2 hx hb CF.2.2.2.1 (CF.2.2.2.2 _ (List.mem_cons_of_mem _ wd3_165)) dX6_isSign_9 ?_
  refine x_callPP CF hK hS hl (As := [.long (lN b), .long (48 : Int64), .long (57 : Int64)]) (rest := []) (r_in_f _ _ _ (il_outn (lo := 48) (hi := 57) (by omega) (by omega) (by omega) (by omega))) kw_X6_in wd3_147 rfl ⟨Nat.le_of_ble_eq_true rfl, Nat.le_of_ble_eq_true rfl⟩ ⟨Nat.le_refl _, Nat.le_refl _⟩ (Nat.le_of_ble_eq_true rfl) dX6_isSign_12 (fun H locs hS => ?_)
  refine lv_goto (tgt := 41) hx hb dX6_isSign_15 (by decide) ?_
  exact x_retpz hx hb hr9 hlk9 hS (by first | rfl | (show nI 0 = nI 0; first | rfl | omega)) (rfl) dX6_isSign_41
set_option maxHeartbeats 4000000 in
set_option maxRecDepth 100000 in
theorem r_isSign_w_t {l : Launch} {g : gE} (b : Nat) (h : b = 46 ∨ b = 100 ∨ b = 117) : CP l g yX6_isSign cX6_isSign 2 (some .boolean) 1 [.int (nI b), .int (nI 0)] (nI 1) := by
  refine CP.of (plainFor_of_name (by decide)) (Nat.le_of_ble_eq_true rfl) (fun p9 e9 s9 m9 args9 below9 meth9 c9 CF hK hr9 hlk9 hS ls hl => ?_)
  have hx := CF.1
  have hb := CF.2.1
  have hl : lv_has ls 2 [(0, .int (nI b)), (1, .int (nI 0))] := hl
  refine lv_iload_n hx hb dX6_isSign_0 rfl (lv_at hl 1 rfl) ?_
  refine x_yeq (u := (0 : Int)) (tgt := 18) hx hb (rfl) dX6_isSign_1 (by decide) (fun h_1 => ?_) (fun h_1 => (by omega : False).elim)
  refine lv_iload_n hx hb dX6_isSign_18 rfl (lv_at hl 0 rfl) ?_
  refine lv_bipush (v := nI 117) hx hb dX6_isSign_19 (by decide) ?_
  refine x_zeq (u := (b : Nat)) (v := (117 : Int)) (tgt := 36) hx hb (nI_toInt (by omega)) (rfl) dX6_isSign_21 (by decide) (fun h_2 => ?_) (fun h_2 => ?_)
  · refine lv_iconst (v := nI 1) hx hb dX6_isSign_36 (by decide) ?_
    refine lv_goto (tgt := 41) hx hb dX6_isSign_37 (by decide) ?_
    exact x_retpz hx hb hr9 hlk9 hS (by first | rfl | (show nI 1 = nI 1; first | rfl | omega)) (rfl) dX6_isSign_41
  · refine lv_iload_n hx hb dX6_isSign_24 rfl (lv_at hl 0 rfl) ?_
    refine lv_bipush (v := nI 100) hx hb dX6_isSign_25 (by decide) ?_
    refine x_zeq (u := (b : Nat)) (v := (100 : Int)) (tgt := 36) hx hb (nI_toInt (by omega)) (rfl) dX6_isSign_27 (by decide) (fun h_3 => ?_) (fun h_3 => ?_)
    · refine lv_iconst (v := nI 1) hx hb dX6_isSign_36 (by decide) ?_
      refine lv_goto (tgt := 41) hx hb dX6_isSign_37 (by decide) ?_
      exact x_retpz hx hb hr9 hlk9 hS (by first | rfl | (show nI 1 = nI 1; first | rfl | omega)) (rfl) dX6_isSign_41
    · refine lv_iload_n hx hb dX6_isSign_30 rfl (lv_at hl 0 rfl) ?_
      refine lv_bipush (v := nI 46) hx hb dX6_isSign_31 (by decide) ?_
      refine x_zne (u := (b : Nat)) (v := (46 : Int)) (tgt := 40) hx hb (nI_toInt (by omega)) (rfl) dX6_isSign_33 (by decide) (fun h_4 => ?_) (fun h_4 => ?_)
      · exact (by omega : False).elim
      · refine lv_iconst (v := nI 1) hx hb dX6_isSign_36 (by decide) ?_
        refine lv_goto (tgt := 41) hx hb dX6_isSign_37 (by decide) ?_
        exact x_retpz hx hb hr9 hlk9 hS (by first | rfl | (show nI 1 = nI 1; first | rfl | omega)) (rfl) dX6_isSign_41
set_option maxHeartbeats 4000000 in
set_option maxRecDepth 100000 in
theorem r_isSign_w_f {l : Launch} {g : gE} (b : Nat) (h : ¬ (b = 46 ∨ b = 100 ∨ b = 117)) (h2 : b < 256) : CP l g yX6_isSign cX6_isSign 2 (some .boolean) 1 [.int (nI b), .int (nI 0)] (nI 0) := by
  refine CP.of (plainFor_of_name (by decide)) (Nat.le_of_ble_eq_true rfl) (fun p9 e9 s9 m9 args9 below9 meth9 c9 CF hK hr9 hlk9 hS ls hl => ?_)
  have hx := CF.1
  have hb := CF.2.1
  have hl : lv_has ls 2 [(0, .int (nI b)), (1, .int (nI 0))] := hl
  refine lv_iload_n hx hb dX6_isSign_0 rfl (lv_at hl 1 rfl) ?_
  refine x_yeq (u := (0 : Int)) (tgt := 18) hx hb (rfl) dX6_isSign_1 (by decide) (fun h_1 => ?_) (fun h_1 => (by omega : False).elim)
  refine lv_iload_n hx hb dX6_isSign_18 rfl (lv_at hl 0 rfl) ?_
  refine lv_bipush (v := nI 117) hx hb dX6_isSign_19 (by decide) ?_
  refine x_zeq (u := (b : Nat)) (v := (117 : Int)) (tgt := 36) hx hb (nI_toInt (by omega)) (rfl) dX6_isSign_21 (by decide) (fun h_2 => ?_) (fun h_2 => ?_)
  · exact (by omega : False).elim
  · refine lv_iload_n hx hb dX6_isSign_24 rfl (lv_at hl 0 rfl) ?_
    refine lv_bipush (v := nI 100) hx hb dX6_isSign_25 (by decide) ?_
    refine x_zeq (u := (b : Nat)) (v := (100 : Int)) (tgt := 36) hx hb (nI_toInt (by omega)) (rfl) dX6_isSign_27 (by decide) (fun h_3 => ?_) (fun h_3 => ?_)
    · exact (by omega : False).elim
    · refine lv_iload_n hx hb dX6_isSign_30 rfl (lv_at hl 0 rfl) ?_
      refine lv_bipush (v := nI 46) hx hb dX6_isSign_31 (by decide) ?_
      refine x_zne (u := (b : Nat)) (v := (46 : Int)) (tgt := 40) hx hb (nI_toInt (by omega)) (rfl) dX6_isSign_33 (by decide) (fun h_4 => ?_) (fun h_4 => ?_)
      · refine lv_iconst (v := nI 0) hx hb dX6_isSign_40 (by decide) ?_
        exact x_retpz hx hb hr9 hlk9 hS (by first | rfl | (show nI 0 = nI 0; first | rfl | omega)) (rfl) dX6_isSign_41
      · exact (by omega : False).elim
set_option maxHeartbeats 4000000 in
set_option maxRecDepth 100000 in
theorem r_takeSigns_d {l : Launch} {g : gE} {ad : Nat → Nat} (hI : g_inj ad 14) (M : gMem) (J : gMeL) (hlen : M 0 3 ≤ 40) (hby : ∀ q, q < 40 → M 2 q < 256) : CI l g ad dsR 14 yX6_takeSigns cX6_takeSigns 5 (some .int) 2 [.ref (ad 0), .int (nI 1)] M J (nI (flr (rdF (M 2) okd (M 0 3) 0 0 (M 0 3)))) (rowN (u2 M 0 3 0) 3 12 (rdS (M 2) okd (fun b => b) 0 0 (M 0 3) (M 3))) J := by
  refine CI.of (plainFor_of_name (by decide)) (Nat.le_of_ble_eq_true rfl) (fun p9 e9 s9 m9 args9 below9 meth9 c9 CF hK hr9 hlk9 hP hS ls hl => ?_)
  have hx := CF.1
  have hb := CF.2.1
  have hA : ∀ q, g_A ad 14 q → g_A ad 14 q := fun _ h => h
  have hl : lv_has ls 5 [(0, .ref (ad 0)), (1, .int (nI 1))] := hl
  refine lv_aload_n hx hb dX6_takeSigns_0 rfl (lv_at hl 0 rfl) ?_
  refine x_geti CF hK hP 0 (by decide) dR_0 rfl uX6 3 (by decide) rfl wd3_99 rfl dX6_takeSigns_1 ?_
  refine lv_istore_n (lv' := [(2, .int (nI (M 0 3))), (0, .ref (ad 0)), (1, .int (nI 1))]) hx hb dX6_takeSigns_4 rfl hl (by decide) rfl (fun ls hl => ?_)
  refine lv_aload_n hx hb dX6_takeSigns_5 rfl (lv_at hl 1 rfl) ?_
  refine lv_iconst (v := nI 0) hx hb dX6_takeSigns_6 (by decide) ?_
  refine x_puti CF hK hI hA hP hS 0 (by decide) dR_0 rfl uX6 tyX6 tyX6_ok nmX6 3 (by decide) rfl wd3_99 rfl rfl 0 (ty := .int) rfl rfl rfl dX6_takeSigns_7 (fun H locs hP hS => ?_)
  refine lv_iconst (v := nI 0) hx hb dX6_takeSigns_10 (by decide) ?_
  refine lv_istore_n (lv' := [(3, .int (nI 0)), (2, .int (nI (M 0 3))), (0, .ref (ad 0)), (1, .int (nI 1))]) hx hb dX6_takeSigns_11 rfl hl (by decide) rfl (fun ls hl => ?_)
  refine lv_iconst (v := nI 0) hx hb dX6_takeSigns_12 (by decide) ?_
  refine lv_istore (lv' := [(4, .int (nI 0)), (3, .int (nI 0)), (2, .int (nI (M 0 3))), (0, .ref (ad 0)), (1, .int (nI 1))]) hx hb dX6_takeSigns_13 hl (by decide) rfl (fun ls hl => ?_)
  have L15 : ∀ (d15 : Nat) (place : Nat) (found : Nat) (f : Nat → Nat), (place + d15 = M 0 3) → (found ≤ 12) → (rdF (M 2) okd (M 0 3) place found d15 = rdF (M 2) okd (M 0 3) 0 0 (M 0 3)) → (rdS (M 2) okd (fun b => b) place found d15 f = rdS (M 2) okd (fun b => b) 0 0 (M 0 3) (M 3)) → (∀ (H : Heap) (locs : List Loc) (ls : Array Slot), g_P g ad dsR 14 (rowN (u2 M 0 3 0) 3 12 f) J H → va_S (g_A ad 14) s9.heap H locs → lv_has ls 5 [(4, .int (nI place)), (3, .int (nI found)), (2, .int (nI (M 0 3))), (0, .ref (ad 0)), (1, .int (nI 1))] → W p9 l e9 (g_rm 2) s9 m9 args9 below9 meth9 c9 H locs 0 0 (MQ below9 (va_Qi (fun r' (_ : Unit) => r' = (nI (flr (rdF (M 2) okd (M 0 3) 0 0 (M 0 3))))) (fun _ t => g_P g ad dsR 14 (rowN (u2 M 0 3 0) 3 12 (rdS (M 2) okd (fun b => b) 0 0 (M 0 3) (M 3))) J t.heap) (g_A ad 14)) args9 s9 0 0 (g_A ad 14)) (F0 m9 15 ls [])) := by
    intro d15
    induction d15 with
    | zero =>
      intro place found f hp hf hR hSS H locs ls hP hS hl
      refine lv_iload hx hb dX6_takeSigns_15 (lv_at hl 0 rfl) ?_
      refine lv_iload_n hx hb dX6_takeSigns_17 rfl (lv_at hl 2 rfl) ?_
      refine x_zge (u := (place : Nat)) (v := (M 0 3 : Nat)) (tgt := 78) hx hb (nI_toInt (by omega)) (nI_toInt (by omega)) dX6_takeSigns_18 (by decide) (fun h_1 => ?_) (fun h_1 => (by omega : False).elim)
      refine lv_iload_n hx hb dX6_takeSigns_78 rfl (lv_at hl 1 rfl) ?_
      refine lv_bipush (v := nI 12) hx hb dX6_takeSigns_79 (by decide) ?_
      refine x_zge (u := (found : Nat)) (v := (12 : Int)) (tgt := 88) hx hb (nI_toInt (by omega)) (rfl) dX6_takeSigns_81 (by decide) (fun h_2 => ?_) (fun h_2 => ?_)
      · refine lv_iconst (v := nI 4294967295) hx hb dX6_takeSigns_88 (by decide) ?_
        exact x_reti hx hb hr9 hlk9 hS (by rw [← hSS]; exact hP) (by rw [← hR, rdF, if_neg (by omega)]; rfl) dX6_takeSigns_89
      · refine lv_iload_n hx hb dX6_takeSigns_84 rfl (lv_at hl 2 rfl) ?_
        refine lv_goto (tgt := 89) hx hb dX6_takeSigns_85 (by decide) ?_
        exact x_reti hx hb hr9 hlk9 hS (by rw [← hSS]; exact hP) (by rw [← hR, rdF, if_pos (by omega)]; rfl) dX6_takeSigns_89
    | succ d15 ih15 =>
      intro place found f hp hf hR hSS H locs ls hP hS hl
      have b1 := hby place (by omega)
      rw [rdF] at hR
      rw [rdS] at hSS
      refine lv_iload hx hb dX6_takeSigns_15 (lv_at hl 0 rfl) ?_
      refine lv_iload_n hx hb dX6_takeSigns_17 rfl (lv_at hl 2 rfl) ?_
      refine x_zge (u := (place : Nat)) (v := (M 0 3 : Nat)) (tgt := 78) hx hb (nI_toInt (by omega)) (nI_toInt (by omega)) dX6_takeSigns_18 (by decide) (fun h_3 => (by omega : False).elim) (fun h_3 => ?_)
      refine lv_aload_n hx hb dX6_takeSigns_21 rfl (lv_at hl 3 rfl) ?_
      refine x_getr CF hK hP 0 (by decide) dR_0 rfl uX6 2 (by decide) (j := 2) rfl wd3_98 rfl dX6_takeSigns_22 ?_
      refine lv_iload hx hb dX6_takeSigns_25 (lv_at hl 0 rfl) ?_
      refine x_iald CF hK hP 2 (by decide) dR_2 place (by omega) (by decide) dX6_takeSigns_27 ?_
      refine x_ri (show (nI ((rowN (u2 M 0 3 0) 3 12 f) 2 place)) = nI (M 2 place) from by rw [rowN_out (by decide), u2_row (by decide)]) ?_
      refine lv_bipush (v := nI 32) hx hb dX6_takeSigns_28 (by decide) ?_
      refine x_zeq (u := (M 2 place : Nat)) (v := (32 : Int)) (tgt := 72) hx hb (nI_toInt (by omega)) (rfl) dX6_takeSigns_30 (by decide) (fun h_4 => ?_) (fun h_4 => ?_)
      · refine lv_iinc (v := nI (place + 1)) (lv' := [(4, .int (nI (place + 1))), (3, .int (nI found)), (2, .int (nI (M 0 3))), (0, .ref (ad 0)), (1, .int (nI 1))]) hx hb dX6_takeSigns_72 hl (k := 0) rfl (n_inc place 1) (by decide) rfl (fun ls hl => ?_)
        refine lv_goto (tgt := 15) hx hb dX6_takeSigns_75 (by decide) ?_
        have hl0 : lv_has ls 5 [(4, .int (nI (place + 1))), (3, .int (nI found)), (2, .int (nI (M 0 3))), (0, .ref (ad 0)), (1, .int (nI 1))] := lv_sub hl [0, 1, 2, 3, 4] rfl
        exact ih15 (place + 1) found f (by omega) (hf) (by rw [if_pos (by omega)] at hR; exact hR) (by rw [if_pos (by omega)] at hSS; exact hSS) _ _ _ (hP) hS hl0
      · refine lv_iload_n hx hb dX6_takeSigns_33 rfl (lv_at hl 1 rfl) ?_
        refine lv_bipush (v := nI 12) hx hb dX6_takeSigns_34 (by decide) ?_
        refine x_zeq (u := (found : Nat)) (v := (12 : Int)) (tgt := 53) hx hb (nI_toInt (by omega)) (rfl) dX6_takeSigns_36 (by decide) (fun h_5 => ?_) (fun h_5 => ?_)
        · refine lv_iload hx hb dX6_takeSigns_53 (lv_at hl 0 rfl) ?_
          exact x_reti hx hb hr9 hlk9 hS (by rw [if_neg (by omega), if_neg (fun h => by have := h.2; omega)] at hSS; rw [← hSS]; exact hP) (by rw [if_neg (by omega), if_neg (fun h => by have := h.2; omega)] at hR; rw [← hR]; rfl) dX6_takeSigns_55
        · refine lv_aload_n hx hb dX6_takeSigns_39 rfl (lv_at hl 3 rfl) ?_
          refine x_getr CF hK hP 0 (by decide) dR_0 rfl uX6 2 (by decide) (j := 2) rfl wd3_98 rfl dX6_takeSigns_40 ?_
          refine lv_iload hx hb dX6_takeSigns_43 (lv_at hl 0 rfl) ?_
          refine x_iald CF hK hP 2 (by decide) dR_2 place (by omega) (by decide) dX6_takeSigns_45 ?_
          refine x_ri (show (nI ((rowN (u2 M 0 3 0) 3 12 f) 2 place)) = nI (M 2 place) from by rw [rowN_out (by decide), u2_row (by decide)]) ?_
          refine lv_iload_n hx hb dX6_takeSigns_46 rfl (lv_at hl 4 rfl) ?_
          by_cases o_6 : okd (M 2 place) = true
          · refine x_callSP CF hK hP hS hl (As := [.int (nI (M 2 place)), .int (nI 1)]) (rest := []) (r_isSign_d_t (M 2 place) (of_decide_eq_true o_6)) kw_X6_isSign wd3_161 rfl ⟨Nat.le_of_ble_eq_true rfl, Nat.le_of_ble_eq_true rfl⟩ ⟨Nat.le_refl _, Nat.le_refl _⟩ (Nat.le_of_ble_eq_true rfl) dX6_takeSigns_47 (fun H locs hP hS => ?_)
            refine x_yne (u := (1 : Int)) (tgt := 56) hx hb (rfl) dX6_takeSigns_50 (by decide) (fun h_7 => ?_) (fun h_7 => (by omega : False).elim)
            refine lv_aload_n hx hb dX6_takeSigns_56 rfl (lv_at hl 3 rfl) ?_
            refine x_getr CF hK hP 0 (by decide) dR_0 rfl uX6 4 (by decide) (j := 3) rfl wd3_100 rfl dX6_takeSigns_57 ?_
            refine lv_iload_n hx hb dX6_takeSigns_60 rfl (lv_at hl 1 rfl) ?_
            refine lv_aload_n hx hb dX6_takeSigns_61 rfl (lv_at hl 3 rfl) ?_
            refine x_getr CF hK hP 0 (by decide) dR_0 rfl uX6 2 (by decide) (j := 2) rfl wd3_98 rfl dX6_takeSigns_62 ?_
            refine lv_iload hx hb dX6_takeSigns_65 (lv_at hl 0 rfl) ?_
            refine x_iald CF hK hP 2 (by decide) dR_2 place (by omega) (by decide) dX6_takeSigns_67 ?_
            refine x_ri (show (nI ((rowN (u2 M 0 3 0) 3 12 f) 2 place)) = nI (M 2 place) from by rw [rowN_out (by decide), u2_row (by decide)]) ?_
            refine x_iast CF hK hI hA hP hS 3 (by decide) dR_3 found (by omega) (by decide) (M 2 place) dX6_takeSigns_68 (fun H locs hP hS => ?_)
            refine lv_iinc (v := nI (found + 1)) (lv' := [(3, .int (nI (found + 1))), (4, .int (nI place)), (2, .int (nI (M 0 3))), (0, .ref (ad 0)), (1, .int (nI 1))]) hx hb dX6_takeSigns_69 hl (k := 1) rfl (n_inc found 1) (by decide) rfl (fun ls hl => ?_)
            refine lv_iinc (v := nI (place + 1)) (lv' := [(4, .int (nI (place + 1))), (3, .int (nI (found + 1))), (2, .int (nI (M 0 3))), (0, .ref (ad 0)), (1, .int (nI 1))]) hx hb dX6_takeSigns_72 hl (k := 1) rfl (n_inc place 1) (by decide) rfl (fun ls hl => ?_)
            refine lv_goto (tgt := 15) hx hb dX6_takeSigns_75 (by decide) ?_
            have hl0 : lv_has ls 5 [(4, .int (nI (place + 1))), (3, .int (nI (found + 1))), (2, .int (nI (M 0 3))), (0, .ref (ad 0)), (1, .int (nI 1))] := lv_sub hl [0, 1, 2, 3, 4] rfl
            exact ih15 (place + 1) (found + 1) _ (by omega) (by omega) (by rw [if_neg (by omega), if_pos ⟨o_6, by omega⟩] at hR; exact hR) (by rw [if_neg (by omega), if_pos ⟨o_6, by omega⟩] at hSS; exact hSS) _ _ _ (by rw [← rowN_u (by omega)]; exact hP) hS hl0
          · refine x_callSP CF hK hP hS hl (As := [.int (nI (M 2 place)), .int (nI 1)]) (rest := []) (r_isSign_d_f (M 2 place) (fun q9 => o_6 (decide_eq_true q9)) (by omega)) kw_X6_isSign wd3_161 rfl ⟨Nat.le_of_ble_eq_true rfl, Nat.le_of_ble_eq_true rfl⟩ ⟨Nat.le_refl _, Nat.le_refl _⟩ (Nat.le_of_ble_eq_true rfl) dX6_takeSigns_47 (fun H locs hP hS => ?_)
            refine x_yne (u := (0 : Int)) (tgt := 56) hx hb (rfl) dX6_takeSigns_50 (by decide) (fun h_8 => (by omega : False).elim) (fun h_8 => ?_)
            refine lv_iload hx hb dX6_takeSigns_53 (lv_at hl 0 rfl) ?_
            exact x_reti hx hb hr9 hlk9 hS (by rw [if_neg (by omega), if_neg (fun h => o_6 h.1)] at hSS; rw [← hSS]; exact hP) (by rw [if_neg (by omega), if_neg (fun h => o_6 h.1)] at hR; rw [← hR]; rfl) dX6_takeSigns_55
  have hl0 : lv_has ls 5 [(4, .int (nI 0)), (3, .int (nI 0)), (2, .int (nI (M 0 3))), (0, .ref (ad 0)), (1, .int (nI 1))] := lv_sub hl [0, 1, 2, 3, 4] rfl
  exact L15 (M 0 3) 0 0 (M 3) (by omega) (by omega) (rfl) (rfl) _ _ _ (by rw [show M 3 = (u2 M 0 3 0) 3 by rw [u2_row (by decide)], rowN_self]; exact hP) hS hl0
set_option maxHeartbeats 4000000 in
set_option maxRecDepth 100000 in
theorem r_takeSigns_w {l : Launch} {g : gE} {ad : Nat → Nat} (hI : g_inj ad 14) (M : gMem) (J : gMeL) (hlen : M 0 3 ≤ 40) (hby : ∀ q, q < 40 → M 2 q < 256) : CI l g ad dsR 14 yX6_takeSigns cX6_takeSigns 5 (some .int) 2 [.ref (ad 0), .int (nI 0)] M J (nI (flr (rdF (M 2) okw (M 0 3) 0 0 (M 0 3)))) (rowN (u2 M 0 3 0) 3 12 (rdS (M 2) okw (fun b => b) 0 0 (M 0 3) (M 3))) J := by
  refine CI.of (plainFor_of_name (by decide)) (Nat.le_of_ble_eq_true rfl) (fun p9 e9 s9 m9 args9 below9 meth9 c9 CF hK hr9 hlk9 hP hS ls hl => ?_)
  have hx := CF.1
  have hb := CF.2.1
  have hA : ∀ q, g_A ad 14 q → g_A ad 14 q := fun _ h => h
  have hl : lv_has ls 5 [(0, .ref (ad 0)), (1, .int (nI 0))] := hl
  refine lv_aload_n hx hb dX6_takeSigns_0 rfl (lv_at hl 0 rfl) ?_
  refine x_geti CF hK hP 0 (by decide) dR_0 rfl uX6 3 (by decide) rfl wd3_99 rfl dX6_takeSigns_1 ?_
  refine lv_istore_n (lv' := [(2, .int (nI (M 0 3))), (0, .ref (ad 0)), (1, .int (nI 0))]) hx hb dX6_takeSigns_4 rfl hl (by decide) rfl (fun ls hl => ?_)
  refine lv_aload_n hx hb dX6_takeSigns_5 rfl (lv_at hl 1 rfl) ?_
  refine lv_iconst (v := nI 0) hx hb dX6_takeSigns_6 (by decide) ?_
  refine x_puti CF hK hI hA hP hS 0 (by decide) dR_0 rfl uX6 tyX6 tyX6_ok nmX6 3 (by decide) rfl wd3_99 rfl rfl 0 (ty := .int) rfl rfl rfl dX6_takeSigns_7 (fun H locs hP hS => ?_)
  refine lv_iconst (v := nI 0) hx hb dX6_takeSigns_10 (by decide) ?_
  refine lv_istore_n (lv' := [(3, .int (nI 0)), (2, .int (nI (M 0 3))), (0, .ref (ad 0)), (1, .int (nI 0))]) hx hb dX6_takeSigns_11 rfl hl (by decide) rfl (fun ls hl => ?_)
  refine lv_iconst (v := nI 0) hx hb dX6_takeSigns_12 (by decide) ?_
  refine lv_istore (lv' := [(4, .int (nI 0)), (3, .int (nI 0)), (2, .int (nI (M 0 3))), (0, .ref (ad 0)), (1, .int (nI 0))]) hx hb dX6_takeSigns_13 hl (by decide) rfl (fun ls hl => ?_)
  have L15 : ∀ (d15 : Nat) (place : Nat) (found : Nat) (f : Nat → Nat), (place + d15 = M 0 3) → (found ≤ 12) → (rdF (M 2) okw (M 0 3) place found d15 = rdF (M 2) okw (M 0 3) 0 0 (M 0 3)) → (rdS (M 2) okw (fun b => b) place found d15 f = rdS (M 2) okw (fun b => b) 0 0 (M 0 3) (M 3)) → (∀ (H : Heap) (locs : List Loc) (ls : Array Slot), g_P g ad dsR 14 (rowN (u2 M 0 3 0) 3 12 f) J H → va_S (g_A ad 14) s9.heap H locs → lv_has ls 5 [(4, .int (nI place)), (3, .int (nI found)), (2, .int (nI (M 0 3))), (0, .ref (ad 0)), (1, .int (nI 0))] → W p9 l e9 (g_rm 2) s9 m9 args9 below9 meth9 c9 H locs 0 0 (MQ below9 (va_Qi (fun r' (_ : Unit) => r' = (nI (flr (rdF (M 2) okw (M 0 3) 0 0 (M 0 3))))) (fun _ t => g_P g ad dsR 14 (rowN (u2 M 0 3 0) 3 12 (rdS (M 2) okw (fun b => b) 0 0 (M 0 3) (M 3))) J t.heap) (g_A ad 14)) args9 s9 0 0 (g_A ad 14)) (F0 m9 15 ls [])) := by
    intro d15
    induction d15 with
    | zero =>
      intro place found f hp hf hR hSS H locs ls hP hS hl
      refine lv_iload hx hb dX6_takeSigns_15 (lv_at hl 0 rfl) ?_
      refine lv_iload_n hx hb dX6_takeSigns_17 rfl (lv_at hl 2 rfl) ?_
      refine x_zge (u := (place : Nat)) (v := (M 0 3 : Nat)) (tgt := 78) hx hb (nI_toInt (by omega)) (nI_toInt (by omega)) dX6_takeSigns_18 (by decide) (fun h_1 => ?_) (fun h_1 => (by omega : False).elim)
      refine lv_iload_n hx hb dX6_takeSigns_78 rfl (lv_at hl 1 rfl) ?_
      refine lv_bipush (v := nI 12) hx hb dX6_takeSigns_79 (by decide) ?_
      refine x_zge (u := (found : Nat)) (v := (12 : Int)) (tgt := 88) hx hb (nI_toInt (by omega)) (rfl) dX6_takeSigns_81 (by decide) (fun h_2 => ?_) (fun h_2 => ?_)
      · refine lv_iconst (v := nI 4294967295) hx hb dX6_takeSigns_88 (by decide) ?_
        exact x_reti hx hb hr9 hlk9 hS (by rw [← hSS]; exact hP) (by rw [← hR, rdF, if_neg (by omega)]; rfl) dX6_takeSigns_89
      · refine lv_iload_n hx hb dX6_takeSigns_84 rfl (lv_at hl 2 rfl) ?_
        refine lv_goto (tgt := 89) hx hb dX6_takeSigns_85 (by decide) ?_
        exact x_reti hx hb hr9 hlk9 hS (by rw [← hSS]; exact hP) (by rw [← hR, rdF, if_pos (by omega)]; rfl) dX6_takeSigns_89
    | succ d15 ih15 =>
      intro place found f hp hf hR hSS H locs ls hP hS hl
      have b1 := hby place (by omega)
      rw [rdF] at hR
      rw [rdS] at hSS
      refine lv_iload hx hb dX6_takeSigns_15 (lv_at hl 0 rfl) ?_
      refine lv_iload_n hx hb dX6_takeSigns_17 rfl (lv_at hl 2 rfl) ?_
      refine x_zge (u := (place : Nat)) (v := (M 0 3 : Nat)) (tgt := 78) hx hb (nI_toInt (by omega)) (nI_toInt (by omega)) dX6_takeSigns_18 (by decide) (fun h_3 => (by omega : False).elim) (fun h_3 => ?_)
      refine lv_aload_n hx hb dX6_takeSigns_21 rfl (lv_at hl 3 rfl) ?_
      refine x_getr CF hK hP 0 (by decide) dR_0 rfl uX6 2 (by decide) (j := 2) rfl wd3_98 rfl dX6_takeSigns_22 ?_
      refine lv_iload hx hb dX6_takeSigns_25 (lv_at hl 0 rfl) ?_
      refine x_iald CF hK hP 2 (by decide) dR_2 place (by omega) (by decide) dX6_takeSigns_27 ?_
      refine x_ri (show (nI ((rowN (u2 M 0 3 0) 3 12 f) 2 place)) = nI (M 2 place) from by rw [rowN_out (by decide), u2_row (by decide)]) ?_
      refine lv_bipush (v := nI 32) hx hb dX6_takeSigns_28 (by decide) ?_
      refine x_zeq (u := (M 2 place : Nat)) (v := (32 : Int)) (tgt := 72) hx hb (nI_toInt (by omega)) (rfl) dX6_takeSigns_30 (by decide) (fun h_4 => ?_) (fun h_4 => ?_)
      · refine lv_iinc (v := nI (place + 1)) (lv' := [(4, .int (nI (place + 1))), (3, .int (nI found)), (2, .int (nI (M 0 3))), (0, .ref (ad 0)), (1, .int (nI 0))]) hx hb dX6_takeSigns_72 hl (k := 0) rfl (n_inc place 1) (by decide) rfl (fun ls hl => ?_)
        refine lv_goto (tgt := 15) hx hb dX6_takeSigns_75 (by decide) ?_
        have hl0 : lv_has ls 5 [(4, .int (nI (place + 1))), (3, .int (nI found)), (2, .int (nI (M 0 3))), (0, .ref (ad 0)), (1, .int (nI 0))] := lv_sub hl [0, 1, 2, 3, 4] rfl
        exact ih15 (place + 1) found f (by omega) (hf) (by rw [if_pos (by omega)] at hR; exact hR) (by rw [if_pos (by omega)] at hSS; exact hSS) _ _ _ (hP) hS hl0
      · refine lv_iload_n hx hb dX6_takeSigns_33 rfl (lv_at hl 1 rfl) ?_
        refine lv_bipush (v := nI 12) hx hb dX6_takeSigns_34 (by decide) ?_
        refine x_zeq (u := (found : Nat)) (v := (12 : Int)) (tgt := 53) hx hb (nI_toInt (by omega)) (rfl) dX6_takeSigns_36 (by decide) (fun h_5 => ?_) (fun h_5 => ?_)
        · refine lv_iload hx hb dX6_takeSigns_53 (lv_at hl 0 rfl) ?_
          exact x_reti hx hb hr9 hlk9 hS (by rw [if_neg (by omega), if_neg (fun h => by have := h.2; omega)] at hSS; rw [← hSS]; exact hP) (by rw [if_neg (by omega), if_neg (fun h => by have := h.2; omega)] at hR; rw [← hR]; rfl) dX6_takeSigns_55
        · refine lv_aload_n hx hb dX6_takeSigns_39 rfl (lv_at hl 3 rfl) ?_
          refine x_getr CF hK hP 0 (by decide) dR_0 rfl uX6 2 (by decide) (j := 2) rfl wd3_98 rfl dX6_takeSigns_40 ?_
          refine lv_iload hx hb dX6_takeSigns_43 (lv_at hl 0 rfl) ?_
          refine x_iald CF hK hP 2 (by decide) dR_2 place (by omega) (by decide) dX6_takeSigns_45 ?_
          refine x_ri (show (nI ((rowN (u2 M 0 3 0) 3 12 f) 2 place)) = nI (M 2 place) from by rw [rowN_out (by decide), u2_row (by decide)]) ?_
          refine lv_iload_n hx hb dX6_takeSigns_46 rfl (lv_at hl 4 rfl) ?_
          by_cases o_6 : okw (M 2 place) = true
          · refine x_callSP CF hK hP hS hl (As := [.int (nI (M 2 place)), .int (nI 0)]) (rest := []) (r_isSign_w_t (M 2 place) (of_decide_eq_true o_6)) kw_X6_isSign wd3_161 rfl ⟨Nat.le_of_ble_eq_true rfl, Nat.le_of_ble_eq_true rfl⟩ ⟨Nat.le_refl _, Nat.le_refl _⟩ (Nat.le_of_ble_eq_true rfl) dX6_takeSigns_47 (fun H locs hP hS => ?_)
            refine x_yne (u := (1 : Int)) (tgt := 56) hx hb (rfl) dX6_takeSigns_50 (by decide) (fun h_7 => ?_) (fun h_7 => (by omega : False).elim)
            refine lv_aload_n hx hb dX6_takeSigns_56 rfl (lv_at hl 3 rfl) ?_
            refine x_getr CF hK hP 0 (by decide) dR_0 rfl uX6 4 (by decide) (j := 3) rfl wd3_100 rfl dX6_takeSigns_57 ?_
            refine lv_iload_n hx hb dX6_takeSigns_60 rfl (lv_at hl 1 rfl) ?_
            refine lv_aload_n hx hb dX6_takeSigns_61 rfl (lv_at hl 3 rfl) ?_
            refine x_getr CF hK hP 0 (by decide) dR_0 rfl uX6 2 (by decide) (j := 2) rfl wd3_98 rfl dX6_takeSigns_62 ?_
            refine lv_iload hx hb dX6_takeSigns_65 (lv_at hl 0 rfl) ?_
            refine x_iald CF hK hP 2 (by decide) dR_2 place (by omega) (by decide) dX6_takeSigns_67 ?_
            refine x_ri (show (nI ((rowN (u2 M 0 3 0) 3 12 f) 2 place)) = nI (M 2 place) from by rw [rowN_out (by decide), u2_row (by decide)]) ?_
            refine x_iast CF hK hI hA hP hS 3 (by decide) dR_3 found (by omega) (by decide) (M 2 place) dX6_takeSigns_68 (fun H locs hP hS => ?_)
            refine lv_iinc (v := nI (found + 1)) (lv' := [(3, .int (nI (found + 1))), (4, .int (nI place)), (2, .int (nI (M 0 3))), (0, .ref (ad 0)), (1, .int (nI 0))]) hx hb dX6_takeSigns_69 hl (k := 1) rfl (n_inc found 1) (by decide) rfl (fun ls hl => ?_)
            refine lv_iinc (v := nI (place + 1)) (lv' := [(4, .int (nI (place + 1))), (3, .int (nI (found + 1))), (2, .int (nI (M 0 3))), (0, .ref (ad 0)), (1, .int (nI 0))]) hx hb dX6_takeSigns_72 hl (k := 1) rfl (n_inc place 1) (by decide) rfl (fun ls hl => ?_)
            refine lv_goto (tgt := 15) hx hb dX6_takeSigns_75 (by decide) ?_
            have hl0 : lv_has ls 5 [(4, .int (nI (place + 1))), (3, .int (nI (found + 1))), (2, .int (nI (M 0 3))), (0, .ref (ad 0)), (1, .int (nI 0))] := lv_sub hl [0, 1, 2, 3, 4] rfl
            exact ih15 (place + 1) (found + 1) _ (by omega) (by omega) (by rw [if_neg (by omega), if_pos ⟨o_6, by omega⟩] at hR; exact hR) (by rw [if_neg (by omega), if_pos ⟨o_6, by omega⟩] at hSS; exact hSS) _ _ _ (by rw [← rowN_u (by omega)]; exact hP) hS hl0
          · refine x_callSP CF hK hP hS hl (As := [.int (nI (M 2 place)), .int (nI 0)]) (rest := []) (r_isSign_w_f (M 2 place) (fun q9 => o_6 (decide_eq_true q9)) (by omega)) kw_X6_isSign wd3_161 rfl ⟨Nat.le_of_ble_eq_true rfl, Nat.le_of_ble_eq_true rfl⟩ ⟨Nat.le_refl _, Nat.le_refl _⟩ (Nat.le_of_ble_eq_true rfl) dX6_takeSigns_47 (fun H locs hP hS => ?_)
            refine x_yne (u := (0 : Int)) (tgt := 56) hx hb (rfl) dX6_takeSigns_50 (by decide) (fun h_8 => (by omega : False).elim) (fun h_8 => ?_)
            refine lv_iload hx hb dX6_takeSigns_53 (lv_at hl 0 rfl) ?_
            exact x_reti hx hb hr9 hlk9 hS (by rw [if_neg (by omega), if_neg (fun h => o_6 h.1)] at hSS; rw [← hSS]; exact hP) (by rw [if_neg (by omega), if_neg (fun h => o_6 h.1)] at hR; rw [← hR]; rfl) dX6_takeSigns_55
  have hl0 : lv_has ls 5 [(4, .int (nI 0)), (3, .int (nI 0)), (2, .int (nI (M 0 3))), (0, .ref (ad 0)), (1, .int (nI 0))] := lv_sub hl [0, 1, 2, 3, 4] rfl
  exact L15 (M 0 3) 0 0 (M 3) (by omega) (by omega) (rfl) (rfl) _ _ _ (by rw [show M 3 = (u2 M 0 3 0) 3 by rw [u2_row (by decide)], rowN_self]; exact hP) hS hl0
set_option maxHeartbeats 4000000 in
set_option maxRecDepth 100000 in
theorem r_type_ok {l : Launch} {g : gE} {ad : Nat → Nat} (hI : g_inj ad 14) (M : gMem) (J : gMeL) (w : Int64) (n : Nat) (h1 : 1 ≤ n) (h8 : n ≤ 8) (hby9 : ∀ q, q < n → (32 ≤ byt w q ∧ byt w q ≤ 126)) (h : M 0 3 + n ≤ 40) : CI l g ad dsR 14 yX6_type cX6_type 5 (some .int) 1 [.ref (ad 0), .long w, .int (nI n)] M J (nI (M 0 3 + n)) (apR M w n n) J := by
  refine CI.of (plainFor_of_name (by decide)) (Nat.le_of_ble_eq_true rfl) (fun p9 e9 s9 m9 args9 below9 meth9 c9 CF hK hr9 hlk9 hP hS ls hl => ?_)
  have hx := CF.1
  have hb := CF.2.1
  have hA : ∀ q, g_A ad 14 q → g_A ad 14 q := fun _ h => h
  have hl : lv_has ls 5 [(0, .ref (ad 0)), (1, .long w), (3, .int (nI n))] := hl
  refine lv_iload_n hx hb dX6_type_0 rfl (lv_at hl 2 rfl) ?_
  refine lv_i2l hx hb dX6_type_1 (nI_l (by omega)) ?_
  refine lv_lconst (v := (1 : Int64)) hx hb dX6_type_2 rfl ?_
  refine lv_ldc2 hx hb CF.2.2.2.1 (CF.2.2.2.2 _ (List.mem_cons_of_mem _ wd3_146)) dX6_type_3 ?_
  refine x_callSP CF hK hP hS hl (As := [.long (lN n), .long (1 : Int64), .long (8 : Int64)]) (rest := []) (r_in_t _ _ _ (il_in (lo := 1) (hi := 8) (by omega) (by omega) (by omega))) kw_X6_in wd3_147 rfl ⟨Nat.le_of_ble_eq_true rfl, Nat.le_of_ble_eq_true rfl⟩ ⟨Nat.le_refl _, Nat.le_refl _⟩ (Nat.le_of_ble_eq_true rfl) dX6_type_6 (fun H locs hP hS => ?_)
  refine x_yne (u := (1 : Int)) (tgt := 14) hx hb (rfl) dX6_type_9 (by decide) (fun h_1 => ?_) (fun h_1 => (by omega : False).elim)
  refine lv_iconst (v := nI 0) hx hb dX6_type_14 (by decide) ?_
  refine lv_istore (lv' := [(4, .int (nI 0)), (0, .ref (ad 0)), (1, .long w), (3, .int (nI n))]) hx hb dX6_type_15 hl (by decide) rfl (fun ls hl => ?_)
  have L17 : ∀ (d17 : Nat) (k : Nat), (k + d17 = n) → (∀ (H : Heap) (locs : List Loc) (ls : Array Slot), g_P g ad dsR 14 M J H → va_S (g_A ad 14) s9.heap H locs → lv_has ls 5 [(4, .int (nI k)), (0, .ref (ad 0)), (1, .long w), (3, .int (nI n))] → W p9 l e9 (g_rm 1) s9 m9 args9 below9 meth9 c9 H locs 0 0 (MQ below9 (va_Qi (fun r' (_ : Unit) => r' = (nI (M 0 3 + n))) (fun _ t => g_P g ad dsR 14 (apR M w n n) J t.heap) (g_A ad 14)) args9 s9 0 0 (g_A ad 14)) (F0 m9 17 ls [])) := by
    intro d17
    induction d17 with
    | zero =>
      intro k h_k H locs ls hP hS hl
      refine lv_iload hx hb dX6_type_17 (lv_at hl 0 rfl) ?_
      refine lv_iload_n hx hb dX6_type_19 rfl (lv_at hl 3 rfl) ?_
      refine x_zge (u := (k : Nat)) (v := (n : Nat)) (tgt := 54) hx hb (nI_toInt (by omega)) (nI_toInt (by omega)) dX6_type_20 (by decide) (fun h_2 => ?_) (fun h_2 => (by omega : False).elim)
      refine lv_aload_n hx hb dX6_type_54 rfl (lv_at hl 1 rfl) ?_
      refine x_geti CF hK hP 0 (by decide) dR_0 rfl uX6 3 (by decide) rfl wd3_99 rfl dX6_type_55 ?_
      refine lv_iload_n hx hb dX6_type_58 rfl (lv_at hl 3 rfl) ?_
      refine x_iadd hx hb dX6_type_59 ?_
      refine lv_bipush (v := nI 40) hx hb dX6_type_60 (by decide) ?_
      refine x_zle (u := ((M 0 3) + n : Nat)) (v := (40 : Int)) (tgt := 68) hx hb (nI_toInt (by omega)) (rfl) dX6_type_62 (by decide) (fun h_3 => ?_) (fun h_3 => (by omega : False).elim)
      refine lv_iload_n hx hb dX6_type_68 rfl (lv_at hl 3 rfl) ?_
      refine lv_iconst (v := nI 1) hx hb dX6_type_69 (by decide) ?_
      refine x_isub hx hb (by omega) dX6_type_70 ?_
      refine lv_istore (lv' := [(4, .int (nI (n - 1))), (0, .ref (ad 0)), (1, .long w), (3, .int (nI n))]) hx hb dX6_type_71 hl (by decide) rfl (fun ls hl => ?_)
      have L73 : ∀ (d73 : Nat) (j : Nat), (j + d73 = n) → (∀ (H : Heap) (locs : List Loc) (ls : Array Slot), g_P g ad dsR 14 (apR M w n j) J H → va_S (g_A ad 14) s9.heap H locs → lv_has ls 5 [(4, .int (nI n - nI (j + 1))), (0, .ref (ad 0)), (1, .long w), (3, .int (nI n))] → W p9 l e9 (g_rm 1) s9 m9 args9 below9 meth9 c9 H locs 0 0 (MQ below9 (va_Qi (fun r' (_ : Unit) => r' = (nI (M 0 3 + n))) (fun _ t => g_P g ad dsR 14 (apR M w n n) J t.heap) (g_A ad 14)) args9 s9 0 0 (g_A ad 14)) (F0 m9 73 ls [])) := by
        intro d73
        induction d73 with
        | zero =>
          intro j hj H locs ls hP hS hl
          refine lv_iload hx hb dX6_type_73 (lv_at hl 0 rfl) ?_
          refine x_ylt (u := (n : Int) - ((j + 1 : Nat) : Int)) (tgt := 115) hx hb (z_sub (by omega) (by omega)) dX6_type_75 (by decide) (fun h_4 => ?_) (fun h_4 => (by omega : False).elim)
          refine lv_aload_n hx hb dX6_type_115 rfl (lv_at hl 1 rfl) ?_
          refine x_geti CF hK hP 0 (by decide) dR_0 rfl uX6 3 (by decide) rfl wd3_99 rfl dX6_type_116 ?_
          refine x_ri (show (nI ((apR M w n j) 0 3)) = nI (M 0 3 + j) from congrArg nI (apR_len M w n j)) ?_
          exact x_reti hx hb hr9 hlk9 hS (by rw [show apR M w n n = apR M w n j by congr 1; omega]; exact hP) (by congr 1; omega) dX6_type_119
        | succ d73 ih73 =>
          intro j hj H locs ls hP hS hl
          refine lv_iload hx hb dX6_type_73 (lv_at hl 0 rfl) ?_
          refine x_ylt (u := (n : Int) - ((j + 1 : Nat) : Int)) (tgt := 115) hx hb (z_sub (by omega) (by omega)) dX6_type_75 (by decide) (fun h_5 => (by omega : False).elim) (fun h_5 => ?_)
          refine lv_aload_n hx hb dX6_type_78 rfl (lv_at hl 1 rfl) ?_
          refine x_getr CF hK hP 0 (by decide) dR_0 rfl uX6 2 (by decide) (j := 2) rfl wd3_98 rfl dX6_type_79 ?_
          refine lv_aload_n hx hb dX6_type_82 rfl (lv_at hl 1 rfl) ?_
          refine x_geti CF hK hP 0 (by decide) dR_0 rfl uX6 3 (by decide) rfl wd3_99 rfl dX6_type_83 ?_
          refine x_ri (show (nI ((apR M w n j) 0 3)) = nI (M 0 3 + j) from congrArg nI (apR_len M w n j)) ?_
          refine lv_lload_n hx hb dX6_type_86 rfl (lv_at hl 2 rfl) ?_
          refine lv_bipush (v := nI 8) hx hb dX6_type_87 (by decide) ?_
          refine lv_iload hx hb dX6_type_89 (lv_at hl 0 rfl) ?_
          refine x_ri (show (nI n - nI (j + 1)) = nI (n - (j + 1)) from pk_sub (by omega)) ?_
          refine x_imul hx hb dX6_type_91 ?_
          refine lv_lshr hx hb dX6_type_92 rfl ?_
          refine lv_ldc2 hx hb CF.2.2.2.1 (CF.2.2.2.2 _ (List.mem_cons_of_mem _ wd3_150)) dX6_type_93 ?_
          refine lv_land hx hb dX6_type_96 ?_
          refine x_rl (show ((w >>> ((nI (8 * (n - (j + 1)))).toInt64 &&& 63)) &&& (255 : Int64)) = lN (byt w (n - (j + 1))) from n_bytL w (by omega)) ?_
          refine lv_l2i hx hb dX6_type_97 rfl ?_
          refine x_ri (show ((lN (byt w (n - (j + 1)))).toInt32) = nI (byt w (n - (j + 1))) from lN_i _) ?_
          refine x_iast CF hK hI hA hP hS 2 (by decide) dR_2 (M 0 3 + j) (by omega) (by decide) (byt w (n - (j + 1))) dX6_type_98 (fun H locs hP hS => ?_)
          refine lv_aload_n hx hb dX6_type_99 rfl (lv_at hl 1 rfl) ?_
          refine lv_dup hx hb dX6_type_100 rfl ?_
          refine x_geti CF hK hP 0 (by decide) dR_0 rfl uX6 3 (by decide) rfl wd3_99 rfl dX6_type_101 ?_
          refine x_ri (show (nI ((u2 (apR M w n j) 2 (M 0 3 + j) (byt w (n - (j + 1)))) 0 3)) = nI (M 0 3 + j) from congrArg nI (by simp [u2, apR])) ?_
          refine lv_iconst (v := nI 1) hx hb dX6_type_104 (by decide) ?_
          refine x_iadd hx hb dX6_type_105 ?_
          refine x_puti CF hK hI hA hP hS 0 (by decide) dR_0 rfl uX6 tyX6 tyX6_ok nmX6 3 (by decide) rfl wd3_99 rfl rfl ((M 0 3 + j) + 1) (ty := .int) rfl rfl rfl dX6_type_106 (fun H locs hP hS => ?_)
          have hP : g_P g ad dsR 14 (apR M w n (j + 1)) J H := (by rw [← apR_s]; exact hP)
          refine lv_iinc (v := nI n - nI (j + 1 + 1)) (lv' := [(4, .int (nI n - nI (j + 1 + 1))), (0, .ref (ad 0)), (1, .long w), (3, .int (nI n))]) hx hb dX6_type_109 hl (k := 0) rfl (n_dec n (j + 1)) (by decide) rfl (fun ls hl => ?_)
          refine lv_goto (tgt := 73) hx hb dX6_type_112 (by decide) ?_
          have hl0 : lv_has ls 5 [(4, .int (nI n - nI ((j + 1) + 1))), (0, .ref (ad 0)), (1, .long w), (3, .int (nI n))] := by rw [(show nI n - nI ((j + 1) + 1) = nI n - nI (j + 1 + 1) from by first | rfl | (congr 1; omega) | (refine congrArg nI ?_; first | rfl | (exact (setN_t (decide_eq_true (by omega)))) | (exact (setN_f (decide_eq_false (by omega)))) | (rw [Nat.or_zero]; exact (setN_f (decide_eq_false (by omega))))))]; exact lv_sub hl [0, 1, 2, 3] rfl
          exact ih73 (j + 1) (by omega) _ _ _ (hP) hS hl0
      have hl0 : lv_has ls 5 [(4, .int (nI n - nI (0 + 1))), (0, .ref (ad 0)), (1, .long w), (3, .int (nI n))] := by rw [(show nI n - nI (0 + 1) = nI (n - 1) from (pk_sub (by omega)))]; exact lv_sub hl [0, 1, 2, 3] rfl
      exact L73 n 0 (by omega) _ _ _ (by rw [apR_0]; exact hP) hS hl0
    | succ d17 ih17 =>
      intro k h_k H locs ls hP hS hl
      have b1 := hby9 k (by omega)
      have b2 := byt_lt w k
      refine lv_iload hx hb dX6_type_17 (lv_at hl 0 rfl) ?_
      refine lv_iload_n hx hb dX6_type_19 rfl (lv_at hl 3 rfl) ?_
      refine x_zge (u := (k : Nat)) (v := (n : Nat)) (tgt := 54) hx hb (nI_toInt (by omega)) (nI_toInt (by omega)) dX6_type_20 (by decide) (fun h_6 => (by omega : False).elim) (fun h_6 => ?_)
      refine lv_lload_n hx hb dX6_type_23 rfl (lv_at hl 2 rfl) ?_
      refine lv_bipush (v := nI 8) hx hb dX6_type_24 (by decide) ?_
      refine lv_iload hx hb dX6_type_26 (lv_at hl 0 rfl) ?_
      refine x_imul hx hb dX6_type_28 ?_
      refine lv_lshr hx hb dX6_type_29 rfl ?_
      refine lv_ldc2 hx hb CF.2.2.2.1 (CF.2.2.2.2 _ (List.mem_cons_of_mem _ wd3_150)) dX6_type_30 ?_
      refine lv_land hx hb dX6_type_33 ?_
      refine x_rl (show ((w >>> ((nI (8 * k)).toInt64 &&& 63)) &&& (255 : Int64)) = lN (byt w k) from n_bytL w (by omega)) ?_
      refine lv_ldc2 hx hb CF.2.2.2.1 (CF.2.2.2.2 _ (List.mem_cons_of_mem _ wd3_151)) dX6_type_34 ?_
      refine lv_ldc2 hx hb CF.2.2.2.1 (CF.2.2.2.2 _ (List.mem_cons_of_mem _ wd3_152)) dX6_type_37 ?_
      refine x_callSP CF hK hP hS hl (As := [.long (lN (byt w k)), .long (32 : Int64), .long (126 : Int64)]) (rest := []) (r_in_t _ _ _ (il_in (lo := 32) (hi := 126) (by omega) (by omega) (by omega))) kw_X6_in wd3_147 rfl ⟨Nat.le_of_ble_eq_true rfl, Nat.le_of_ble_eq_true rfl⟩ ⟨Nat.le_refl _, Nat.le_refl _⟩ (Nat.le_of_ble_eq_true rfl) dX6_type_40 (fun H locs hP hS => ?_)
      refine x_yne (u := (1 : Int)) (tgt := 48) hx hb (rfl) dX6_type_43 (by decide) (fun h_7 => ?_) (fun h_7 => (by omega : False).elim)
      refine lv_iinc (v := nI (k + 1)) (lv' := [(4, .int (nI (k + 1))), (0, .ref (ad 0)), (1, .long w), (3, .int (nI n))]) hx hb dX6_type_48 hl (k := 0) rfl (n_inc k 1) (by decide) rfl (fun ls hl => ?_)
      refine lv_goto (tgt := 17) hx hb dX6_type_51 (by decide) ?_
      have hl0 : lv_has ls 5 [(4, .int (nI (k + 1))), (0, .ref (ad 0)), (1, .long w), (3, .int (nI n))] := lv_sub hl [0, 1, 2, 3] rfl
      exact ih17 (k + 1) (by omega) _ _ _ (hP) hS hl0
  have hl0 : lv_has ls 5 [(4, .int (nI 0)), (0, .ref (ad 0)), (1, .long w), (3, .int (nI n))] := lv_sub hl [0, 1, 2, 3] rfl
  exact L17 n 0 (by omega) _ _ _ (hP) hS hl0
set_option maxHeartbeats 4000000 in
set_option maxRecDepth 100000 in
theorem r_type_full {l : Launch} {g : gE} {ad : Nat → Nat} (hI : g_inj ad 14) (M : gMem) (J : gMeL) (w : Int64) (n : Nat) (h1 : 1 ≤ n) (h8 : n ≤ 8) (hby9 : ∀ q, q < n → (32 ≤ byt w q ∧ byt w q ≤ 126)) (h : 40 < M 0 3 + n) (h2 : M 0 3 ≤ 40) : CI l g ad dsR 14 yX6_type cX6_type 5 (some .int) 1 [.ref (ad 0), .long w, .int (nI n)] M J (nI 4294967293) M J := by
  refine CI.of (plainFor_of_name (by decide)) (Nat.le_of_ble_eq_true rfl) (fun p9 e9 s9 m9 args9 below9 meth9 c9 CF hK hr9 hlk9 hP hS ls hl => ?_)
  have hx := CF.1
  have hb := CF.2.1
  have hA : ∀ q, g_A ad 14 q → g_A ad 14 q := fun _ h => h
  have hl : lv_has ls 5 [(0, .ref (ad 0)), (1, .long w), (3, .int (nI n))] := hl
  refine lv_iload_n hx hb dX6_type_0 rfl (lv_at hl 2 rfl) ?_
  refine lv_i2l hx hb dX6_type_1 (nI_l (by omega)) ?_
  refine lv_lconst (v := (1 : Int64)) hx hb dX6_type_2 rfl ?_
  refine lv_ldc2 hx hb CF.2.2.2.1 (CF.2.2.2.2 _ (List.mem_cons_of_mem _ wd3_146)) dX6_type_3 ?_
  refine x_callSP CF hK hP hS hl (As := [.long (lN n), .long (1 : Int64), .long (8 : Int64)]) (rest := []) (r_in_t _ _ _ (il_in (lo := 1) (hi := 8) (by omega) (by omega) (by omega))) kw_X6_in wd3_147 rfl ⟨Nat.le_of_ble_eq_true rfl, Nat.le_of_ble_eq_true rfl⟩ ⟨Nat.le_refl _, Nat.le_refl _⟩ (Nat.le_of_ble_eq_true rfl) dX6_type_6 (fun H locs hP hS => ?_)
  refine x_yne (u := (1 : Int)) (tgt := 14) hx hb (rfl) dX6_type_9 (by decide) (fun h_1 => ?_) (fun h_1 => (by omega : False).elim)
  refine lv_iconst (v := nI 0) hx hb dX6_type_14 (by decide) ?_
  refine lv_istore (lv' := [(4, .int (nI 0)), (0, .ref (ad 0)), (1, .long w), (3, .int (nI n))]) hx hb dX6_type_15 hl (by decide) rfl (fun ls hl => ?_)
  have L17 : ∀ (d17 : Nat) (k : Nat), (k + d17 = n) → (∀ (H : Heap) (locs : List Loc) (ls : Array Slot), g_P g ad dsR 14 M J H → va_S (g_A ad 14) s9.heap H locs → lv_has ls 5 [(4, .int (nI k)), (0, .ref (ad 0)), (1, .long w), (3, .int (nI n))] → W p9 l e9 (g_rm 1) s9 m9 args9 below9 meth9 c9 H locs 0 0 (MQ below9 (va_Qi (fun r' (_ : Unit) => r' = (nI 4294967293)) (fun _ t => g_P g ad dsR 14 M J t.heap) (g_A ad 14)) args9 s9 0 0 (g_A ad 14)) (F0 m9 17 ls [])) := by
    intro d17
    induction d17 with
    | zero =>
      intro k h_k H locs ls hP hS hl
      refine lv_iload hx hb dX6_type_17 (lv_at hl 0 rfl) ?_
      refine lv_iload_n hx hb dX6_type_19 rfl (lv_at hl 3 rfl) ?_
      refine x_zge (u := (k : Nat)) (v := (n : Nat)) (tgt := 54) hx hb (nI_toInt (by omega)) (nI_toInt (by omega)) dX6_type_20 (by decide) (fun h_2 => ?_) (fun h_2 => (by omega : False).elim)
      refine lv_aload_n hx hb dX6_type_54 rfl (lv_at hl 1 rfl) ?_
      refine x_geti CF hK hP 0 (by decide) dR_0 rfl uX6 3 (by decide) rfl wd3_99 rfl dX6_type_55 ?_
      refine lv_iload_n hx hb dX6_type_58 rfl (lv_at hl 3 rfl) ?_
      refine x_iadd hx hb dX6_type_59 ?_
      refine lv_bipush (v := nI 40) hx hb dX6_type_60 (by decide) ?_
      refine x_zle (u := ((M 0 3) + n : Nat)) (v := (40 : Int)) (tgt := 68) hx hb (nI_toInt (by omega)) (rfl) dX6_type_62 (by decide) (fun h_3 => (by omega : False).elim) (fun h_3 => ?_)
      refine lv_bipush (v := nI 4294967293) hx hb dX6_type_65 (by decide) ?_
      exact x_reti hx hb hr9 hlk9 hS hP (by first | rfl | (show nI 4294967293 = nI 4294967293; first | rfl | omega)) dX6_type_67
    | succ d17 ih17 =>
      intro k h_k H locs ls hP hS hl
      have b1 := hby9 k (by omega)
      have b2 := byt_lt w k
      refine lv_iload hx hb dX6_type_17 (lv_at hl 0 rfl) ?_
      refine lv_iload_n hx hb dX6_type_19 rfl (lv_at hl 3 rfl) ?_
      refine x_zge (u := (k : Nat)) (v := (n : Nat)) (tgt := 54) hx hb (nI_toInt (by omega)) (nI_toInt (by omega)) dX6_type_20 (by decide) (fun h_4 => (by omega : False).elim) (fun h_4 => ?_)
      refine lv_lload_n hx hb dX6_type_23 rfl (lv_at hl 2 rfl) ?_
      refine lv_bipush (v := nI 8) hx hb dX6_type_24 (by decide) ?_
      refine lv_iload hx hb dX6_type_26 (lv_at hl 0 rfl) ?_
      refine x_imul hx hb dX6_type_28 ?_
      refine lv_lshr hx hb dX6_type_29 rfl ?_
      refine lv_ldc2 hx hb CF.2.2.2.1 (CF.2.2.2.2 _ (List.mem_cons_of_mem _ wd3_150)) dX6_type_30 ?_
      refine lv_land hx hb dX6_type_33 ?_
      refine x_rl (show ((w >>> ((nI (8 * k)).toInt64 &&& 63)) &&& (255 : Int64)) = lN (byt w k) from n_bytL w (by omega)) ?_
      refine lv_ldc2 hx hb CF.2.2.2.1 (CF.2.2.2.2 _ (List.mem_cons_of_mem _ wd3_151)) dX6_type_34 ?_
      refine lv_ldc2 hx hb CF.2.2.2.1 (CF.2.2.2.2 _ (List.mem_cons_of_mem _ wd3_152)) dX6_type_37 ?_
      refine x_callSP CF hK hP hS hl (As := [.long (lN (byt w k)), .long (32 : Int64), .long (126 : Int64)]) (rest := []) (r_in_t _ _ _ (il_in (lo := 32) (hi := 126) (by omega) (by omega) (by omega))) kw_X6_in wd3_147 rfl ⟨Nat.le_of_ble_eq_true rfl, Nat.le_of_ble_eq_true rfl⟩ ⟨Nat.le_refl _, Nat.le_refl _⟩ (Nat.le_of_ble_eq_true rfl) dX6_type_40 (fun H locs hP hS => ?_)
      refine x_yne (u := (1 : Int)) (tgt := 48) hx hb (rfl) dX6_type_43 (by decide) (fun h_5 => ?_) (fun h_5 => (by omega : False).elim)
      refine lv_iinc (v := nI (k + 1)) (lv' := [(4, .int (nI (k + 1))), (0, .ref (ad 0)), (1, .long w), (3, .int (nI n))]) hx hb dX6_type_48 hl (k := 0) rfl (n_inc k 1) (by decide) rfl (fun ls hl => ?_)
      refine lv_goto (tgt := 17) hx hb dX6_type_51 (by decide) ?_
      have hl0 : lv_has ls 5 [(4, .int (nI (k + 1))), (0, .ref (ad 0)), (1, .long w), (3, .int (nI n))] := lv_sub hl [0, 1, 2, 3] rfl
      exact ih17 (k + 1) (by omega) _ _ _ (hP) hS hl0
  have hl0 : lv_has ls 5 [(4, .int (nI 0)), (0, .ref (ad 0)), (1, .long w), (3, .int (nI n))] := lv_sub hl [0, 1, 2, 3] rfl
  exact L17 n 0 (by omega) _ _ _ (hP) hS hl0
set_option maxHeartbeats 4000000 in
set_option maxRecDepth 100000 in
theorem r_type_byte {l : Launch} {g : gE} {ad : Nat → Nat} (hI : g_inj ad 14) (M : gMem) (J : gMeL) (w : Int64) (n : Nat) (h1 : 1 ≤ n) (h8 : n ≤ 8) (h : ∃ q, q < n ∧ ¬ (32 ≤ byt w q ∧ byt w q ≤ 126)) : CI l g ad dsR 14 yX6_type cX6_type 5 (some .int) 1 [.ref (ad 0), .long w, .int (nI n)] M J (nI 4294967295) M J := by
  refine CI.of (plainFor_of_name (by decide)) (Nat.le_of_ble_eq_true rfl) (fun p9 e9 s9 m9 args9 below9 meth9 c9 CF hK hr9 hlk9 hP hS ls hl => ?_)
  have hx := CF.1
  have hb := CF.2.1
  have hA : ∀ q, g_A ad 14 q → g_A ad 14 q := fun _ h => h
  have hl : lv_has ls 5 [(0, .ref (ad 0)), (1, .long w), (3, .int (nI n))] := hl
  refine lv_iload_n hx hb dX6_type_0 rfl (lv_at hl 2 rfl) ?_
  refine lv_i2l hx hb dX6_type_1 (nI_l (by omega)) ?_
  refine lv_lconst (v := (1 : Int64)) hx hb dX6_type_2 rfl ?_
  refine lv_ldc2 hx hb CF.2.2.2.1 (CF.2.2.2.2 _ (List.mem_cons_of_mem _ wd3_146)) dX6_type_3 ?_
  refine x_callSP CF hK hP hS hl (As := [.long (lN n), .long (1 : Int64), .long (8 : Int64)]) (rest := []) (r_in_t _ _ _ (il_in (lo := 1) (hi := 8) (by omega) (by omega) (by omega))) kw_X6_in wd3_147 rfl ⟨Nat.le_of_ble_eq_true rfl, Nat.le_of_ble_eq_true rfl⟩ ⟨Nat.le_refl _, Nat.le_refl _⟩ (Nat.le_of_ble_eq_true rfl) dX6_type_6 (fun H locs hP hS => ?_)
  refine x_yne (u := (1 : Int)) (tgt := 14) hx hb (rfl) dX6_type_9 (by decide) (fun h_1 => ?_) (fun h_1 => (by omega : False).elim)
  refine lv_iconst (v := nI 0) hx hb dX6_type_14 (by decide) ?_
  refine lv_istore (lv' := [(4, .int (nI 0)), (0, .ref (ad 0)), (1, .long w), (3, .int (nI n))]) hx hb dX6_type_15 hl (by decide) rfl (fun ls hl => ?_)
  have L17 : ∀ (d17 : Nat) (k : Nat), (k + d17 = n) → (∃ q, k ≤ q ∧ q < n ∧ ¬ (32 ≤ byt w q ∧ byt w q ≤ 126)) → (∀ (H : Heap) (locs : List Loc) (ls : Array Slot), g_P g ad dsR 14 M J H → va_S (g_A ad 14) s9.heap H locs → lv_has ls 5 [(4, .int (nI k)), (0, .ref (ad 0)), (1, .long w), (3, .int (nI n))] → W p9 l e9 (g_rm 1) s9 m9 args9 below9 meth9 c9 H locs 0 0 (MQ below9 (va_Qi (fun r' (_ : Unit) => r' = (nI 4294967295)) (fun _ t => g_P g ad dsR 14 M J t.heap) (g_A ad 14)) args9 s9 0 0 (g_A ad 14)) (F0 m9 17 ls [])) := by
    intro d17
    induction d17 with
    | zero =>
      intro k hk hq H locs ls hP hS hl
      obtain ⟨q, h1, h2, -⟩ := hq; exact absurd h1 (by omega)
    | succ d17 ih17 =>
      intro k hk hq H locs ls hP hS hl
      have b2 := byt_lt w k
      refine lv_iload hx hb dX6_type_17 (lv_at hl 0 rfl) ?_
      refine lv_iload_n hx hb dX6_type_19 rfl (lv_at hl 3 rfl) ?_
      refine x_zge (u := (k : Nat)) (v := (n : Nat)) (tgt := 54) hx hb (nI_toInt (by omega)) (nI_toInt (by omega)) dX6_type_20 (by decide) (fun h_2 => (by omega : False).elim) (fun h_2 => ?_)
      refine lv_lload_n hx hb dX6_type_23 rfl (lv_at hl 2 rfl) ?_
      refine lv_bipush (v := nI 8) hx hb dX6_type_24 (by decide) ?_
      refine lv_iload hx hb dX6_type_26 (lv_at hl 0 rfl) ?_
      refine x_imul hx hb dX6_type_28 ?_
      refine lv_lshr hx hb dX6_type_29 rfl ?_
      refine lv_ldc2 hx hb CF.2.2.2.1 (CF.2.2.2.2 _ (List.mem_cons_of_mem _ wd3_150)) dX6_type_30 ?_
      refine lv_land hx hb dX6_type_33 ?_
      refine x_rl (show ((w >>> ((nI (8 * k)).toInt64 &&& 63)) &&& (255 : Int64)) = lN (byt w k) from n_bytL w (by omega)) ?_
      refine lv_ldc2 hx hb CF.2.2.2.1 (CF.2.2.2.2 _ (List.mem_cons_of_mem _ wd3_151)) dX6_type_34 ?_
      refine lv_ldc2 hx hb CF.2.2.2.1 (CF.2.2.2.2 _ (List.mem_cons_of_mem _ wd3_152)) dX6_type_37 ?_
      by_cases q_3 : 32 ≤ byt w k ∧ byt w k ≤ 126
      · refine x_callSP CF hK hP hS hl (As := [.long (lN (byt w k)), .long (32 : Int64), .long (126 : Int64)]) (rest := []) (r_in_t _ _ _ (il_in (lo := 32) (hi := 126) (by omega) (by omega) (by omega))) kw_X6_in wd3_147 rfl ⟨Nat.le_of_ble_eq_true rfl, Nat.le_of_ble_eq_true rfl⟩ ⟨Nat.le_refl _, Nat.le_refl _⟩ (Nat.le_of_ble_eq_true rfl) dX6_type_40 (fun H locs hP hS => ?_)
        refine x_yne (u := (1 : Int)) (tgt := 48) hx hb (rfl) dX6_type_43 (by decide) (fun h_4 => ?_) (fun h_4 => (by omega : False).elim)
        refine lv_iinc (v := nI (k + 1)) (lv' := [(4, .int (nI (k + 1))), (0, .ref (ad 0)), (1, .long w), (3, .int (nI n))]) hx hb dX6_type_48 hl (k := 0) rfl (n_inc k 1) (by decide) rfl (fun ls hl => ?_)
        refine lv_goto (tgt := 17) hx hb dX6_type_51 (by decide) ?_
        have hl0 : lv_has ls 5 [(4, .int (nI (k + 1))), (0, .ref (ad 0)), (1, .long w), (3, .int (nI n))] := lv_sub hl [0, 1, 2, 3] rfl
        exact ih17 (k + 1) (by omega) (by obtain ⟨q, h1, h2, h3⟩ := hq; exact ⟨q, (Nat.lt_or_ge k q).elim (fun h4 => h4) (fun h4 => absurd (by rw [show q = k by omega]; exact q_3) h3), h2, h3⟩) _ _ _ (hP) hS hl0
      · refine x_callSP CF hK hP hS hl (As := [.long (lN (byt w k)), .long (32 : Int64), .long (126 : Int64)]) (rest := []) (r_in_f _ _ _ (il_outn (lo := 32) (hi := 126) (by omega) (by omega) (by omega) (by omega))) kw_X6_in wd3_147 rfl ⟨Nat.le_of_ble_eq_true rfl, Nat.le_of_ble_eq_true rfl⟩ ⟨Nat.le_refl _, Nat.le_refl _⟩ (Nat.le_of_ble_eq_true rfl) dX6_type_40 (fun H locs hP hS => ?_)
        refine x_yne (u := (0 : Int)) (tgt := 48) hx hb (rfl) dX6_type_43 (by decide) (fun h_5 => (by omega : False).elim) (fun h_5 => ?_)
        refine lv_iconst (v := nI 4294967295) hx hb dX6_type_46 (by decide) ?_
        exact x_reti hx hb hr9 hlk9 hS hP (by first | rfl | (show nI 4294967295 = nI 4294967295; first | rfl | omega)) dX6_type_47
  have hl0 : lv_has ls 5 [(4, .int (nI 0)), (0, .ref (ad 0)), (1, .long w), (3, .int (nI n))] := lv_sub hl [0, 1, 2, 3] rfl
  exact L17 n 0 (by omega) (by obtain ⟨q, h1, h2⟩ := h; exact ⟨q, by omega, h1, h2⟩) _ _ _ (hP) hS hl0
set_option maxHeartbeats 4000000 in
set_option maxRecDepth 100000 in
theorem r_type_n {l : Launch} {g : gE} {ad : Nat → Nat} (hI : g_inj ad 14) (M : gMem) (J : gMeL) (w : Int64) (n : Int32) (h : ¬ inR1 n 9) : CI l g ad dsR 14 yX6_type cX6_type 5 (some .int) 1 [.ref (ad 0), .long w, .int n] M J (nI 4294967295) M J := by
  refine CI.of (plainFor_of_name (by decide)) (Nat.le_of_ble_eq_true rfl) (fun p9 e9 s9 m9 args9 below9 meth9 c9 CF hK hr9 hlk9 hP hS ls hl => ?_)
  have hx := CF.1
  have hb := CF.2.1
  have hA : ∀ q, g_A ad 14 q → g_A ad 14 q := fun _ h => h
  have hl : lv_has ls 5 [(0, .ref (ad 0)), (1, .long w), (3, .int n)] := hl
  refine lv_iload_n hx hb dX6_type_0 rfl (lv_at hl 2 rfl) ?_
  rcases n_int1 (x := n) (n := 9) (by omega) with ⟨a, g_a, h_a, rfl⟩ | ho_n
  · refine lv_i2l hx hb dX6_type_1 (nI_l (by omega)) ?_
    refine lv_lconst (v := (1 : Int64)) hx hb dX6_type_2 rfl ?_
    refine lv_ldc2 hx hb CF.2.2.2.1 (CF.2.2.2.2 _ (List.mem_cons_of_mem _ wd3_146)) dX6_type_3 ?_
    refine x_callSP CF hK hP hS hl (As := [.long (lN a), .long (1 : Int64), .long (8 : Int64)]) (rest := []) (r_in_t _ _ _ (il_in (lo := 1) (hi := 8) (by omega) (by omega) (by omega))) kw_X6_in wd3_147 rfl ⟨Nat.le_of_ble_eq_true rfl, Nat.le_of_ble_eq_true rfl⟩ ⟨Nat.le_refl _, Nat.le_refl _⟩ (Nat.le_of_ble_eq_true rfl) dX6_type_6 (fun H locs hP hS => ?_)
    refine x_yne (u := (1 : Int)) (tgt := 14) hx hb (rfl) dX6_type_9 (by decide) (fun h_1 => ?_) (fun h_1 => (by omega : False).elim)
    exact absurd (inR1_n g_a h_a (by decide)) h
  · refine lv_i2l hx hb dX6_type_1 rfl ?_
    refine lv_lconst (v := (1 : Int64)) hx hb dX6_type_2 rfl ?_
    refine lv_ldc2 hx hb CF.2.2.2.1 (CF.2.2.2.2 _ (List.mem_cons_of_mem _ wd3_146)) dX6_type_3 ?_
    refine x_callSP CF hK hP hS hl (As := [.long n.toInt64, .long (1 : Int64), .long (8 : Int64)]) (rest := []) (r_in_f _ _ _ (il_out (lo := 1) (hi := 8) (by omega) (by omega) (by omega))) kw_X6_in wd3_147 rfl ⟨Nat.le_of_ble_eq_true rfl, Nat.le_of_ble_eq_true rfl⟩ ⟨Nat.le_refl _, Nat.le_refl _⟩ (Nat.le_of_ble_eq_true rfl) dX6_type_6 (fun H locs hP hS => ?_)
    refine x_yne (u := (0 : Int)) (tgt := 14) hx hb (rfl) dX6_type_9 (by decide) (fun h_2 => (by omega : False).elim) (fun h_2 => ?_)
    refine lv_iconst (v := nI 4294967295) hx hb dX6_type_12 (by decide) ?_
    exact x_reti hx hb hr9 hlk9 hS hP (by first | rfl | (show nI 4294967295 = nI 4294967295; first | rfl | omega)) dX6_type_13
set_option maxHeartbeats 4000000 in
set_option maxRecDepth 100000 in
theorem r_cam_flt {l : Launch} {g : gE} {ad : Nat → Nat} (hI : g_inj ad 14) (M : gMem) (J : gMeL) (hlen : M 0 3 ≤ 40) (hby : ∀ q, q < 40 → M 2 q < 256) (p : Nat) (hp : (rdF (M 2) okd (M 0 3) 0 0 (M 0 3)) = some p) (hp9 : p ≤ 40) : CI l g ad dsR 14 yX6_cam cX6_cam 4 (some .int) 3 [.ref (ad 0)] M J (nI (4294967276 - p)) (rowN (u2 M 0 3 0) 3 12 (rdS (M 2) okd (fun b => b) 0 0 (M 0 3) (M 3))) J := by
  refine CI.of (plainFor_of_name (by decide)) (Nat.le_of_ble_eq_true rfl) (fun p9 e9 s9 m9 args9 below9 meth9 c9 CF hK hr9 hlk9 hP hS ls hl => ?_)
  have hx := CF.1
  have hb := CF.2.1
  have hA : ∀ q, g_A ad 14 q → g_A ad 14 q := fun _ h => h
  have hl : lv_has ls 4 [(0, .ref (ad 0))] := hl
  refine lv_aload_n hx hb dX6_cam_0 rfl (lv_at hl 0 rfl) ?_
  refine lv_iconst (v := nI 1) hx hb dX6_cam_1 (by decide) ?_
  refine x_callVI CF hK hP hS hA hl (As := [.int (nI 1)]) (rest := []) (r_takeSigns_d hI M J hlen hby) kw_X6_takeSigns wd3_157 (by decide) dR_0 rfl rfl ⟨Nat.le_of_ble_eq_true rfl, Nat.le_of_ble_eq_true rfl⟩ ⟨Nat.le_refl _, Nat.le_refl _⟩ (Nat.le_of_ble_eq_true rfl) dX6_cam_2 (fun H locs hP hS => ?_)
  refine x_ri (show (nI (flr (rdF (M 2) okd (M 0 3) 0 0 (M 0 3)))) = nI p from by rw [hp]; rfl) ?_
  refine lv_istore_n (lv' := [(1, .int (nI p)), (0, .ref (ad 0))]) hx hb dX6_cam_5 rfl hl (by decide) rfl (fun ls hl => ?_)
  refine lv_iload_n hx hb dX6_cam_6 rfl (lv_at hl 0 rfl) ?_
  refine x_ylt (u := (p : Nat)) (tgt := 15) hx hb (nI_toInt (by omega)) dX6_cam_7 (by decide) (fun h_1 => (by omega : False).elim) (fun h_1 => ?_)
  refine lv_bipush (v := nI 4294967276) hx hb dX6_cam_10 (by decide) ?_
  refine lv_iload_n hx hb dX6_cam_12 rfl (lv_at hl 0 rfl) ?_
  refine x_isub hx hb (by omega) dX6_cam_13 ?_
  exact x_reti hx hb hr9 hlk9 hS hP (by first | rfl | (show nI (4294967276 - p) = nI (4294967276 - p); first | rfl | omega)) dX6_cam_14
set_option maxHeartbeats 4000000 in
set_option maxRecDepth 100000 in
theorem r_cam_full {l : Launch} {g : gE} {ad : Nat → Nat} (hI : g_inj ad 14) (M : gMem) (J : gMeL) (hlen : M 0 3 ≤ 40) (hby : ∀ q, q < 40 → M 2 q < 256) (hp : (rdF (M 2) okd (M 0 3) 0 0 (M 0 3)) = none) (h : M 1 0 = 6) : CI l g ad dsR 14 yX6_cam cX6_cam 4 (some .int) 3 [.ref (ad 0)] M J (nI 4294967293) (rowN (u2 M 0 3 0) 3 12 (rdS (M 2) okd (fun b => b) 0 0 (M 0 3) (M 3))) J := by
  refine CI.of (plainFor_of_name (by decide)) (Nat.le_of_ble_eq_true rfl) (fun p9 e9 s9 m9 args9 below9 meth9 c9 CF hK hr9 hlk9 hP hS ls hl => ?_)
  have hx := CF.1
  have hb := CF.2.1
  have hA : ∀ q, g_A ad 14 q → g_A ad 14 q := fun _ h => h
  have hl : lv_has ls 4 [(0, .ref (ad 0))] := hl
  have hE9 : (rowN (u2 M 0 3 0) 3 12 (rdS (M 2) okd (fun b => b) 0 0 (M 0 3) (M 3))) 1 = M 1 := by rw [rowN_out (by decide), u2_row (by decide)]
  refine lv_aload_n hx hb dX6_cam_0 rfl (lv_at hl 0 rfl) ?_
  refine lv_iconst (v := nI 1) hx hb dX6_cam_1 (by decide) ?_
  refine x_callVI CF hK hP hS hA hl (As := [.int (nI 1)]) (rest := []) (r_takeSigns_d hI M J hlen hby) kw_X6_takeSigns wd3_157 (by decide) dR_0 rfl rfl ⟨Nat.le_of_ble_eq_true rfl, Nat.le_of_ble_eq_true rfl⟩ ⟨Nat.le_refl _, Nat.le_refl _⟩ (Nat.le_of_ble_eq_true rfl) dX6_cam_2 (fun H locs hP hS => ?_)
  refine x_ri (show (nI (flr (rdF (M 2) okd (M 0 3) 0 0 (M 0 3)))) = nI 4294967295 from by rw [hp]; rfl) ?_
  refine lv_istore_n (lv' := [(1, .int (nI 4294967295)), (0, .ref (ad 0))]) hx hb dX6_cam_5 rfl hl (by decide) rfl (fun ls hl => ?_)
  refine lv_iload_n hx hb dX6_cam_6 rfl (lv_at hl 0 rfl) ?_
  refine x_ylt (u := (-1 : Int)) (tgt := 15) hx hb (rfl) dX6_cam_7 (by decide) (fun h_1 => ?_) (fun h_1 => (by omega : False).elim)
  refine lv_aload_n hx hb dX6_cam_15 rfl (lv_at hl 1 rfl) ?_
  refine x_getr CF hK hP 0 (by decide) dR_0 rfl uX6 0 (by decide) (j := 1) rfl wd3_96 rfl dX6_cam_16 ?_
  refine lv_iconst (v := nI 0) hx hb dX6_cam_19 (by decide) ?_
  refine x_iald CF hK hP 1 (by decide) dR_1 0 (by omega) (by decide) dX6_cam_20 ?_
  refine x_ri (show (nI ((rowN (u2 M 0 3 0) 3 12 (rdS (M 2) okd (fun b => b) 0 0 (M 0 3) (M 3))) 1 0)) = nI 6 from congrArg nI (by rw [hE9]; exact h)) ?_
  refine lv_istore_n (lv' := [(2, .int (nI 6)), (1, .int (nI 4294967295)), (0, .ref (ad 0))]) hx hb dX6_cam_21 rfl hl (by decide) rfl (fun ls hl => ?_)
  refine lv_iload_n hx hb dX6_cam_22 rfl (lv_at hl 0 rfl) ?_
  refine lv_bipush (v := nI 6) hx hb dX6_cam_23 (by decide) ?_
  refine x_zne (u := (6 : Int)) (v := (6 : Int)) (tgt := 31) hx hb (rfl) (rfl) dX6_cam_25 (by decide) (fun h_2 => (by omega : False).elim) (fun h_2 => ?_)
  refine lv_bipush (v := nI 4294967293) hx hb dX6_cam_28 (by decide) ?_
  exact x_reti hx hb hr9 hlk9 hS hP (by first | rfl | (show nI 4294967293 = nI 4294967293; first | rfl | omega)) dX6_cam_30
set_option maxHeartbeats 4000000 in
set_option maxRecDepth 100000 in
theorem r_cam_ok {l : Launch} {g : gE} {ad : Nat → Nat} (hI : g_inj ad 14) (M : gMem) (J : gMeL) (hlen : M 0 3 ≤ 40) (hby : ∀ q, q < 40 → M 2 q < 256) (hp : (rdF (M 2) okd (M 0 3) 0 0 (M 0 3)) = none) (h : M 1 0 < 6) (hdg : ∀ a, a < 12 → 48 ≤ (rowN (u2 M 0 3 0) 3 12 (rdS (M 2) okd (fun b => b) 0 0 (M 0 3) (M 3))) 3 a ∧ (rowN (u2 M 0 3 0) 3 12 (rdS (M 2) okd (fun b => b) 0 0 (M 0 3) (M 3))) 3 a ≤ 57) : CI l g ad dsR 14 yX6_cam cX6_cam 4 (some .int) 3 [.ref (ad 0)] M J (nI (M 1 0)) (u2 (camR (rowN (u2 M 0 3 0) 3 12 (rdS (M 2) okd (fun b => b) 0 0 (M 0 3) (M 3))) (M 1 0) 12) 1 0 (M 1 0 + 1)) J := by
  refine CI.of (plainFor_of_name (by decide)) (Nat.le_of_ble_eq_true rfl) (fun p9 e9 s9 m9 args9 below9 meth9 c9 CF hK hr9 hlk9 hP hS ls hl => ?_)
  have hx := CF.1
  have hb := CF.2.1
  have hA : ∀ q, g_A ad 14 q → g_A ad 14 q := fun _ h => h
  have hl : lv_has ls 4 [(0, .ref (ad 0))] := hl
  have hE9 : (rowN (u2 M 0 3 0) 3 12 (rdS (M 2) okd (fun b => b) 0 0 (M 0 3) (M 3))) 1 = M 1 := by rw [rowN_out (by decide), u2_row (by decide)]
  refine lv_aload_n hx hb dX6_cam_0 rfl (lv_at hl 0 rfl) ?_
  refine lv_iconst (v := nI 1) hx hb dX6_cam_1 (by decide) ?_
  refine x_callVI CF hK hP hS hA hl (As := [.int (nI 1)]) (rest := []) (r_takeSigns_d hI M J hlen hby) kw_X6_takeSigns wd3_157 (by decide) dR_0 rfl rfl ⟨Nat.le_of_ble_eq_true rfl, Nat.le_of_ble_eq_true rfl⟩ ⟨Nat.le_refl _, Nat.le_refl _⟩ (Nat.le_of_ble_eq_true rfl) dX6_cam_2 (fun H locs hP hS => ?_)
  refine x_ri (show (nI (flr (rdF (M 2) okd (M 0 3) 0 0 (M 0 3)))) = nI 4294967295 from by rw [hp]; rfl) ?_
  refine lv_istore_n (lv' := [(1, .int (nI 4294967295)), (0, .ref (ad 0))]) hx hb dX6_cam_5 rfl hl (by decide) rfl (fun ls hl => ?_)
  refine lv_iload_n hx hb dX6_cam_6 rfl (lv_at hl 0 rfl) ?_
  refine x_ylt (u := (-1 : Int)) (tgt := 15) hx hb (rfl) dX6_cam_7 (by decide) (fun h_1 => ?_) (fun h_1 => (by omega : False).elim)
  refine lv_aload_n hx hb dX6_cam_15 rfl (lv_at hl 1 rfl) ?_
  refine x_getr CF hK hP 0 (by decide) dR_0 rfl uX6 0 (by decide) (j := 1) rfl wd3_96 rfl dX6_cam_16 ?_
  refine lv_iconst (v := nI 0) hx hb dX6_cam_19 (by decide) ?_
  refine x_iald CF hK hP 1 (by decide) dR_1 0 (by omega) (by decide) dX6_cam_20 ?_
  refine x_ri (show (nI ((rowN (u2 M 0 3 0) 3 12 (rdS (M 2) okd (fun b => b) 0 0 (M 0 3) (M 3))) 1 0)) = nI (M 1 0) from by rw [hE9]) ?_
  refine lv_istore_n (lv' := [(2, .int (nI (M 1 0))), (1, .int (nI 4294967295)), (0, .ref (ad 0))]) hx hb dX6_cam_21 rfl hl (by decide) rfl (fun ls hl => ?_)
  refine lv_iload_n hx hb dX6_cam_22 rfl (lv_at hl 0 rfl) ?_
  refine lv_bipush (v := nI 6) hx hb dX6_cam_23 (by decide) ?_
  refine x_zne (u := (M 1 0 : Nat)) (v := (6 : Int)) (tgt := 31) hx hb (nI_toInt (by omega)) (rfl) dX6_cam_25 (by decide) (fun h_2 => ?_) (fun h_2 => (by omega : False).elim)
  refine lv_iconst (v := nI 0) hx hb dX6_cam_31 (by decide) ?_
  refine lv_istore_n (lv' := [(3, .int (nI 0)), (2, .int (nI (M 1 0))), (1, .int (nI 4294967295)), (0, .ref (ad 0))]) hx hb dX6_cam_32 rfl hl (by decide) rfl (fun ls hl => ?_)
  have L33 : ∀ (d33 : Nat) (k : Nat), (k + d33 = 12) → (∀ (H : Heap) (locs : List Loc) (ls : Array Slot), g_P g ad dsR 14 (camR (rowN (u2 M 0 3 0) 3 12 (rdS (M 2) okd (fun b => b) 0 0 (M 0 3) (M 3))) (M 1 0) k) J H → va_S (g_A ad 14) s9.heap H locs → lv_has ls 4 [(3, .int (nI k)), (2, .int (nI (M 1 0))), (1, .int (nI 4294967295)), (0, .ref (ad 0))] → W p9 l e9 (g_rm 3) s9 m9 args9 below9 meth9 c9 H locs 0 0 (MQ below9 (va_Qi (fun r' (_ : Unit) => r' = (nI (M 1 0))) (fun _ t => g_P g ad dsR 14 (u2 (camR (rowN (u2 M 0 3 0) 3 12 (rdS (M 2) okd (fun b => b) 0 0 (M 0 3) (M 3))) (M 1 0) 12) 1 0 (M 1 0 + 1)) J t.heap) (g_A ad 14)) args9 s9 0 0 (g_A ad 14)) (F0 m9 33 ls [])) := by
    intro d33
    induction d33 with
    | zero =>
      intro k h_k H locs ls hP hS hl
      refine lv_iload_n hx hb dX6_cam_33 rfl (lv_at hl 0 rfl) ?_
      refine lv_bipush (v := nI 12) hx hb dX6_cam_34 (by decide) ?_
      refine x_zge (u := (k : Nat)) (v := (12 : Int)) (tgt := 67) hx hb (nI_toInt (by omega)) (rfl) dX6_cam_36 (by decide) (fun h_3 => ?_) (fun h_3 => (by omega : False).elim)
      refine lv_aload_n hx hb dX6_cam_67 rfl (lv_at hl 3 rfl) ?_
      refine x_getr CF hK hP 0 (by decide) dR_0 rfl uX6 0 (by decide) (j := 1) rfl wd3_96 rfl dX6_cam_68 ?_
      refine lv_iconst (v := nI 0) hx hb dX6_cam_71 (by decide) ?_
      refine lv_dup2_11 hx hb dX6_cam_72 rfl rfl ?_
      refine x_iald CF hK hP 1 (by decide) dR_1 0 (by omega) (by decide) dX6_cam_73 ?_
      refine x_ri (show (nI ((camR (rowN (u2 M 0 3 0) 3 12 (rdS (M 2) okd (fun b => b) 0 0 (M 0 3) (M 3))) (M 1 0) k) 1 0)) = nI (M 1 0) from congrArg nI (by rw [camR, rowO_no (by omega), hE9])) ?_
      refine lv_iconst (v := nI 1) hx hb dX6_cam_74 (by decide) ?_
      refine x_iadd hx hb dX6_cam_75 ?_
      refine x_iast CF hK hI hA hP hS 1 (by decide) dR_1 0 (by omega) (by decide) ((M 1 0) + 1) dX6_cam_76 (fun H locs hP hS => ?_)
      refine lv_iload_n hx hb dX6_cam_77 rfl (lv_at hl 1 rfl) ?_
      exact x_reti hx hb hr9 hlk9 hS (by rw [show k = 12 by omega] at hP; exact hP) (by first | rfl | (show nI (M 1 0) = nI (M 1 0); first | rfl | omega)) dX6_cam_78
    | succ d33 ih33 =>
      intro k h_k H locs ls hP hS hl
      have b1 := hdg k (by omega)
      refine lv_iload_n hx hb dX6_cam_33 rfl (lv_at hl 0 rfl) ?_
      refine lv_bipush (v := nI 12) hx hb dX6_cam_34 (by decide) ?_
      refine x_zge (u := (k : Nat)) (v := (12 : Int)) (tgt := 67) hx hb (nI_toInt (by omega)) (rfl) dX6_cam_36 (by decide) (fun h_4 => (by omega : False).elim) (fun h_4 => ?_)
      refine lv_aload_n hx hb dX6_cam_39 rfl (lv_at hl 3 rfl) ?_
      refine x_getr CF hK hP 0 (by decide) dR_0 rfl uX6 0 (by decide) (j := 1) rfl wd3_96 rfl dX6_cam_40 ?_
      refine lv_iconst (v := nI 1) hx hb dX6_cam_43 (by decide) ?_
      refine lv_bipush (v := nI 12) hx hb dX6_cam_44 (by decide) ?_
      refine lv_iload_n hx hb dX6_cam_46 rfl (lv_at hl 1 rfl) ?_
      refine x_imul hx hb dX6_cam_47 ?_
      refine x_iadd hx hb dX6_cam_48 ?_
      refine lv_iload_n hx hb dX6_cam_49 rfl (lv_at hl 0 rfl) ?_
      refine x_iadd hx hb dX6_cam_50 ?_
      refine lv_aload_n hx hb dX6_cam_51 rfl (lv_at hl 3 rfl) ?_
      refine x_getr CF hK hP 0 (by decide) dR_0 rfl uX6 4 (by decide) (j := 3) rfl wd3_100 rfl dX6_cam_52 ?_
      refine lv_iload_n hx hb dX6_cam_55 rfl (lv_at hl 0 rfl) ?_
      refine x_iald CF hK hP 3 (by decide) dR_3 k (by omega) (by decide) dX6_cam_56 ?_
      refine x_ri (show (nI ((camR (rowN (u2 M 0 3 0) 3 12 (rdS (M 2) okd (fun b => b) 0 0 (M 0 3) (M 3))) (M 1 0) k) 3 k)) = nI ((rowN (u2 M 0 3 0) 3 12 (rdS (M 2) okd (fun b => b) 0 0 (M 0 3) (M 3))) 3 k) from congrArg nI (by rw [camR, rowO_out (by decide)])) ?_
      refine lv_bipush (v := nI 48) hx hb dX6_cam_57 (by decide) ?_
      refine x_isub hx hb (by omega) dX6_cam_59 ?_
      refine x_iast CF hK hI hA hP hS 1 (by decide) dR_1 ((1 + (12 * (M 1 0))) + k) (by omega) (by decide) (((rowN (u2 M 0 3 0) 3 12 (rdS (M 2) okd (fun b => b) 0 0 (M 0 3) (M 3))) 3 k) - 48) dX6_cam_60 (fun H locs hP hS => ?_)
      refine lv_iinc (v := nI (k + 1)) (lv' := [(3, .int (nI (k + 1))), (2, .int (nI (M 1 0))), (1, .int (nI 4294967295)), (0, .ref (ad 0))]) hx hb dX6_cam_61 hl (k := 0) rfl (n_inc k 1) (by decide) rfl (fun ls hl => ?_)
      refine lv_goto (tgt := 33) hx hb dX6_cam_64 (by decide) ?_
      have hl0 : lv_has ls 4 [(3, .int (nI (k + 1))), (2, .int (nI (M 1 0))), (1, .int (nI 4294967295)), (0, .ref (ad 0))] := lv_sub hl [0, 1, 2, 3] rfl
      exact ih33 (k + 1) (by omega) _ _ _ (by rw [show camR (rowN (u2 M 0 3 0) 3 12 (rdS (M 2) okd (fun b => b) 0 0 (M 0 3) (M 3))) (M 1 0) (k + 1) = u2 (camR (rowN (u2 M 0 3 0) 3 12 (rdS (M 2) okd (fun b => b) 0 0 (M 0 3) (M 3))) (M 1 0) k) 1 (1 + 12 * M 1 0 + k) ((rowN (u2 M 0 3 0) 3 12 (rdS (M 2) okd (fun b => b) 0 0 (M 0 3) (M 3))) 3 k - 48) from (rowO_s (by omega) rfl).symm]; exact hP) hS hl0
  have hl0 : lv_has ls 4 [(3, .int (nI 0)), (2, .int (nI (M 1 0))), (1, .int (nI 4294967295)), (0, .ref (ad 0))] := lv_sub hl [0, 1, 2, 3] rfl
  exact L33 12 0 (by omega) _ _ _ (by rw [camR, rowO_0]; exact hP) hS hl0
set_option maxHeartbeats 4000000 in
set_option maxRecDepth 100000 in
theorem r_cut_ok {l : Launch} {g : gE} {ad : Nat → Nat} (hI : g_inj ad 14) (M : gMem) (J : gMeL) (hw : wfR M) (c a v : Nat) (hc : c < M 1 0) (ha : a < 12) (hv : v < 10) : CI l g ad dsR 14 yX6_cut cX6_cut 6 (some .int) 3 [.ref (ad 0), .int (nI c), .int (nI a), .int (nI v)] M J (nI (M 1 (1 + 12 * c + a))) (u2 M 1 (1 + 12 * c + a) v) J := by
  refine CI.of (plainFor_of_name (by decide)) (Nat.le_of_ble_eq_true rfl) (fun p9 e9 s9 m9 args9 below9 meth9 c9 CF hK hr9 hlk9 hP hS ls hl => ?_)
  have hx := CF.1
  have hb := CF.2.1
  have hA : ∀ q, g_A ad 14 q → g_A ad 14 q := fun _ h => h
  have hl : lv_has ls 6 [(0, .ref (ad 0)), (1, .int (nI c)), (2, .int (nI a)), (3, .int (nI v))] := hl
  have hnc := hw.nc
  have hnf := hw.nf
  have hwy := hw.way
  refine lv_aload_n hx hb dX6_cut_0 rfl (lv_at hl 0 rfl) ?_
  refine lv_iload_n hx hb dX6_cut_1 rfl (lv_at hl 1 rfl) ?_
  refine x_callVI CF hK hP hS hA hl (As := [.int (nI c)]) (rest := []) (r_isCam_t hI M J c (by omega) (by omega)) kw_X6_isCam wd3_170 (by decide) dR_0 rfl rfl ⟨Nat.le_of_ble_eq_true rfl, Nat.le_of_ble_eq_true rfl⟩ ⟨Nat.le_refl _, Nat.le_refl _⟩ (Nat.le_of_ble_eq_true rfl) dX6_cut_2 (fun H locs hP hS => ?_)
  refine x_yeq (u := (1 : Int)) (tgt := 27) hx hb (rfl) dX6_cut_5 (by decide) (fun h_1 => (by omega : False).elim) (fun h_1 => ?_)
  refine lv_iload_n hx hb dX6_cut_8 rfl (lv_at hl 2 rfl) ?_
  refine x_callSP CF hK hP hS hl (As := [.int (nI a)]) (rest := []) (r_isAngle_t a (by omega)) kw_X6_isAngle wd3_174 rfl ⟨Nat.le_of_ble_eq_true rfl, Nat.le_of_ble_eq_true rfl⟩ ⟨Nat.le_refl _, Nat.le_refl _⟩ (Nat.le_of_ble_eq_true rfl) dX6_cut_9 (fun H locs hP hS => ?_)
  refine x_yeq (u := (1 : Int)) (tgt := 27) hx hb (rfl) dX6_cut_12 (by decide) (fun h_2 => (by omega : False).elim) (fun h_2 => ?_)
  refine lv_iload_n hx hb dX6_cut_15 rfl (lv_at hl 3 rfl) ?_
  refine lv_i2l hx hb dX6_cut_16 (nI_l (by omega)) ?_
  refine lv_lconst (v := (0 : Int64)) hx hb dX6_cut_17 rfl ?_
  refine lv_ldc2 hx hb CF.2.2.2.1 (CF.2.2.2.2 _ (List.mem_cons_of_mem _ wd3_178)) dX6_cut_18 ?_
  refine x_callSP CF hK hP hS hl (As := [.long (lN v), .long (0 : Int64), .long (9 : Int64)]) (rest := []) (r_in_t _ _ _ (il_in (lo := 0) (hi := 9) (by omega) (by omega) (by omega))) kw_X6_in wd3_147 rfl ⟨Nat.le_of_ble_eq_true rfl, Nat.le_of_ble_eq_true rfl⟩ ⟨Nat.le_refl _, Nat.le_refl _⟩ (Nat.le_of_ble_eq_true rfl) dX6_cut_21 (fun H locs hP hS => ?_)
  refine x_yne (u := (1 : Int)) (tgt := 29) hx hb (rfl) dX6_cut_24 (by decide) (fun h_3 => ?_) (fun h_3 => (by omega : False).elim)
  refine lv_iconst (v := nI 1) hx hb dX6_cut_29 (by decide) ?_
  refine lv_bipush (v := nI 12) hx hb dX6_cut_30 (by decide) ?_
  refine lv_iload_n hx hb dX6_cut_32 rfl (lv_at hl 1 rfl) ?_
  refine x_imul hx hb dX6_cut_33 ?_
  refine x_iadd hx hb dX6_cut_34 ?_
  refine lv_iload_n hx hb dX6_cut_35 rfl (lv_at hl 2 rfl) ?_
  refine x_iadd hx hb dX6_cut_36 ?_
  refine lv_istore (lv' := [(4, .int (nI ((1 + (12 * c)) + a))), (0, .ref (ad 0)), (1, .int (nI c)), (2, .int (nI a)), (3, .int (nI v))]) hx hb dX6_cut_37 hl (by decide) rfl (fun ls hl => ?_)
  refine lv_aload_n hx hb dX6_cut_39 rfl (lv_at hl 1 rfl) ?_
  refine x_getr CF hK hP 0 (by decide) dR_0 rfl uX6 0 (by decide) (j := 1) rfl wd3_96 rfl dX6_cut_40 ?_
  refine lv_iload hx hb dX6_cut_43 (lv_at hl 0 rfl) ?_
  refine x_iald CF hK hP 1 (by decide) dR_1 ((1 + (12 * c)) + a) (by omega) (by decide) dX6_cut_45 ?_
  refine lv_istore (lv' := [(5, .int (nI (M 1 ((1 + (12 * c)) + a)))), (4, .int (nI ((1 + (12 * c)) + a))), (0, .ref (ad 0)), (1, .int (nI c)), (2, .int (nI a)), (3, .int (nI v))]) hx hb dX6_cut_46 hl (by decide) rfl (fun ls hl => ?_)
  refine lv_aload_n hx hb dX6_cut_48 rfl (lv_at hl 2 rfl) ?_
  refine x_getr CF hK hP 0 (by decide) dR_0 rfl uX6 0 (by decide) (j := 1) rfl wd3_96 rfl dX6_cut_49 ?_
  refine lv_iload hx hb dX6_cut_52 (lv_at hl 1 rfl) ?_
  refine lv_iload_n hx hb dX6_cut_54 rfl (lv_at hl 5 rfl) ?_
  refine x_iast CF hK hI hA hP hS 1 (by decide) dR_1 ((1 + (12 * c)) + a) (by omega) (by decide) v dX6_cut_55 (fun H locs hP hS => ?_)
  refine lv_iload hx hb dX6_cut_56 (lv_at hl 0 rfl) ?_
  exact x_reti hx hb hr9 hlk9 hS (by exact hP) (by first | rfl | (show nI (M 1 ((1 + (12 * c)) + a)) = nI (M 1 (1 + 12 * c + a)); first | rfl | omega)) dX6_cut_58
set_option maxHeartbeats 4000000 in
set_option maxRecDepth 100000 in
theorem r_cut_bad {l : Launch} {g : gE} {ad : Nat → Nat} (hI : g_inj ad 14) (M : gMem) (J : gMeL) (hw : wfR M) (c a v : Int32) (h : ¬ (inR c (M 1 0) ∧ inR a 12 ∧ inR v 10)) : CI l g ad dsR 14 yX6_cut cX6_cut 6 (some .int) 3 [.ref (ad 0), .int c, .int a, .int v] M J (nI 4294967295) M J := by
  refine CI.of (plainFor_of_name (by decide)) (Nat.le_of_ble_eq_true rfl) (fun p9 e9 s9 m9 args9 below9 meth9 c9 CF hK hr9 hlk9 hP hS ls hl => ?_)
  have hx := CF.1
  have hb := CF.2.1
  have hA : ∀ q, g_A ad 14 q → g_A ad 14 q := fun _ h => h
  have hl : lv_has ls 6 [(0, .ref (ad 0)), (1, .int c), (2, .int a), (3, .int v)] := hl
  have hnc := hw.nc
  have hnf := hw.nf
  have hwy := hw.way
  refine lv_aload_n hx hb dX6_cut_0 rfl (lv_at hl 0 rfl) ?_
  refine lv_iload_n hx hb dX6_cut_1 rfl (lv_at hl 1 rfl) ?_
  rcases n_int (x := c) (n := M 1 0) (by omega) with ⟨c1, h_c1, rfl⟩ | ho_c
  · refine x_callVI CF hK hP hS hA hl (As := [.int (nI c1)]) (rest := []) (r_isCam_t hI M J c1 (by omega) (by omega)) kw_X6_isCam wd3_170 (by decide) dR_0 rfl rfl ⟨Nat.le_of_ble_eq_true rfl, Nat.le_of_ble_eq_true rfl⟩ ⟨Nat.le_refl _, Nat.le_refl _⟩ (Nat.le_of_ble_eq_true rfl) dX6_cut_2 (fun H locs hP hS => ?_)
    refine x_yeq (u := (1 : Int)) (tgt := 27) hx hb (rfl) dX6_cut_5 (by decide) (fun h_1 => (by omega : False).elim) (fun h_1 => ?_)
    refine lv_iload_n hx hb dX6_cut_8 rfl (lv_at hl 2 rfl) ?_
    rcases n_int (x := a) (n := 12) (by omega) with ⟨a1, h_a1, rfl⟩ | ho_a
    · refine x_callSP CF hK hP hS hl (As := [.int (nI a1)]) (rest := []) (r_isAngle_t a1 (by omega)) kw_X6_isAngle wd3_174 rfl ⟨Nat.le_of_ble_eq_true rfl, Nat.le_of_ble_eq_true rfl⟩ ⟨Nat.le_refl _, Nat.le_refl _⟩ (Nat.le_of_ble_eq_true rfl) dX6_cut_9 (fun H locs hP hS => ?_)
      refine x_yeq (u := (1 : Int)) (tgt := 27) hx hb (rfl) dX6_cut_12 (by decide) (fun h_2 => (by omega : False).elim) (fun h_2 => ?_)
      refine lv_iload_n hx hb dX6_cut_15 rfl (lv_at hl 3 rfl) ?_
      rcases n_int (x := v) (n := 10) (by omega) with ⟨v1, h_v1, rfl⟩ | ho_v
      · refine lv_i2l hx hb dX6_cut_16 (nI_l (by omega)) ?_
        refine lv_lconst (v := (0 : Int64)) hx hb dX6_cut_17 rfl ?_
        refine lv_ldc2 hx hb CF.2.2.2.1 (CF.2.2.2.2 _ (List.mem_cons_of_mem _ wd3_178)) dX6_cut_18 ?_
        refine x_callSP CF hK hP hS hl (As := [.long (lN v1), .long (0 : Int64), .long (9 : Int64)]) (rest := []) (r_in_t _ _ _ (il_in (lo := 0) (hi := 9) (by omega) (by omega) (by omega))) kw_X6_in wd3_147 rfl ⟨Nat.le_of_ble_eq_true rfl, Nat.le_of_ble_eq_true rfl⟩ ⟨Nat.le_refl _, Nat.le_refl _⟩ (Nat.le_of_ble_eq_true rfl) dX6_cut_21 (fun H locs hP hS => ?_)
        refine x_yne (u := (1 : Int)) (tgt := 29) hx hb (rfl) dX6_cut_24 (by decide) (fun h_3 => ?_) (fun h_3 => (by omega : False).elim)
        exact absurd ⟨inR_n h_c1 (by omega), inR_n h_a1 (by decide), inR_n h_v1 (by decide)⟩ h
      · refine lv_i2l hx hb dX6_cut_16 rfl ?_
        refine lv_lconst (v := (0 : Int64)) hx hb dX6_cut_17 rfl ?_
        refine lv_ldc2 hx hb CF.2.2.2.1 (CF.2.2.2.2 _ (List.mem_cons_of_mem _ wd3_178)) dX6_cut_18 ?_
        refine x_callSP CF hK hP hS hl (As := [.long v.toInt64, .long (0 : Int64), .long (9 : Int64)]) (rest := []) (r_in_f _ _ _ (il_out (lo := 0) (hi := 9) (by omega) (by omega) (by omega))) kw_X6_in wd3_147 rfl ⟨Nat.le_of_ble_eq_true rfl, Nat.le_of_ble_eq_true rfl⟩ ⟨Nat.le_refl _, Nat.le_refl _⟩ (Nat.le_of_ble_eq_true rfl) dX6_cut_21 (fun H locs hP hS => ?_)
        refine x_yne (u := (0 : Int)) (tgt := 29) hx hb (rfl) dX6_cut_24 (by decide) (fun h_4 => (by omega : False).elim) (fun h_4 => ?_)
        refine lv_iconst (v := nI 4294967295) hx hb dX6_cut_27 (by decide) ?_
        exact x_reti hx hb hr9 hlk9 hS hP (by first | rfl | (show nI 4294967295 = nI 4294967295; first | rfl | omega)) dX6_cut_28
    · refine x_callSP CF hK hP hS hl (As := [.int a]) (rest := []) (r_isAngle_f a ho_a) kw_X6_isAngle wd3_174 rfl ⟨Nat.le_of_ble_eq_true rfl, Nat.le_of_ble_eq_true rfl⟩ ⟨Nat.le_refl _, Nat.le_refl _⟩ (Nat.le_of_ble_eq_true rfl) dX6_cut_9 (fun H locs hP hS => ?_)
      refine x_yeq (u := (0 : Int)) (tgt := 27) hx hb (rfl) dX6_cut_12 (by decide) (fun h_5 => ?_) (fun h_5 => (by omega : False).elim)
      refine lv_iconst (v := nI 4294967295) hx hb dX6_cut_27 (by decide) ?_
      exact x_reti hx hb hr9 hlk9 hS hP (by first | rfl | (show nI 4294967295 = nI 4294967295; first | rfl | omega)) dX6_cut_28
  · refine x_callVI CF hK hP hS hA hl (As := [.int c]) (rest := []) (r_isCam_f hI M J c ho_c (by omega)) kw_X6_isCam wd3_170 (by decide) dR_0 rfl rfl ⟨Nat.le_of_ble_eq_true rfl, Nat.le_of_ble_eq_true rfl⟩ ⟨Nat.le_refl _, Nat.le_refl _⟩ (Nat.le_of_ble_eq_true rfl) dX6_cut_2 (fun H locs hP hS => ?_)
    refine x_yeq (u := (0 : Int)) (tgt := 27) hx hb (rfl) dX6_cut_5 (by decide) (fun h_6 => ?_) (fun h_6 => (by omega : False).elim)
    refine lv_iconst (v := nI 4294967295) hx hb dX6_cut_27 (by decide) ?_
    exact x_reti hx hb hr9 hlk9 hS hP (by first | rfl | (show nI 4294967295 = nI 4294967295; first | rfl | omega)) dX6_cut_28
set_option maxHeartbeats 4000000 in
set_option maxRecDepth 100000 in
theorem r_told_ok {l : Launch} {g : gE} {ad : Nat → Nat} (hI : g_inj ad 14) (M : gMem) (J : gMeL) (hw : wfR M) (c a : Nat) (hc : c < M 1 0) (ha : a < 12) : CI l g ad dsR 14 yX6_told cX6_told 3 (some .int) 3 [.ref (ad 0), .int (nI c), .int (nI a)] M J (nI (M 1 (1 + 12 * c + a))) M J := by
  refine CI.of (plainFor_of_name (by decide)) (Nat.le_of_ble_eq_true rfl) (fun p9 e9 s9 m9 args9 below9 meth9 c9 CF hK hr9 hlk9 hP hS ls hl => ?_)
  have hx := CF.1
  have hb := CF.2.1
  have hA : ∀ q, g_A ad 14 q → g_A ad 14 q := fun _ h => h
  have hl : lv_has ls 3 [(0, .ref (ad 0)), (1, .int (nI c)), (2, .int (nI a))] := hl
  have hnc := hw.nc
  have hnf := hw.nf
  have hwy := hw.way
  refine lv_aload_n hx hb dX6_told_0 rfl (lv_at hl 0 rfl) ?_
  refine lv_iload_n hx hb dX6_told_1 rfl (lv_at hl 1 rfl) ?_
  refine x_callVI CF hK hP hS hA hl (As := [.int (nI c)]) (rest := []) (r_isCam_t hI M J c (by omega) (by omega)) kw_X6_isCam wd3_170 (by decide) dR_0 rfl rfl ⟨Nat.le_of_ble_eq_true rfl, Nat.le_of_ble_eq_true rfl⟩ ⟨Nat.le_refl _, Nat.le_refl _⟩ (Nat.le_of_ble_eq_true rfl) dX6_told_2 (fun H locs hP hS => ?_)
  refine x_yeq (u := (1 : Int)) (tgt := 31) hx hb (rfl) dX6_told_5 (by decide) (fun h_1 => (by omega : False).elim) (fun h_1 => ?_)
  refine lv_iload_n hx hb dX6_told_8 rfl (lv_at hl 2 rfl) ?_
  refine x_callSP CF hK hP hS hl (As := [.int (nI a)]) (rest := []) (r_isAngle_t a (by omega)) kw_X6_isAngle wd3_174 rfl ⟨Nat.le_of_ble_eq_true rfl, Nat.le_of_ble_eq_true rfl⟩ ⟨Nat.le_refl _, Nat.le_refl _⟩ (Nat.le_of_ble_eq_true rfl) dX6_told_9 (fun H locs hP hS => ?_)
  refine x_yeq (u := (1 : Int)) (tgt := 31) hx hb (rfl) dX6_told_12 (by decide) (fun h_2 => (by omega : False).elim) (fun h_2 => ?_)
  refine lv_aload_n hx hb dX6_told_15 rfl (lv_at hl 0 rfl) ?_
  refine x_getr CF hK hP 0 (by decide) dR_0 rfl uX6 0 (by decide) (j := 1) rfl wd3_96 rfl dX6_told_16 ?_
  refine lv_iconst (v := nI 1) hx hb dX6_told_19 (by decide) ?_
  refine lv_bipush (v := nI 12) hx hb dX6_told_20 (by decide) ?_
  refine lv_iload_n hx hb dX6_told_22 rfl (lv_at hl 1 rfl) ?_
  refine x_imul hx hb dX6_told_23 ?_
  refine x_iadd hx hb dX6_told_24 ?_
  refine lv_iload_n hx hb dX6_told_25 rfl (lv_at hl 2 rfl) ?_
  refine x_iadd hx hb dX6_told_26 ?_
  refine x_iald CF hK hP 1 (by decide) dR_1 ((1 + (12 * c)) + a) (by omega) (by decide) dX6_told_27 ?_
  refine lv_goto (tgt := 32) hx hb dX6_told_28 (by decide) ?_
  exact x_reti hx hb hr9 hlk9 hS hP (by first | rfl | (show nI (M 1 ((1 + (12 * c)) + a)) = nI (M 1 (1 + 12 * c + a)); first | rfl | omega)) dX6_told_32
set_option maxHeartbeats 4000000 in
set_option maxRecDepth 100000 in
theorem r_told_bad {l : Launch} {g : gE} {ad : Nat → Nat} (hI : g_inj ad 14) (M : gMem) (J : gMeL) (hw : wfR M) (c a : Int32) (h : ¬ (inR c (M 1 0) ∧ inR a 12)) : CI l g ad dsR 14 yX6_told cX6_told 3 (some .int) 3 [.ref (ad 0), .int c, .int a] M J (nI 4294967295) M J := by
  refine CI.of (plainFor_of_name (by decide)) (Nat.le_of_ble_eq_true rfl) (fun p9 e9 s9 m9 args9 below9 meth9 c9 CF hK hr9 hlk9 hP hS ls hl => ?_)
  have hx := CF.1
  have hb := CF.2.1
  have hA : ∀ q, g_A ad 14 q → g_A ad 14 q := fun _ h => h
  have hl : lv_has ls 3 [(0, .ref (ad 0)), (1, .int c), (2, .int a)] := hl
  have hnc := hw.nc
  have hnf := hw.nf
  have hwy := hw.way
  refine lv_aload_n hx hb dX6_told_0 rfl (lv_at hl 0 rfl) ?_
  refine lv_iload_n hx hb dX6_told_1 rfl (lv_at hl 1 rfl) ?_
  rcases n_int (x := c) (n := M 1 0) (by omega) with ⟨c1, h_c1, rfl⟩ | ho_c
  · refine x_callVI CF hK hP hS hA hl (As := [.int (nI c1)]) (rest := []) (r_isCam_t hI M J c1 (by omega) (by omega)) kw_X6_isCam wd3_170 (by decide) dR_0 rfl rfl ⟨Nat.le_of_ble_eq_true rfl, Nat.le_of_ble_eq_true rfl⟩ ⟨Nat.le_refl _, Nat.le_refl _⟩ (Nat.le_of_ble_eq_true rfl) dX6_told_2 (fun H locs hP hS => ?_)
    refine x_yeq (u := (1 : Int)) (tgt := 31) hx hb (rfl) dX6_told_5 (by decide) (fun h_1 => (by omega : False).elim) (fun h_1 => ?_)
    refine lv_iload_n hx hb dX6_told_8 rfl (lv_at hl 2 rfl) ?_
    rcases n_int (x := a) (n := 12) (by omega) with ⟨a1, h_a1, rfl⟩ | ho_a
    · refine x_callSP CF hK hP hS hl (As := [.int (nI a1)]) (rest := []) (r_isAngle_t a1 (by omega)) kw_X6_isAngle wd3_174 rfl ⟨Nat.le_of_ble_eq_true rfl, Nat.le_of_ble_eq_true rfl⟩ ⟨Nat.le_refl _, Nat.le_refl _⟩ (Nat.le_of_ble_eq_true rfl) dX6_told_9 (fun H locs hP hS => ?_)
      refine x_yeq (u := (1 : Int)) (tgt := 31) hx hb (rfl) dX6_told_12 (by decide) (fun h_2 => (by omega : False).elim) (fun h_2 => ?_)
      exact absurd ⟨inR_n h_c1 (by omega), inR_n h_a1 (by decide)⟩ h
    · refine x_callSP CF hK hP hS hl (As := [.int a]) (rest := []) (r_isAngle_f a ho_a) kw_X6_isAngle wd3_174 rfl ⟨Nat.le_of_ble_eq_true rfl, Nat.le_of_ble_eq_true rfl⟩ ⟨Nat.le_refl _, Nat.le_refl _⟩ (Nat.le_of_ble_eq_true rfl) dX6_told_9 (fun H locs hP hS => ?_)
      refine x_yeq (u := (0 : Int)) (tgt := 31) hx hb (rfl) dX6_told_12 (by decide) (fun h_3 => ?_) (fun h_3 => (by omega : False).elim)
      refine lv_iconst (v := nI 4294967295) hx hb dX6_told_31 (by decide) ?_
      exact x_reti hx hb hr9 hlk9 hS hP (by first | rfl | (show nI 4294967295 = nI 4294967295; first | rfl | omega)) dX6_told_32
  · refine x_callVI CF hK hP hS hA hl (As := [.int c]) (rest := []) (r_isCam_f hI M J c ho_c (by omega)) kw_X6_isCam wd3_170 (by decide) dR_0 rfl rfl ⟨Nat.le_of_ble_eq_true rfl, Nat.le_of_ble_eq_true rfl⟩ ⟨Nat.le_refl _, Nat.le_refl _⟩ (Nat.le_of_ble_eq_true rfl) dX6_told_2 (fun H locs hP hS => ?_)
    refine x_yeq (u := (0 : Int)) (tgt := 31) hx hb (rfl) dX6_told_5 (by decide) (fun h_4 => ?_) (fun h_4 => (by omega : False).elim)
    refine lv_iconst (v := nI 4294967295) hx hb dX6_told_31 (by decide) ?_
    exact x_reti hx hb hr9 hlk9 hS hP (by first | rfl | (show nI 4294967295 = nI 4294967295; first | rfl | omega)) dX6_told_32
set_option maxHeartbeats 4000000 in
set_option maxRecDepth 100000 in
theorem r_figure_full {l : Launch} {g : gE} {ad : Nat → Nat} (hI : g_inj ad 14) (M : gMem) (J : gMeL) (hw : wfR M) (k c lg p : Nat) (hk : k < 4) (hc : c < M 1 0) (hlg : lg < 12) (hp : p < 4) (h : M 1 73 = 5) : CI l g ad dsR 14 yX6_figure cX6_figure 6 (some .int) 3 [.ref (ad 0), .int (nI k), .int (nI c), .int (nI lg), .int (nI p)] M J (nI 4294967293) M J := by
  refine CI.of (plainFor_of_name (by decide)) (Nat.le_of_ble_eq_true rfl) (fun p9 e9 s9 m9 args9 below9 meth9 c9 CF hK hr9 hlk9 hP hS ls hl => ?_)
  have hx := CF.1
  have hb := CF.2.1
  have hA : ∀ q, g_A ad 14 q → g_A ad 14 q := fun _ h => h
  have hl : lv_has ls 6 [(0, .ref (ad 0)), (1, .int (nI k)), (2, .int (nI c)), (3, .int (nI lg)), (4, .int (nI p))] := hl
  have hnc := hw.nc
  have hnf := hw.nf
  have hwy := hw.way
  refine lv_aload_n hx hb dX6_figure_0 rfl (lv_at hl 0 rfl) ?_
  refine lv_iconst (v := nI 0) hx hb dX6_figure_1 (by decide) ?_
  refine lv_iload_n hx hb dX6_figure_2 rfl (lv_at hl 1 rfl) ?_
  refine x_callVI CF hK hP hS hA hl (As := [.int (nI 0), .int (nI k)]) (rest := []) (r_isGood_0_t hI M J hw k (by omega)) kw_X6_isGood wd3_187 (by decide) dR_0 rfl rfl ⟨Nat.le_of_ble_eq_true rfl, Nat.le_of_ble_eq_true rfl⟩ ⟨Nat.le_refl _, Nat.le_refl _⟩ (Nat.le_of_ble_eq_true rfl) dX6_figure_3 (fun H locs hP hS => ?_)
  refine x_yeq (u := (1 : Int)) (tgt := 37) hx hb (rfl) dX6_figure_6 (by decide) (fun h_1 => (by omega : False).elim) (fun h_1 => ?_)
  refine lv_aload_n hx hb dX6_figure_9 rfl (lv_at hl 0 rfl) ?_
  refine lv_iconst (v := nI 1) hx hb dX6_figure_10 (by decide) ?_
  refine lv_iload_n hx hb dX6_figure_11 rfl (lv_at hl 2 rfl) ?_
  refine x_callVI CF hK hP hS hA hl (As := [.int (nI 1), .int (nI c)]) (rest := []) (r_isGood_1_t hI M J hw c (by omega)) kw_X6_isGood wd3_187 (by decide) dR_0 rfl rfl ⟨Nat.le_of_ble_eq_true rfl, Nat.le_of_ble_eq_true rfl⟩ ⟨Nat.le_refl _, Nat.le_refl _⟩ (Nat.le_of_ble_eq_true rfl) dX6_figure_12 (fun H locs hP hS => ?_)
  refine x_yeq (u := (1 : Int)) (tgt := 37) hx hb (rfl) dX6_figure_15 (by decide) (fun h_2 => (by omega : False).elim) (fun h_2 => ?_)
  refine lv_aload_n hx hb dX6_figure_18 rfl (lv_at hl 0 rfl) ?_
  refine lv_iconst (v := nI 2) hx hb dX6_figure_19 (by decide) ?_
  refine lv_iload_n hx hb dX6_figure_20 rfl (lv_at hl 3 rfl) ?_
  refine x_callVI CF hK hP hS hA hl (As := [.int (nI 2), .int (nI lg)]) (rest := []) (r_isGood_2_t hI M J hw lg (by omega)) kw_X6_isGood wd3_187 (by decide) dR_0 rfl rfl ⟨Nat.le_of_ble_eq_true rfl, Nat.le_of_ble_eq_true rfl⟩ ⟨Nat.le_refl _, Nat.le_refl _⟩ (Nat.le_of_ble_eq_true rfl) dX6_figure_21 (fun H locs hP hS => ?_)
  refine x_yeq (u := (1 : Int)) (tgt := 37) hx hb (rfl) dX6_figure_24 (by decide) (fun h_3 => (by omega : False).elim) (fun h_3 => ?_)
  refine lv_aload_n hx hb dX6_figure_27 rfl (lv_at hl 0 rfl) ?_
  refine lv_iconst (v := nI 3) hx hb dX6_figure_28 (by decide) ?_
  refine lv_iload hx hb dX6_figure_29 (lv_at hl 4 rfl) ?_
  refine x_callVI CF hK hP hS hA hl (As := [.int (nI 3), .int (nI p)]) (rest := []) (r_isGood_3_t hI M J hw p (by omega)) kw_X6_isGood wd3_187 (by decide) dR_0 rfl rfl ⟨Nat.le_of_ble_eq_true rfl, Nat.le_of_ble_eq_true rfl⟩ ⟨Nat.le_refl _, Nat.le_refl _⟩ (Nat.le_of_ble_eq_true rfl) dX6_figure_31 (fun H locs hP hS => ?_)
  refine x_yne (u := (1 : Int)) (tgt := 39) hx hb (rfl) dX6_figure_34 (by decide) (fun h_4 => ?_) (fun h_4 => (by omega : False).elim)
  refine lv_aload_n hx hb dX6_figure_39 rfl (lv_at hl 0 rfl) ?_
  refine x_getr CF hK hP 0 (by decide) dR_0 rfl uX6 0 (by decide) (j := 1) rfl wd3_96 rfl dX6_figure_40 ?_
  refine lv_bipush (v := nI 73) hx hb dX6_figure_43 (by decide) ?_
  refine x_iald CF hK hP 1 (by decide) dR_1 73 (by omega) (by decide) dX6_figure_45 ?_
  refine lv_istore (lv' := [(5, .int (nI (M 1 73))), (0, .ref (ad 0)), (1, .int (nI k)), (2, .int (nI c)), (3, .int (nI lg)), (4, .int (nI p))]) hx hb dX6_figure_46 hl (by decide) rfl (fun ls hl => ?_)
  refine lv_iload hx hb dX6_figure_48 (lv_at hl 0 rfl) ?_
  refine lv_iconst (v := nI 5) hx hb dX6_figure_50 (by decide) ?_
  refine x_zne (u := (M 1 73 : Nat)) (v := (5 : Int)) (tgt := 57) hx hb (nI_toInt (by omega)) (rfl) dX6_figure_51 (by decide) (fun h_5 => (by omega : False).elim) (fun h_5 => ?_)
  refine lv_bipush (v := nI 4294967293) hx hb dX6_figure_54 (by decide) ?_
  exact x_reti hx hb hr9 hlk9 hS hP (by first | rfl | (show nI 4294967293 = nI 4294967293; first | rfl | omega)) dX6_figure_56
set_option maxHeartbeats 4000000 in
set_option maxRecDepth 100000 in
theorem r_figure_ok {l : Launch} {g : gE} {ad : Nat → Nat} (hI : g_inj ad 14) (M : gMem) (J : gMeL) (hw : wfR M) (k c lg p : Nat) (hk : k < 4) (hc : c < M 1 0) (hlg : lg < 12) (hp : p < 4) (h : M 1 73 < 5) : CI l g ad dsR 14 yX6_figure cX6_figure 6 (some .int) 3 [.ref (ad 0), .int (nI k), .int (nI c), .int (nI lg), .int (nI p)] M J (nI (M 1 73)) (u2 (adR M (M 1 73) k c lg p) 1 73 (M 1 73 + 1)) J := by
  refine CI.of (plainFor_of_name (by decide)) (Nat.le_of_ble_eq_true rfl) (fun p9 e9 s9 m9 args9 below9 meth9 c9 CF hK hr9 hlk9 hP hS ls hl => ?_)
  have hx := CF.1
  have hb := CF.2.1
  have hA : ∀ q, g_A ad 14 q → g_A ad 14 q := fun _ h => h
  have hl : lv_has ls 6 [(0, .ref (ad 0)), (1, .int (nI k)), (2, .int (nI c)), (3, .int (nI lg)), (4, .int (nI p))] := hl
  have hnc := hw.nc
  have hnf := hw.nf
  have hwy := hw.way
  refine lv_aload_n hx hb dX6_figure_0 rfl (lv_at hl 0 rfl) ?_
  refine lv_iconst (v := nI 0) hx hb dX6_figure_1 (by decide) ?_
  refine lv_iload_n hx hb dX6_figure_2 rfl (lv_at hl 1 rfl) ?_
  refine x_callVI CF hK hP hS hA hl (As := [.int (nI 0), .int (nI k)]) (rest := []) (r_isGood_0_t hI M J hw k (by omega)) kw_X6_isGood wd3_187 (by decide) dR_0 rfl rfl ⟨Nat.le_of_ble_eq_true rfl, Nat.le_of_ble_eq_true rfl⟩ ⟨Nat.le_refl _, Nat.le_refl _⟩ (Nat.le_of_ble_eq_true rfl) dX6_figure_3 (fun H locs hP hS => ?_)
  refine x_yeq (u := (1 : Int)) (tgt := 37) hx hb (rfl) dX6_figure_6 (by decide) (fun h_1 => (by omega : False).elim) (fun h_1 => ?_)
  refine lv_aload_n hx hb dX6_figure_9 rfl (lv_at hl 0 rfl) ?_
  refine lv_iconst (v := nI 1) hx hb dX6_figure_10 (by decide) ?_
  refine lv_iload_n hx hb dX6_figure_11 rfl (lv_at hl 2 rfl) ?_
  refine x_callVI CF hK hP hS hA hl (As := [.int (nI 1), .int (nI c)]) (rest := []) (r_isGood_1_t hI M J hw c (by omega)) kw_X6_isGood wd3_187 (by decide) dR_0 rfl rfl ⟨Nat.le_of_ble_eq_true rfl, Nat.le_of_ble_eq_true rfl⟩ ⟨Nat.le_refl _, Nat.le_refl _⟩ (Nat.le_of_ble_eq_true rfl) dX6_figure_12 (fun H locs hP hS => ?_)
  refine x_yeq (u := (1 : Int)) (tgt := 37) hx hb (rfl) dX6_figure_15 (by decide) (fun h_2 => (by omega : False).elim) (fun h_2 => ?_)
  refine lv_aload_n hx hb dX6_figure_18 rfl (lv_at hl 0 rfl) ?_
  refine lv_iconst (v := nI 2) hx hb dX6_figure_19 (by decide) ?_
  refine lv_iload_n hx hb dX6_figure_20 rfl (lv_at hl 3 rfl) ?_
  refine x_callVI CF hK hP hS hA hl (As := [.int (nI 2), .int (nI lg)]) (rest := []) (r_isGood_2_t hI M J hw lg (by omega)) kw_X6_isGood wd3_187 (by decide) dR_0 rfl rfl ⟨Nat.le_of_ble_eq_true rfl, Nat.le_of_ble_eq_true rfl⟩ ⟨Nat.le_refl _, Nat.le_refl _⟩ (Nat.le_of_ble_eq_true rfl) dX6_figure_21 (fun H locs hP hS => ?_)
  refine x_yeq (u := (1 : Int)) (tgt := 37) hx hb (rfl) dX6_figure_24 (by decide) (fun h_3 => (by omega : False).elim) (fun h_3 => ?_)
  refine lv_aload_n hx hb dX6_figure_27 rfl (lv_at hl 0 rfl) ?_
  refine lv_iconst (v := nI 3) hx hb dX6_figure_28 (by decide) ?_
  refine lv_iload hx hb dX6_figure_29 (lv_at hl 4 rfl) ?_
  refine x_callVI CF hK hP hS hA hl (As := [.int (nI 3), .int (nI p)]) (rest := []) (r_isGood_3_t hI M J hw p (by omega)) kw_X6_isGood wd3_187 (by decide) dR_0 rfl rfl ⟨Nat.le_of_ble_eq_true rfl, Nat.le_of_ble_eq_true rfl⟩ ⟨Nat.le_refl _, Nat.le_refl _⟩ (Nat.le_of_ble_eq_true rfl) dX6_figure_31 (fun H locs hP hS => ?_)
  refine x_yne (u := (1 : Int)) (tgt := 39) hx hb (rfl) dX6_figure_34 (by decide) (fun h_4 => ?_) (fun h_4 => (by omega : False).elim)
  refine lv_aload_n hx hb dX6_figure_39 rfl (lv_at hl 0 rfl) ?_
  refine x_getr CF hK hP 0 (by decide) dR_0 rfl uX6 0 (by decide) (j := 1) rfl wd3_96 rfl dX6_figure_40 ?_
  refine lv_bipush (v := nI 73) hx hb dX6_figure_43 (by decide) ?_
  refine x_iald CF hK hP 1 (by decide) dR_1 73 (by omega) (by decide) dX6_figure_45 ?_
  refine lv_istore (lv' := [(5, .int (nI (M 1 73))), (0, .ref (ad 0)), (1, .int (nI k)), (2, .int (nI c)), (3, .int (nI lg)), (4, .int (nI p))]) hx hb dX6_figure_46 hl (by decide) rfl (fun ls hl => ?_)
  refine lv_iload hx hb dX6_figure_48 (lv_at hl 0 rfl) ?_
  refine lv_iconst (v := nI 5) hx hb dX6_figure_50 (by decide) ?_
  refine x_zne (u := (M 1 73 : Nat)) (v := (5 : Int)) (tgt := 57) hx hb (nI_toInt (by omega)) (rfl) dX6_figure_51 (by decide) (fun h_5 => ?_) (fun h_5 => (by omega : False).elim)
  refine lv_aload_n hx hb dX6_figure_57 rfl (lv_at hl 1 rfl) ?_
  refine x_getr CF hK hP 0 (by decide) dR_0 rfl uX6 0 (by decide) (j := 1) rfl wd3_96 rfl dX6_figure_58 ?_
  refine lv_bipush (v := nI 74) hx hb dX6_figure_61 (by decide) ?_
  refine lv_iload hx hb dX6_figure_63 (lv_at hl 0 rfl) ?_
  refine x_iadd hx hb dX6_figure_65 ?_
  refine lv_iload_n hx hb dX6_figure_66 rfl (lv_at hl 2 rfl) ?_
  refine x_iast CF hK hI hA hP hS 1 (by decide) dR_1 (74 + (M 1 73)) (by omega) (by decide) k dX6_figure_67 (fun H locs hP hS => ?_)
  refine lv_aload_n hx hb dX6_figure_68 rfl (lv_at hl 1 rfl) ?_
  refine x_getr CF hK hP 0 (by decide) dR_0 rfl uX6 0 (by decide) (j := 1) rfl wd3_96 rfl dX6_figure_69 ?_
  refine lv_bipush (v := nI 79) hx hb dX6_figure_72 (by decide) ?_
  refine lv_iload hx hb dX6_figure_74 (lv_at hl 0 rfl) ?_
  refine x_iadd hx hb dX6_figure_76 ?_
  refine lv_iload_n hx hb dX6_figure_77 rfl (lv_at hl 3 rfl) ?_
  refine x_iast CF hK hI hA hP hS 1 (by decide) dR_1 (79 + (M 1 73)) (by omega) (by decide) c dX6_figure_78 (fun H locs hP hS => ?_)
  refine lv_aload_n hx hb dX6_figure_79 rfl (lv_at hl 1 rfl) ?_
  refine x_getr CF hK hP 0 (by decide) dR_0 rfl uX6 0 (by decide) (j := 1) rfl wd3_96 rfl dX6_figure_80 ?_
  refine lv_bipush (v := nI 84) hx hb dX6_figure_83 (by decide) ?_
  refine lv_iload hx hb dX6_figure_85 (lv_at hl 0 rfl) ?_
  refine x_iadd hx hb dX6_figure_87 ?_
  refine lv_iload_n hx hb dX6_figure_88 rfl (lv_at hl 4 rfl) ?_
  refine x_iast CF hK hI hA hP hS 1 (by decide) dR_1 (84 + (M 1 73)) (by omega) (by decide) lg dX6_figure_89 (fun H locs hP hS => ?_)
  refine lv_aload_n hx hb dX6_figure_90 rfl (lv_at hl 1 rfl) ?_
  refine x_getr CF hK hP 0 (by decide) dR_0 rfl uX6 0 (by decide) (j := 1) rfl wd3_96 rfl dX6_figure_91 ?_
  refine lv_bipush (v := nI 89) hx hb dX6_figure_94 (by decide) ?_
  refine lv_iload hx hb dX6_figure_96 (lv_at hl 0 rfl) ?_
  refine x_iadd hx hb dX6_figure_98 ?_
  refine lv_iload hx hb dX6_figure_99 (lv_at hl 5 rfl) ?_
  refine x_iast CF hK hI hA hP hS 1 (by decide) dR_1 (89 + (M 1 73)) (by omega) (by decide) p dX6_figure_101 (fun H locs hP hS => ?_)
  refine lv_aload_n hx hb dX6_figure_102 rfl (lv_at hl 1 rfl) ?_
  refine x_getr CF hK hP 0 (by decide) dR_0 rfl uX6 0 (by decide) (j := 1) rfl wd3_96 rfl dX6_figure_103 ?_
  refine lv_bipush (v := nI 94) hx hb dX6_figure_106 (by decide) ?_
  refine lv_iload hx hb dX6_figure_108 (lv_at hl 0 rfl) ?_
  refine x_iadd hx hb dX6_figure_110 ?_
  refine lv_iconst (v := nI 0) hx hb dX6_figure_111 (by decide) ?_
  refine x_iast CF hK hI hA hP hS 1 (by decide) dR_1 (94 + (M 1 73)) (by omega) (by decide) 0 dX6_figure_112 (fun H locs hP hS => ?_)
  refine lv_aload_n hx hb dX6_figure_113 rfl (lv_at hl 1 rfl) ?_
  refine x_getr CF hK hP 0 (by decide) dR_0 rfl uX6 0 (by decide) (j := 1) rfl wd3_96 rfl dX6_figure_114 ?_
  refine lv_bipush (v := nI 99) hx hb dX6_figure_117 (by decide) ?_
  refine lv_iload hx hb dX6_figure_119 (lv_at hl 0 rfl) ?_
  refine x_iadd hx hb dX6_figure_121 ?_
  refine lv_iconst (v := nI 0) hx hb dX6_figure_122 (by decide) ?_
  refine x_iast CF hK hI hA hP hS 1 (by decide) dR_1 (99 + (M 1 73)) (by omega) (by decide) 0 dX6_figure_123 (fun H locs hP hS => ?_)
  have hP : g_P g ad dsR 14 (adR M (M 1 73) k c lg p) J H := hP
  refine lv_aload_n hx hb dX6_figure_124 rfl (lv_at hl 1 rfl) ?_
  refine x_getr CF hK hP 0 (by decide) dR_0 rfl uX6 0 (by decide) (j := 1) rfl wd3_96 rfl dX6_figure_125 ?_
  refine lv_bipush (v := nI 73) hx hb dX6_figure_128 (by decide) ?_
  refine lv_dup2_11 hx hb dX6_figure_130 rfl rfl ?_
  refine x_iald CF hK hP 1 (by decide) dR_1 73 (by omega) (by decide) dX6_figure_131 ?_
  refine x_ri (show (nI ((adR M (M 1 73) k c lg p) 1 73)) = nI (M 1 73) from congrArg nI (by simp only [adR, u2]; (repeat rw [if_neg (by omega)]))) ?_
  refine lv_iconst (v := nI 1) hx hb dX6_figure_132 (by decide) ?_
  refine x_iadd hx hb dX6_figure_133 ?_
  refine x_iast CF hK hI hA hP hS 1 (by decide) dR_1 73 (by omega) (by decide) ((M 1 73) + 1) dX6_figure_134 (fun H locs hP hS => ?_)
  refine lv_iload hx hb dX6_figure_135 (lv_at hl 0 rfl) ?_
  exact x_reti hx hb hr9 hlk9 hS (by exact hP) (by first | rfl | (show nI (M 1 73) = nI (M 1 73); first | rfl | omega)) dX6_figure_137
set_option maxHeartbeats 4000000 in
set_option maxRecDepth 100000 in
theorem r_figure_bad {l : Launch} {g : gE} {ad : Nat → Nat} (hI : g_inj ad 14) (M : gMem) (J : gMeL) (hw : wfR M) (k c lg p : Int32) (h : ¬ (inR k 4 ∧ inR c (M 1 0) ∧ inR lg 12 ∧ inR p 4)) : CI l g ad dsR 14 yX6_figure cX6_figure 6 (some .int) 3 [.ref (ad 0), .int k, .int c, .int lg, .int p] M J (nI 4294967295) M J := by
  refine CI.of (plainFor_of_name (by decide)) (Nat.le_of_ble_eq_true rfl) (fun p9 e9 s9 m9 args9 below9 meth9 c9 CF hK hr9 hlk9 hP hS ls hl => ?_)
  have hx := CF.1
  have hb := CF.2.1
  have hA : ∀ q, g_A ad 14 q → g_A ad 14 q := fun _ h => h
  have hl : lv_has ls 6 [(0, .ref (ad 0)), (1, .int k), (2, .int c), (3, .int lg), (4, .int p)] := hl
  have hnc := hw.nc
  have hnf := hw.nf
  have hwy := hw.way
  refine lv_aload_n hx hb dX6_figure_0 rfl (lv_at hl 0 rfl) ?_
  refine lv_iconst (v := nI 0) hx hb dX6_figure_1 (by decide) ?_
  refine lv_iload_n hx hb dX6_figure_2 rfl (lv_at hl 1 rfl) ?_
  rcases n_int (x := k) (n := 4) (by omega) with ⟨k1, h_k1, rfl⟩ | ho_k
  · refine x_callVI CF hK hP hS hA hl (As := [.int (nI 0), .int (nI k1)]) (rest := []) (r_isGood_0_t hI M J hw k1 (by omega)) kw_X6_isGood wd3_187 (by decide) dR_0 rfl rfl ⟨Nat.le_of_ble_eq_true rfl, Nat.le_of_ble_eq_true rfl⟩ ⟨Nat.le_refl _, Nat.le_refl _⟩ (Nat.le_of_ble_eq_true rfl) dX6_figure_3 (fun H locs hP hS => ?_)
    refine x_yeq (u := (1 : Int)) (tgt := 37) hx hb (rfl) dX6_figure_6 (by decide) (fun h_1 => (by omega : False).elim) (fun h_1 => ?_)
    refine lv_aload_n hx hb dX6_figure_9 rfl (lv_at hl 0 rfl) ?_
    refine lv_iconst (v := nI 1) hx hb dX6_figure_10 (by decide) ?_
    refine lv_iload_n hx hb dX6_figure_11 rfl (lv_at hl 2 rfl) ?_
    rcases n_int (x := c) (n := M 1 0) (by omega) with ⟨c1, h_c1, rfl⟩ | ho_c
    · refine x_callVI CF hK hP hS hA hl (As := [.int (nI 1), .int (nI c1)]) (rest := []) (r_isGood_1_t hI M J hw c1 (by omega)) kw_X6_isGood wd3_187 (by decide) dR_0 rfl rfl ⟨Nat.le_of_ble_eq_true rfl, Nat.le_of_ble_eq_true rfl⟩ ⟨Nat.le_refl _, Nat.le_refl _⟩ (Nat.le_of_ble_eq_true rfl) dX6_figure_12 (fun H locs hP hS => ?_)
      refine x_yeq (u := (1 : Int)) (tgt := 37) hx hb (rfl) dX6_figure_15 (by decide) (fun h_2 => (by omega : False).elim) (fun h_2 => ?_)
      refine lv_aload_n hx hb dX6_figure_18 rfl (lv_at hl 0 rfl) ?_
      refine lv_iconst (v := nI 2) hx hb dX6_figure_19 (by decide) ?_
      refine lv_iload_n hx hb dX6_figure_20 rfl (lv_at hl 3 rfl) ?_
      rcases n_int (x := lg) (n := 12) (by omega) with ⟨l1, h_l1, rfl⟩ | ho_lg
      · refine x_callVI CF hK hP hS hA hl (As := [.int (nI 2), .int (nI l1)]) (rest := []) (r_isGood_2_t hI M J hw l1 (by omega)) kw_X6_isGood wd3_187 (by decide) dR_0 rfl rfl ⟨Nat.le_of_ble_eq_true rfl, Nat.le_of_ble_eq_true rfl⟩ ⟨Nat.le_refl _, Nat.le_refl _⟩ (Nat.le_of_ble_eq_true rfl) dX6_figure_21 (fun H locs hP hS => ?_)
        refine x_yeq (u := (1 : Int)) (tgt := 37) hx hb (rfl) dX6_figure_24 (by decide) (fun h_3 => (by omega : False).elim) (fun h_3 => ?_)
        refine lv_aload_n hx hb dX6_figure_27 rfl (lv_at hl 0 rfl) ?_
        refine lv_iconst (v := nI 3) hx hb dX6_figure_28 (by decide) ?_
        refine lv_iload hx hb dX6_figure_29 (lv_at hl 4 rfl) ?_
        rcases n_int (x := p) (n := 4) (by omega) with ⟨p1, h_p1, rfl⟩ | ho_p
        · refine x_callVI CF hK hP hS hA hl (As := [.int (nI 3), .int (nI p1)]) (rest := []) (r_isGood_3_t hI M J hw p1 (by omega)) kw_X6_isGood wd3_187 (by decide) dR_0 rfl rfl ⟨Nat.le_of_ble_eq_true rfl, Nat.le_of_ble_eq_true rfl⟩ ⟨Nat.le_refl _, Nat.le_refl _⟩ (Nat.le_of_ble_eq_true rfl) dX6_figure_31 (fun H locs hP hS => ?_)
          refine x_yne (u := (1 : Int)) (tgt := 39) hx hb (rfl) dX6_figure_34 (by decide) (fun h_4 => ?_) (fun h_4 => (by omega : False).elim)
          exact absurd ⟨inR_n h_k1 (by decide), inR_n h_c1 (by omega), inR_n h_l1 (by decide), inR_n h_p1 (by decide)⟩ h
        · refine x_callVI CF hK hP hS hA hl (As := [.int (nI 3), .int p]) (rest := []) (r_isGood_3_f hI M J hw p ho_p) kw_X6_isGood wd3_187 (by decide) dR_0 rfl rfl ⟨Nat.le_of_ble_eq_true rfl, Nat.le_of_ble_eq_true rfl⟩ ⟨Nat.le_refl _, Nat.le_refl _⟩ (Nat.le_of_ble_eq_true rfl) dX6_figure_31 (fun H locs hP hS => ?_)
          refine x_yne (u := (0 : Int)) (tgt := 39) hx hb (rfl) dX6_figure_34 (by decide) (fun h_5 => (by omega : False).elim) (fun h_5 => ?_)
          refine lv_iconst (v := nI 4294967295) hx hb dX6_figure_37 (by decide) ?_
          exact x_reti hx hb hr9 hlk9 hS hP (by first | rfl | (show nI 4294967295 = nI 4294967295; first | rfl | omega)) dX6_figure_38
      · refine x_callVI CF hK hP hS hA hl (As := [.int (nI 2), .int lg]) (rest := []) (r_isGood_2_f hI M J hw lg ho_lg) kw_X6_isGood wd3_187 (by decide) dR_0 rfl rfl ⟨Nat.le_of_ble_eq_true rfl, Nat.le_of_ble_eq_true rfl⟩ ⟨Nat.le_refl _, Nat.le_refl _⟩ (Nat.le_of_ble_eq_true rfl) dX6_figure_21 (fun H locs hP hS => ?_)
        refine x_yeq (u := (0 : Int)) (tgt := 37) hx hb (rfl) dX6_figure_24 (by decide) (fun h_6 => ?_) (fun h_6 => (by omega : False).elim)
        refine lv_iconst (v := nI 4294967295) hx hb dX6_figure_37 (by decide) ?_
        exact x_reti hx hb hr9 hlk9 hS hP (by first | rfl | (show nI 4294967295 = nI 4294967295; first | rfl | omega)) dX6_figure_38
    · refine x_callVI CF hK hP hS hA hl (As := [.int (nI 1), .int c]) (rest := []) (r_isGood_1_f hI M J hw c ho_c) kw_X6_isGood wd3_187 (by decide) dR_0 rfl rfl ⟨Nat.le_of_ble_eq_true rfl, Nat.le_of_ble_eq_true rfl⟩ ⟨Nat.le_refl _, Nat.le_refl _⟩ (Nat.le_of_ble_eq_true rfl) dX6_figure_12 (fun H locs hP hS => ?_)
      refine x_yeq (u := (0 : Int)) (tgt := 37) hx hb (rfl) dX6_figure_15 (by decide) (fun h_7 => ?_) (fun h_7 => (by omega : False).elim)
      refine lv_iconst (v := nI 4294967295) hx hb dX6_figure_37 (by decide) ?_
      exact x_reti hx hb hr9 hlk9 hS hP (by first | rfl | (show nI 4294967295 = nI 4294967295; first | rfl | omega)) dX6_figure_38
  · refine x_callVI CF hK hP hS hA hl (As := [.int (nI 0), .int k]) (rest := []) (r_isGood_0_f hI M J hw k ho_k) kw_X6_isGood wd3_187 (by decide) dR_0 rfl rfl ⟨Nat.le_of_ble_eq_true rfl, Nat.le_of_ble_eq_true rfl⟩ ⟨Nat.le_refl _, Nat.le_refl _⟩ (Nat.le_of_ble_eq_true rfl) dX6_figure_3 (fun H locs hP hS => ?_)
    refine x_yeq (u := (0 : Int)) (tgt := 37) hx hb (rfl) dX6_figure_6 (by decide) (fun h_8 => ?_) (fun h_8 => (by omega : False).elim)
    refine lv_iconst (v := nI 4294967295) hx hb dX6_figure_37 (by decide) ?_
    exact x_reti hx hb hr9 hlk9 hS hP (by first | rfl | (show nI 4294967295 = nI 4294967295; first | rfl | omega)) dX6_figure_38
set_option maxHeartbeats 4000000 in
set_option maxRecDepth 100000 in
theorem r_set_0 {l : Launch} {g : gE} {ad : Nat → Nat} (hI : g_inj ad 14) (M : gMem) (J : gMeL) (hw : wfR M) (k v : Nat) (hk : k < M 1 73) (hv : v < 4) : CI l g ad dsR 14 yX6_set cX6_set 6 (some .int) 3 [.ref (ad 0), .int (nI k), .int (nI 0), .int (nI v)] M J (nI (M 1 (74 + k))) (u2 M 1 (74 + k) v) J := by
  refine CI.of (plainFor_of_name (by decide)) (Nat.le_of_ble_eq_true rfl) (fun p9 e9 s9 m9 args9 below9 meth9 c9 CF hK hr9 hlk9 hP hS ls hl => ?_)
  have hx := CF.1
  have hb := CF.2.1
  have hA : ∀ q, g_A ad 14 q → g_A ad 14 q := fun _ h => h
  have hl : lv_has ls 6 [(0, .ref (ad 0)), (1, .int (nI k)), (2, .int (nI 0)), (3, .int (nI v))] := hl
  have hnc := hw.nc
  have hnf := hw.nf
  have hwy := hw.way
  refine lv_aload_n hx hb dX6_set_0 rfl (lv_at hl 0 rfl) ?_
  refine lv_iload_n hx hb dX6_set_1 rfl (lv_at hl 1 rfl) ?_
  refine x_callVI CF hK hP hS hA hl (As := [.int (nI k)]) (rest := []) (r_isFigure_t hI M J k (by omega) (by omega)) kw_X6_isFigure wd3_196 (by decide) dR_0 rfl rfl ⟨Nat.le_of_ble_eq_true rfl, Nat.le_of_ble_eq_true rfl⟩ ⟨Nat.le_refl _, Nat.le_refl _⟩ (Nat.le_of_ble_eq_true rfl) dX6_set_2 (fun H locs hP hS => ?_)
  refine x_yeq (u := (1 : Int)) (tgt := 29) hx hb (rfl) dX6_set_5 (by decide) (fun h_1 => (by omega : False).elim) (fun h_1 => ?_)
  refine lv_iload_n hx hb dX6_set_8 rfl (lv_at hl 2 rfl) ?_
  refine lv_i2l hx hb dX6_set_9 (nI_l (by omega)) ?_
  refine lv_lconst (v := (0 : Int64)) hx hb dX6_set_10 rfl ?_
  refine lv_ldc2 hx hb CF.2.2.2.1 (CF.2.2.2.2 _ (List.mem_cons_of_mem _ wd3_191)) dX6_set_11 ?_
  refine x_callSP CF hK hP hS hl (As := [.long (lN 0), .long (0 : Int64), .long (3 : Int64)]) (rest := []) (r_in_t _ _ _ (il_in (lo := 0) (hi := 3) (by omega) (by omega) (by omega))) kw_X6_in wd3_147 rfl ⟨Nat.le_of_ble_eq_true rfl, Nat.le_of_ble_eq_true rfl⟩ ⟨Nat.le_refl _, Nat.le_refl _⟩ (Nat.le_of_ble_eq_true rfl) dX6_set_14 (fun H locs hP hS => ?_)
  refine x_yeq (u := (1 : Int)) (tgt := 29) hx hb (rfl) dX6_set_17 (by decide) (fun h_2 => (by omega : False).elim) (fun h_2 => ?_)
  refine lv_aload_n hx hb dX6_set_20 rfl (lv_at hl 0 rfl) ?_
  refine lv_iload_n hx hb dX6_set_21 rfl (lv_at hl 2 rfl) ?_
  refine lv_iload_n hx hb dX6_set_22 rfl (lv_at hl 3 rfl) ?_
  refine x_callVI CF hK hP hS hA hl (As := [.int (nI 0), .int (nI v)]) (rest := []) (r_isGood_0_t hI M J hw v (by omega)) kw_X6_isGood wd3_187 (by decide) dR_0 rfl rfl ⟨Nat.le_of_ble_eq_true rfl, Nat.le_of_ble_eq_true rfl⟩ ⟨Nat.le_refl _, Nat.le_refl _⟩ (Nat.le_of_ble_eq_true rfl) dX6_set_23 (fun H locs hP hS => ?_)
  refine x_yne (u := (1 : Int)) (tgt := 31) hx hb (rfl) dX6_set_26 (by decide) (fun h_3 => ?_) (fun h_3 => (by omega : False).elim)
  refine lv_bipush (v := nI 74) hx hb dX6_set_31 (by decide) ?_
  refine lv_iconst (v := nI 5) hx hb dX6_set_33 (by decide) ?_
  refine lv_iload_n hx hb dX6_set_34 rfl (lv_at hl 2 rfl) ?_
  refine x_imul hx hb dX6_set_35 ?_
  refine x_iadd hx hb dX6_set_36 ?_
  refine x_ri (show (nI (74 + (5 * 0))) = nI 74 from rfl) ?_
  refine lv_iload_n hx hb dX6_set_37 rfl (lv_at hl 1 rfl) ?_
  refine x_iadd hx hb dX6_set_38 ?_
  refine lv_istore (lv' := [(4, .int (nI (74 + k))), (0, .ref (ad 0)), (1, .int (nI k)), (2, .int (nI 0)), (3, .int (nI v))]) hx hb dX6_set_39 hl (by decide) rfl (fun ls hl => ?_)
  refine lv_aload_n hx hb dX6_set_41 rfl (lv_at hl 1 rfl) ?_
  refine x_getr CF hK hP 0 (by decide) dR_0 rfl uX6 0 (by decide) (j := 1) rfl wd3_96 rfl dX6_set_42 ?_
  refine lv_iload hx hb dX6_set_45 (lv_at hl 0 rfl) ?_
  refine x_iald CF hK hP 1 (by decide) dR_1 (74 + k) (by omega) (by decide) dX6_set_47 ?_
  refine lv_istore (lv' := [(5, .int (nI (M 1 (74 + k)))), (4, .int (nI (74 + k))), (0, .ref (ad 0)), (1, .int (nI k)), (2, .int (nI 0)), (3, .int (nI v))]) hx hb dX6_set_48 hl (by decide) rfl (fun ls hl => ?_)
  refine lv_aload_n hx hb dX6_set_50 rfl (lv_at hl 2 rfl) ?_
  refine x_getr CF hK hP 0 (by decide) dR_0 rfl uX6 0 (by decide) (j := 1) rfl wd3_96 rfl dX6_set_51 ?_
  refine lv_iload hx hb dX6_set_54 (lv_at hl 1 rfl) ?_
  refine lv_iload_n hx hb dX6_set_56 rfl (lv_at hl 5 rfl) ?_
  refine x_iast CF hK hI hA hP hS 1 (by decide) dR_1 (74 + k) (by omega) (by decide) v dX6_set_57 (fun H locs hP hS => ?_)
  refine lv_iload hx hb dX6_set_58 (lv_at hl 0 rfl) ?_
  exact x_reti hx hb hr9 hlk9 hS hP (by first | rfl | (show nI (M 1 (74 + k)) = nI (M 1 (74 + k)); first | rfl | omega)) dX6_set_60
set_option maxHeartbeats 4000000 in
set_option maxRecDepth 100000 in
theorem r_set_0_bad {l : Launch} {g : gE} {ad : Nat → Nat} (hI : g_inj ad 14) (M : gMem) (J : gMeL) (hw : wfR M) (k : Nat) (hk : k < M 1 73) (v : Int32) (h : ¬ inR v (4)) : CI l g ad dsR 14 yX6_set cX6_set 6 (some .int) 3 [.ref (ad 0), .int (nI k), .int (nI 0), .int v] M J (nI 4294967295) M J := by
  refine CI.of (plainFor_of_name (by decide)) (Nat.le_of_ble_eq_true rfl) (fun p9 e9 s9 m9 args9 below9 meth9 c9 CF hK hr9 hlk9 hP hS ls hl => ?_)
  have hx := CF.1
  have hb := CF.2.1
  have hA : ∀ q, g_A ad 14 q → g_A ad 14 q := fun _ h => h
  have hl : lv_has ls 6 [(0, .ref (ad 0)), (1, .int (nI k)), (2, .int (nI 0)), (3, .int v)] := hl
  have hnc := hw.nc
  have hnf := hw.nf
  have hwy := hw.way
  refine lv_aload_n hx hb dX6_set_0 rfl (lv_at hl 0 rfl) ?_
  refine lv_iload_n hx hb dX6_set_1 rfl (lv_at hl 1 rfl) ?_
  refine x_callVI CF hK hP hS hA hl (As := [.int (nI k)]) (rest := []) (r_isFigure_t hI M J k (by omega) (by omega)) kw_X6_isFigure wd3_196 (by decide) dR_0 rfl rfl ⟨Nat.le_of_ble_eq_true rfl, Nat.le_of_ble_eq_true rfl⟩ ⟨Nat.le_refl _, Nat.le_refl _⟩ (Nat.le_of_ble_eq_true rfl) dX6_set_2 (fun H locs hP hS => ?_)
  refine x_yeq (u := (1 : Int)) (tgt := 29) hx hb (rfl) dX6_set_5 (by decide) (fun h_1 => (by omega : False).elim) (fun h_1 => ?_)
  refine lv_iload_n hx hb dX6_set_8 rfl (lv_at hl 2 rfl) ?_
  refine lv_i2l hx hb dX6_set_9 (nI_l (by omega)) ?_
  refine lv_lconst (v := (0 : Int64)) hx hb dX6_set_10 rfl ?_
  refine lv_ldc2 hx hb CF.2.2.2.1 (CF.2.2.2.2 _ (List.mem_cons_of_mem _ wd3_191)) dX6_set_11 ?_
  refine x_callSP CF hK hP hS hl (As := [.long (lN 0), .long (0 : Int64), .long (3 : Int64)]) (rest := []) (r_in_t _ _ _ (il_in (lo := 0) (hi := 3) (by omega) (by omega) (by omega))) kw_X6_in wd3_147 rfl ⟨Nat.le_of_ble_eq_true rfl, Nat.le_of_ble_eq_true rfl⟩ ⟨Nat.le_refl _, Nat.le_refl _⟩ (Nat.le_of_ble_eq_true rfl) dX6_set_14 (fun H locs hP hS => ?_)
  refine x_yeq (u := (1 : Int)) (tgt := 29) hx hb (rfl) dX6_set_17 (by decide) (fun h_2 => (by omega : False).elim) (fun h_2 => ?_)
  refine lv_aload_n hx hb dX6_set_20 rfl (lv_at hl 0 rfl) ?_
  refine lv_iload_n hx hb dX6_set_21 rfl (lv_at hl 2 rfl) ?_
  refine lv_iload_n hx hb dX6_set_22 rfl (lv_at hl 3 rfl) ?_
  rcases n_int (x := v) (n := 4) (by omega) with ⟨v1, h_v1, rfl⟩ | ho_v
  · refine x_callVI CF hK hP hS hA hl (As := [.int (nI 0), .int (nI v1)]) (rest := []) (r_isGood_0_t hI M J hw v1 (by omega)) kw_X6_isGood wd3_187 (by decide) dR_0 rfl rfl ⟨Nat.le_of_ble_eq_true rfl, Nat.le_of_ble_eq_true rfl⟩ ⟨Nat.le_refl _, Nat.le_refl _⟩ (Nat.le_of_ble_eq_true rfl) dX6_set_23 (fun H locs hP hS => ?_)
    refine x_yne (u := (1 : Int)) (tgt := 31) hx hb (rfl) dX6_set_26 (by decide) (fun h_3 => ?_) (fun h_3 => (by omega : False).elim)
    exact absurd (inR_n h_v1 (by decide)) h
  · refine x_callVI CF hK hP hS hA hl (As := [.int (nI 0), .int v]) (rest := []) (r_isGood_0_f hI M J hw v ho_v) kw_X6_isGood wd3_187 (by decide) dR_0 rfl rfl ⟨Nat.le_of_ble_eq_true rfl, Nat.le_of_ble_eq_true rfl⟩ ⟨Nat.le_refl _, Nat.le_refl _⟩ (Nat.le_of_ble_eq_true rfl) dX6_set_23 (fun H locs hP hS => ?_)
    refine x_yne (u := (0 : Int)) (tgt := 31) hx hb (rfl) dX6_set_26 (by decide) (fun h_4 => (by omega : False).elim) (fun h_4 => ?_)
    refine lv_iconst (v := nI 4294967295) hx hb dX6_set_29 (by decide) ?_
    exact x_reti hx hb hr9 hlk9 hS hP (by first | rfl | (show nI 4294967295 = nI 4294967295; first | rfl | omega)) dX6_set_30
set_option maxHeartbeats 4000000 in
set_option maxRecDepth 100000 in
theorem r_set_1 {l : Launch} {g : gE} {ad : Nat → Nat} (hI : g_inj ad 14) (M : gMem) (J : gMeL) (hw : wfR M) (k v : Nat) (hk : k < M 1 73) (hv : v < M 1 0) : CI l g ad dsR 14 yX6_set cX6_set 6 (some .int) 3 [.ref (ad 0), .int (nI k), .int (nI 1), .int (nI v)] M J (nI (M 1 (79 + k))) (u2 M 1 (79 + k) v) J := by
  refine CI.of (plainFor_of_name (by decide)) (Nat.le_of_ble_eq_true rfl) (fun p9 e9 s9 m9 args9 below9 meth9 c9 CF hK hr9 hlk9 hP hS ls hl => ?_)
  have hx := CF.1
  have hb := CF.2.1
  have hA : ∀ q, g_A ad 14 q → g_A ad 14 q := fun _ h => h
  have hl : lv_has ls 6 [(0, .ref (ad 0)), (1, .int (nI k)), (2, .int (nI 1)), (3, .int (nI v))] := hl
  have hnc := hw.nc
  have hnf := hw.nf
  have hwy := hw.way
  refine lv_aload_n hx hb dX6_set_0 rfl (lv_at hl 0 rfl) ?_
  refine lv_iload_n hx hb dX6_set_1 rfl (lv_at hl 1 rfl) ?_
  refine x_callVI CF hK hP hS hA hl (As := [.int (nI k)]) (rest := []) (r_isFigure_t hI M J k (by omega) (by omega)) kw_X6_isFigure wd3_196 (by decide) dR_0 rfl rfl ⟨Nat.le_of_ble_eq_true rfl, Nat.le_of_ble_eq_true rfl⟩ ⟨Nat.le_refl _, Nat.le_refl _⟩ (Nat.le_of_ble_eq_true rfl) dX6_set_2 (fun H locs hP hS => ?_)
  refine x_yeq (u := (1 : Int)) (tgt := 29) hx hb (rfl) dX6_set_5 (by decide) (fun h_1 => (by omega : False).elim) (fun h_1 => ?_)
  refine lv_iload_n hx hb dX6_set_8 rfl (lv_at hl 2 rfl) ?_
  refine lv_i2l hx hb dX6_set_9 (nI_l (by omega)) ?_
  refine lv_lconst (v := (0 : Int64)) hx hb dX6_set_10 rfl ?_
  refine lv_ldc2 hx hb CF.2.2.2.1 (CF.2.2.2.2 _ (List.mem_cons_of_mem _ wd3_191)) dX6_set_11 ?_
  refine x_callSP CF hK hP hS hl (As := [.long (lN 1), .long (0 : Int64), .long (3 : Int64)]) (rest := []) (r_in_t _ _ _ (il_in (lo := 0) (hi := 3) (by omega) (by omega) (by omega))) kw_X6_in wd3_147 rfl ⟨Nat.le_of_ble_eq_true rfl, Nat.le_of_ble_eq_true rfl⟩ ⟨Nat.le_refl _, Nat.le_refl _⟩ (Nat.le_of_ble_eq_true rfl) dX6_set_14 (fun H locs hP hS => ?_)
  refine x_yeq (u := (1 : Int)) (tgt := 29) hx hb (rfl) dX6_set_17 (by decide) (fun h_2 => (by omega : False).elim) (fun h_2 => ?_)
  refine lv_aload_n hx hb dX6_set_20 rfl (lv_at hl 0 rfl) ?_
  refine lv_iload_n hx hb dX6_set_21 rfl (lv_at hl 2 rfl) ?_
  refine lv_iload_n hx hb dX6_set_22 rfl (lv_at hl 3 rfl) ?_
  refine x_callVI CF hK hP hS hA hl (As := [.int (nI 1), .int (nI v)]) (rest := []) (r_isGood_1_t hI M J hw v (by omega)) kw_X6_isGood wd3_187 (by decide) dR_0 rfl rfl ⟨Nat.le_of_ble_eq_true rfl, Nat.le_of_ble_eq_true rfl⟩ ⟨Nat.le_refl _, Nat.le_refl _⟩ (Nat.le_of_ble_eq_true rfl) dX6_set_23 (fun H locs hP hS => ?_)
  refine x_yne (u := (1 : Int)) (tgt := 31) hx hb (rfl) dX6_set_26 (by decide) (fun h_3 => ?_) (fun h_3 => (by omega : False).elim)
  refine lv_bipush (v := nI 74) hx hb dX6_set_31 (by decide) ?_
  refine lv_iconst (v := nI 5) hx hb dX6_set_33 (by decide) ?_
  refine lv_iload_n hx hb dX6_set_34 rfl (lv_at hl 2 rfl) ?_
  refine x_imul hx hb dX6_set_35 ?_
  refine x_iadd hx hb dX6_set_36 ?_
  refine x_ri (show (nI (74 + (5 * 1))) = nI 79 from rfl) ?_
  refine lv_iload_n hx hb dX6_set_37 rfl (lv_at hl 1 rfl) ?_
  refine x_iadd hx hb dX6_set_38 ?_
  refine lv_istore (lv' := [(4, .int (nI (79 + k))), (0, .ref (ad 0)), (1, .int (nI k)), (2, .int (nI 1)), (3, .int (nI v))]) hx hb dX6_set_39 hl (by decide) rfl (fun ls hl => ?_)
  refine lv_aload_n hx hb dX6_set_41 rfl (lv_at hl 1 rfl) ?_
  refine x_getr CF hK hP 0 (by decide) dR_0 rfl uX6 0 (by decide) (j := 1) rfl wd3_96 rfl dX6_set_42 ?_
  refine lv_iload hx hb dX6_set_45 (lv_at hl 0 rfl) ?_
  refine x_iald CF hK hP 1 (by decide) dR_1 (79 + k) (by omega) (by decide) dX6_set_47 ?_
  refine lv_istore (lv' := [(5, .int (nI (M 1 (79 + k)))), (4, .int (nI (79 + k))), (0, .ref (ad 0)), (1, .int (nI k)), (2, .int (nI 1)), (3, .int (nI v))]) hx hb dX6_set_48 hl (by decide) rfl (fun ls hl => ?_)
  refine lv_aload_n hx hb dX6_set_50 rfl (lv_at hl 2 rfl) ?_
  refine x_getr CF hK hP 0 (by decide) dR_0 rfl uX6 0 (by decide) (j := 1) rfl wd3_96 rfl dX6_set_51 ?_
  refine lv_iload hx hb dX6_set_54 (lv_at hl 1 rfl) ?_
  refine lv_iload_n hx hb dX6_set_56 rfl (lv_at hl 5 rfl) ?_
  refine x_iast CF hK hI hA hP hS 1 (by decide) dR_1 (79 + k) (by omega) (by decide) v dX6_set_57 (fun H locs hP hS => ?_)
  refine lv_iload hx hb dX6_set_58 (lv_at hl 0 rfl) ?_
  exact x_reti hx hb hr9 hlk9 hS hP (by first | rfl | (show nI (M 1 (79 + k)) = nI (M 1 (79 + k)); first | rfl | omega)) dX6_set_60
set_option maxHeartbeats 4000000 in
set_option maxRecDepth 100000 in
theorem r_set_1_bad {l : Launch} {g : gE} {ad : Nat → Nat} (hI : g_inj ad 14) (M : gMem) (J : gMeL) (hw : wfR M) (k : Nat) (hk : k < M 1 73) (v : Int32) (h : ¬ inR v (M 1 0)) : CI l g ad dsR 14 yX6_set cX6_set 6 (some .int) 3 [.ref (ad 0), .int (nI k), .int (nI 1), .int v] M J (nI 4294967295) M J := by
  refine CI.of (plainFor_of_name (by decide)) (Nat.le_of_ble_eq_true rfl) (fun p9 e9 s9 m9 args9 below9 meth9 c9 CF hK hr9 hlk9 hP hS ls hl => ?_)
  have hx := CF.1
  have hb := CF.2.1
  have hA : ∀ q, g_A ad 14 q → g_A ad 14 q := fun _ h => h
  have hl : lv_has ls 6 [(0, .ref (ad 0)), (1, .int (nI k)), (2, .int (nI 1)), (3, .int v)] := hl
  have hnc := hw.nc
  have hnf := hw.nf
  have hwy := hw.way
  refine lv_aload_n hx hb dX6_set_0 rfl (lv_at hl 0 rfl) ?_
  refine lv_iload_n hx hb dX6_set_1 rfl (lv_at hl 1 rfl) ?_
  refine x_callVI CF hK hP hS hA hl (As := [.int (nI k)]) (rest := []) (r_isFigure_t hI M J k (by omega) (by omega)) kw_X6_isFigure wd3_196 (by decide) dR_0 rfl rfl ⟨Nat.le_of_ble_eq_true rfl, Nat.le_of_ble_eq_true rfl⟩ ⟨Nat.le_refl _, Nat.le_refl _⟩ (Nat.le_of_ble_eq_true rfl) dX6_set_2 (fun H locs hP hS => ?_)
  refine x_yeq (u := (1 : Int)) (tgt := 29) hx hb (rfl) dX6_set_5 (by decide) (fun h_1 => (by omega : False).elim) (fun h_1 => ?_)
  refine lv_iload_n hx hb dX6_set_8 rfl (lv_at hl 2 rfl) ?_
  refine lv_i2l hx hb dX6_set_9 (nI_l (by omega)) ?_
  refine lv_lconst (v := (0 : Int64)) hx hb dX6_set_10 rfl ?_
  refine lv_ldc2 hx hb CF.2.2.2.1 (CF.2.2.2.2 _ (List.mem_cons_of_mem _ wd3_191)) dX6_set_11 ?_
  refine x_callSP CF hK hP hS hl (As := [.long (lN 1), .long (0 : Int64), .long (3 : Int64)]) (rest := []) (r_in_t _ _ _ (il_in (lo := 0) (hi := 3) (by omega) (by omega) (by omega))) kw_X6_in wd3_147 rfl ⟨Nat.le_of_ble_eq_true rfl, Nat.le_of_ble_eq_true rfl⟩ ⟨Nat.le_refl _, Nat.le_refl _⟩ (Nat.le_of_ble_eq_true rfl) dX6_set_14 (fun H locs hP hS => ?_)
  refine x_yeq (u := (1 : Int)) (tgt := 29) hx hb (rfl) dX6_set_17 (by decide) (fun h_2 => (by omega : False).elim) (fun h_2 => ?_)
  refine lv_aload_n hx hb dX6_set_20 rfl (lv_at hl 0 rfl) ?_
  refine lv_iload_n hx hb dX6_set_21 rfl (lv_at hl 2 rfl) ?_
  refine lv_iload_n hx hb dX6_set_22 rfl (lv_at hl 3 rfl) ?_
  rcases n_int (x := v) (n := M 1 0) (by omega) with ⟨v1, h_v1, rfl⟩ | ho_v
  · refine x_callVI CF hK hP hS hA hl (As := [.int (nI 1), .int (nI v1)]) (rest := []) (r_isGood_1_t hI M J hw v1 (by omega)) kw_X6_isGood wd3_187 (by decide) dR_0 rfl rfl ⟨Nat.le_of_ble_eq_true rfl, Nat.le_of_ble_eq_true rfl⟩ ⟨Nat.le_refl _, Nat.le_refl _⟩ (Nat.le_of_ble_eq_true rfl) dX6_set_23 (fun H locs hP hS => ?_)
    refine x_yne (u := (1 : Int)) (tgt := 31) hx hb (rfl) dX6_set_26 (by decide) (fun h_3 => ?_) (fun h_3 => (by omega : False).elim)
    exact absurd (inR_n h_v1 (by omega)) h
  · refine x_callVI CF hK hP hS hA hl (As := [.int (nI 1), .int v]) (rest := []) (r_isGood_1_f hI M J hw v ho_v) kw_X6_isGood wd3_187 (by decide) dR_0 rfl rfl ⟨Nat.le_of_ble_eq_true rfl, Nat.le_of_ble_eq_true rfl⟩ ⟨Nat.le_refl _, Nat.le_refl _⟩ (Nat.le_of_ble_eq_true rfl) dX6_set_23 (fun H locs hP hS => ?_)
    refine x_yne (u := (0 : Int)) (tgt := 31) hx hb (rfl) dX6_set_26 (by decide) (fun h_4 => (by omega : False).elim) (fun h_4 => ?_)
    refine lv_iconst (v := nI 4294967295) hx hb dX6_set_29 (by decide) ?_
    exact x_reti hx hb hr9 hlk9 hS hP (by first | rfl | (show nI 4294967295 = nI 4294967295; first | rfl | omega)) dX6_set_30
set_option maxHeartbeats 4000000 in
set_option maxRecDepth 100000 in
theorem r_set_2 {l : Launch} {g : gE} {ad : Nat → Nat} (hI : g_inj ad 14) (M : gMem) (J : gMeL) (hw : wfR M) (k v : Nat) (hk : k < M 1 73) (hv : v < 12) : CI l g ad dsR 14 yX6_set cX6_set 6 (some .int) 3 [.ref (ad 0), .int (nI k), .int (nI 2), .int (nI v)] M J (nI (M 1 (84 + k))) (u2 M 1 (84 + k) v) J := by
  refine CI.of (plainFor_of_name (by decide)) (Nat.le_of_ble_eq_true rfl) (fun p9 e9 s9 m9 args9 below9 meth9 c9 CF hK hr9 hlk9 hP hS ls hl => ?_)
  have hx := CF.1
  have hb := CF.2.1
  have hA : ∀ q, g_A ad 14 q → g_A ad 14 q := fun _ h => h
  have hl : lv_has ls 6 [(0, .ref (ad 0)), (1, .int (nI k)), (2, .int (nI 2)), (3, .int (nI v))] := hl
  have hnc := hw.nc
  have hnf := hw.nf
  have hwy := hw.way
  refine lv_aload_n hx hb dX6_set_0 rfl (lv_at hl 0 rfl) ?_
  refine lv_iload_n hx hb dX6_set_1 rfl (lv_at hl 1 rfl) ?_
  refine x_callVI CF hK hP hS hA hl (As := [.int (nI k)]) (rest := []) (r_isFigure_t hI M J k (by omega) (by omega)) kw_X6_isFigure wd3_196 (by decide) dR_0 rfl rfl ⟨Nat.le_of_ble_eq_true rfl, Nat.le_of_ble_eq_true rfl⟩ ⟨Nat.le_refl _, Nat.le_refl _⟩ (Nat.le_of_ble_eq_true rfl) dX6_set_2 (fun H locs hP hS => ?_)
  refine x_yeq (u := (1 : Int)) (tgt := 29) hx hb (rfl) dX6_set_5 (by decide) (fun h_1 => (by omega : False).elim) (fun h_1 => ?_)
  refine lv_iload_n hx hb dX6_set_8 rfl (lv_at hl 2 rfl) ?_
  refine lv_i2l hx hb dX6_set_9 (nI_l (by omega)) ?_
  refine lv_lconst (v := (0 : Int64)) hx hb dX6_set_10 rfl ?_
  refine lv_ldc2 hx hb CF.2.2.2.1 (CF.2.2.2.2 _ (List.mem_cons_of_mem _ wd3_191)) dX6_set_11 ?_
  refine x_callSP CF hK hP hS hl (As := [.long (lN 2), .long (0 : Int64), .long (3 : Int64)]) (rest := []) (r_in_t _ _ _ (il_in (lo := 0) (hi := 3) (by omega) (by omega) (by omega))) kw_X6_in wd3_147 rfl ⟨Nat.le_of_ble_eq_true rfl, Nat.le_of_ble_eq_true rfl⟩ ⟨Nat.le_refl _, Nat.le_refl _⟩ (Nat.le_of_ble_eq_true rfl) dX6_set_14 (fun H locs hP hS => ?_)
  refine x_yeq (u := (1 : Int)) (tgt := 29) hx hb (rfl) dX6_set_17 (by decide) (fun h_2 => (by omega : False).elim) (fun h_2 => ?_)
  refine lv_aload_n hx hb dX6_set_20 rfl (lv_at hl 0 rfl) ?_
  refine lv_iload_n hx hb dX6_set_21 rfl (lv_at hl 2 rfl) ?_
  refine lv_iload_n hx hb dX6_set_22 rfl (lv_at hl 3 rfl) ?_
  refine x_callVI CF hK hP hS hA hl (As := [.int (nI 2), .int (nI v)]) (rest := []) (r_isGood_2_t hI M J hw v (by omega)) kw_X6_isGood wd3_187 (by decide) dR_0 rfl rfl ⟨Nat.le_of_ble_eq_true rfl, Nat.le_of_ble_eq_true rfl⟩ ⟨Nat.le_refl _, Nat.le_refl _⟩ (Nat.le_of_ble_eq_true rfl) dX6_set_23 (fun H locs hP hS => ?_)
  refine x_yne (u := (1 : Int)) (tgt := 31) hx hb (rfl) dX6_set_26 (by decide) (fun h_3 => ?_) (fun h_3 => (by omega : False).elim)
  refine lv_bipush (v := nI 74) hx hb dX6_set_31 (by decide) ?_
  refine lv_iconst (v := nI 5) hx hb dX6_set_33 (by decide) ?_
  refine lv_iload_n hx hb dX6_set_34 rfl (lv_at hl 2 rfl) ?_
  refine x_imul hx hb dX6_set_35 ?_
  refine x_iadd hx hb dX6_set_36 ?_
  refine x_ri (show (nI (74 + (5 * 2))) = nI 84 from rfl) ?_
  refine lv_iload_n hx hb dX6_set_37 rfl (lv_at hl 1 rfl) ?_
  refine x_iadd hx hb dX6_set_38 ?_
  refine lv_istore (lv' := [(4, .int (nI (84 + k))), (0, .ref (ad 0)), (1, .int (nI k)), (2, .int (nI 2)), (3, .int (nI v))]) hx hb dX6_set_39 hl (by decide) rfl (fun ls hl => ?_)
  refine lv_aload_n hx hb dX6_set_41 rfl (lv_at hl 1 rfl) ?_
  refine x_getr CF hK hP 0 (by decide) dR_0 rfl uX6 0 (by decide) (j := 1) rfl wd3_96 rfl dX6_set_42 ?_
  refine lv_iload hx hb dX6_set_45 (lv_at hl 0 rfl) ?_
  refine x_iald CF hK hP 1 (by decide) dR_1 (84 + k) (by omega) (by decide) dX6_set_47 ?_
  refine lv_istore (lv' := [(5, .int (nI (M 1 (84 + k)))), (4, .int (nI (84 + k))), (0, .ref (ad 0)), (1, .int (nI k)), (2, .int (nI 2)), (3, .int (nI v))]) hx hb dX6_set_48 hl (by decide) rfl (fun ls hl => ?_)
  refine lv_aload_n hx hb dX6_set_50 rfl (lv_at hl 2 rfl) ?_
  refine x_getr CF hK hP 0 (by decide) dR_0 rfl uX6 0 (by decide) (j := 1) rfl wd3_96 rfl dX6_set_51 ?_
  refine lv_iload hx hb dX6_set_54 (lv_at hl 1 rfl) ?_
  refine lv_iload_n hx hb dX6_set_56 rfl (lv_at hl 5 rfl) ?_
  refine x_iast CF hK hI hA hP hS 1 (by decide) dR_1 (84 + k) (by omega) (by decide) v dX6_set_57 (fun H locs hP hS => ?_)
  refine lv_iload hx hb dX6_set_58 (lv_at hl 0 rfl) ?_
  exact x_reti hx hb hr9 hlk9 hS hP (by first | rfl | (show nI (M 1 (84 + k)) = nI (M 1 (84 + k)); first | rfl | omega)) dX6_set_60
set_option maxHeartbeats 4000000 in
set_option maxRecDepth 100000 in
theorem r_set_2_bad {l : Launch} {g : gE} {ad : Nat → Nat} (hI : g_inj ad 14) (M : gMem) (J : gMeL) (hw : wfR M) (k : Nat) (hk : k < M 1 73) (v : Int32) (h : ¬ inR v (12)) : CI l g ad dsR 14 yX6_set cX6_set 6 (some .int) 3 [.ref (ad 0), .int (nI k), .int (nI 2), .int v] M J (nI 4294967295) M J := by
  refine CI.of (plainFor_of_name (by decide)) (Nat.le_of_ble_eq_true rfl) (fun p9 e9 s9 m9 args9 below9 meth9 c9 CF hK hr9 hlk9 hP hS ls hl => ?_)
  have hx := CF.1
  have hb := CF.2.1
  have hA : ∀ q, g_A ad 14 q → g_A ad 14 q := fun _ h => h
  have hl : lv_has ls 6 [(0, .ref (ad 0)), (1, .int (nI k)), (2, .int (nI 2)), (3, .int v)] := hl
  have hnc := hw.nc
  have hnf := hw.nf
  have hwy := hw.way
  refine lv_aload_n hx hb dX6_set_0 rfl (lv_at hl 0 rfl) ?_
  refine lv_iload_n hx hb dX6_set_1 rfl (lv_at hl 1 rfl) ?_
  refine x_callVI CF hK hP hS hA hl (As := [.int (nI k)]) (rest := []) (r_isFigure_t hI M J k (by omega) (by omega)) kw_X6_isFigure wd3_196 (by decide) dR_0 rfl rfl ⟨Nat.le_of_ble_eq_true rfl, Nat.le_of_ble_eq_true rfl⟩ ⟨Nat.le_refl _, Nat.le_refl _⟩ (Nat.le_of_ble_eq_true rfl) dX6_set_2 (fun H locs hP hS => ?_)
  refine x_yeq (u := (1 : Int)) (tgt := 29) hx hb (rfl) dX6_set_5 (by decide) (fun h_1 => (by omega : False).elim) (fun h_1 => ?_)
  refine lv_iload_n hx hb dX6_set_8 rfl (lv_at hl 2 rfl) ?_
  refine lv_i2l hx hb dX6_set_9 (nI_l (by omega)) ?_
  refine lv_lconst (v := (0 : Int64)) hx hb dX6_set_10 rfl ?_
  refine lv_ldc2 hx hb CF.2.2.2.1 (CF.2.2.2.2 _ (List.mem_cons_of_mem _ wd3_191)) dX6_set_11 ?_
  refine x_callSP CF hK hP hS hl (As := [.long (lN 2), .long (0 : Int64), .long (3 : Int64)]) (rest := []) (r_in_t _ _ _ (il_in (lo := 0) (hi := 3) (by omega) (by omega) (by omega))) kw_X6_in wd3_147 rfl ⟨Nat.le_of_ble_eq_true rfl, Nat.le_of_ble_eq_true rfl⟩ ⟨Nat.le_refl _, Nat.le_refl _⟩ (Nat.le_of_ble_eq_true rfl) dX6_set_14 (fun H locs hP hS => ?_)
  refine x_yeq (u := (1 : Int)) (tgt := 29) hx hb (rfl) dX6_set_17 (by decide) (fun h_2 => (by omega : False).elim) (fun h_2 => ?_)
  refine lv_aload_n hx hb dX6_set_20 rfl (lv_at hl 0 rfl) ?_
  refine lv_iload_n hx hb dX6_set_21 rfl (lv_at hl 2 rfl) ?_
  refine lv_iload_n hx hb dX6_set_22 rfl (lv_at hl 3 rfl) ?_
  rcases n_int (x := v) (n := 12) (by omega) with ⟨v1, h_v1, rfl⟩ | ho_v
  · refine x_callVI CF hK hP hS hA hl (As := [.int (nI 2), .int (nI v1)]) (rest := []) (r_isGood_2_t hI M J hw v1 (by omega)) kw_X6_isGood wd3_187 (by decide) dR_0 rfl rfl ⟨Nat.le_of_ble_eq_true rfl, Nat.le_of_ble_eq_true rfl⟩ ⟨Nat.le_refl _, Nat.le_refl _⟩ (Nat.le_of_ble_eq_true rfl) dX6_set_23 (fun H locs hP hS => ?_)
    refine x_yne (u := (1 : Int)) (tgt := 31) hx hb (rfl) dX6_set_26 (by decide) (fun h_3 => ?_) (fun h_3 => (by omega : False).elim)
    exact absurd (inR_n h_v1 (by decide)) h
  · refine x_callVI CF hK hP hS hA hl (As := [.int (nI 2), .int v]) (rest := []) (r_isGood_2_f hI M J hw v ho_v) kw_X6_isGood wd3_187 (by decide) dR_0 rfl rfl ⟨Nat.le_of_ble_eq_true rfl, Nat.le_of_ble_eq_true rfl⟩ ⟨Nat.le_refl _, Nat.le_refl _⟩ (Nat.le_of_ble_eq_true rfl) dX6_set_23 (fun H locs hP hS => ?_)
    refine x_yne (u := (0 : Int)) (tgt := 31) hx hb (rfl) dX6_set_26 (by decide) (fun h_4 => (by omega : False).elim) (fun h_4 => ?_)
    refine lv_iconst (v := nI 4294967295) hx hb dX6_set_29 (by decide) ?_
    exact x_reti hx hb hr9 hlk9 hS hP (by first | rfl | (show nI 4294967295 = nI 4294967295; first | rfl | omega)) dX6_set_30
set_option maxHeartbeats 4000000 in
set_option maxRecDepth 100000 in
theorem r_set_3 {l : Launch} {g : gE} {ad : Nat → Nat} (hI : g_inj ad 14) (M : gMem) (J : gMeL) (hw : wfR M) (k v : Nat) (hk : k < M 1 73) (hv : v < 4) : CI l g ad dsR 14 yX6_set cX6_set 6 (some .int) 3 [.ref (ad 0), .int (nI k), .int (nI 3), .int (nI v)] M J (nI (M 1 (89 + k))) (u2 M 1 (89 + k) v) J := by
  refine CI.of (plainFor_of_name (by decide)) (Nat.le_of_ble_eq_true rfl) (fun p9 e9 s9 m9 args9 below9 meth9 c9 CF hK hr9 hlk9 hP hS ls hl => ?_)
  have hx := CF.1
  have hb := CF.2.1
  have hA : ∀ q, g_A ad 14 q → g_A ad 14 q := fun _ h => h
  have hl : lv_has ls 6 [(0, .ref (ad 0)), (1, .int (nI k)), (2, .int (nI 3)), (3, .int (nI v))] := hl
  have hnc := hw.nc
  have hnf := hw.nf
  have hwy := hw.way
  refine lv_aload_n hx hb dX6_set_0 rfl (lv_at hl 0 rfl) ?_
  refine lv_iload_n hx hb dX6_set_1 rfl (lv_at hl 1 rfl) ?_
  refine x_callVI CF hK hP hS hA hl (As := [.int (nI k)]) (rest := []) (r_isFigure_t hI M J k (by omega) (by omega)) kw_X6_isFigure wd3_196 (by decide) dR_0 rfl rfl ⟨Nat.le_of_ble_eq_true rfl, Nat.le_of_ble_eq_true rfl⟩ ⟨Nat.le_refl _, Nat.le_refl _⟩ (Nat.le_of_ble_eq_true rfl) dX6_set_2 (fun H locs hP hS => ?_)
  refine x_yeq (u := (1 : Int)) (tgt := 29) hx hb (rfl) dX6_set_5 (by decide) (fun h_1 => (by omega : False).elim) (fun h_1 => ?_)
  refine lv_iload_n hx hb dX6_set_8 rfl (lv_at hl 2 rfl) ?_
  refine lv_i2l hx hb dX6_set_9 (nI_l (by omega)) ?_
  refine lv_lconst (v := (0 : Int64)) hx hb dX6_set_10 rfl ?_
  refine lv_ldc2 hx hb CF.2.2.2.1 (CF.2.2.2.2 _ (List.mem_cons_of_mem _ wd3_191)) dX6_set_11 ?_
  refine x_callSP CF hK hP hS hl (As := [.long (lN 3), .long (0 : Int64), .long (3 : Int64)]) (rest := []) (r_in_t _ _ _ (il_in (lo := 0) (hi := 3) (by omega) (by omega) (by omega))) kw_X6_in wd3_147 rfl ⟨Nat.le_of_ble_eq_true rfl, Nat.le_of_ble_eq_true rfl⟩ ⟨Nat.le_refl _, Nat.le_refl _⟩ (Nat.le_of_ble_eq_true rfl) dX6_set_14 (fun H locs hP hS => ?_)
  refine x_yeq (u := (1 : Int)) (tgt := 29) hx hb (rfl) dX6_set_17 (by decide) (fun h_2 => (by omega : False).elim) (fun h_2 => ?_)
  refine lv_aload_n hx hb dX6_set_20 rfl (lv_at hl 0 rfl) ?_
  refine lv_iload_n hx hb dX6_set_21 rfl (lv_at hl 2 rfl) ?_
  refine lv_iload_n hx hb dX6_set_22 rfl (lv_at hl 3 rfl) ?_
  refine x_callVI CF hK hP hS hA hl (As := [.int (nI 3), .int (nI v)]) (rest := []) (r_isGood_3_t hI M J hw v (by omega)) kw_X6_isGood wd3_187 (by decide) dR_0 rfl rfl ⟨Nat.le_of_ble_eq_true rfl, Nat.le_of_ble_eq_true rfl⟩ ⟨Nat.le_refl _, Nat.le_refl _⟩ (Nat.le_of_ble_eq_true rfl) dX6_set_23 (fun H locs hP hS => ?_)
  refine x_yne (u := (1 : Int)) (tgt := 31) hx hb (rfl) dX6_set_26 (by decide) (fun h_3 => ?_) (fun h_3 => (by omega : False).elim)
  refine lv_bipush (v := nI 74) hx hb dX6_set_31 (by decide) ?_
  refine lv_iconst (v := nI 5) hx hb dX6_set_33 (by decide) ?_
  refine lv_iload_n hx hb dX6_set_34 rfl (lv_at hl 2 rfl) ?_
  refine x_imul hx hb dX6_set_35 ?_
  refine x_iadd hx hb dX6_set_36 ?_
  refine x_ri (show (nI (74 + (5 * 3))) = nI 89 from rfl) ?_
  refine lv_iload_n hx hb dX6_set_37 rfl (lv_at hl 1 rfl) ?_
  refine x_iadd hx hb dX6_set_38 ?_
  refine lv_istore (lv' := [(4, .int (nI (89 + k))), (0, .ref (ad 0)), (1, .int (nI k)), (2, .int (nI 3)), (3, .int (nI v))]) hx hb dX6_set_39 hl (by decide) rfl (fun ls hl => ?_)
  refine lv_aload_n hx hb dX6_set_41 rfl (lv_at hl 1 rfl) ?_
  refine x_getr CF hK hP 0 (by decide) dR_0 rfl uX6 0 (by decide) (j := 1) rfl wd3_96 rfl dX6_set_42 ?_
  refine lv_iload hx hb dX6_set_45 (lv_at hl 0 rfl) ?_
  refine x_iald CF hK hP 1 (by decide) dR_1 (89 + k) (by omega) (by decide) dX6_set_47 ?_
  refine lv_istore (lv' := [(5, .int (nI (M 1 (89 + k)))), (4, .int (nI (89 + k))), (0, .ref (ad 0)), (1, .int (nI k)), (2, .int (nI 3)), (3, .int (nI v))]) hx hb dX6_set_48 hl (by decide) rfl (fun ls hl => ?_)
  refine lv_aload_n hx hb dX6_set_50 rfl (lv_at hl 2 rfl) ?_
  refine x_getr CF hK hP 0 (by decide) dR_0 rfl uX6 0 (by decide) (j := 1) rfl wd3_96 rfl dX6_set_51 ?_
  refine lv_iload hx hb dX6_set_54 (lv_at hl 1 rfl) ?_
  refine lv_iload_n hx hb dX6_set_56 rfl (lv_at hl 5 rfl) ?_
  refine x_iast CF hK hI hA hP hS 1 (by decide) dR_1 (89 + k) (by omega) (by decide) v dX6_set_57 (fun H locs hP hS => ?_)
  refine lv_iload hx hb dX6_set_58 (lv_at hl 0 rfl) ?_
  exact x_reti hx hb hr9 hlk9 hS hP (by first | rfl | (show nI (M 1 (89 + k)) = nI (M 1 (89 + k)); first | rfl | omega)) dX6_set_60
set_option maxHeartbeats 4000000 in
set_option maxRecDepth 100000 in
theorem r_set_3_bad {l : Launch} {g : gE} {ad : Nat → Nat} (hI : g_inj ad 14) (M : gMem) (J : gMeL) (hw : wfR M) (k : Nat) (hk : k < M 1 73) (v : Int32) (h : ¬ inR v (4)) : CI l g ad dsR 14 yX6_set cX6_set 6 (some .int) 3 [.ref (ad 0), .int (nI k), .int (nI 3), .int v] M J (nI 4294967295) M J := by
  refine CI.of (plainFor_of_name (by decide)) (Nat.le_of_ble_eq_true rfl) (fun p9 e9 s9 m9 args9 below9 meth9 c9 CF hK hr9 hlk9 hP hS ls hl => ?_)
  have hx := CF.1
  have hb := CF.2.1
  have hA : ∀ q, g_A ad 14 q → g_A ad 14 q := fun _ h => h
  have hl : lv_has ls 6 [(0, .ref (ad 0)), (1, .int (nI k)), (2, .int (nI 3)), (3, .int v)] := hl
  have hnc := hw.nc
  have hnf := hw.nf
  have hwy := hw.way
  refine lv_aload_n hx hb dX6_set_0 rfl (lv_at hl 0 rfl) ?_
  refine lv_iload_n hx hb dX6_set_1 rfl (lv_at hl 1 rfl) ?_
  refine x_callVI CF hK hP hS hA hl (As := [.int (nI k)]) (rest := []) (r_isFigure_t hI M J k (by omega) (by omega)) kw_X6_isFigure wd3_196 (by decide) dR_0 rfl rfl ⟨Nat.le_of_ble_eq_true rfl, Nat.le_of_ble_eq_true rfl⟩ ⟨Nat.le_refl _, Nat.le_refl _⟩ (Nat.le_of_ble_eq_true rfl) dX6_set_2 (fun H locs hP hS => ?_)
  refine x_yeq (u := (1 : Int)) (tgt := 29) hx hb (rfl) dX6_set_5 (by decide) (fun h_1 => (by omega : False).elim) (fun h_1 => ?_)
  refine lv_iload_n hx hb dX6_set_8 rfl (lv_at hl 2 rfl) ?_
  refine lv_i2l hx hb dX6_set_9 (nI_l (by omega)) ?_
  refine lv_lconst (v := (0 : Int64)) hx hb dX6_set_10 rfl ?_
  refine lv_ldc2 hx hb CF.2.2.2.1 (CF.2.2.2.2 _ (List.mem_cons_of_mem _ wd3_191)) dX6_set_11 ?_
  refine x_callSP CF hK hP hS hl (As := [.long (lN 3), .long (0 : Int64), .long (3 : Int64)]) (rest := []) (r_in_t _ _ _ (il_in (lo := 0) (hi := 3) (by omega) (by omega) (by omega))) kw_X6_in wd3_147 rfl ⟨Nat.le_of_ble_eq_true rfl, Nat.le_of_ble_eq_true rfl⟩ ⟨Nat.le_refl _, Nat.le_refl _⟩ (Nat.le_of_ble_eq_true rfl) dX6_set_14 (fun H locs hP hS => ?_)
  refine x_yeq (u := (1 : Int)) (tgt := 29) hx hb (rfl) dX6_set_17 (by decide) (fun h_2 => (by omega : False).elim) (fun h_2 => ?_)
  refine lv_aload_n hx hb dX6_set_20 rfl (lv_at hl 0 rfl) ?_
  refine lv_iload_n hx hb dX6_set_21 rfl (lv_at hl 2 rfl) ?_
  refine lv_iload_n hx hb dX6_set_22 rfl (lv_at hl 3 rfl) ?_
  rcases n_int (x := v) (n := 4) (by omega) with ⟨v1, h_v1, rfl⟩ | ho_v
  · refine x_callVI CF hK hP hS hA hl (As := [.int (nI 3), .int (nI v1)]) (rest := []) (r_isGood_3_t hI M J hw v1 (by omega)) kw_X6_isGood wd3_187 (by decide) dR_0 rfl rfl ⟨Nat.le_of_ble_eq_true rfl, Nat.le_of_ble_eq_true rfl⟩ ⟨Nat.le_refl _, Nat.le_refl _⟩ (Nat.le_of_ble_eq_true rfl) dX6_set_23 (fun H locs hP hS => ?_)
    refine x_yne (u := (1 : Int)) (tgt := 31) hx hb (rfl) dX6_set_26 (by decide) (fun h_3 => ?_) (fun h_3 => (by omega : False).elim)
    exact absurd (inR_n h_v1 (by decide)) h
  · refine x_callVI CF hK hP hS hA hl (As := [.int (nI 3), .int v]) (rest := []) (r_isGood_3_f hI M J hw v ho_v) kw_X6_isGood wd3_187 (by decide) dR_0 rfl rfl ⟨Nat.le_of_ble_eq_true rfl, Nat.le_of_ble_eq_true rfl⟩ ⟨Nat.le_refl _, Nat.le_refl _⟩ (Nat.le_of_ble_eq_true rfl) dX6_set_23 (fun H locs hP hS => ?_)
    refine x_yne (u := (0 : Int)) (tgt := 31) hx hb (rfl) dX6_set_26 (by decide) (fun h_4 => (by omega : False).elim) (fun h_4 => ?_)
    refine lv_iconst (v := nI 4294967295) hx hb dX6_set_29 (by decide) ?_
    exact x_reti hx hb hr9 hlk9 hS hP (by first | rfl | (show nI 4294967295 = nI 4294967295; first | rfl | omega)) dX6_set_30
set_option maxHeartbeats 4000000 in
set_option maxRecDepth 100000 in
theorem r_set_what {l : Launch} {g : gE} {ad : Nat → Nat} (hI : g_inj ad 14) (M : gMem) (J : gMeL) (hw : wfR M) (k : Nat) (hk : k < M 1 73) (w v : Int32) (h : w.toInt < 0 ∨ ((4 : Nat) : Int) ≤ w.toInt) : CI l g ad dsR 14 yX6_set cX6_set 6 (some .int) 3 [.ref (ad 0), .int (nI k), .int w, .int v] M J (nI 4294967295) M J := by
  refine CI.of (plainFor_of_name (by decide)) (Nat.le_of_ble_eq_true rfl) (fun p9 e9 s9 m9 args9 below9 meth9 c9 CF hK hr9 hlk9 hP hS ls hl => ?_)
  have hx := CF.1
  have hb := CF.2.1
  have hA : ∀ q, g_A ad 14 q → g_A ad 14 q := fun _ h => h
  have hl : lv_has ls 6 [(0, .ref (ad 0)), (1, .int (nI k)), (2, .int w), (3, .int v)] := hl
  have hnc := hw.nc
  have hnf := hw.nf
  have hwy := hw.way
  refine lv_aload_n hx hb dX6_set_0 rfl (lv_at hl 0 rfl) ?_
  refine lv_iload_n hx hb dX6_set_1 rfl (lv_at hl 1 rfl) ?_
  refine x_callVI CF hK hP hS hA hl (As := [.int (nI k)]) (rest := []) (r_isFigure_t hI M J k (by omega) (by omega)) kw_X6_isFigure wd3_196 (by decide) dR_0 rfl rfl ⟨Nat.le_of_ble_eq_true rfl, Nat.le_of_ble_eq_true rfl⟩ ⟨Nat.le_refl _, Nat.le_refl _⟩ (Nat.le_of_ble_eq_true rfl) dX6_set_2 (fun H locs hP hS => ?_)
  refine x_yeq (u := (1 : Int)) (tgt := 29) hx hb (rfl) dX6_set_5 (by decide) (fun h_1 => (by omega : False).elim) (fun h_1 => ?_)
  refine lv_iload_n hx hb dX6_set_8 rfl (lv_at hl 2 rfl) ?_
  refine lv_i2l hx hb dX6_set_9 rfl ?_
  refine lv_lconst (v := (0 : Int64)) hx hb dX6_set_10 rfl ?_
  refine lv_ldc2 hx hb CF.2.2.2.1 (CF.2.2.2.2 _ (List.mem_cons_of_mem _ wd3_191)) dX6_set_11 ?_
  refine x_callSP CF hK hP hS hl (As := [.long w.toInt64, .long (0 : Int64), .long (3 : Int64)]) (rest := []) (r_in_f _ _ _ (il_out (lo := 0) (hi := 3) (by omega) (by omega) (by omega))) kw_X6_in wd3_147 rfl ⟨Nat.le_of_ble_eq_true rfl, Nat.le_of_ble_eq_true rfl⟩ ⟨Nat.le_refl _, Nat.le_refl _⟩ (Nat.le_of_ble_eq_true rfl) dX6_set_14 (fun H locs hP hS => ?_)
  refine x_yeq (u := (0 : Int)) (tgt := 29) hx hb (rfl) dX6_set_17 (by decide) (fun h_2 => ?_) (fun h_2 => (by omega : False).elim)
  refine lv_iconst (v := nI 4294967295) hx hb dX6_set_29 (by decide) ?_
  exact x_reti hx hb hr9 hlk9 hS hP (by first | rfl | (show nI 4294967295 = nI 4294967295; first | rfl | omega)) dX6_set_30
set_option maxHeartbeats 4000000 in
set_option maxRecDepth 100000 in
theorem r_set_fig {l : Launch} {g : gE} {ad : Nat → Nat} (hI : g_inj ad 14) (M : gMem) (J : gMeL) (hw : wfR M) (k w v : Int32) (h : ¬ inR k (M 1 73)) : CI l g ad dsR 14 yX6_set cX6_set 6 (some .int) 3 [.ref (ad 0), .int k, .int w, .int v] M J (nI 4294967295) M J := by
  refine CI.of (plainFor_of_name (by decide)) (Nat.le_of_ble_eq_true rfl) (fun p9 e9 s9 m9 args9 below9 meth9 c9 CF hK hr9 hlk9 hP hS ls hl => ?_)
  have hx := CF.1
  have hb := CF.2.1
  have hA : ∀ q, g_A ad 14 q → g_A ad 14 q := fun _ h => h
  have hl : lv_has ls 6 [(0, .ref (ad 0)), (1, .int k), (2, .int w), (3, .int v)] := hl
  have hnc := hw.nc
  have hnf := hw.nf
  have hwy := hw.way
  refine lv_aload_n hx hb dX6_set_0 rfl (lv_at hl 0 rfl) ?_
  refine lv_iload_n hx hb dX6_set_1 rfl (lv_at hl 1 rfl) ?_
  rcases n_int (x := k) (n := M 1 73) (by omega) with ⟨k1, h_k1, rfl⟩ | ho_k
  · refine x_callVI CF hK hP hS hA hl (As := [.int (nI k1)]) (rest := []) (r_isFigure_t hI M J k1 (by omega) (by omega)) kw_X6_isFigure wd3_196 (by decide) dR_0 rfl rfl ⟨Nat.le_of_ble_eq_true rfl, Nat.le_of_ble_eq_true rfl⟩ ⟨Nat.le_refl _, Nat.le_refl _⟩ (Nat.le_of_ble_eq_true rfl) dX6_set_2 (fun H locs hP hS => ?_)
    refine x_yeq (u := (1 : Int)) (tgt := 29) hx hb (rfl) dX6_set_5 (by decide) (fun h_1 => (by omega : False).elim) (fun h_1 => ?_)
    exact absurd (inR_n h_k1 (by omega)) h
  · refine x_callVI CF hK hP hS hA hl (As := [.int k]) (rest := []) (r_isFigure_f hI M J k ho_k (by omega)) kw_X6_isFigure wd3_196 (by decide) dR_0 rfl rfl ⟨Nat.le_of_ble_eq_true rfl, Nat.le_of_ble_eq_true rfl⟩ ⟨Nat.le_refl _, Nat.le_refl _⟩ (Nat.le_of_ble_eq_true rfl) dX6_set_2 (fun H locs hP hS => ?_)
    refine x_yeq (u := (0 : Int)) (tgt := 29) hx hb (rfl) dX6_set_5 (by decide) (fun h_2 => ?_) (fun h_2 => (by omega : False).elim)
    refine lv_iconst (v := nI 4294967295) hx hb dX6_set_29 (by decide) ?_
    exact x_reti hx hb hr9 hlk9 hS hP (by first | rfl | (show nI 4294967295 = nI 4294967295; first | rfl | omega)) dX6_set_30
set_option maxHeartbeats 4000000 in
set_option maxRecDepth 100000 in
theorem r_wish_bad {l : Launch} {g : gE} {ad : Nat → Nat} (hI : g_inj ad 14) (M : gMem) (J : gMeL) (hw : wfR M) (k : Int32) (h : ¬ inR k (M 1 73)) : CI l g ad dsR 14 yX6_wish cX6_wish 6 (some .int) 3 [.ref (ad 0), .int k] M J (nI 4294967295) M J := by
  refine CI.of (plainFor_of_name (by decide)) (Nat.le_of_ble_eq_true rfl) (fun p9 e9 s9 m9 args9 below9 meth9 c9 CF hK hr9 hlk9 hP hS ls hl => ?_)
  have hx := CF.1
  have hb := CF.2.1
  have hA : ∀ q, g_A ad 14 q → g_A ad 14 q := fun _ h => h
  have hl : lv_has ls 6 [(0, .ref (ad 0)), (1, .int k)] := hl
  have hnc := hw.nc
  have hnf := hw.nf
  have hwy := hw.way
  refine lv_aload_n hx hb dX6_wish_0 rfl (lv_at hl 0 rfl) ?_
  refine lv_iload_n hx hb dX6_wish_1 rfl (lv_at hl 1 rfl) ?_
  rcases n_int (x := k) (n := M 1 73) (by omega) with ⟨k1, h_k1, rfl⟩ | ho_k
  · refine x_callVI CF hK hP hS hA hl (As := [.int (nI k1)]) (rest := []) (r_isFigure_t hI M J k1 (by omega) (by omega)) kw_X6_isFigure wd3_196 (by decide) dR_0 rfl rfl ⟨Nat.le_of_ble_eq_true rfl, Nat.le_of_ble_eq_true rfl⟩ ⟨Nat.le_refl _, Nat.le_refl _⟩ (Nat.le_of_ble_eq_true rfl) dX6_wish_2 (fun H locs hP hS => ?_)
    refine x_yne (u := (1 : Int)) (tgt := 10) hx hb (rfl) dX6_wish_5 (by decide) (fun h_1 => ?_) (fun h_1 => (by omega : False).elim)
    exact absurd (inR_n h_k1 (by omega)) h
  · refine x_callVI CF hK hP hS hA hl (As := [.int k]) (rest := []) (r_isFigure_f hI M J k ho_k (by omega)) kw_X6_isFigure wd3_196 (by decide) dR_0 rfl rfl ⟨Nat.le_of_ble_eq_true rfl, Nat.le_of_ble_eq_true rfl⟩ ⟨Nat.le_refl _, Nat.le_refl _⟩ (Nat.le_of_ble_eq_true rfl) dX6_wish_2 (fun H locs hP hS => ?_)
    refine x_yne (u := (0 : Int)) (tgt := 10) hx hb (rfl) dX6_wish_5 (by decide) (fun h_2 => (by omega : False).elim) (fun h_2 => ?_)
    refine lv_iconst (v := nI 4294967295) hx hb dX6_wish_8 (by decide) ?_
    exact x_reti hx hb hr9 hlk9 hS hP (by first | rfl | (show nI 4294967295 = nI 4294967295; first | rfl | omega)) dX6_wish_9
set_option maxHeartbeats 4000000 in
set_option maxRecDepth 100000 in
theorem r_wish_flt {l : Launch} {g : gE} {ad : Nat → Nat} (hI : g_inj ad 14) (M : gMem) (J : gMeL) (hw : wfR M) (hlen : M 0 3 ≤ 40) (hby : ∀ q, q < 40 → M 2 q < 256) (k : Nat) (hk : k < M 1 73) (p : Nat) (hp : (rdF (M 2) okw (M 0 3) 0 0 (M 0 3)) = some p) (hp9 : p ≤ 40) : CI l g ad dsR 14 yX6_wish cX6_wish 6 (some .int) 3 [.ref (ad 0), .int (nI k)] M J (nI (4294967276 - p)) (rowN (u2 M 0 3 0) 3 12 (rdS (M 2) okw (fun b => b) 0 0 (M 0 3) (M 3))) J := by
  refine CI.of (plainFor_of_name (by decide)) (Nat.le_of_ble_eq_true rfl) (fun p9 e9 s9 m9 args9 below9 meth9 c9 CF hK hr9 hlk9 hP hS ls hl => ?_)
  have hx := CF.1
  have hb := CF.2.1
  have hA : ∀ q, g_A ad 14 q → g_A ad 14 q := fun _ h => h
  have hl : lv_has ls 6 [(0, .ref (ad 0)), (1, .int (nI k))] := hl
  have hnc := hw.nc
  have hnf := hw.nf
  have hwy := hw.way
  refine lv_aload_n hx hb dX6_wish_0 rfl (lv_at hl 0 rfl) ?_
  refine lv_iload_n hx hb dX6_wish_1 rfl (lv_at hl 1 rfl) ?_
  refine x_callVI CF hK hP hS hA hl (As := [.int (nI k)]) (rest := []) (r_isFigure_t hI M J k (by omega) (by omega)) kw_X6_isFigure wd3_196 (by decide) dR_0 rfl rfl ⟨Nat.le_of_ble_eq_true rfl, Nat.le_of_ble_eq_true rfl⟩ ⟨Nat.le_refl _, Nat.le_refl _⟩ (Nat.le_of_ble_eq_true rfl) dX6_wish_2 (fun H locs hP hS => ?_)
  refine x_yne (u := (1 : Int)) (tgt := 10) hx hb (rfl) dX6_wish_5 (by decide) (fun h_1 => ?_) (fun h_1 => (by omega : False).elim)
  refine lv_aload_n hx hb dX6_wish_10 rfl (lv_at hl 0 rfl) ?_
  refine lv_iconst (v := nI 0) hx hb dX6_wish_11 (by decide) ?_
  refine x_callVI CF hK hP hS hA hl (As := [.int (nI 0)]) (rest := []) (r_takeSigns_w hI M J hlen hby) kw_X6_takeSigns wd3_157 (by decide) dR_0 rfl rfl ⟨Nat.le_of_ble_eq_true rfl, Nat.le_of_ble_eq_true rfl⟩ ⟨Nat.le_refl _, Nat.le_refl _⟩ (Nat.le_of_ble_eq_true rfl) dX6_wish_12 (fun H locs hP hS => ?_)
  refine x_ri (show (nI (flr (rdF (M 2) okw (M 0 3) 0 0 (M 0 3)))) = nI p from by rw [hp]; rfl) ?_
  refine lv_istore_n (lv' := [(2, .int (nI p)), (0, .ref (ad 0)), (1, .int (nI k))]) hx hb dX6_wish_15 rfl hl (by decide) rfl (fun ls hl => ?_)
  refine lv_iload_n hx hb dX6_wish_16 rfl (lv_at hl 0 rfl) ?_
  refine x_ylt (u := (p : Nat)) (tgt := 25) hx hb (nI_toInt (by omega)) dX6_wish_17 (by decide) (fun h_2 => (by omega : False).elim) (fun h_2 => ?_)
  refine lv_bipush (v := nI 4294967276) hx hb dX6_wish_20 (by decide) ?_
  refine lv_iload_n hx hb dX6_wish_22 rfl (lv_at hl 0 rfl) ?_
  refine x_isub hx hb (by omega) dX6_wish_23 ?_
  exact x_reti hx hb hr9 hlk9 hS hP (by first | rfl | (show nI (4294967276 - p) = nI (4294967276 - p); first | rfl | omega)) dX6_wish_24
set_option maxHeartbeats 4000000 in
set_option maxRecDepth 100000 in
theorem r_wish_ok {l : Launch} {g : gE} {ad : Nat → Nat} (hI : g_inj ad 14) (M : gMem) (J : gMeL) (hw : wfR M) (hlen : M 0 3 ≤ 40) (hby : ∀ q, q < 40 → M 2 q < 256) (k : Nat) (hk : k < M 1 73) (hp : (rdF (M 2) okw (M 0 3) 0 0 (M 0 3)) = none) (hs3 : ∀ a, a < 12 → (rowN (u2 M 0 3 0) 3 12 (rdS (M 2) okw (fun b => b) 0 0 (M 0 3) (M 3))) 3 a < 256) : CI l g ad dsR 14 yX6_wish cX6_wish 6 (some .int) 3 [.ref (ad 0), .int (nI k)] M J (nI (pop (setN (fun q => decide ((rowN (u2 M 0 3 0) 3 12 (rdS (M 2) okw (fun b => b) 0 0 (M 0 3) (M 3))) 3 q = 117)) 12 ||| setN (fun q => decide ((rowN (u2 M 0 3 0) 3 12 (rdS (M 2) okw (fun b => b) 0 0 (M 0 3) (M 3))) 3 q = 100)) 12))) (u2 (u2 (rowN (u2 M 0 3 0) 3 12 (rdS (M 2) okw (fun b => b) 0 0 (M 0 3) (M 3))) 1 (94 + k) (setN (fun q => decide ((rowN (u2 M 0 3 0) 3 12 (rdS (M 2) okw (fun b => b) 0 0 (M 0 3) (M 3))) 3 q = 117)) 12)) 1 (99 + k) (setN (fun q => decide ((rowN (u2 M 0 3 0) 3 12 (rdS (M 2) okw (fun b => b) 0 0 (M 0 3) (M 3))) 3 q = 100)) 12)) J := by
  refine CI.of (plainFor_of_name (by decide)) (Nat.le_of_ble_eq_true rfl) (fun p9 e9 s9 m9 args9 below9 meth9 c9 CF hK hr9 hlk9 hP hS ls hl => ?_)
  have hx := CF.1
  have hb := CF.2.1
  have hA : ∀ q, g_A ad 14 q → g_A ad 14 q := fun _ h => h
  have hl : lv_has ls 6 [(0, .ref (ad 0)), (1, .int (nI k))] := hl
  have hnc := hw.nc
  have hnf := hw.nf
  have hwy := hw.way
  refine lv_aload_n hx hb dX6_wish_0 rfl (lv_at hl 0 rfl) ?_
  refine lv_iload_n hx hb dX6_wish_1 rfl (lv_at hl 1 rfl) ?_
  refine x_callVI CF hK hP hS hA hl (As := [.int (nI k)]) (rest := []) (r_isFigure_t hI M J k (by omega) (by omega)) kw_X6_isFigure wd3_196 (by decide) dR_0 rfl rfl ⟨Nat.le_of_ble_eq_true rfl, Nat.le_of_ble_eq_true rfl⟩ ⟨Nat.le_refl _, Nat.le_refl _⟩ (Nat.le_of_ble_eq_true rfl) dX6_wish_2 (fun H locs hP hS => ?_)
  refine x_yne (u := (1 : Int)) (tgt := 10) hx hb (rfl) dX6_wish_5 (by decide) (fun h_1 => ?_) (fun h_1 => (by omega : False).elim)
  refine lv_aload_n hx hb dX6_wish_10 rfl (lv_at hl 0 rfl) ?_
  refine lv_iconst (v := nI 0) hx hb dX6_wish_11 (by decide) ?_
  refine x_callVI CF hK hP hS hA hl (As := [.int (nI 0)]) (rest := []) (r_takeSigns_w hI M J hlen hby) kw_X6_takeSigns wd3_157 (by decide) dR_0 rfl rfl ⟨Nat.le_of_ble_eq_true rfl, Nat.le_of_ble_eq_true rfl⟩ ⟨Nat.le_refl _, Nat.le_refl _⟩ (Nat.le_of_ble_eq_true rfl) dX6_wish_12 (fun H locs hP hS => ?_)
  refine x_ri (show (nI (flr (rdF (M 2) okw (M 0 3) 0 0 (M 0 3)))) = nI 4294967295 from by rw [hp]; rfl) ?_
  refine lv_istore_n (lv' := [(2, .int (nI 4294967295)), (0, .ref (ad 0)), (1, .int (nI k))]) hx hb dX6_wish_15 rfl hl (by decide) rfl (fun ls hl => ?_)
  refine lv_iload_n hx hb dX6_wish_16 rfl (lv_at hl 0 rfl) ?_
  refine x_ylt (u := (-1 : Int)) (tgt := 25) hx hb (rfl) dX6_wish_17 (by decide) (fun h_2 => ?_) (fun h_2 => (by omega : False).elim)
  refine lv_iconst (v := nI 0) hx hb dX6_wish_25 (by decide) ?_
  refine lv_istore_n (lv' := [(3, .int (nI 0)), (2, .int (nI 4294967295)), (0, .ref (ad 0)), (1, .int (nI k))]) hx hb dX6_wish_26 rfl hl (by decide) rfl (fun ls hl => ?_)
  refine lv_iconst (v := nI 0) hx hb dX6_wish_27 (by decide) ?_
  refine lv_istore (lv' := [(4, .int (nI 0)), (3, .int (nI 0)), (2, .int (nI 4294967295)), (0, .ref (ad 0)), (1, .int (nI k))]) hx hb dX6_wish_28 hl (by decide) rfl (fun ls hl => ?_)
  refine lv_iconst (v := nI 0) hx hb dX6_wish_30 (by decide) ?_
  refine lv_istore (lv' := [(5, .int (nI 0)), (4, .int (nI 0)), (3, .int (nI 0)), (2, .int (nI 4294967295)), (0, .ref (ad 0)), (1, .int (nI k))]) hx hb dX6_wish_31 hl (by decide) rfl (fun ls hl => ?_)
  have L33 : ∀ (d33 : Nat) (a : Nat), (a + d33 = 12) → (∀ (H : Heap) (locs : List Loc) (ls : Array Slot), g_P g ad dsR 14 (rowN (u2 M 0 3 0) 3 12 (rdS (M 2) okw (fun b => b) 0 0 (M 0 3) (M 3))) J H → va_S (g_A ad 14) s9.heap H locs → lv_has ls 6 [(5, .int (nI a)), (4, .int (nI (setN (fun q => decide ((rowN (u2 M 0 3 0) 3 12 (rdS (M 2) okw (fun b => b) 0 0 (M 0 3) (M 3))) 3 q = 100)) a))), (3, .int (nI (setN (fun q => decide ((rowN (u2 M 0 3 0) 3 12 (rdS (M 2) okw (fun b => b) 0 0 (M 0 3) (M 3))) 3 q = 117)) a))), (2, .int (nI 4294967295)), (0, .ref (ad 0)), (1, .int (nI k))] → W p9 l e9 (g_rm 3) s9 m9 args9 below9 meth9 c9 H locs 0 0 (MQ below9 (va_Qi (fun r' (_ : Unit) => r' = (nI (pop (setN (fun q => decide ((rowN (u2 M 0 3 0) 3 12 (rdS (M 2) okw (fun b => b) 0 0 (M 0 3) (M 3))) 3 q = 117)) 12 ||| setN (fun q => decide ((rowN (u2 M 0 3 0) 3 12 (rdS (M 2) okw (fun b => b) 0 0 (M 0 3) (M 3))) 3 q = 100)) 12)))) (fun _ t => g_P g ad dsR 14 (u2 (u2 (rowN (u2 M 0 3 0) 3 12 (rdS (M 2) okw (fun b => b) 0 0 (M 0 3) (M 3))) 1 (94 + k) (setN (fun q => decide ((rowN (u2 M 0 3 0) 3 12 (rdS (M 2) okw (fun b => b) 0 0 (M 0 3) (M 3))) 3 q = 117)) 12)) 1 (99 + k) (setN (fun q => decide ((rowN (u2 M 0 3 0) 3 12 (rdS (M 2) okw (fun b => b) 0 0 (M 0 3) (M 3))) 3 q = 100)) 12)) J t.heap) (g_A ad 14)) args9 s9 0 0 (g_A ad 14)) (F0 m9 33 ls [])) := by
    intro d33
    induction d33 with
    | zero =>
      intro a h_a H locs ls hP hS hl
      have b2 : setN (fun q => decide ((rowN (u2 M 0 3 0) 3 12 (rdS (M 2) okw (fun b => b) 0 0 (M 0 3) (M 3))) 3 q = 117)) a ||| setN (fun q => decide ((rowN (u2 M 0 3 0) 3 12 (rdS (M 2) okw (fun b => b) 0 0 (M 0 3) (M 3))) 3 q = 100)) a < 4096 := by rw [show a = 12 by omega]; exact or_lt (setN_12 _) (setN_12 _)
      refine lv_iload hx hb dX6_wish_33 (lv_at hl 0 rfl) ?_
      refine lv_bipush (v := nI 12) hx hb dX6_wish_35 (by decide) ?_
      refine x_zge (u := (a : Nat)) (v := (12 : Int)) (tgt := 94) hx hb (nI_toInt (by omega)) (rfl) dX6_wish_37 (by decide) (fun h_3 => ?_) (fun h_3 => (by omega : False).elim)
      refine lv_aload_n hx hb dX6_wish_94 rfl (lv_at hl 4 rfl) ?_
      refine x_getr CF hK hP 0 (by decide) dR_0 rfl uX6 0 (by decide) (j := 1) rfl wd3_96 rfl dX6_wish_95 ?_
      refine lv_bipush (v := nI 94) hx hb dX6_wish_98 (by decide) ?_
      refine lv_iload_n hx hb dX6_wish_100 rfl (lv_at hl 5 rfl) ?_
      refine x_iadd hx hb dX6_wish_101 ?_
      refine lv_iload_n hx hb dX6_wish_102 rfl (lv_at hl 2 rfl) ?_
      refine x_iast CF hK hI hA hP hS 1 (by decide) dR_1 (94 + k) (by omega) (by decide) (setN (fun q => decide ((rowN (u2 M 0 3 0) 3 12 (rdS (M 2) okw (fun b => b) 0 0 (M 0 3) (M 3))) 3 q = 117)) a) dX6_wish_103 (fun H locs hP hS => ?_)
      refine lv_aload_n hx hb dX6_wish_104 rfl (lv_at hl 4 rfl) ?_
      refine x_getr CF hK hP 0 (by decide) dR_0 rfl uX6 0 (by decide) (j := 1) rfl wd3_96 rfl dX6_wish_105 ?_
      refine lv_bipush (v := nI 99) hx hb dX6_wish_108 (by decide) ?_
      refine lv_iload_n hx hb dX6_wish_110 rfl (lv_at hl 5 rfl) ?_
      refine x_iadd hx hb dX6_wish_111 ?_
      refine lv_iload hx hb dX6_wish_112 (lv_at hl 1 rfl) ?_
      refine x_iast CF hK hI hA hP hS 1 (by decide) dR_1 (99 + k) (by omega) (by decide) (setN (fun q => decide ((rowN (u2 M 0 3 0) 3 12 (rdS (M 2) okw (fun b => b) 0 0 (M 0 3) (M 3))) 3 q = 100)) a) dX6_wish_114 (fun H locs hP hS => ?_)
      refine lv_iload_n hx hb dX6_wish_115 rfl (lv_at hl 2 rfl) ?_
      refine lv_iload hx hb dX6_wish_116 (lv_at hl 1 rfl) ?_
      refine x_ior hx hb dX6_wish_118 ?_
      refine x_callSP CF hK hP hS hl (As := [.int (nI ((setN (fun q => decide ((rowN (u2 M 0 3 0) 3 12 (rdS (M 2) okw (fun b => b) 0 0 (M 0 3) (M 3))) 3 q = 117)) a) ||| (setN (fun q => decide ((rowN (u2 M 0 3 0) 3 12 (rdS (M 2) okw (fun b => b) 0 0 (M 0 3) (M 3))) 3 q = 100)) a)))]) (rest := []) (r_ones ((setN (fun q => decide ((rowN (u2 M 0 3 0) 3 12 (rdS (M 2) okw (fun b => b) 0 0 (M 0 3) (M 3))) 3 q = 117)) a) ||| (setN (fun q => decide ((rowN (u2 M 0 3 0) 3 12 (rdS (M 2) okw (fun b => b) 0 0 (M 0 3) (M 3))) 3 q = 100)) a)) (by omega)) kw_X6_ones wd3_204 rfl ⟨Nat.le_of_ble_eq_true rfl, Nat.le_of_ble_eq_true rfl⟩ ⟨Nat.le_refl _, Nat.le_refl _⟩ (Nat.le_of_ble_eq_true rfl) dX6_wish_119 (fun H locs hP hS => ?_)
      exact x_reti hx hb hr9 hlk9 hS (by rw [show a = 12 by omega] at hP; exact hP) (by rw [show a = 12 by omega]) dX6_wish_122
    | succ d33 ih33 =>
      intro a h_a H locs ls hP hS hl
      have b1 := hs3 a (by omega)
      refine lv_iload hx hb dX6_wish_33 (lv_at hl 0 rfl) ?_
      refine lv_bipush (v := nI 12) hx hb dX6_wish_35 (by decide) ?_
      refine x_zge (u := (a : Nat)) (v := (12 : Int)) (tgt := 94) hx hb (nI_toInt (by omega)) (rfl) dX6_wish_37 (by decide) (fun h_4 => (by omega : False).elim) (fun h_4 => ?_)
      refine lv_iload_n hx hb dX6_wish_40 rfl (lv_at hl 2 rfl) ?_
      refine lv_aload_n hx hb dX6_wish_41 rfl (lv_at hl 4 rfl) ?_
      refine x_getr CF hK hP 0 (by decide) dR_0 rfl uX6 4 (by decide) (j := 3) rfl wd3_100 rfl dX6_wish_42 ?_
      refine lv_iload hx hb dX6_wish_45 (lv_at hl 0 rfl) ?_
      refine x_iald CF hK hP 3 (by decide) dR_3 a (by omega) (by decide) dX6_wish_47 ?_
      refine lv_bipush (v := nI 117) hx hb dX6_wish_48 (by decide) ?_
      refine x_zne (u := ((rowN (u2 M 0 3 0) 3 12 (rdS (M 2) okw (fun b => b) 0 0 (M 0 3) (M 3))) 3 a : Nat)) (v := (117 : Int)) (tgt := 60) hx hb (nI_toInt (by omega)) (rfl) dX6_wish_50 (by decide) (fun h_5 => ?_) (fun h_5 => ?_)
      · refine lv_iconst (v := nI 0) hx hb dX6_wish_60 (by decide) ?_
        refine x_ior hx hb dX6_wish_61 ?_
        refine lv_istore_n (lv' := [(3, .int (nI ((setN (fun q => decide ((rowN (u2 M 0 3 0) 3 12 (rdS (M 2) okw (fun b => b) 0 0 (M 0 3) (M 3))) 3 q = 117)) a) ||| 0))), (5, .int (nI a)), (4, .int (nI (setN (fun q => decide ((rowN (u2 M 0 3 0) 3 12 (rdS (M 2) okw (fun b => b) 0 0 (M 0 3) (M 3))) 3 q = 100)) a))), (2, .int (nI 4294967295)), (0, .ref (ad 0)), (1, .int (nI k))]) hx hb dX6_wish_62 rfl hl (by decide) rfl (fun ls hl => ?_)
        refine lv_iload hx hb dX6_wish_63 (lv_at hl 2 rfl) ?_
        refine lv_aload_n hx hb dX6_wish_65 rfl (lv_at hl 4 rfl) ?_
        refine x_getr CF hK hP 0 (by decide) dR_0 rfl uX6 4 (by decide) (j := 3) rfl wd3_100 rfl dX6_wish_66 ?_
        refine lv_iload hx hb dX6_wish_69 (lv_at hl 1 rfl) ?_
        refine x_iald CF hK hP 3 (by decide) dR_3 a (by omega) (by decide) dX6_wish_71 ?_
        refine lv_bipush (v := nI 100) hx hb dX6_wish_72 (by decide) ?_
        refine x_zne (u := ((rowN (u2 M 0 3 0) 3 12 (rdS (M 2) okw (fun b => b) 0 0 (M 0 3) (M 3))) 3 a : Nat)) (v := (100 : Int)) (tgt := 84) hx hb (nI_toInt (by omega)) (rfl) dX6_wish_74 (by decide) (fun h_6 => ?_) (fun h_6 => ?_)
        · refine lv_iconst (v := nI 0) hx hb dX6_wish_84 (by decide) ?_
          refine x_ior hx hb dX6_wish_85 ?_
          refine lv_istore (lv' := [(4, .int (nI ((setN (fun q => decide ((rowN (u2 M 0 3 0) 3 12 (rdS (M 2) okw (fun b => b) 0 0 (M 0 3) (M 3))) 3 q = 100)) a) ||| 0))), (3, .int (nI ((setN (fun q => decide ((rowN (u2 M 0 3 0) 3 12 (rdS (M 2) okw (fun b => b) 0 0 (M 0 3) (M 3))) 3 q = 117)) a) ||| 0))), (5, .int (nI a)), (2, .int (nI 4294967295)), (0, .ref (ad 0)), (1, .int (nI k))]) hx hb dX6_wish_86 hl (by decide) rfl (fun ls hl => ?_)
          refine lv_iinc (v := nI (a + 1)) (lv' := [(5, .int (nI (a + 1))), (4, .int (nI ((setN (fun q => decide ((rowN (u2 M 0 3 0) 3 12 (rdS (M 2) okw (fun b => b) 0 0 (M 0 3) (M 3))) 3 q = 100)) a) ||| 0))), (3, .int (nI ((setN (fun q => decide ((rowN (u2 M 0 3 0) 3 12 (rdS (M 2) okw (fun b => b) 0 0 (M 0 3) (M 3))) 3 q = 117)) a) ||| 0))), (2, .int (nI 4294967295)), (0, .ref (ad 0)), (1, .int (nI k))]) hx hb dX6_wish_88 hl (k := 2) rfl (n_inc a 1) (by decide) rfl (fun ls hl => ?_)
          refine lv_goto (tgt := 33) hx hb dX6_wish_91 (by decide) ?_
          have hl0 : lv_has ls 6 [(5, .int (nI (a + 1))), (4, .int (nI (setN (fun q => decide ((rowN (u2 M 0 3 0) 3 12 (rdS (M 2) okw (fun b => b) 0 0 (M 0 3) (M 3))) 3 q = 100)) (a + 1)))), (3, .int (nI (setN (fun q => decide ((rowN (u2 M 0 3 0) 3 12 (rdS (M 2) okw (fun b => b) 0 0 (M 0 3) (M 3))) 3 q = 117)) (a + 1)))), (2, .int (nI 4294967295)), (0, .ref (ad 0)), (1, .int (nI k))] := by rw [(show nI (setN (fun q => decide ((rowN (u2 M 0 3 0) 3 12 (rdS (M 2) okw (fun b => b) 0 0 (M 0 3) (M 3))) 3 q = 100)) (a + 1)) = nI ((setN (fun q => decide ((rowN (u2 M 0 3 0) 3 12 (rdS (M 2) okw (fun b => b) 0 0 (M 0 3) (M 3))) 3 q = 100)) a) ||| 0) from by refine congrArg nI ?_; rw [Nat.or_zero]; exact setN_f (decide_eq_false (by omega))), (show nI (setN (fun q => decide ((rowN (u2 M 0 3 0) 3 12 (rdS (M 2) okw (fun b => b) 0 0 (M 0 3) (M 3))) 3 q = 117)) (a + 1)) = nI ((setN (fun q => decide ((rowN (u2 M 0 3 0) 3 12 (rdS (M 2) okw (fun b => b) 0 0 (M 0 3) (M 3))) 3 q = 117)) a) ||| 0) from by refine congrArg nI ?_; rw [Nat.or_zero]; exact setN_f (decide_eq_false (by omega)))]; exact lv_sub hl [0, 1, 2, 3, 4, 5] rfl
          exact ih33 (a + 1) (by omega) _ _ _ (hP) hS hl0
        · refine lv_iconst (v := nI 1) hx hb dX6_wish_77 (by decide) ?_
          refine lv_iload hx hb dX6_wish_78 (lv_at hl 1 rfl) ?_
          refine x_ishl hx hb (by omega) dX6_wish_80 ?_
          refine lv_goto (tgt := 85) hx hb dX6_wish_81 (by decide) ?_
          refine x_ior hx hb dX6_wish_85 ?_
          refine lv_istore (lv' := [(4, .int (nI ((setN (fun q => decide ((rowN (u2 M 0 3 0) 3 12 (rdS (M 2) okw (fun b => b) 0 0 (M 0 3) (M 3))) 3 q = 100)) a) ||| (1 <<< a)))), (3, .int (nI ((setN (fun q => decide ((rowN (u2 M 0 3 0) 3 12 (rdS (M 2) okw (fun b => b) 0 0 (M 0 3) (M 3))) 3 q = 117)) a) ||| 0))), (5, .int (nI a)), (2, .int (nI 4294967295)), (0, .ref (ad 0)), (1, .int (nI k))]) hx hb dX6_wish_86 hl (by decide) rfl (fun ls hl => ?_)
          refine lv_iinc (v := nI (a + 1)) (lv' := [(5, .int (nI (a + 1))), (4, .int (nI ((setN (fun q => decide ((rowN (u2 M 0 3 0) 3 12 (rdS (M 2) okw (fun b => b) 0 0 (M 0 3) (M 3))) 3 q = 100)) a) ||| (1 <<< a)))), (3, .int (nI ((setN (fun q => decide ((rowN (u2 M 0 3 0) 3 12 (rdS (M 2) okw (fun b => b) 0 0 (M 0 3) (M 3))) 3 q = 117)) a) ||| 0))), (2, .int (nI 4294967295)), (0, .ref (ad 0)), (1, .int (nI k))]) hx hb dX6_wish_88 hl (k := 2) rfl (n_inc a 1) (by decide) rfl (fun ls hl => ?_)
          refine lv_goto (tgt := 33) hx hb dX6_wish_91 (by decide) ?_
          have hl0 : lv_has ls 6 [(5, .int (nI (a + 1))), (4, .int (nI (setN (fun q => decide ((rowN (u2 M 0 3 0) 3 12 (rdS (M 2) okw (fun b => b) 0 0 (M 0 3) (M 3))) 3 q = 100)) (a + 1)))), (3, .int (nI (setN (fun q => decide ((rowN (u2 M 0 3 0) 3 12 (rdS (M 2) okw (fun b => b) 0 0 (M 0 3) (M 3))) 3 q = 117)) (a + 1)))), (2, .int (nI 4294967295)), (0, .ref (ad 0)), (1, .int (nI k))] := by rw [(show nI (setN (fun q => decide ((rowN (u2 M 0 3 0) 3 12 (rdS (M 2) okw (fun b => b) 0 0 (M 0 3) (M 3))) 3 q = 100)) (a + 1)) = nI ((setN (fun q => decide ((rowN (u2 M 0 3 0) 3 12 (rdS (M 2) okw (fun b => b) 0 0 (M 0 3) (M 3))) 3 q = 100)) a) ||| (1 <<< a)) from by refine congrArg nI ?_; exact setN_t (decide_eq_true (by omega))), (show nI (setN (fun q => decide ((rowN (u2 M 0 3 0) 3 12 (rdS (M 2) okw (fun b => b) 0 0 (M 0 3) (M 3))) 3 q = 117)) (a + 1)) = nI ((setN (fun q => decide ((rowN (u2 M 0 3 0) 3 12 (rdS (M 2) okw (fun b => b) 0 0 (M 0 3) (M 3))) 3 q = 117)) a) ||| 0) from by refine congrArg nI ?_; rw [Nat.or_zero]; exact setN_f (decide_eq_false (by omega)))]; exact lv_sub hl [0, 1, 2, 3, 4, 5] rfl
          exact ih33 (a + 1) (by omega) _ _ _ (hP) hS hl0
      · refine lv_iconst (v := nI 1) hx hb dX6_wish_53 (by decide) ?_
        refine lv_iload hx hb dX6_wish_54 (lv_at hl 0 rfl) ?_
        refine x_ishl hx hb (by omega) dX6_wish_56 ?_
        refine lv_goto (tgt := 61) hx hb dX6_wish_57 (by decide) ?_
        refine x_ior hx hb dX6_wish_61 ?_
        refine lv_istore_n (lv' := [(3, .int (nI ((setN (fun q => decide ((rowN (u2 M 0 3 0) 3 12 (rdS (M 2) okw (fun b => b) 0 0 (M 0 3) (M 3))) 3 q = 117)) a) ||| (1 <<< a)))), (5, .int (nI a)), (4, .int (nI (setN (fun q => decide ((rowN (u2 M 0 3 0) 3 12 (rdS (M 2) okw (fun b => b) 0 0 (M 0 3) (M 3))) 3 q = 100)) a))), (2, .int (nI 4294967295)), (0, .ref (ad 0)), (1, .int (nI k))]) hx hb dX6_wish_62 rfl hl (by decide) rfl (fun ls hl => ?_)
        refine lv_iload hx hb dX6_wish_63 (lv_at hl 2 rfl) ?_
        refine lv_aload_n hx hb dX6_wish_65 rfl (lv_at hl 4 rfl) ?_
        refine x_getr CF hK hP 0 (by decide) dR_0 rfl uX6 4 (by decide) (j := 3) rfl wd3_100 rfl dX6_wish_66 ?_
        refine lv_iload hx hb dX6_wish_69 (lv_at hl 1 rfl) ?_
        refine x_iald CF hK hP 3 (by decide) dR_3 a (by omega) (by decide) dX6_wish_71 ?_
        refine lv_bipush (v := nI 100) hx hb dX6_wish_72 (by decide) ?_
        refine x_zne (u := ((rowN (u2 M 0 3 0) 3 12 (rdS (M 2) okw (fun b => b) 0 0 (M 0 3) (M 3))) 3 a : Nat)) (v := (100 : Int)) (tgt := 84) hx hb (nI_toInt (by omega)) (rfl) dX6_wish_74 (by decide) (fun h_7 => ?_) (fun h_7 => ?_)
        · refine lv_iconst (v := nI 0) hx hb dX6_wish_84 (by decide) ?_
          refine x_ior hx hb dX6_wish_85 ?_
          refine lv_istore (lv' := [(4, .int (nI ((setN (fun q => decide ((rowN (u2 M 0 3 0) 3 12 (rdS (M 2) okw (fun b => b) 0 0 (M 0 3) (M 3))) 3 q = 100)) a) ||| 0))), (3, .int (nI ((setN (fun q => decide ((rowN (u2 M 0 3 0) 3 12 (rdS (M 2) okw (fun b => b) 0 0 (M 0 3) (M 3))) 3 q = 117)) a) ||| (1 <<< a)))), (5, .int (nI a)), (2, .int (nI 4294967295)), (0, .ref (ad 0)), (1, .int (nI k))]) hx hb dX6_wish_86 hl (by decide) rfl (fun ls hl => ?_)
          refine lv_iinc (v := nI (a + 1)) (lv' := [(5, .int (nI (a + 1))), (4, .int (nI ((setN (fun q => decide ((rowN (u2 M 0 3 0) 3 12 (rdS (M 2) okw (fun b => b) 0 0 (M 0 3) (M 3))) 3 q = 100)) a) ||| 0))), (3, .int (nI ((setN (fun q => decide ((rowN (u2 M 0 3 0) 3 12 (rdS (M 2) okw (fun b => b) 0 0 (M 0 3) (M 3))) 3 q = 117)) a) ||| (1 <<< a)))), (2, .int (nI 4294967295)), (0, .ref (ad 0)), (1, .int (nI k))]) hx hb dX6_wish_88 hl (k := 2) rfl (n_inc a 1) (by decide) rfl (fun ls hl => ?_)
          refine lv_goto (tgt := 33) hx hb dX6_wish_91 (by decide) ?_
          have hl0 : lv_has ls 6 [(5, .int (nI (a + 1))), (4, .int (nI (setN (fun q => decide ((rowN (u2 M 0 3 0) 3 12 (rdS (M 2) okw (fun b => b) 0 0 (M 0 3) (M 3))) 3 q = 100)) (a + 1)))), (3, .int (nI (setN (fun q => decide ((rowN (u2 M 0 3 0) 3 12 (rdS (M 2) okw (fun b => b) 0 0 (M 0 3) (M 3))) 3 q = 117)) (a + 1)))), (2, .int (nI 4294967295)), (0, .ref (ad 0)), (1, .int (nI k))] := by rw [(show nI (setN (fun q => decide ((rowN (u2 M 0 3 0) 3 12 (rdS (M 2) okw (fun b => b) 0 0 (M 0 3) (M 3))) 3 q = 100)) (a + 1)) = nI ((setN (fun q => decide ((rowN (u2 M 0 3 0) 3 12 (rdS (M 2) okw (fun b => b) 0 0 (M 0 3) (M 3))) 3 q = 100)) a) ||| 0) from by refine congrArg nI ?_; rw [Nat.or_zero]; exact setN_f (decide_eq_false (by omega))), (show nI (setN (fun q => decide ((rowN (u2 M 0 3 0) 3 12 (rdS (M 2) okw (fun b => b) 0 0 (M 0 3) (M 3))) 3 q = 117)) (a + 1)) = nI ((setN (fun q => decide ((rowN (u2 M 0 3 0) 3 12 (rdS (M 2) okw (fun b => b) 0 0 (M 0 3) (M 3))) 3 q = 117)) a) ||| (1 <<< a)) from by refine congrArg nI ?_; exact setN_t (decide_eq_true (by omega)))]; exact lv_sub hl [0, 1, 2, 3, 4, 5] rfl
          exact ih33 (a + 1) (by omega) _ _ _ (hP) hS hl0
        · refine lv_iconst (v := nI 1) hx hb dX6_wish_77 (by decide) ?_
          refine lv_iload hx hb dX6_wish_78 (lv_at hl 1 rfl) ?_
          refine x_ishl hx hb (by omega) dX6_wish_80 ?_
          refine lv_goto (tgt := 85) hx hb dX6_wish_81 (by decide) ?_
          refine x_ior hx hb dX6_wish_85 ?_
          refine lv_istore (lv' := [(4, .int (nI ((setN (fun q => decide ((rowN (u2 M 0 3 0) 3 12 (rdS (M 2) okw (fun b => b) 0 0 (M 0 3) (M 3))) 3 q = 100)) a) ||| (1 <<< a)))), (3, .int (nI ((setN (fun q => decide ((rowN (u2 M 0 3 0) 3 12 (rdS (M 2) okw (fun b => b) 0 0 (M 0 3) (M 3))) 3 q = 117)) a) ||| (1 <<< a)))), (5, .int (nI a)), (2, .int (nI 4294967295)), (0, .ref (ad 0)), (1, .int (nI k))]) hx hb dX6_wish_86 hl (by decide) rfl (fun ls hl => ?_)
          refine lv_iinc (v := nI (a + 1)) (lv' := [(5, .int (nI (a + 1))), (4, .int (nI ((setN (fun q => decide ((rowN (u2 M 0 3 0) 3 12 (rdS (M 2) okw (fun b => b) 0 0 (M 0 3) (M 3))) 3 q = 100)) a) ||| (1 <<< a)))), (3, .int (nI ((setN (fun q => decide ((rowN (u2 M 0 3 0) 3 12 (rdS (M 2) okw (fun b => b) 0 0 (M 0 3) (M 3))) 3 q = 117)) a) ||| (1 <<< a)))), (2, .int (nI 4294967295)), (0, .ref (ad 0)), (1, .int (nI k))]) hx hb dX6_wish_88 hl (k := 2) rfl (n_inc a 1) (by decide) rfl (fun ls hl => ?_)
          refine lv_goto (tgt := 33) hx hb dX6_wish_91 (by decide) ?_
          have hl0 : lv_has ls 6 [(5, .int (nI (a + 1))), (4, .int (nI (setN (fun q => decide ((rowN (u2 M 0 3 0) 3 12 (rdS (M 2) okw (fun b => b) 0 0 (M 0 3) (M 3))) 3 q = 100)) (a + 1)))), (3, .int (nI (setN (fun q => decide ((rowN (u2 M 0 3 0) 3 12 (rdS (M 2) okw (fun b => b) 0 0 (M 0 3) (M 3))) 3 q = 117)) (a + 1)))), (2, .int (nI 4294967295)), (0, .ref (ad 0)), (1, .int (nI k))] := by rw [(show nI (setN (fun q => decide ((rowN (u2 M 0 3 0) 3 12 (rdS (M 2) okw (fun b => b) 0 0 (M 0 3) (M 3))) 3 q = 100)) (a + 1)) = nI ((setN (fun q => decide ((rowN (u2 M 0 3 0) 3 12 (rdS (M 2) okw (fun b => b) 0 0 (M 0 3) (M 3))) 3 q = 100)) a) ||| (1 <<< a)) from by refine congrArg nI ?_; exact setN_t (decide_eq_true (by omega))), (show nI (setN (fun q => decide ((rowN (u2 M 0 3 0) 3 12 (rdS (M 2) okw (fun b => b) 0 0 (M 0 3) (M 3))) 3 q = 117)) (a + 1)) = nI ((setN (fun q => decide ((rowN (u2 M 0 3 0) 3 12 (rdS (M 2) okw (fun b => b) 0 0 (M 0 3) (M 3))) 3 q = 117)) a) ||| (1 <<< a)) from by refine congrArg nI ?_; exact setN_t (decide_eq_true (by omega)))]; exact lv_sub hl [0, 1, 2, 3, 4, 5] rfl
          exact ih33 (a + 1) (by omega) _ _ _ (hP) hS hl0
  have hl0 : lv_has ls 6 [(5, .int (nI 0)), (4, .int (nI (setN (fun q => decide ((rowN (u2 M 0 3 0) 3 12 (rdS (M 2) okw (fun b => b) 0 0 (M 0 3) (M 3))) 3 q = 100)) 0))), (3, .int (nI (setN (fun q => decide ((rowN (u2 M 0 3 0) 3 12 (rdS (M 2) okw (fun b => b) 0 0 (M 0 3) (M 3))) 3 q = 117)) 0))), (2, .int (nI 4294967295)), (0, .ref (ad 0)), (1, .int (nI k))] := by rw [(show nI (setN (fun q => decide ((rowN (u2 M 0 3 0) 3 12 (rdS (M 2) okw (fun b => b) 0 0 (M 0 3) (M 3))) 3 q = 100)) 0) = nI 0 from rfl), (show nI (setN (fun q => decide ((rowN (u2 M 0 3 0) 3 12 (rdS (M 2) okw (fun b => b) 0 0 (M 0 3) (M 3))) 3 q = 117)) 0) = nI 0 from rfl)]; exact lv_sub hl [0, 1, 2, 3, 4, 5] rfl
  exact L33 12 0 (by omega) _ _ _ (hP) hS hl0
set_option maxHeartbeats 4000000 in
set_option maxRecDepth 100000 in
theorem r_line_ok {l : Launch} {g : gE} {ad : Nat → Nat} (hI : g_inj ad 14) (M : gMem) (J : gMeL) (hw : wfR M) (v : Nat) (h1 : 1 ≤ v) (h : v < 10) : CI l g ad dsR 14 yX6_line cX6_line 3 (some .int) 1 [.ref (ad 0), .int (nI v)] M J (nI (M 1 104)) (u2 M 1 104 v) J := by
  refine CI.of (plainFor_of_name (by decide)) (Nat.le_of_ble_eq_true rfl) (fun p9 e9 s9 m9 args9 below9 meth9 c9 CF hK hr9 hlk9 hP hS ls hl => ?_)
  have hx := CF.1
  have hb := CF.2.1
  have hA : ∀ q, g_A ad 14 q → g_A ad 14 q := fun _ h => h
  have hl : lv_has ls 3 [(0, .ref (ad 0)), (1, .int (nI v))] := hl
  have hnc := hw.nc
  have hnf := hw.nf
  have hwy := hw.way
  refine lv_iload_n hx hb dX6_line_0 rfl (lv_at hl 1 rfl) ?_
  refine lv_i2l hx hb dX6_line_1 (nI_l (by omega)) ?_
  refine lv_lconst (v := (1 : Int64)) hx hb dX6_line_2 rfl ?_
  refine lv_ldc2 hx hb CF.2.2.2.1 (CF.2.2.2.2 _ (List.mem_cons_of_mem _ wd3_178)) dX6_line_3 ?_
  refine x_callSP CF hK hP hS hl (As := [.long (lN v), .long (1 : Int64), .long (9 : Int64)]) (rest := []) (r_in_t _ _ _ (il_in (lo := 1) (hi := 9) (by omega) (by omega) (by omega))) kw_X6_in wd3_147 rfl ⟨Nat.le_of_ble_eq_true rfl, Nat.le_of_ble_eq_true rfl⟩ ⟨Nat.le_refl _, Nat.le_refl _⟩ (Nat.le_of_ble_eq_true rfl) dX6_line_6 (fun H locs hP hS => ?_)
  refine x_yne (u := (1 : Int)) (tgt := 14) hx hb (rfl) dX6_line_9 (by decide) (fun h_1 => ?_) (fun h_1 => (by omega : False).elim)
  refine lv_aload_n hx hb dX6_line_14 rfl (lv_at hl 0 rfl) ?_
  refine x_getr CF hK hP 0 (by decide) dR_0 rfl uX6 0 (by decide) (j := 1) rfl wd3_96 rfl dX6_line_15 ?_
  refine lv_bipush (v := nI 104) hx hb dX6_line_18 (by decide) ?_
  refine x_iald CF hK hP 1 (by decide) dR_1 104 (by omega) (by decide) dX6_line_20 ?_
  refine lv_istore_n (lv' := [(2, .int (nI (M 1 104))), (0, .ref (ad 0)), (1, .int (nI v))]) hx hb dX6_line_21 rfl hl (by decide) rfl (fun ls hl => ?_)
  refine lv_aload_n hx hb dX6_line_22 rfl (lv_at hl 1 rfl) ?_
  refine x_getr CF hK hP 0 (by decide) dR_0 rfl uX6 0 (by decide) (j := 1) rfl wd3_96 rfl dX6_line_23 ?_
  refine lv_bipush (v := nI 104) hx hb dX6_line_26 (by decide) ?_
  refine lv_iload_n hx hb dX6_line_28 rfl (lv_at hl 2 rfl) ?_
  refine x_iast CF hK hI hA hP hS 1 (by decide) dR_1 104 (by omega) (by decide) v dX6_line_29 (fun H locs hP hS => ?_)
  refine lv_iload_n hx hb dX6_line_30 rfl (lv_at hl 0 rfl) ?_
  exact x_reti hx hb hr9 hlk9 hS hP (by first | rfl | (show nI (M 1 104) = nI (M 1 104); first | rfl | omega)) dX6_line_31
set_option maxHeartbeats 4000000 in
set_option maxRecDepth 100000 in
theorem r_line_bad {l : Launch} {g : gE} {ad : Nat → Nat} (hI : g_inj ad 14) (M : gMem) (J : gMeL) (hw : wfR M) (v : Int32) (h : ¬ inR1 v 10) : CI l g ad dsR 14 yX6_line cX6_line 3 (some .int) 1 [.ref (ad 0), .int v] M J (nI 4294967295) M J := by
  refine CI.of (plainFor_of_name (by decide)) (Nat.le_of_ble_eq_true rfl) (fun p9 e9 s9 m9 args9 below9 meth9 c9 CF hK hr9 hlk9 hP hS ls hl => ?_)
  have hx := CF.1
  have hb := CF.2.1
  have hA : ∀ q, g_A ad 14 q → g_A ad 14 q := fun _ h => h
  have hl : lv_has ls 3 [(0, .ref (ad 0)), (1, .int v)] := hl
  have hnc := hw.nc
  have hnf := hw.nf
  have hwy := hw.way
  refine lv_iload_n hx hb dX6_line_0 rfl (lv_at hl 1 rfl) ?_
  rcases n_int1 (x := v) (n := 10) (by omega) with ⟨v1, g_v1, h_v1, rfl⟩ | ho_v
  · refine lv_i2l hx hb dX6_line_1 (nI_l (by omega)) ?_
    refine lv_lconst (v := (1 : Int64)) hx hb dX6_line_2 rfl ?_
    refine lv_ldc2 hx hb CF.2.2.2.1 (CF.2.2.2.2 _ (List.mem_cons_of_mem _ wd3_178)) dX6_line_3 ?_
    refine x_callSP CF hK hP hS hl (As := [.long (lN v1), .long (1 : Int64), .long (9 : Int64)]) (rest := []) (r_in_t _ _ _ (il_in (lo := 1) (hi := 9) (by omega) (by omega) (by omega))) kw_X6_in wd3_147 rfl ⟨Nat.le_of_ble_eq_true rfl, Nat.le_of_ble_eq_true rfl⟩ ⟨Nat.le_refl _, Nat.le_refl _⟩ (Nat.le_of_ble_eq_true rfl) dX6_line_6 (fun H locs hP hS => ?_)
    refine x_yne (u := (1 : Int)) (tgt := 14) hx hb (rfl) dX6_line_9 (by decide) (fun h_1 => ?_) (fun h_1 => (by omega : False).elim)
    exact absurd (inR1_n g_v1 h_v1 (by decide)) h
  · refine lv_i2l hx hb dX6_line_1 rfl ?_
    refine lv_lconst (v := (1 : Int64)) hx hb dX6_line_2 rfl ?_
    refine lv_ldc2 hx hb CF.2.2.2.1 (CF.2.2.2.2 _ (List.mem_cons_of_mem _ wd3_178)) dX6_line_3 ?_
    refine x_callSP CF hK hP hS hl (As := [.long v.toInt64, .long (1 : Int64), .long (9 : Int64)]) (rest := []) (r_in_f _ _ _ (il_out (lo := 1) (hi := 9) (by omega) (by omega) (by omega))) kw_X6_in wd3_147 rfl ⟨Nat.le_of_ble_eq_true rfl, Nat.le_of_ble_eq_true rfl⟩ ⟨Nat.le_refl _, Nat.le_refl _⟩ (Nat.le_of_ble_eq_true rfl) dX6_line_6 (fun H locs hP hS => ?_)
    refine x_yne (u := (0 : Int)) (tgt := 14) hx hb (rfl) dX6_line_9 (by decide) (fun h_2 => (by omega : False).elim) (fun h_2 => ?_)
    refine lv_iconst (v := nI 4294967295) hx hb dX6_line_12 (by decide) ?_
    exact x_reti hx hb hr9 hlk9 hS hP (by first | rfl | (show nI 4294967295 = nI 4294967295; first | rfl | omega)) dX6_line_13
set_option maxHeartbeats 4000000 in
set_option maxRecDepth 100000 in
theorem r_way_ok {l : Launch} {g : gE} {ad : Nat → Nat} (hI : g_inj ad 14) (M : gMem) (J : gMeL) (hw : wfR M) (v : Nat) (h1 : 0 ≤ v) (h : v < 2) : CI l g ad dsR 14 yX6_way cX6_way 3 (some .int) 1 [.ref (ad 0), .int (nI v)] M J (nI (M 1 105)) (u2 M 1 105 v) J := by
  refine CI.of (plainFor_of_name (by decide)) (Nat.le_of_ble_eq_true rfl) (fun p9 e9 s9 m9 args9 below9 meth9 c9 CF hK hr9 hlk9 hP hS ls hl => ?_)
  have hx := CF.1
  have hb := CF.2.1
  have hA : ∀ q, g_A ad 14 q → g_A ad 14 q := fun _ h => h
  have hl : lv_has ls 3 [(0, .ref (ad 0)), (1, .int (nI v))] := hl
  have hnc := hw.nc
  have hnf := hw.nf
  have hwy := hw.way
  refine lv_iload_n hx hb dX6_way_0 rfl (lv_at hl 1 rfl) ?_
  refine lv_i2l hx hb dX6_way_1 (nI_l (by omega)) ?_
  refine lv_lconst (v := (0 : Int64)) hx hb dX6_way_2 rfl ?_
  refine lv_lconst (v := (1 : Int64)) hx hb dX6_way_3 rfl ?_
  refine x_callSP CF hK hP hS hl (As := [.long (lN v), .long (0 : Int64), .long (1 : Int64)]) (rest := []) (r_in_t _ _ _ (il_in (lo := 0) (hi := 1) (by omega) (by omega) (by omega))) kw_X6_in wd3_147 rfl ⟨Nat.le_of_ble_eq_true rfl, Nat.le_of_ble_eq_true rfl⟩ ⟨Nat.le_refl _, Nat.le_refl _⟩ (Nat.le_of_ble_eq_true rfl) dX6_way_4 (fun H locs hP hS => ?_)
  refine x_yne (u := (1 : Int)) (tgt := 12) hx hb (rfl) dX6_way_7 (by decide) (fun h_1 => ?_) (fun h_1 => (by omega : False).elim)
  refine lv_aload_n hx hb dX6_way_12 rfl (lv_at hl 0 rfl) ?_
  refine x_getr CF hK hP 0 (by decide) dR_0 rfl uX6 0 (by decide) (j := 1) rfl wd3_96 rfl dX6_way_13 ?_
  refine lv_bipush (v := nI 105) hx hb dX6_way_16 (by decide) ?_
  refine x_iald CF hK hP 1 (by decide) dR_1 105 (by omega) (by decide) dX6_way_18 ?_
  refine lv_istore_n (lv' := [(2, .int (nI (M 1 105))), (0, .ref (ad 0)), (1, .int (nI v))]) hx hb dX6_way_19 rfl hl (by decide) rfl (fun ls hl => ?_)
  refine lv_aload_n hx hb dX6_way_20 rfl (lv_at hl 1 rfl) ?_
  refine x_getr CF hK hP 0 (by decide) dR_0 rfl uX6 0 (by decide) (j := 1) rfl wd3_96 rfl dX6_way_21 ?_
  refine lv_bipush (v := nI 105) hx hb dX6_way_24 (by decide) ?_
  refine lv_iload_n hx hb dX6_way_26 rfl (lv_at hl 2 rfl) ?_
  refine x_iast CF hK hI hA hP hS 1 (by decide) dR_1 105 (by omega) (by decide) v dX6_way_27 (fun H locs hP hS => ?_)
  refine lv_iload_n hx hb dX6_way_28 rfl (lv_at hl 0 rfl) ?_
  exact x_reti hx hb hr9 hlk9 hS hP (by first | rfl | (show nI (M 1 105) = nI (M 1 105); first | rfl | omega)) dX6_way_29
set_option maxHeartbeats 4000000 in
set_option maxRecDepth 100000 in
theorem r_way_bad {l : Launch} {g : gE} {ad : Nat → Nat} (hI : g_inj ad 14) (M : gMem) (J : gMeL) (hw : wfR M) (v : Int32) (h : ¬ inR v 2) : CI l g ad dsR 14 yX6_way cX6_way 3 (some .int) 1 [.ref (ad 0), .int v] M J (nI 4294967295) M J := by
  refine CI.of (plainFor_of_name (by decide)) (Nat.le_of_ble_eq_true rfl) (fun p9 e9 s9 m9 args9 below9 meth9 c9 CF hK hr9 hlk9 hP hS ls hl => ?_)
  have hx := CF.1
  have hb := CF.2.1
  have hA : ∀ q, g_A ad 14 q → g_A ad 14 q := fun _ h => h
  have hl : lv_has ls 3 [(0, .ref (ad 0)), (1, .int v)] := hl
  have hnc := hw.nc
  have hnf := hw.nf
  have hwy := hw.way
  refine lv_iload_n hx hb dX6_way_0 rfl (lv_at hl 1 rfl) ?_
  rcases n_int (x := v) (n := 2) (by omega) with ⟨v1, h_v1, rfl⟩ | ho_v
  · refine lv_i2l hx hb dX6_way_1 (nI_l (by omega)) ?_
    refine lv_lconst (v := (0 : Int64)) hx hb dX6_way_2 rfl ?_
    refine lv_lconst (v := (1 : Int64)) hx hb dX6_way_3 rfl ?_
    refine x_callSP CF hK hP hS hl (As := [.long (lN v1), .long (0 : Int64), .long (1 : Int64)]) (rest := []) (r_in_t _ _ _ (il_in (lo := 0) (hi := 1) (by omega) (by omega) (by omega))) kw_X6_in wd3_147 rfl ⟨Nat.le_of_ble_eq_true rfl, Nat.le_of_ble_eq_true rfl⟩ ⟨Nat.le_refl _, Nat.le_refl _⟩ (Nat.le_of_ble_eq_true rfl) dX6_way_4 (fun H locs hP hS => ?_)
    refine x_yne (u := (1 : Int)) (tgt := 12) hx hb (rfl) dX6_way_7 (by decide) (fun h_1 => ?_) (fun h_1 => (by omega : False).elim)
    exact absurd (inR_n h_v1 (by decide)) h
  · refine lv_i2l hx hb dX6_way_1 rfl ?_
    refine lv_lconst (v := (0 : Int64)) hx hb dX6_way_2 rfl ?_
    refine lv_lconst (v := (1 : Int64)) hx hb dX6_way_3 rfl ?_
    refine x_callSP CF hK hP hS hl (As := [.long v.toInt64, .long (0 : Int64), .long (1 : Int64)]) (rest := []) (r_in_f _ _ _ (il_out (lo := 0) (hi := 1) (by omega) (by omega) (by omega))) kw_X6_in wd3_147 rfl ⟨Nat.le_of_ble_eq_true rfl, Nat.le_of_ble_eq_true rfl⟩ ⟨Nat.le_refl _, Nat.le_refl _⟩ (Nat.le_of_ble_eq_true rfl) dX6_way_4 (fun H locs hP hS => ?_)
    refine x_yne (u := (0 : Int)) (tgt := 12) hx hb (rfl) dX6_way_7 (by decide) (fun h_2 => (by omega : False).elim) (fun h_2 => ?_)
    refine lv_iconst (v := nI 4294967295) hx hb dX6_way_10 (by decide) ?_
    exact x_reti hx hb hr9 hlk9 hS hP (by first | rfl | (show nI 4294967295 = nI 4294967295; first | rfl | omega)) dX6_way_11
set_option maxHeartbeats 4000000 in
set_option maxRecDepth 100000 in
theorem r_height_ok {l : Launch} {g : gE} {ad : Nat → Nat} (hI : g_inj ad 14) (M : gMem) (J : gMeL) (hw : wfR M) (k a : Nat) (hk : k < M 1 73) (ha : a < 12) : CI l g ad dsR 14 yX6_height cX6_height 3 (some .int) 3 [.ref (ad 0), .int (nI k), .int (nI a)] M J (nI (hgtR M k a)) M J := by
  refine CI.of (plainFor_of_name (by decide)) (Nat.le_of_ble_eq_true rfl) (fun p9 e9 s9 m9 args9 below9 meth9 c9 CF hK hr9 hlk9 hP hS ls hl => ?_)
  have hx := CF.1
  have hb := CF.2.1
  have hA : ∀ q, g_A ad 14 q → g_A ad 14 q := fun _ h => h
  have hl : lv_has ls 3 [(0, .ref (ad 0)), (1, .int (nI k)), (2, .int (nI a))] := hl
  have hnc := hw.nc
  have hnf := hw.nf
  have hwy := hw.way
  refine lv_aload_n hx hb dX6_height_0 rfl (lv_at hl 0 rfl) ?_
  refine lv_iload_n hx hb dX6_height_1 rfl (lv_at hl 1 rfl) ?_
  refine x_callVI CF hK hP hS hA hl (As := [.int (nI k)]) (rest := []) (r_isFigure_t hI M J k (by omega) (by omega)) kw_X6_isFigure wd3_196 (by decide) dR_0 rfl rfl ⟨Nat.le_of_ble_eq_true rfl, Nat.le_of_ble_eq_true rfl⟩ ⟨Nat.le_refl _, Nat.le_refl _⟩ (Nat.le_of_ble_eq_true rfl) dX6_height_2 (fun H locs hP hS => ?_)
  refine x_yeq (u := (1 : Int)) (tgt := 24) hx hb (rfl) dX6_height_5 (by decide) (fun h_1 => (by omega : False).elim) (fun h_1 => ?_)
  refine lv_iload_n hx hb dX6_height_8 rfl (lv_at hl 2 rfl) ?_
  refine x_callSP CF hK hP hS hl (As := [.int (nI a)]) (rest := []) (r_isAngle_t a (by omega)) kw_X6_isAngle wd3_174 rfl ⟨Nat.le_of_ble_eq_true rfl, Nat.le_of_ble_eq_true rfl⟩ ⟨Nat.le_refl _, Nat.le_refl _⟩ (Nat.le_of_ble_eq_true rfl) dX6_height_9 (fun H locs hP hS => ?_)
  refine x_yeq (u := (1 : Int)) (tgt := 24) hx hb (rfl) dX6_height_12 (by decide) (fun h_2 => (by omega : False).elim) (fun h_2 => ?_)
  refine lv_aload_n hx hb dX6_height_15 rfl (lv_at hl 0 rfl) ?_
  refine lv_iload_n hx hb dX6_height_16 rfl (lv_at hl 1 rfl) ?_
  refine lv_iload_n hx hb dX6_height_17 rfl (lv_at hl 2 rfl) ?_
  refine x_callVI CF hK hP hS hA hl (As := [.int (nI k), .int (nI a)]) (rest := []) (r_heightOf hI M J hw k (by omega) a (by omega)) kw_X6_heightOf wd3_219 (by decide) dR_0 rfl rfl ⟨Nat.le_of_ble_eq_true rfl, Nat.le_of_ble_eq_true rfl⟩ ⟨Nat.le_refl _, Nat.le_refl _⟩ (Nat.le_of_ble_eq_true rfl) dX6_height_18 (fun H locs hP hS => ?_)
  refine lv_goto (tgt := 25) hx hb dX6_height_21 (by decide) ?_
  exact x_reti hx hb hr9 hlk9 hS hP (by first | rfl | (show nI (hgtR M k a) = nI (hgtR M k a); first | rfl | omega)) dX6_height_25
set_option maxHeartbeats 4000000 in
set_option maxRecDepth 100000 in
theorem r_height_bad {l : Launch} {g : gE} {ad : Nat → Nat} (hI : g_inj ad 14) (M : gMem) (J : gMeL) (hw : wfR M) (k a : Int32) (h : ¬ (inR k (M 1 73) ∧ inR a 12)) : CI l g ad dsR 14 yX6_height cX6_height 3 (some .int) 3 [.ref (ad 0), .int k, .int a] M J (nI 4294967295) M J := by
  refine CI.of (plainFor_of_name (by decide)) (Nat.le_of_ble_eq_true rfl) (fun p9 e9 s9 m9 args9 below9 meth9 c9 CF hK hr9 hlk9 hP hS ls hl => ?_)
  have hx := CF.1
  have hb := CF.2.1
  have hA : ∀ q, g_A ad 14 q → g_A ad 14 q := fun _ h => h
  have hl : lv_has ls 3 [(0, .ref (ad 0)), (1, .int k), (2, .int a)] := hl
  have hnc := hw.nc
  have hnf := hw.nf
  have hwy := hw.way
  refine lv_aload_n hx hb dX6_height_0 rfl (lv_at hl 0 rfl) ?_
  refine lv_iload_n hx hb dX6_height_1 rfl (lv_at hl 1 rfl) ?_
  rcases n_int (x := k) (n := M 1 73) (by omega) with ⟨k1, h_k1, rfl⟩ | ho_k
  · refine x_callVI CF hK hP hS hA hl (As := [.int (nI k1)]) (rest := []) (r_isFigure_t hI M J k1 (by omega) (by omega)) kw_X6_isFigure wd3_196 (by decide) dR_0 rfl rfl ⟨Nat.le_of_ble_eq_true rfl, Nat.le_of_ble_eq_true rfl⟩ ⟨Nat.le_refl _, Nat.le_refl _⟩ (Nat.le_of_ble_eq_true rfl) dX6_height_2 (fun H locs hP hS => ?_)
    refine x_yeq (u := (1 : Int)) (tgt := 24) hx hb (rfl) dX6_height_5 (by decide) (fun h_1 => (by omega : False).elim) (fun h_1 => ?_)
    refine lv_iload_n hx hb dX6_height_8 rfl (lv_at hl 2 rfl) ?_
    rcases n_int (x := a) (n := 12) (by omega) with ⟨a1, h_a1, rfl⟩ | ho_a
    · refine x_callSP CF hK hP hS hl (As := [.int (nI a1)]) (rest := []) (r_isAngle_t a1 (by omega)) kw_X6_isAngle wd3_174 rfl ⟨Nat.le_of_ble_eq_true rfl, Nat.le_of_ble_eq_true rfl⟩ ⟨Nat.le_refl _, Nat.le_refl _⟩ (Nat.le_of_ble_eq_true rfl) dX6_height_9 (fun H locs hP hS => ?_)
      refine x_yeq (u := (1 : Int)) (tgt := 24) hx hb (rfl) dX6_height_12 (by decide) (fun h_2 => (by omega : False).elim) (fun h_2 => ?_)
      exact absurd ⟨inR_n h_k1 (by omega), inR_n h_a1 (by decide)⟩ h
    · refine x_callSP CF hK hP hS hl (As := [.int a]) (rest := []) (r_isAngle_f a ho_a) kw_X6_isAngle wd3_174 rfl ⟨Nat.le_of_ble_eq_true rfl, Nat.le_of_ble_eq_true rfl⟩ ⟨Nat.le_refl _, Nat.le_refl _⟩ (Nat.le_of_ble_eq_true rfl) dX6_height_9 (fun H locs hP hS => ?_)
      refine x_yeq (u := (0 : Int)) (tgt := 24) hx hb (rfl) dX6_height_12 (by decide) (fun h_3 => ?_) (fun h_3 => (by omega : False).elim)
      refine lv_iconst (v := nI 4294967295) hx hb dX6_height_24 (by decide) ?_
      exact x_reti hx hb hr9 hlk9 hS hP (by first | rfl | (show nI 4294967295 = nI 4294967295; first | rfl | omega)) dX6_height_25
  · refine x_callVI CF hK hP hS hA hl (As := [.int k]) (rest := []) (r_isFigure_f hI M J k ho_k (by omega)) kw_X6_isFigure wd3_196 (by decide) dR_0 rfl rfl ⟨Nat.le_of_ble_eq_true rfl, Nat.le_of_ble_eq_true rfl⟩ ⟨Nat.le_refl _, Nat.le_refl _⟩ (Nat.le_of_ble_eq_true rfl) dX6_height_2 (fun H locs hP hS => ?_)
    refine x_yeq (u := (0 : Int)) (tgt := 24) hx hb (rfl) dX6_height_5 (by decide) (fun h_4 => ?_) (fun h_4 => (by omega : False).elim)
    refine lv_iconst (v := nI 4294967295) hx hb dX6_height_24 (by decide) ?_
    exact x_reti hx hb hr9 hlk9 hS hP (by first | rfl | (show nI 4294967295 = nI 4294967295; first | rfl | omega)) dX6_height_25
set_option maxHeartbeats 4000000 in
set_option maxRecDepth 100000 in
theorem r_ups_ok {l : Launch} {g : gE} {ad : Nat → Nat} (hI : g_inj ad 14) (M : gMem) (J : gMeL) (hw : wfR M) (k : Nat) (hk : k < M 1 73) : CI l g ad dsR 14 yX6_ups cX6_ups 2 (some .int) 3 [.ref (ad 0), .int (nI k)] M J (nI (upsR M k)) M J := by
  refine CI.of (plainFor_of_name (by decide)) (Nat.le_of_ble_eq_true rfl) (fun p9 e9 s9 m9 args9 below9 meth9 c9 CF hK hr9 hlk9 hP hS ls hl => ?_)
  have hx := CF.1
  have hb := CF.2.1
  have hA : ∀ q, g_A ad 14 q → g_A ad 14 q := fun _ h => h
  have hl : lv_has ls 2 [(0, .ref (ad 0)), (1, .int (nI k))] := hl
  have hnc := hw.nc
  have hnf := hw.nf
  have hwy := hw.way
  refine lv_aload_n hx hb dX6_ups_0 rfl (lv_at hl 0 rfl) ?_
  refine lv_iload_n hx hb dX6_ups_1 rfl (lv_at hl 1 rfl) ?_
  refine x_callVI CF hK hP hS hA hl (As := [.int (nI k)]) (rest := []) (r_isFigure_t hI M J k (by omega) (by omega)) kw_X6_isFigure wd3_196 (by decide) dR_0 rfl rfl ⟨Nat.le_of_ble_eq_true rfl, Nat.le_of_ble_eq_true rfl⟩ ⟨Nat.le_refl _, Nat.le_refl _⟩ (Nat.le_of_ble_eq_true rfl) dX6_ups_2 (fun H locs hP hS => ?_)
  refine x_yeq (u := (1 : Int)) (tgt := 16) hx hb (rfl) dX6_ups_5 (by decide) (fun h_1 => (by omega : False).elim) (fun h_1 => ?_)
  refine lv_aload_n hx hb dX6_ups_8 rfl (lv_at hl 0 rfl) ?_
  refine lv_iload_n hx hb dX6_ups_9 rfl (lv_at hl 1 rfl) ?_
  refine x_callVI CF hK hP hS hA hl (As := [.int (nI k)]) (rest := []) (r_upsOf hI M J hw k (by omega)) kw_X6_upsOf wd3_235 (by decide) dR_0 rfl rfl ⟨Nat.le_of_ble_eq_true rfl, Nat.le_of_ble_eq_true rfl⟩ ⟨Nat.le_refl _, Nat.le_refl _⟩ (Nat.le_of_ble_eq_true rfl) dX6_ups_10 (fun H locs hP hS => ?_)
  refine lv_goto (tgt := 17) hx hb dX6_ups_13 (by decide) ?_
  exact x_reti hx hb hr9 hlk9 hS hP (by first | rfl | (show nI (upsR M k) = nI (upsR M k); first | rfl | omega)) dX6_ups_17
set_option maxHeartbeats 4000000 in
set_option maxRecDepth 100000 in
theorem r_ups_bad {l : Launch} {g : gE} {ad : Nat → Nat} (hI : g_inj ad 14) (M : gMem) (J : gMeL) (hw : wfR M) (k : Int32) (h : ¬ inR k (M 1 73)) : CI l g ad dsR 14 yX6_ups cX6_ups 2 (some .int) 3 [.ref (ad 0), .int k] M J (nI 4294967295) M J := by
  refine CI.of (plainFor_of_name (by decide)) (Nat.le_of_ble_eq_true rfl) (fun p9 e9 s9 m9 args9 below9 meth9 c9 CF hK hr9 hlk9 hP hS ls hl => ?_)
  have hx := CF.1
  have hb := CF.2.1
  have hA : ∀ q, g_A ad 14 q → g_A ad 14 q := fun _ h => h
  have hl : lv_has ls 2 [(0, .ref (ad 0)), (1, .int k)] := hl
  have hnc := hw.nc
  have hnf := hw.nf
  have hwy := hw.way
  refine lv_aload_n hx hb dX6_ups_0 rfl (lv_at hl 0 rfl) ?_
  refine lv_iload_n hx hb dX6_ups_1 rfl (lv_at hl 1 rfl) ?_
  rcases n_int (x := k) (n := M 1 73) (by omega) with ⟨k1, h_k1, rfl⟩ | ho_k
  · refine x_callVI CF hK hP hS hA hl (As := [.int (nI k1)]) (rest := []) (r_isFigure_t hI M J k1 (by omega) (by omega)) kw_X6_isFigure wd3_196 (by decide) dR_0 rfl rfl ⟨Nat.le_of_ble_eq_true rfl, Nat.le_of_ble_eq_true rfl⟩ ⟨Nat.le_refl _, Nat.le_refl _⟩ (Nat.le_of_ble_eq_true rfl) dX6_ups_2 (fun H locs hP hS => ?_)
    refine x_yeq (u := (1 : Int)) (tgt := 16) hx hb (rfl) dX6_ups_5 (by decide) (fun h_1 => (by omega : False).elim) (fun h_1 => ?_)
    exact absurd (inR_n h_k1 (by omega)) h
  · refine x_callVI CF hK hP hS hA hl (As := [.int k]) (rest := []) (r_isFigure_f hI M J k ho_k (by omega)) kw_X6_isFigure wd3_196 (by decide) dR_0 rfl rfl ⟨Nat.le_of_ble_eq_true rfl, Nat.le_of_ble_eq_true rfl⟩ ⟨Nat.le_refl _, Nat.le_refl _⟩ (Nat.le_of_ble_eq_true rfl) dX6_ups_2 (fun H locs hP hS => ?_)
    refine x_yeq (u := (0 : Int)) (tgt := 16) hx hb (rfl) dX6_ups_5 (by decide) (fun h_2 => ?_) (fun h_2 => (by omega : False).elim)
    refine lv_iconst (v := nI 4294967295) hx hb dX6_ups_16 (by decide) ?_
    exact x_reti hx hb hr9 hlk9 hS hP (by first | rfl | (show nI 4294967295 = nI 4294967295; first | rfl | omega)) dX6_ups_17
set_option maxHeartbeats 4000000 in
set_option maxRecDepth 100000 in
theorem r_strikes_ok {l : Launch} {g : gE} {ad : Nat → Nat} (hI : g_inj ad 14) (M : gMem) (J : gMeL) (hw : wfR M) (a b : Nat) (ha : a < M 1 73) (hb5 : b < M 1 73) (hne : a ≠ b) : CI l g ad dsR 14 yX6_strikes cX6_strikes 3 (some .int) 4 [.ref (ad 0), .int (nI a), .int (nI b)] M J (nI (strR M a b)) M J := by
  refine CI.of (plainFor_of_name (by decide)) (Nat.le_of_ble_eq_true rfl) (fun p9 e9 s9 m9 args9 below9 meth9 c9 CF hK hr9 hlk9 hP hS ls hl => ?_)
  have hx := CF.1
  have hb := CF.2.1
  have hA : ∀ q, g_A ad 14 q → g_A ad 14 q := fun _ h => h
  have hl : lv_has ls 3 [(0, .ref (ad 0)), (1, .int (nI a)), (2, .int (nI b))] := hl
  have hnc := hw.nc
  have hnf := hw.nf
  have hwy := hw.way
  refine lv_aload_n hx hb dX6_strikes_0 rfl (lv_at hl 0 rfl) ?_
  refine lv_iload_n hx hb dX6_strikes_1 rfl (lv_at hl 1 rfl) ?_
  refine x_callVI CF hK hP hS hA hl (As := [.int (nI a)]) (rest := []) (r_isFigure_t hI M J a (by omega) (by omega)) kw_X6_isFigure wd3_196 (by decide) dR_0 rfl rfl ⟨Nat.le_of_ble_eq_true rfl, Nat.le_of_ble_eq_true rfl⟩ ⟨Nat.le_refl _, Nat.le_refl _⟩ (Nat.le_of_ble_eq_true rfl) dX6_strikes_2 (fun H locs hP hS => ?_)
  refine x_yeq (u := (1 : Int)) (tgt := 30) hx hb (rfl) dX6_strikes_5 (by decide) (fun h_1 => (by omega : False).elim) (fun h_1 => ?_)
  refine lv_aload_n hx hb dX6_strikes_8 rfl (lv_at hl 0 rfl) ?_
  refine lv_iload_n hx hb dX6_strikes_9 rfl (lv_at hl 2 rfl) ?_
  refine x_callVI CF hK hP hS hA hl (As := [.int (nI b)]) (rest := []) (r_isFigure_t hI M J b (by omega) (by omega)) kw_X6_isFigure wd3_196 (by decide) dR_0 rfl rfl ⟨Nat.le_of_ble_eq_true rfl, Nat.le_of_ble_eq_true rfl⟩ ⟨Nat.le_refl _, Nat.le_refl _⟩ (Nat.le_of_ble_eq_true rfl) dX6_strikes_10 (fun H locs hP hS => ?_)
  refine x_yeq (u := (1 : Int)) (tgt := 30) hx hb (rfl) dX6_strikes_13 (by decide) (fun h_2 => (by omega : False).elim) (fun h_2 => ?_)
  refine lv_iload_n hx hb dX6_strikes_16 rfl (lv_at hl 1 rfl) ?_
  refine lv_iload_n hx hb dX6_strikes_17 rfl (lv_at hl 2 rfl) ?_
  refine x_zeq (u := (a : Nat)) (v := (b : Nat)) (tgt := 30) hx hb (nI_toInt (by omega)) (nI_toInt (by omega)) dX6_strikes_18 (by decide) (fun h_3 => (by omega : False).elim) (fun h_3 => ?_)
  refine lv_aload_n hx hb dX6_strikes_21 rfl (lv_at hl 0 rfl) ?_
  refine lv_iload_n hx hb dX6_strikes_22 rfl (lv_at hl 1 rfl) ?_
  refine lv_iload_n hx hb dX6_strikes_23 rfl (lv_at hl 2 rfl) ?_
  refine x_callVI CF hK hP hS hA hl (As := [.int (nI a), .int (nI b)]) (rest := []) (r_strikesOf hI M J hw a b (by omega) (by omega)) kw_X6_strikesOf wd4_3 (by decide) dR_0 rfl rfl ⟨Nat.le_of_ble_eq_true rfl, Nat.le_of_ble_eq_true rfl⟩ ⟨Nat.le_refl _, Nat.le_refl _⟩ (Nat.le_of_ble_eq_true rfl) dX6_strikes_24 (fun H locs hP hS => ?_)
  refine lv_goto (tgt := 31) hx hb dX6_strikes_27 (by decide) ?_
  exact x_reti hx hb hr9 hlk9 hS hP (by first | rfl | (show nI (strR M a b) = nI (strR M a b); first | rfl | omega)) dX6_strikes_31
set_option maxHeartbeats 4000000 in
set_option maxRecDepth 100000 in
theorem r_strikes_same {l : Launch} {g : gE} {ad : Nat → Nat} (hI : g_inj ad 14) (M : gMem) (J : gMeL) (hw : wfR M) (a : Nat) (ha : a < M 1 73) : CI l g ad dsR 14 yX6_strikes cX6_strikes 3 (some .int) 4 [.ref (ad 0), .int (nI a), .int (nI a)] M J (nI 4294967295) M J := by
  refine CI.of (plainFor_of_name (by decide)) (Nat.le_of_ble_eq_true rfl) (fun p9 e9 s9 m9 args9 below9 meth9 c9 CF hK hr9 hlk9 hP hS ls hl => ?_)
  have hx := CF.1
  have hb := CF.2.1
  have hA : ∀ q, g_A ad 14 q → g_A ad 14 q := fun _ h => h
  have hl : lv_has ls 3 [(0, .ref (ad 0)), (1, .int (nI a)), (2, .int (nI a))] := hl
  have hnc := hw.nc
  have hnf := hw.nf
  have hwy := hw.way
  refine lv_aload_n hx hb dX6_strikes_0 rfl (lv_at hl 0 rfl) ?_
  refine lv_iload_n hx hb dX6_strikes_1 rfl (lv_at hl 1 rfl) ?_
  refine x_callVI CF hK hP hS hA hl (As := [.int (nI a)]) (rest := []) (r_isFigure_t hI M J a (by omega) (by omega)) kw_X6_isFigure wd3_196 (by decide) dR_0 rfl rfl ⟨Nat.le_of_ble_eq_true rfl, Nat.le_of_ble_eq_true rfl⟩ ⟨Nat.le_refl _, Nat.le_refl _⟩ (Nat.le_of_ble_eq_true rfl) dX6_strikes_2 (fun H locs hP hS => ?_)
  refine x_yeq (u := (1 : Int)) (tgt := 30) hx hb (rfl) dX6_strikes_5 (by decide) (fun h_1 => (by omega : False).elim) (fun h_1 => ?_)
  refine lv_aload_n hx hb dX6_strikes_8 rfl (lv_at hl 0 rfl) ?_
  refine lv_iload_n hx hb dX6_strikes_9 rfl (lv_at hl 2 rfl) ?_
  refine x_callVI CF hK hP hS hA hl (As := [.int (nI a)]) (rest := []) (r_isFigure_t hI M J a (by omega) (by omega)) kw_X6_isFigure wd3_196 (by decide) dR_0 rfl rfl ⟨Nat.le_of_ble_eq_true rfl, Nat.le_of_ble_eq_true rfl⟩ ⟨Nat.le_refl _, Nat.le_refl _⟩ (Nat.le_of_ble_eq_true rfl) dX6_strikes_10 (fun H locs hP hS => ?_)
  refine x_yeq (u := (1 : Int)) (tgt := 30) hx hb (rfl) dX6_strikes_13 (by decide) (fun h_2 => (by omega : False).elim) (fun h_2 => ?_)
  refine lv_iload_n hx hb dX6_strikes_16 rfl (lv_at hl 1 rfl) ?_
  refine lv_iload_n hx hb dX6_strikes_17 rfl (lv_at hl 2 rfl) ?_
  refine x_zeq (u := (a : Nat)) (v := (a : Nat)) (tgt := 30) hx hb (nI_toInt (by omega)) (nI_toInt (by omega)) dX6_strikes_18 (by decide) (fun h_3 => ?_) (fun h_3 => (by omega : False).elim)
  refine lv_iconst (v := nI 4294967295) hx hb dX6_strikes_30 (by decide) ?_
  exact x_reti hx hb hr9 hlk9 hS hP (by first | rfl | (show nI 4294967295 = nI 4294967295; first | rfl | omega)) dX6_strikes_31
set_option maxHeartbeats 4000000 in
set_option maxRecDepth 100000 in
theorem r_strikes_bad {l : Launch} {g : gE} {ad : Nat → Nat} (hI : g_inj ad 14) (M : gMem) (J : gMeL) (hw : wfR M) (a b : Int32) (h : ¬ (inR a (M 1 73) ∧ inR b (M 1 73))) : CI l g ad dsR 14 yX6_strikes cX6_strikes 3 (some .int) 4 [.ref (ad 0), .int a, .int b] M J (nI 4294967295) M J := by
  refine CI.of (plainFor_of_name (by decide)) (Nat.le_of_ble_eq_true rfl) (fun p9 e9 s9 m9 args9 below9 meth9 c9 CF hK hr9 hlk9 hP hS ls hl => ?_)
  have hx := CF.1
  have hb := CF.2.1
  have hA : ∀ q, g_A ad 14 q → g_A ad 14 q := fun _ h => h
  have hl : lv_has ls 3 [(0, .ref (ad 0)), (1, .int a), (2, .int b)] := hl
  have hnc := hw.nc
  have hnf := hw.nf
  have hwy := hw.way
  refine lv_aload_n hx hb dX6_strikes_0 rfl (lv_at hl 0 rfl) ?_
  refine lv_iload_n hx hb dX6_strikes_1 rfl (lv_at hl 1 rfl) ?_
  rcases n_int (x := a) (n := M 1 73) (by omega) with ⟨a1, h_a1, rfl⟩ | ho_a
  · refine x_callVI CF hK hP hS hA hl (As := [.int (nI a1)]) (rest := []) (r_isFigure_t hI M J a1 (by omega) (by omega)) kw_X6_isFigure wd3_196 (by decide) dR_0 rfl rfl ⟨Nat.le_of_ble_eq_true rfl, Nat.le_of_ble_eq_true rfl⟩ ⟨Nat.le_refl _, Nat.le_refl _⟩ (Nat.le_of_ble_eq_true rfl) dX6_strikes_2 (fun H locs hP hS => ?_)
    refine x_yeq (u := (1 : Int)) (tgt := 30) hx hb (rfl) dX6_strikes_5 (by decide) (fun h_1 => (by omega : False).elim) (fun h_1 => ?_)
    refine lv_aload_n hx hb dX6_strikes_8 rfl (lv_at hl 0 rfl) ?_
    refine lv_iload_n hx hb dX6_strikes_9 rfl (lv_at hl 2 rfl) ?_
    rcases n_int (x := b) (n := M 1 73) (by omega) with ⟨b1, h_b1, rfl⟩ | ho_b
    · refine x_callVI CF hK hP hS hA hl (As := [.int (nI b1)]) (rest := []) (r_isFigure_t hI M J b1 (by omega) (by omega)) kw_X6_isFigure wd3_196 (by decide) dR_0 rfl rfl ⟨Nat.le_of_ble_eq_true rfl, Nat.le_of_ble_eq_true rfl⟩ ⟨Nat.le_refl _, Nat.le_refl _⟩ (Nat.le_of_ble_eq_true rfl) dX6_strikes_10 (fun H locs hP hS => ?_)
      refine x_yeq (u := (1 : Int)) (tgt := 30) hx hb (rfl) dX6_strikes_13 (by decide) (fun h_2 => (by omega : False).elim) (fun h_2 => ?_)
      exact absurd ⟨inR_n h_a1 (by omega), inR_n h_b1 (by omega)⟩ h
    · refine x_callVI CF hK hP hS hA hl (As := [.int b]) (rest := []) (r_isFigure_f hI M J b ho_b (by omega)) kw_X6_isFigure wd3_196 (by decide) dR_0 rfl rfl ⟨Nat.le_of_ble_eq_true rfl, Nat.le_of_ble_eq_true rfl⟩ ⟨Nat.le_refl _, Nat.le_refl _⟩ (Nat.le_of_ble_eq_true rfl) dX6_strikes_10 (fun H locs hP hS => ?_)
      refine x_yeq (u := (0 : Int)) (tgt := 30) hx hb (rfl) dX6_strikes_13 (by decide) (fun h_3 => ?_) (fun h_3 => (by omega : False).elim)
      refine lv_iconst (v := nI 4294967295) hx hb dX6_strikes_30 (by decide) ?_
      exact x_reti hx hb hr9 hlk9 hS hP (by first | rfl | (show nI 4294967295 = nI 4294967295; first | rfl | omega)) dX6_strikes_31
  · refine x_callVI CF hK hP hS hA hl (As := [.int a]) (rest := []) (r_isFigure_f hI M J a ho_a (by omega)) kw_X6_isFigure wd3_196 (by decide) dR_0 rfl rfl ⟨Nat.le_of_ble_eq_true rfl, Nat.le_of_ble_eq_true rfl⟩ ⟨Nat.le_refl _, Nat.le_refl _⟩ (Nat.le_of_ble_eq_true rfl) dX6_strikes_2 (fun H locs hP hS => ?_)
    refine x_yeq (u := (0 : Int)) (tgt := 30) hx hb (rfl) dX6_strikes_5 (by decide) (fun h_4 => ?_) (fun h_4 => (by omega : False).elim)
    refine lv_iconst (v := nI 4294967295) hx hb dX6_strikes_30 (by decide) ?_
    exact x_reti hx hb hr9 hlk9 hS hP (by first | rfl | (show nI 4294967295 = nI 4294967295; first | rfl | omega)) dX6_strikes_31
theorem wfF.set106 {M : gMem} {x : Nat} (h : wfF (M 1)) (hx : x ≤ 11) : wfF (u2 M 1 106 x 1) := by
  have e : ∀ k, k ≠ 106 → u2 M 1 106 x 1 k = M 1 k := fun k hk => by simp [u2, hk]
  unfold wfF at *
  rw [e 0 (by omega), e 73 (by omega), e 104 (by omega), e 105 (by omega), e 107 (by omega), u2_same]
  refine ⟨h.1, fun k hk => by rw [e _ (by omega)]; exact h.2.1 k hk, fun f hf => ?_, h.2.2.2.1, h.2.2.2.2.1, hx, h.2.2.2.2.2.2.1, fun a ha => by rw [e _ (by omega)]; exact h.2.2.2.2.2.2.2.1 a ha, fun k hk => by rw [e _ (by omega)]; exact h.2.2.2.2.2.2.2.2 k hk⟩
  rw [e _ (by omega), e _ (by omega), e _ (by omega), e _ (by omega), e _ (by omega), e _ (by omega)]
  exact h.2.2.1 f hf
set_option maxHeartbeats 4000000 in
set_option maxRecDepth 100000 in
theorem r_turn_ok {l : Launch} {g : gE} {ad : Nat → Nat} (hI : g_inj ad 14) (M : gMem) (J : gMeL) (hw : wfR M) (n : Nat) (h1 : 1 ≤ n) (h : n < 601) : CI l g ad dsR 14 yX6_turn cX6_turn 8 (some .int) 4 [.ref (ad 0), .int (nI n)] M J (nI (sitR M n)) (goR M n) J := by
  refine CI.of (plainFor_of_name (by decide)) (Nat.le_of_ble_eq_true rfl) (fun p9 e9 s9 m9 args9 below9 meth9 c9 CF hK hr9 hlk9 hP hS ls hl => ?_)
  have hx := CF.1
  have hb := CF.2.1
  have hA : ∀ q, g_A ad 14 q → g_A ad 14 q := fun _ h => h
  have hl : lv_has ls 8 [(0, .ref (ad 0)), (1, .int (nI n))] := hl
  have hnc := hw.nc
  have hnf := hw.nf
  have hwy := hw.way
  have hat := hw.at
  have hps := hw.passed
  refine lv_iload_n hx hb dX6_turn_0 rfl (lv_at hl 1 rfl) ?_
  refine lv_i2l hx hb dX6_turn_1 (nI_l (by omega)) ?_
  refine lv_lconst (v := (1 : Int64)) hx hb dX6_turn_2 rfl ?_
  refine lv_ldc2 hx hb CF.2.2.2.1 (CF.2.2.2.2 _ (List.mem_cons_of_mem _ wd4_14)) dX6_turn_3 ?_
  refine x_callSP CF hK hP hS hl (As := [.long (lN n), .long (1 : Int64), .long (600 : Int64)]) (rest := []) (r_in_t _ _ _ (il_in (lo := 1) (hi := 600) (by omega) (by omega) (by omega))) kw_X6_in wd3_147 rfl ⟨Nat.le_of_ble_eq_true rfl, Nat.le_of_ble_eq_true rfl⟩ ⟨Nat.le_refl _, Nat.le_refl _⟩ (Nat.le_of_ble_eq_true rfl) dX6_turn_6 (fun H locs hP hS => ?_)
  refine x_yne (u := (1 : Int)) (tgt := 14) hx hb (rfl) dX6_turn_9 (by decide) (fun h_1 => ?_) (fun h_1 => (by omega : False).elim)
  refine lv_iconst (v := nI 0) hx hb dX6_turn_14 (by decide) ?_
  refine lv_istore_n (lv' := [(2, .int (nI 0)), (0, .ref (ad 0)), (1, .int (nI n))]) hx hb dX6_turn_15 rfl hl (by decide) rfl (fun ls hl => ?_)
  refine lv_iconst (v := nI 0) hx hb dX6_turn_16 (by decide) ?_
  refine lv_istore_n (lv' := [(3, .int (nI 0)), (2, .int (nI 0)), (0, .ref (ad 0)), (1, .int (nI n))]) hx hb dX6_turn_17 rfl hl (by decide) rfl (fun ls hl => ?_)
  have L18 : ∀ (d18 : Nat) (a : Nat), (a + d18 = (M 1 73)) → (∀ (H : Heap) (locs : List Loc) (ls : Array Slot), g_P g ad dsR 14 M J H → va_S (g_A ad 14) s9.heap H locs → lv_has ls 8 [(3, .int (nI a)), (2, .int (nI (sumN (fun q => sumN (fun i => sitU M n q (q + 1 + i)) (M 1 73 - (q + 1))) a))), (0, .ref (ad 0)), (1, .int (nI n))] → W p9 l e9 (g_rm 4) s9 m9 args9 below9 meth9 c9 H locs 0 0 (MQ below9 (va_Qi (fun r' (_ : Unit) => r' = (nI (sitR M n))) (fun _ t => g_P g ad dsR 14 (goR M n) J t.heap) (g_A ad 14)) args9 s9 0 0 (g_A ad 14)) (F0 m9 18 ls [])) := by
    intro d18
    induction d18 with
    | zero =>
      intro a h_a H locs ls hP hS hl
      have ea : a = M 1 73 := by omega
      refine lv_iload_n hx hb dX6_turn_18 rfl (lv_at hl 0 rfl) ?_
      refine lv_aload_n hx hb dX6_turn_19 rfl (lv_at hl 2 rfl) ?_
      refine x_getr CF hK hP 0 (by decide) dR_0 rfl uX6 0 (by decide) (j := 1) rfl wd3_96 rfl dX6_turn_20 ?_
      refine lv_bipush (v := nI 73) hx hb dX6_turn_23 (by decide) ?_
      refine x_iald CF hK hP 1 (by decide) dR_1 73 (by omega) (by decide) dX6_turn_25 ?_
      refine x_zge (u := (a : Nat)) (v := (M 1 73 : Nat)) (tgt := 125) hx hb (nI_toInt (by omega)) (nI_toInt (by omega)) dX6_turn_26 (by decide) (fun h_2 => ?_) (fun h_2 => (by omega : False).elim)
      refine lv_iconst (v := nI 0) hx hb dX6_turn_125 (by decide) ?_
      refine lv_istore_n (lv' := [(3, .int (nI 0)), (2, .int (nI (sumN (fun q => sumN (fun i => sitU M n q (q + 1 + i)) (M 1 73 - (q + 1))) a))), (0, .ref (ad 0)), (1, .int (nI n))]) hx hb dX6_turn_126 rfl hl (by decide) rfl (fun ls hl => ?_)
      have L127 : ∀ (d127 : Nat) (z : Nat), (z + d127 = (n % 12)) → (∀ (H : Heap) (locs : List Loc) (ls : Array Slot), g_P g ad dsR 14 (u2 M 1 106 (itb (M 1 105) (M 1 106) z)) J H → va_S (g_A ad 14) s9.heap H locs → lv_has ls 8 [(3, .int (nI z)), (2, .int (nI (sumN (fun q => sumN (fun i => sitU M n q (q + 1 + i)) (M 1 73 - (q + 1))) a))), (0, .ref (ad 0)), (1, .int (nI n))] → W p9 l e9 (g_rm 4) s9 m9 args9 below9 meth9 c9 H locs 0 0 (MQ below9 (va_Qi (fun r' (_ : Unit) => r' = (nI (sitR M n))) (fun _ t => g_P g ad dsR 14 (goR M n) J t.heap) (g_A ad 14)) args9 s9 0 0 (g_A ad 14)) (F0 m9 127 ls [])) := by
        intro d127
        induction d127 with
        | zero =>
          intro z h_z H locs ls hP hS hl
          refine lv_iload_n hx hb dX6_turn_127 rfl (lv_at hl 0 rfl) ?_
          refine lv_iload_n hx hb dX6_turn_128 rfl (lv_at hl 3 rfl) ?_
          refine lv_bipush (v := nI 12) hx hb dX6_turn_129 (by decide) ?_
          refine x_irem hx hb (by omega) (by omega) (by omega) dX6_turn_131 ?_
          refine x_zge (u := (z : Nat)) (v := (n % 12 : Nat)) (tgt := 159) hx hb (nI_toInt (by omega)) (nI_toInt (by omega)) dX6_turn_132 (by decide) (fun h_3 => ?_) (fun h_3 => (by omega : False).elim)
          refine lv_aload_n hx hb dX6_turn_159 rfl (lv_at hl 2 rfl) ?_
          refine x_getr CF hK hP 0 (by decide) dR_0 rfl uX6 0 (by decide) (j := 1) rfl wd3_96 rfl dX6_turn_160 ?_
          refine lv_bipush (v := nI 107) hx hb dX6_turn_163 (by decide) ?_
          refine lv_aload_n hx hb dX6_turn_165 rfl (lv_at hl 2 rfl) ?_
          refine x_getr CF hK hP 0 (by decide) dR_0 rfl uX6 0 (by decide) (j := 1) rfl wd3_96 rfl dX6_turn_166 ?_
          refine lv_bipush (v := nI 107) hx hb dX6_turn_169 (by decide) ?_
          refine x_iald CF hK hP 1 (by decide) dR_1 107 (by omega) (by decide) dX6_turn_171 ?_
          refine x_ri (show (nI ((u2 M 1 106 (itb (M 1 105) (M 1 106) z)) 1 107)) = nI (M 1 107) from by simp [u2]) ?_
          refine lv_iload_n hx hb dX6_turn_172 rfl (lv_at hl 3 rfl) ?_
          refine x_iadd hx hb dX6_turn_173 ?_
          refine lv_ldc (v := nI 1000000000) hx hb CF.2.2.2.1 (CF.2.2.2.2 _ (List.mem_cons_of_mem _ wd4_19)) dX6_turn_174 ?_
          refine x_zle (u := ((M 1 107) + n : Nat)) (v := (1000000000 : Int)) (tgt := 184) hx hb (nI_toInt (by omega)) (rfl) dX6_turn_176 (by decide) (fun h_4 => ?_) (fun h_4 => ?_)
          · refine lv_aload_n hx hb dX6_turn_184 rfl (lv_at hl 2 rfl) ?_
            refine x_getr CF hK hP 0 (by decide) dR_0 rfl uX6 0 (by decide) (j := 1) rfl wd3_96 rfl dX6_turn_185 ?_
            refine lv_bipush (v := nI 107) hx hb dX6_turn_188 (by decide) ?_
            refine x_iald CF hK hP 1 (by decide) dR_1 107 (by omega) (by decide) dX6_turn_190 ?_
            refine x_ri (show (nI ((u2 M 1 106 (itb (M 1 105) (M 1 106) z)) 1 107)) = nI (M 1 107) from by simp [u2]) ?_
            refine lv_iload_n hx hb dX6_turn_191 rfl (lv_at hl 3 rfl) ?_
            refine x_iadd hx hb dX6_turn_192 ?_
            refine x_iast CF hK hI hA hP hS 1 (by decide) dR_1 107 (by omega) (by decide) ((M 1 107) + n) dX6_turn_193 (fun H locs hP hS => ?_)
            refine lv_iload_n hx hb dX6_turn_194 rfl (lv_at hl 1 rfl) ?_
            exact x_reti hx hb hr9 hlk9 hS (by rw [goR, show n % 12 = z by omega, show min (M 1 107 + n) 1000000000 = M 1 107 + n by omega]; exact hP) (by rw [ea]; rfl) dX6_turn_195
          · refine lv_ldc (v := nI 1000000000) hx hb CF.2.2.2.1 (CF.2.2.2.2 _ (List.mem_cons_of_mem _ wd4_19)) dX6_turn_179 ?_
            refine lv_goto (tgt := 193) hx hb dX6_turn_181 (by decide) ?_
            refine x_iast CF hK hI hA hP hS 1 (by decide) dR_1 107 (by omega) (by decide) 1000000000 dX6_turn_193 (fun H locs hP hS => ?_)
            refine lv_iload_n hx hb dX6_turn_194 rfl (lv_at hl 1 rfl) ?_
            exact x_reti hx hb hr9 hlk9 hS (by rw [goR, show n % 12 = z by omega, show min (M 1 107 + n) 1000000000 = 1000000000 by omega]; exact hP) (by rw [ea]; rfl) dX6_turn_195
        | succ d127 ih127 =>
          intro z h_z H locs ls hP hS hl
          have b2 : itb (M 1 105) (M 1 106) z < 12 := itb_lt (by omega) z
          have hw2 : wfR (u2 M 1 106 (itb (M 1 105) (M 1 106) z)) := hw.set106 (by omega)
          refine lv_iload_n hx hb dX6_turn_127 rfl (lv_at hl 0 rfl) ?_
          refine lv_iload_n hx hb dX6_turn_128 rfl (lv_at hl 3 rfl) ?_
          refine lv_bipush (v := nI 12) hx hb dX6_turn_129 (by decide) ?_
          refine x_irem hx hb (by omega) (by omega) (by omega) dX6_turn_131 ?_
          refine x_zge (u := (z : Nat)) (v := (n % 12 : Nat)) (tgt := 159) hx hb (nI_toInt (by omega)) (nI_toInt (by omega)) dX6_turn_132 (by decide) (fun h_5 => (by omega : False).elim) (fun h_5 => ?_)
          refine lv_aload_n hx hb dX6_turn_135 rfl (lv_at hl 2 rfl) ?_
          refine x_getr CF hK hP 0 (by decide) dR_0 rfl uX6 0 (by decide) (j := 1) rfl wd3_96 rfl dX6_turn_136 ?_
          refine lv_bipush (v := nI 106) hx hb dX6_turn_139 (by decide) ?_
          refine lv_aload_n hx hb dX6_turn_141 rfl (lv_at hl 2 rfl) ?_
          refine lv_aload_n hx hb dX6_turn_142 rfl (lv_at hl 2 rfl) ?_
          refine x_getr CF hK hP 0 (by decide) dR_0 rfl uX6 0 (by decide) (j := 1) rfl wd3_96 rfl dX6_turn_143 ?_
          refine lv_bipush (v := nI 106) hx hb dX6_turn_146 (by decide) ?_
          refine x_iald CF hK hP 1 (by decide) dR_1 106 (by omega) (by decide) dX6_turn_148 ?_
          refine x_ri (show (nI ((u2 M 1 106 (itb (M 1 105) (M 1 106) z)) 1 106)) = nI (itb (M 1 105) (M 1 106) z) from congrArg nI (u2_same _ _ _ _)) ?_
          refine x_callVI CF hK hP hS hA hl (As := [.int (nI (itb (M 1 105) (M 1 106) z))]) (rest := [.int (nI 106), .ref (ad 1)]) (r_behind hI (u2 M 1 106 (itb (M 1 105) (M 1 106) z)) J hw2 (itb (M 1 105) (M 1 106) z) (by omega)) kw_X6_behind wd4_15 (by decide) dR_0 rfl rfl ⟨Nat.le_of_ble_eq_true rfl, Nat.le_of_ble_eq_true rfl⟩ ⟨Nat.le_refl _, Nat.le_refl _⟩ (Nat.le_of_ble_eq_true rfl) dX6_turn_149 (fun H locs hP hS => ?_)
          refine x_ri (show (nI (bhd ((u2 M 1 106 (itb (M 1 105) (M 1 106) z)) 1 105) (itb (M 1 105) (M 1 106) z))) = nI (bhd (M 1 105) (itb (M 1 105) (M 1 106) z)) from by rw [show u2 M 1 106 (itb (M 1 105) (M 1 106) z) 1 105 = M 1 105 by simp [u2]]) ?_
          refine x_iast CF hK hI hA hP hS 1 (by decide) dR_1 106 (by omega) (by decide) (bhd (M 1 105) (itb (M 1 105) (M 1 106) z)) dX6_turn_152 (fun H locs hP hS => ?_)
          refine lv_iinc (v := nI (z + 1)) (lv' := [(3, .int (nI (z + 1))), (2, .int (nI (sumN (fun q => sumN (fun i => sitU M n q (q + 1 + i)) (M 1 73 - (q + 1))) a))), (0, .ref (ad 0)), (1, .int (nI n))]) hx hb dX6_turn_153 hl (k := 0) rfl (n_inc z 1) (by decide) rfl (fun ls hl => ?_)
          refine lv_goto (tgt := 127) hx hb dX6_turn_156 (by decide) ?_
          have hl0 : lv_has ls 8 [(3, .int (nI (z + 1))), (2, .int (nI (sumN (fun q => sumN (fun i => sitU M n q (q + 1 + i)) (M 1 73 - (q + 1))) a))), (0, .ref (ad 0)), (1, .int (nI n))] := lv_sub hl [0, 1, 2, 3] rfl
          exact ih127 (z + 1) (by omega) _ _ _ (by rw [u2_tw] at hP; exact hP) hS hl0
      have hl0 : lv_has ls 8 [(3, .int (nI 0)), (2, .int (nI (sumN (fun q => sumN (fun i => sitU M n q (q + 1 + i)) (M 1 73 - (q + 1))) a))), (0, .ref (ad 0)), (1, .int (nI n))] := lv_sub hl [0, 1, 2, 3] rfl
      exact L127 (n % 12) 0 (by omega) _ _ _ (by rw [show itb (M 1 105) (M 1 106) 0 = M 1 106 from rfl, u2_id rfl]; exact hP) hS hl0
    | succ d18 ih18 =>
      intro a h_a H locs ls hP hS hl
      refine lv_iload_n hx hb dX6_turn_18 rfl (lv_at hl 0 rfl) ?_
      refine lv_aload_n hx hb dX6_turn_19 rfl (lv_at hl 2 rfl) ?_
      refine x_getr CF hK hP 0 (by decide) dR_0 rfl uX6 0 (by decide) (j := 1) rfl wd3_96 rfl dX6_turn_20 ?_
      refine lv_bipush (v := nI 73) hx hb dX6_turn_23 (by decide) ?_
      refine x_iald CF hK hP 1 (by decide) dR_1 73 (by omega) (by decide) dX6_turn_25 ?_
      refine x_zge (u := (a : Nat)) (v := (M 1 73 : Nat)) (tgt := 125) hx hb (nI_toInt (by omega)) (nI_toInt (by omega)) dX6_turn_26 (by decide) (fun h_6 => (by omega : False).elim) (fun h_6 => ?_)
      refine lv_iload_n hx hb dX6_turn_29 rfl (lv_at hl 0 rfl) ?_
      refine lv_iconst (v := nI 1) hx hb dX6_turn_30 (by decide) ?_
      refine x_iadd hx hb dX6_turn_31 ?_
      refine lv_istore (lv' := [(4, .int (nI (a + 1))), (3, .int (nI a)), (2, .int (nI (sumN (fun q => sumN (fun i => sitU M n q (q + 1 + i)) (M 1 73 - (q + 1))) a))), (0, .ref (ad 0)), (1, .int (nI n))]) hx hb dX6_turn_32 hl (by decide) rfl (fun ls hl => ?_)
      have L34 : ∀ (d34 : Nat) (j : Nat), (j + d34 = (M 1 73 - (a + 1))) → (∀ (H : Heap) (locs : List Loc) (ls : Array Slot), g_P g ad dsR 14 M J H → va_S (g_A ad 14) s9.heap H locs → lv_has ls 8 [(4, .int (nI (a + 1 + j))), (3, .int (nI a)), (2, .int (nI (sumN (fun q => sumN (fun i => sitU M n q (q + 1 + i)) (M 1 73 - (q + 1))) a + sumN (fun i => sitU M n a (a + 1 + i)) j))), (0, .ref (ad 0)), (1, .int (nI n))] → W p9 l e9 (g_rm 4) s9 m9 args9 below9 meth9 c9 H locs 0 0 (MQ below9 (va_Qi (fun r' (_ : Unit) => r' = (nI (sitR M n))) (fun _ t => g_P g ad dsR 14 (goR M n) J t.heap) (g_A ad 14)) args9 s9 0 0 (g_A ad 14)) (F0 m9 34 ls [])) := by
        intro d34
        induction d34 with
        | zero =>
          intro j h_j H locs ls hP hS hl
          refine lv_iload hx hb dX6_turn_34 (lv_at hl 0 rfl) ?_
          refine lv_aload_n hx hb dX6_turn_36 rfl (lv_at hl 3 rfl) ?_
          refine x_getr CF hK hP 0 (by decide) dR_0 rfl uX6 0 (by decide) (j := 1) rfl wd3_96 rfl dX6_turn_37 ?_
          refine lv_bipush (v := nI 73) hx hb dX6_turn_40 (by decide) ?_
          refine x_iald CF hK hP 1 (by decide) dR_1 73 (by omega) (by decide) dX6_turn_42 ?_
          refine x_zge (u := (a + 1 + j : Nat)) (v := (M 1 73 : Nat)) (tgt := 119) hx hb (nI_toInt (by omega)) (nI_toInt (by omega)) dX6_turn_43 (by decide) (fun h_7 => ?_) (fun h_7 => (by omega : False).elim)
          refine lv_iinc (v := nI (a + 1)) (lv' := [(3, .int (nI (a + 1))), (4, .int (nI (a + 1 + j))), (2, .int (nI (sumN (fun q => sumN (fun i => sitU M n q (q + 1 + i)) (M 1 73 - (q + 1))) a + sumN (fun i => sitU M n a (a + 1 + i)) j))), (0, .ref (ad 0)), (1, .int (nI n))]) hx hb dX6_turn_119 hl (k := 1) rfl (n_inc a 1) (by decide) rfl (fun ls hl => ?_)
          refine lv_goto (tgt := 18) hx hb dX6_turn_122 (by decide) ?_
          have hl0 : lv_has ls 8 [(3, .int (nI (a + 1))), (2, .int (nI (sumN (fun q => sumN (fun i => sitU M n q (q + 1 + i)) (M 1 73 - (q + 1))) (a + 1)))), (0, .ref (ad 0)), (1, .int (nI n))] := by rw [(show nI (sumN (fun q => sumN (fun i => sitU M n q (q + 1 + i)) (M 1 73 - (q + 1))) (a + 1)) = nI (sumN (fun q => sumN (fun i => sitU M n q (q + 1 + i)) (M 1 73 - (q + 1))) a + sumN (fun i => sitU M n a (a + 1 + i)) j) from by refine congrArg nI ?_; simp only [sumN]; rw [show j = M 1 73 - (a + 1) by omega])]; exact lv_sub hl [0, 2, 3, 4] rfl
          exact ih18 (a + 1) (by omega) _ _ _ (hP) hS hl0
        | succ d34 ih34 =>
          intro j h_j H locs ls hP hS hl
          have b1 := strR_lt M a (a + 1 + j)
          refine lv_iload hx hb dX6_turn_34 (lv_at hl 0 rfl) ?_
          refine lv_aload_n hx hb dX6_turn_36 rfl (lv_at hl 3 rfl) ?_
          refine x_getr CF hK hP 0 (by decide) dR_0 rfl uX6 0 (by decide) (j := 1) rfl wd3_96 rfl dX6_turn_37 ?_
          refine lv_bipush (v := nI 73) hx hb dX6_turn_40 (by decide) ?_
          refine x_iald CF hK hP 1 (by decide) dR_1 73 (by omega) (by decide) dX6_turn_42 ?_
          refine x_zge (u := (a + 1 + j : Nat)) (v := (M 1 73 : Nat)) (tgt := 119) hx hb (nI_toInt (by omega)) (nI_toInt (by omega)) dX6_turn_43 (by decide) (fun h_8 => (by omega : False).elim) (fun h_8 => ?_)
          refine lv_aload_n hx hb dX6_turn_46 rfl (lv_at hl 3 rfl) ?_
          refine lv_iload_n hx hb dX6_turn_47 rfl (lv_at hl 1 rfl) ?_
          refine lv_iload hx hb dX6_turn_48 (lv_at hl 0 rfl) ?_
          refine x_callVI CF hK hP hS hA hl (As := [.int (nI a), .int (nI (a + 1 + j))]) (rest := []) (r_strikesOf hI M J hw a (a + 1 + j) (by omega) (by omega)) kw_X6_strikesOf wd4_3 (by decide) dR_0 rfl rfl ⟨Nat.le_of_ble_eq_true rfl, Nat.le_of_ble_eq_true rfl⟩ ⟨Nat.le_refl _, Nat.le_refl _⟩ (Nat.le_of_ble_eq_true rfl) dX6_turn_50 (fun H locs hP hS => ?_)
          refine lv_istore (lv' := [(5, .int (nI (strR M a (a + 1 + j)))), (4, .int (nI (a + 1 + j))), (3, .int (nI a)), (2, .int (nI (sumN (fun q => sumN (fun i => sitU M n q (q + 1 + i)) (M 1 73 - (q + 1))) a + sumN (fun i => sitU M n a (a + 1 + i)) j))), (0, .ref (ad 0)), (1, .int (nI n))]) hx hb dX6_turn_53 hl (by decide) rfl (fun ls hl => ?_)
          refine lv_aload_n hx hb dX6_turn_55 rfl (lv_at hl 4 rfl) ?_
          refine x_getr CF hK hP 0 (by decide) dR_0 rfl uX6 0 (by decide) (j := 1) rfl wd3_96 rfl dX6_turn_56 ?_
          refine lv_bipush (v := nI 106) hx hb dX6_turn_59 (by decide) ?_
          refine x_iald CF hK hP 1 (by decide) dR_1 106 (by omega) (by decide) dX6_turn_61 ?_
          refine lv_istore (lv' := [(6, .int (nI (M 1 106))), (5, .int (nI (strR M a (a + 1 + j)))), (4, .int (nI (a + 1 + j))), (3, .int (nI a)), (2, .int (nI (sumN (fun q => sumN (fun i => sitU M n q (q + 1 + i)) (M 1 73 - (q + 1))) a + sumN (fun i => sitU M n a (a + 1 + i)) j))), (0, .ref (ad 0)), (1, .int (nI n))]) hx hb dX6_turn_62 hl (by decide) rfl (fun ls hl => ?_)
          refine lv_iload_n hx hb dX6_turn_64 rfl (lv_at hl 4 rfl) ?_
          refine lv_iload_n hx hb dX6_turn_65 rfl (lv_at hl 6 rfl) ?_
          refine lv_bipush (v := nI 12) hx hb dX6_turn_66 (by decide) ?_
          refine x_idiv hx hb (by omega) (by omega) (by omega) dX6_turn_68 ?_
          refine lv_iload hx hb dX6_turn_69 (lv_at hl 1 rfl) ?_
          refine x_callSP CF hK hP hS hl (As := [.int (nI (strR M a (a + 1 + j)))]) (rest := [.int (nI (n / 12)), .int (nI (sumN (fun q => sumN (fun i => sitU M n q (q + 1 + i)) (M 1 73 - (q + 1))) a + sumN (fun i => sitU M n a (a + 1 + i)) j))]) (r_ones (strR M a (a + 1 + j)) (by omega)) kw_X6_ones wd3_204 rfl ⟨Nat.le_of_ble_eq_true rfl, Nat.le_of_ble_eq_true rfl⟩ ⟨Nat.le_refl _, Nat.le_refl _⟩ (Nat.le_of_ble_eq_true rfl) dX6_turn_71 (fun H locs hP hS => ?_)
          refine x_imul hx hb dX6_turn_74 ?_
          refine x_iadd hx hb dX6_turn_75 ?_
          refine lv_istore_n (lv' := [(2, .int (nI ((sumN (fun q => sumN (fun i => sitU M n q (q + 1 + i)) (M 1 73 - (q + 1))) a + sumN (fun i => sitU M n a (a + 1 + i)) j) + ((n / 12) * (pop (strR M a (a + 1 + j))))))), (6, .int (nI (M 1 106))), (5, .int (nI (strR M a (a + 1 + j)))), (4, .int (nI (a + 1 + j))), (3, .int (nI a)), (0, .ref (ad 0)), (1, .int (nI n))]) hx hb dX6_turn_76 rfl hl (by decide) rfl (fun ls hl => ?_)
          refine lv_iconst (v := nI 0) hx hb dX6_turn_77 (by decide) ?_
          refine lv_istore (lv' := [(7, .int (nI 0)), (2, .int (nI ((sumN (fun q => sumN (fun i => sitU M n q (q + 1 + i)) (M 1 73 - (q + 1))) a + sumN (fun i => sitU M n a (a + 1 + i)) j) + ((n / 12) * (pop (strR M a (a + 1 + j))))))), (6, .int (nI (M 1 106))), (5, .int (nI (strR M a (a + 1 + j)))), (4, .int (nI (a + 1 + j))), (3, .int (nI a)), (0, .ref (ad 0)), (1, .int (nI n))]) hx hb dX6_turn_78 hl (by decide) rfl (fun ls hl => ?_)
          have L80 : ∀ (d80 : Nat) (k : Nat), (k + d80 = (n % 12)) → (∀ (H : Heap) (locs : List Loc) (ls : Array Slot), g_P g ad dsR 14 M J H → va_S (g_A ad 14) s9.heap H locs → lv_has ls 8 [(7, .int (nI k)), (2, .int (nI (sumN (fun q => sumN (fun i => sitU M n q (q + 1 + i)) (M 1 73 - (q + 1))) a + sumN (fun i => sitU M n a (a + 1 + i)) j + n / 12 * pop (strR M a (a + 1 + j)) + sumN (pthN (strR M a (a + 1 + j)) (M 1 105) (M 1 106)) k))), (6, .int (nI (itb (M 1 105) (M 1 106) k))), (5, .int (nI (strR M a (a + 1 + j)))), (4, .int (nI (a + 1 + j))), (3, .int (nI a)), (0, .ref (ad 0)), (1, .int (nI n))] → W p9 l e9 (g_rm 4) s9 m9 args9 below9 meth9 c9 H locs 0 0 (MQ below9 (va_Qi (fun r' (_ : Unit) => r' = (nI (sitR M n))) (fun _ t => g_P g ad dsR 14 (goR M n) J t.heap) (g_A ad 14)) args9 s9 0 0 (g_A ad 14)) (F0 m9 80 ls [])) := by
            intro d80
            induction d80 with
            | zero =>
              intro k h_k H locs ls hP hS hl
              refine lv_iload hx hb dX6_turn_80 (lv_at hl 0 rfl) ?_
              refine lv_iload_n hx hb dX6_turn_82 rfl (lv_at hl 7 rfl) ?_
              refine lv_bipush (v := nI 12) hx hb dX6_turn_83 (by decide) ?_
              refine x_irem hx hb (by omega) (by omega) (by omega) dX6_turn_85 ?_
              refine x_zge (u := (k : Nat)) (v := (n % 12 : Nat)) (tgt := 113) hx hb (nI_toInt (by omega)) (nI_toInt (by omega)) dX6_turn_86 (by decide) (fun h_9 => ?_) (fun h_9 => (by omega : False).elim)
              refine lv_iinc (v := nI (a + 1 + j + 1)) (lv' := [(4, .int (nI (a + 1 + j + 1))), (7, .int (nI k)), (2, .int (nI (sumN (fun q => sumN (fun i => sitU M n q (q + 1 + i)) (M 1 73 - (q + 1))) a + sumN (fun i => sitU M n a (a + 1 + i)) j + n / 12 * pop (strR M a (a + 1 + j)) + sumN (pthN (strR M a (a + 1 + j)) (M 1 105) (M 1 106)) k))), (6, .int (nI (itb (M 1 105) (M 1 106) k))), (5, .int (nI (strR M a (a + 1 + j)))), (3, .int (nI a)), (0, .ref (ad 0)), (1, .int (nI n))]) hx hb dX6_turn_113 hl (k := 4) rfl (n_inc (a + 1 + j) 1) (by decide) rfl (fun ls hl => ?_)
              refine lv_goto (tgt := 34) hx hb dX6_turn_116 (by decide) ?_
              have hl0 : lv_has ls 8 [(4, .int (nI (a + 1 + (j + 1)))), (3, .int (nI a)), (2, .int (nI (sumN (fun q => sumN (fun i => sitU M n q (q + 1 + i)) (M 1 73 - (q + 1))) a + sumN (fun i => sitU M n a (a + 1 + i)) (j + 1)))), (0, .ref (ad 0)), (1, .int (nI n))] := by rw [(show nI (a + 1 + (j + 1)) = nI (a + 1 + j + 1) from rfl), (show nI (sumN (fun q => sumN (fun i => sitU M n q (q + 1 + i)) (M 1 73 - (q + 1))) a + sumN (fun i => sitU M n a (a + 1 + i)) (j + 1)) = nI (sumN (fun q => sumN (fun i => sitU M n q (q + 1 + i)) (M 1 73 - (q + 1))) a + sumN (fun i => sitU M n a (a + 1 + i)) j + n / 12 * pop (strR M a (a + 1 + j)) + sumN (pthN (strR M a (a + 1 + j)) (M 1 105) (M 1 106)) k) from by refine congrArg nI ?_; rw [show sumN (fun i => sitU M n a (a + 1 + i)) (j + 1) = sumN (fun i => sitU M n a (a + 1 + i)) j + sitU M n a (a + 1 + j) from rfl, sitU, show k = n % 12 by omega]; omega)]; exact lv_sub hl [0, 5, 2, 6, 7] rfl
              exact ih34 (j + 1) (by omega) _ _ _ (hP) hS hl0
            | succ d80 ih80 =>
              intro k h_k H locs ls hP hS hl
              have b2 : itb (M 1 105) (M 1 106) k < 12 := itb_lt (by omega) k
              have b3 := bhd_lt (M 1 105) (itb (M 1 105) (M 1 106) k)
              refine lv_iload hx hb dX6_turn_80 (lv_at hl 0 rfl) ?_
              refine lv_iload_n hx hb dX6_turn_82 rfl (lv_at hl 7 rfl) ?_
              refine lv_bipush (v := nI 12) hx hb dX6_turn_83 (by decide) ?_
              refine x_irem hx hb (by omega) (by omega) (by omega) dX6_turn_85 ?_
              refine x_zge (u := (k : Nat)) (v := (n % 12 : Nat)) (tgt := 113) hx hb (nI_toInt (by omega)) (nI_toInt (by omega)) dX6_turn_86 (by decide) (fun h_10 => (by omega : False).elim) (fun h_10 => ?_)
              refine lv_aload_n hx hb dX6_turn_89 rfl (lv_at hl 6 rfl) ?_
              refine lv_iload hx hb dX6_turn_90 (lv_at hl 2 rfl) ?_
              refine x_callVI CF hK hP hS hA hl (As := [.int (nI (itb (M 1 105) (M 1 106) k))]) (rest := []) (r_behind hI M J hw (itb (M 1 105) (M 1 106) k) (by omega)) kw_X6_behind wd4_15 (by decide) dR_0 rfl rfl ⟨Nat.le_of_ble_eq_true rfl, Nat.le_of_ble_eq_true rfl⟩ ⟨Nat.le_refl _, Nat.le_refl _⟩ (Nat.le_of_ble_eq_true rfl) dX6_turn_92 (fun H locs hP hS => ?_)
              refine lv_istore (lv' := [(6, .int (nI (bhd (M 1 105) (itb (M 1 105) (M 1 106) k)))), (7, .int (nI k)), (2, .int (nI (sumN (fun q => sumN (fun i => sitU M n q (q + 1 + i)) (M 1 73 - (q + 1))) a + sumN (fun i => sitU M n a (a + 1 + i)) j + n / 12 * pop (strR M a (a + 1 + j)) + sumN (pthN (strR M a (a + 1 + j)) (M 1 105) (M 1 106)) k))), (5, .int (nI (strR M a (a + 1 + j)))), (4, .int (nI (a + 1 + j))), (3, .int (nI a)), (0, .ref (ad 0)), (1, .int (nI n))]) hx hb dX6_turn_95 hl (by decide) rfl (fun ls hl => ?_)
              refine lv_iload_n hx hb dX6_turn_97 rfl (lv_at hl 2 rfl) ?_
              refine lv_iload hx hb dX6_turn_98 (lv_at hl 3 rfl) ?_
              refine lv_iload hx hb dX6_turn_100 (lv_at hl 0 rfl) ?_
              refine x_ishr hx hb (by omega) (by omega) dX6_turn_102 ?_
              refine lv_iconst (v := nI 1) hx hb dX6_turn_103 (by decide) ?_
              refine x_iand hx hb dX6_turn_104 ?_
              refine x_iadd hx hb dX6_turn_105 ?_
              refine lv_istore_n (lv' := [(2, .int (nI ((sumN (fun q => sumN (fun i => sitU M n q (q + 1 + i)) (M 1 73 - (q + 1))) a + sumN (fun i => sitU M n a (a + 1 + i)) j + n / 12 * pop (strR M a (a + 1 + j)) + sumN (pthN (strR M a (a + 1 + j)) (M 1 105) (M 1 106)) k) + (((strR M a (a + 1 + j)) >>> (bhd (M 1 105) (itb (M 1 105) (M 1 106) k))) &&& 1)))), (6, .int (nI (bhd (M 1 105) (itb (M 1 105) (M 1 106) k)))), (7, .int (nI k)), (5, .int (nI (strR M a (a + 1 + j)))), (4, .int (nI (a + 1 + j))), (3, .int (nI a)), (0, .ref (ad 0)), (1, .int (nI n))]) hx hb dX6_turn_106 rfl hl (by decide) rfl (fun ls hl => ?_)
              refine lv_iinc (v := nI (k + 1)) (lv' := [(7, .int (nI (k + 1))), (2, .int (nI ((sumN (fun q => sumN (fun i => sitU M n q (q + 1 + i)) (M 1 73 - (q + 1))) a + sumN (fun i => sitU M n a (a + 1 + i)) j + n / 12 * pop (strR M a (a + 1 + j)) + sumN (pthN (strR M a (a + 1 + j)) (M 1 105) (M 1 106)) k) + (((strR M a (a + 1 + j)) >>> (bhd (M 1 105) (itb (M 1 105) (M 1 106) k))) &&& 1)))), (6, .int (nI (bhd (M 1 105) (itb (M 1 105) (M 1 106) k)))), (5, .int (nI (strR M a (a + 1 + j)))), (4, .int (nI (a + 1 + j))), (3, .int (nI a)), (0, .ref (ad 0)), (1, .int (nI n))]) hx hb dX6_turn_107 hl (k := 2) rfl (n_inc k 1) (by decide) rfl (fun ls hl => ?_)
              refine lv_goto (tgt := 80) hx hb dX6_turn_110 (by decide) ?_
              have hl0 : lv_has ls 8 [(7, .int (nI (k + 1))), (2, .int (nI (sumN (fun q => sumN (fun i => sitU M n q (q + 1 + i)) (M 1 73 - (q + 1))) a + sumN (fun i => sitU M n a (a + 1 + i)) j + n / 12 * pop (strR M a (a + 1 + j)) + sumN (pthN (strR M a (a + 1 + j)) (M 1 105) (M 1 106)) (k + 1)))), (6, .int (nI (itb (M 1 105) (M 1 106) (k + 1)))), (5, .int (nI (strR M a (a + 1 + j)))), (4, .int (nI (a + 1 + j))), (3, .int (nI a)), (0, .ref (ad 0)), (1, .int (nI n))] := by rw [(show nI (sumN (fun q => sumN (fun i => sitU M n q (q + 1 + i)) (M 1 73 - (q + 1))) a + sumN (fun i => sitU M n a (a + 1 + i)) j + n / 12 * pop (strR M a (a + 1 + j)) + sumN (pthN (strR M a (a + 1 + j)) (M 1 105) (M 1 106)) (k + 1)) = nI ((sumN (fun q => sumN (fun i => sitU M n q (q + 1 + i)) (M 1 73 - (q + 1))) a + sumN (fun i => sitU M n a (a + 1 + i)) j + n / 12 * pop (strR M a (a + 1 + j)) + sumN (pthN (strR M a (a + 1 + j)) (M 1 105) (M 1 106)) k) + (((strR M a (a + 1 + j)) >>> (bhd (M 1 105) (itb (M 1 105) (M 1 106) k))) &&& 1)) from by refine congrArg nI ?_; rw [show sumN (pthN (strR M a (a + 1 + j)) (M 1 105) (M 1 106)) (k + 1) = sumN (pthN (strR M a (a + 1 + j)) (M 1 105) (M 1 106)) k + ((strR M a (a + 1 + j)) >>> itb (M 1 105) (M 1 106) (k + 1) &&& 1) from rfl]; rw [show itb (M 1 105) (M 1 106) (k + 1) = bhd (M 1 105) (itb (M 1 105) (M 1 106) k) from rfl]; omega), (show nI (itb (M 1 105) (M 1 106) (k + 1)) = nI (bhd (M 1 105) (itb (M 1 105) (M 1 106) k)) from rfl)]; exact lv_sub hl [0, 1, 2, 3, 4, 5, 6, 7] rfl
              exact ih80 (k + 1) (by omega) _ _ _ (hP) hS hl0
          have hl0 : lv_has ls 8 [(7, .int (nI 0)), (2, .int (nI (sumN (fun q => sumN (fun i => sitU M n q (q + 1 + i)) (M 1 73 - (q + 1))) a + sumN (fun i => sitU M n a (a + 1 + i)) j + n / 12 * pop (strR M a (a + 1 + j)) + sumN (pthN (strR M a (a + 1 + j)) (M 1 105) (M 1 106)) 0))), (6, .int (nI (itb (M 1 105) (M 1 106) 0))), (5, .int (nI (strR M a (a + 1 + j)))), (4, .int (nI (a + 1 + j))), (3, .int (nI a)), (0, .ref (ad 0)), (1, .int (nI n))] := by rw [(show nI (sumN (fun q => sumN (fun i => sitU M n q (q + 1 + i)) (M 1 73 - (q + 1))) a + sumN (fun i => sitU M n a (a + 1 + i)) j + n / 12 * pop (strR M a (a + 1 + j)) + sumN (pthN (strR M a (a + 1 + j)) (M 1 105) (M 1 106)) 0) = nI ((sumN (fun q => sumN (fun i => sitU M n q (q + 1 + i)) (M 1 73 - (q + 1))) a + sumN (fun i => sitU M n a (a + 1 + i)) j) + ((n / 12) * (pop (strR M a (a + 1 + j))))) from rfl), (show nI (itb (M 1 105) (M 1 106) 0) = nI (M 1 106) from rfl)]; exact lv_sub hl [0, 1, 2, 3, 4, 5, 6, 7] rfl
          exact L80 (n % 12) 0 (by omega) _ _ _ (hP) hS hl0
      have hl0 : lv_has ls 8 [(4, .int (nI (a + 1 + 0))), (3, .int (nI a)), (2, .int (nI (sumN (fun q => sumN (fun i => sitU M n q (q + 1 + i)) (M 1 73 - (q + 1))) a + sumN (fun i => sitU M n a (a + 1 + i)) 0))), (0, .ref (ad 0)), (1, .int (nI n))] := by rw [(show nI (a + 1 + 0) = nI (a + 1) from rfl), (show nI (sumN (fun q => sumN (fun i => sitU M n q (q + 1 + i)) (M 1 73 - (q + 1))) a + sumN (fun i => sitU M n a (a + 1 + i)) 0) = nI (sumN (fun q => sumN (fun i => sitU M n q (q + 1 + i)) (M 1 73 - (q + 1))) a) from rfl)]; exact lv_sub hl [0, 1, 2, 3, 4] rfl
      exact L34 (M 1 73 - (a + 1)) 0 (by omega) _ _ _ (hP) hS hl0
  have hl0 : lv_has ls 8 [(3, .int (nI 0)), (2, .int (nI (sumN (fun q => sumN (fun i => sitU M n q (q + 1 + i)) (M 1 73 - (q + 1))) 0))), (0, .ref (ad 0)), (1, .int (nI n))] := by rw [(show nI (sumN (fun q => sumN (fun i => sitU M n q (q + 1 + i)) (M 1 73 - (q + 1))) 0) = nI 0 from rfl)]; exact lv_sub hl [0, 1, 2, 3] rfl
  exact L18 (M 1 73) 0 (by omega) _ _ _ (hP) hS hl0
set_option maxHeartbeats 4000000 in
set_option maxRecDepth 100000 in
theorem r_turn_bad {l : Launch} {g : gE} {ad : Nat → Nat} (hI : g_inj ad 14) (M : gMem) (J : gMeL) (n : Int32) (h : ¬ inR1 n 601) : CI l g ad dsR 14 yX6_turn cX6_turn 8 (some .int) 4 [.ref (ad 0), .int n] M J (nI 4294967295) M J := by
  refine CI.of (plainFor_of_name (by decide)) (Nat.le_of_ble_eq_true rfl) (fun p9 e9 s9 m9 args9 below9 meth9 c9 CF hK hr9 hlk9 hP hS ls hl => ?_)
  have hx := CF.1
  have hb := CF.2.1
  have hA : ∀ q, g_A ad 14 q → g_A ad 14 q := fun _ h => h
  have hl : lv_has ls 8 [(0, .ref (ad 0)), (1, .int n)] := hl
  refine lv_iload_n hx hb dX6_turn_0 rfl (lv_at hl 1 rfl) ?_
  rcases n_int1 (x := n) (n := 601) (by omega) with ⟨n1, g_n1, h_n1, rfl⟩ | ho_n
  · refine lv_i2l hx hb dX6_turn_1 (nI_l (by omega)) ?_
    refine lv_lconst (v := (1 : Int64)) hx hb dX6_turn_2 rfl ?_
    refine lv_ldc2 hx hb CF.2.2.2.1 (CF.2.2.2.2 _ (List.mem_cons_of_mem _ wd4_14)) dX6_turn_3 ?_
    refine x_callSP CF hK hP hS hl (As := [.long (lN n1), .long (1 : Int64), .long (600 : Int64)]) (rest := []) (r_in_t _ _ _ (il_in (lo := 1) (hi := 600) (by omega) (by omega) (by omega))) kw_X6_in wd3_147 rfl ⟨Nat.le_of_ble_eq_true rfl, Nat.le_of_ble_eq_true rfl⟩ ⟨Nat.le_refl _, Nat.le_refl _⟩ (Nat.le_of_ble_eq_true rfl) dX6_turn_6 (fun H locs hP hS => ?_)
    refine x_yne (u := (1 : Int)) (tgt := 14) hx hb (rfl) dX6_turn_9 (by decide) (fun h_1 => ?_) (fun h_1 => (by omega : False).elim)
    exact absurd (inR1_n g_n1 h_n1 (by decide)) h
  · refine lv_i2l hx hb dX6_turn_1 rfl ?_
    refine lv_lconst (v := (1 : Int64)) hx hb dX6_turn_2 rfl ?_
    refine lv_ldc2 hx hb CF.2.2.2.1 (CF.2.2.2.2 _ (List.mem_cons_of_mem _ wd4_14)) dX6_turn_3 ?_
    refine x_callSP CF hK hP hS hl (As := [.long n.toInt64, .long (1 : Int64), .long (600 : Int64)]) (rest := []) (r_in_f _ _ _ (il_out (lo := 1) (hi := 600) (by omega) (by omega) (by omega))) kw_X6_in wd3_147 rfl ⟨Nat.le_of_ble_eq_true rfl, Nat.le_of_ble_eq_true rfl⟩ ⟨Nat.le_refl _, Nat.le_refl _⟩ (Nat.le_of_ble_eq_true rfl) dX6_turn_6 (fun H locs hP hS => ?_)
    refine x_yne (u := (0 : Int)) (tgt := 14) hx hb (rfl) dX6_turn_9 (by decide) (fun h_2 => (by omega : False).elim) (fun h_2 => ?_)
    refine lv_iconst (v := nI 4294967295) hx hb dX6_turn_12 (by decide) ?_
    exact x_reti hx hb hr9 hlk9 hS hP (by first | rfl | (show nI 4294967295 = nI 4294967295; first | rfl | omega)) dX6_turn_13
