theorem upsW_lt (M : gMem) (wc k : Nat) : upsW M wc k < 4096 := by
  unfold upsW
  split
  · exact ups_lt _ _ _ _ _
  · exact upsX_lt _ _
theorem wearR_s (M : gMem) (i : Nat) (r : Nat → Nat) (t : Nat) : rowN (rowN M i 12 (wearI r t)) i 12 (wear1 (rowN M i 12 (wearI r t) i)) = rowN M i 12 (wearI r (t + 1)) := rowN_rr (fun q hq => wear1_congr (fun a ha => rowN_in ha) hq)
theorem wears_le (r : Nat → Nat) (q : Nat) : b2n (wears r q) ≤ r q := by
  unfold b2n wears
  by_cases h : r ((q + 1) % 12) + 2 < r q
  · rw [if_pos (decide_eq_true h)]; omega
  · rw [if_neg (by simpa using h)]; omega
set_option maxHeartbeats 4000000 in
set_option maxRecDepth 100000 in
theorem c_oneTurn {l : Launch} {g : gE} {ad : Nat → Nat} (hI : g_inj ad 55) (M : gMem) (J : gMeL) (c : Nat) (hc : c < 6) (hq : ∀ a, a < 12 → M (25 + c) a ≤ 9) : CI l g ad dsX 55 yX5_wornByOneTurn cX5_wornByOneTurn 3 (some .int) 3 [.ref (ad (25 + c))] M J (nI (wearS (M (25 + c)))) (rowN M (25 + c) 12 (wear1 (M (25 + c)))) J := by
  refine CI.of (plainFor_of_name (by decide)) (Nat.le_of_ble_eq_true rfl) (fun p9 e9 s9 m9 args9 below9 meth9 c9 CF hK hr9 hlk9 hP hS ls hl => ?_)
  have hx := CF.1
  have hb := CF.2.1
  have hA : ∀ q, g_A ad 55 q → g_A ad 55 q := fun _ h => h
  have hl : lv_has ls 3 [(0, .ref (ad (25 + c)))] := hl
  refine lv_iconst (v := nI 0) hx hb dX5_wornByOneTurn_0 (by decide) ?_
  refine lv_istore_n (lv' := [(1, .int (nI 0)), (0, .ref (ad (25 + c)))]) hx hb dX5_wornByOneTurn_1 rfl hl (by decide) rfl (fun ls hl => ?_)
  refine lv_iconst (v := nI 0) hx hb dX5_wornByOneTurn_2 (by decide) ?_
  refine lv_istore_n (lv' := [(2, .int (nI 0)), (1, .int (nI 0)), (0, .ref (ad (25 + c)))]) hx hb dX5_wornByOneTurn_3 rfl hl (by decide) rfl (fun ls hl => ?_)
  have L4 : ∀ (d4 : Nat) (a : Nat), (a + d4 = 12) → (∀ (H : Heap) (locs : List Loc) (ls : Array Slot), g_P g ad dsX 55 M J H → va_S (g_A ad 55) s9.heap H locs → lv_has ls 3 [(2, .int (nI a)), (1, .int (nI (setN (wears (M (25 + c))) a))), (0, .ref (ad (25 + c)))] → W p9 l e9 (g_rm 3) s9 m9 args9 below9 meth9 c9 H locs 0 0 (MQ below9 (va_Qi (fun r' (_ : Unit) => r' = (nI (wearS (M (25 + c))))) (fun _ t => g_P g ad dsX 55 (rowN M (25 + c) 12 (wear1 (M (25 + c)))) J t.heap) (g_A ad 55)) args9 s9 0 0 (g_A ad 55)) (F0 m9 4 ls [])) := by
    intro d4
    induction d4 with
    | zero =>
      intro a h_a H locs ls hP hS hl
      have e12 : a = 12 := by omega
      have b3 : setN (wears (M (25 + c))) a < 4096 := by rw [e12]; exact setN_12 _
      refine lv_iload_n hx hb dX5_wornByOneTurn_4 rfl (lv_at hl 0 rfl) ?_
      refine lv_bipush (v := nI 12) hx hb dX5_wornByOneTurn_5 (by decide) ?_
      refine x_zge (u := (a : Nat)) (v := (12 : Int)) (tgt := 38) hx hb (nI_toInt (by omega)) (rfl) dX5_wornByOneTurn_7 (by decide) (fun h_1 => ?_) (fun h_1 => (by omega : False).elim)
      refine lv_iconst (v := nI 0) hx hb dX5_wornByOneTurn_38 (by decide) ?_
      refine lv_istore_n (lv' := [(2, .int (nI 0)), (1, .int (nI (setN (wears (M (25 + c))) a))), (0, .ref (ad (25 + c)))]) hx hb dX5_wornByOneTurn_39 rfl hl (by decide) rfl (fun ls hl => ?_)
      have L40 : ∀ (d40 : Nat) (q : Nat), (q + d40 = 12) → (∀ (H : Heap) (locs : List Loc) (ls : Array Slot), g_P g ad dsX 55 (rowN M (25 + c) q (wear1 (M (25 + c)))) J H → va_S (g_A ad 55) s9.heap H locs → lv_has ls 3 [(2, .int (nI q)), (1, .int (nI (setN (wears (M (25 + c))) a))), (0, .ref (ad (25 + c)))] → W p9 l e9 (g_rm 3) s9 m9 args9 below9 meth9 c9 H locs 0 0 (MQ below9 (va_Qi (fun r' (_ : Unit) => r' = (nI (wearS (M (25 + c))))) (fun _ t => g_P g ad dsX 55 (rowN M (25 + c) 12 (wear1 (M (25 + c)))) J t.heap) (g_A ad 55)) args9 s9 0 0 (g_A ad 55)) (F0 m9 40 ls [])) := by
        intro d40
        induction d40 with
        | zero =>
          intro q h_q H locs ls hP hS hl
          refine lv_iload_n hx hb dX5_wornByOneTurn_40 rfl (lv_at hl 0 rfl) ?_
          refine lv_bipush (v := nI 12) hx hb dX5_wornByOneTurn_41 (by decide) ?_
          refine x_zge (u := (q : Nat)) (v := (12 : Int)) (tgt := 63) hx hb (nI_toInt (by omega)) (rfl) dX5_wornByOneTurn_43 (by decide) (fun h_2 => ?_) (fun h_2 => (by omega : False).elim)
          refine lv_iload_n hx hb dX5_wornByOneTurn_63 rfl (lv_at hl 1 rfl) ?_
          exact x_reti hx hb hr9 hlk9 hS (by rw [show 12 = q by omega]; exact hP) (by rw [e12]; rfl) dX5_wornByOneTurn_64
        | succ d40 ih40 =>
          intro q h_q H locs ls hP hS hl
          have b4 := hq q (by omega)
          have b5 : setN (wears (M (25 + c))) a >>> q &&& 1 ≤ M (25 + c) q := by rw [e12, setN_shr (by omega)]; exact wears_le _ _
          refine lv_iload_n hx hb dX5_wornByOneTurn_40 rfl (lv_at hl 0 rfl) ?_
          refine lv_bipush (v := nI 12) hx hb dX5_wornByOneTurn_41 (by decide) ?_
          refine x_zge (u := (q : Nat)) (v := (12 : Int)) (tgt := 63) hx hb (nI_toInt (by omega)) (rfl) dX5_wornByOneTurn_43 (by decide) (fun h_3 => (by omega : False).elim) (fun h_3 => ?_)
          refine lv_aload_n hx hb dX5_wornByOneTurn_46 rfl (lv_at hl 2 rfl) ?_
          refine lv_iload_n hx hb dX5_wornByOneTurn_47 rfl (lv_at hl 0 rfl) ?_
          refine lv_dup2_11 hx hb dX5_wornByOneTurn_48 rfl rfl ?_
          refine x_iald CF hK hP (25 + c) (by omega) (dX_hair c (by omega)) q (by omega) (by decide) dX5_wornByOneTurn_49 ?_
          refine x_ri (show (nI ((rowN M (25 + c) q (wear1 (M (25 + c)))) (25 + c) q)) = nI (M (25 + c) q) from congrArg nI (rowN_hi (Nat.le_refl _))) ?_
          refine lv_iload_n hx hb dX5_wornByOneTurn_50 rfl (lv_at hl 1 rfl) ?_
          refine lv_iload_n hx hb dX5_wornByOneTurn_51 rfl (lv_at hl 0 rfl) ?_
          refine x_ishr hx hb (by omega) (by omega) dX5_wornByOneTurn_52 ?_
          refine lv_iconst (v := nI 1) hx hb dX5_wornByOneTurn_53 (by decide) ?_
          refine x_iand hx hb dX5_wornByOneTurn_54 ?_
          refine x_isub hx hb (b5) dX5_wornByOneTurn_55 ?_
          refine x_iast CF hK hI hA hP hS (25 + c) (by omega) (dX_hair c (by omega)) q (by omega) (by decide) ((M (25 + c) q) - (((setN (wears (M (25 + c))) a) >>> q) &&& 1)) dX5_wornByOneTurn_56 (fun H locs hP hS => ?_)
          refine lv_iinc (v := nI (q + 1)) (lv' := [(2, .int (nI (q + 1))), (1, .int (nI (setN (wears (M (25 + c))) a))), (0, .ref (ad (25 + c)))]) hx hb dX5_wornByOneTurn_57 hl (k := 0) rfl (n_inc q 1) (by decide) rfl (fun ls hl => ?_)
          refine lv_goto (tgt := 40) hx hb dX5_wornByOneTurn_60 (by decide) ?_
          have hl0 : lv_has ls 3 [(2, .int (nI (q + 1))), (1, .int (nI (setN (wears (M (25 + c))) a))), (0, .ref (ad (25 + c)))] := lv_sub hl [0, 1, 2] rfl
          exact ih40 (q + 1) (by omega) _ _ _ (by rw [← rowN_s (x := M (25 + c) q - (setN (wears (M (25 + c))) a >>> q &&& 1)) (by rw [e12, setN_shr (by omega)]; rfl)]; exact hP) hS hl0
      have hl0 : lv_has ls 3 [(2, .int (nI 0)), (1, .int (nI (setN (wears (M (25 + c))) a))), (0, .ref (ad (25 + c)))] := lv_sub hl [0, 1, 2] rfl
      exact L40 12 0 (by omega) _ _ _ (by rw [rowN_0]; exact hP) hS hl0
    | succ d4 ih4 =>
      intro a h_a H locs ls hP hS hl
      have b1 := hq a (by omega)
      have b2 := hq ((a + 1) % 12) (by omega)
      refine lv_iload_n hx hb dX5_wornByOneTurn_4 rfl (lv_at hl 0 rfl) ?_
      refine lv_bipush (v := nI 12) hx hb dX5_wornByOneTurn_5 (by decide) ?_
      refine x_zge (u := (a : Nat)) (v := (12 : Int)) (tgt := 38) hx hb (nI_toInt (by omega)) (rfl) dX5_wornByOneTurn_7 (by decide) (fun h_4 => (by omega : False).elim) (fun h_4 => ?_)
      refine lv_aload_n hx hb dX5_wornByOneTurn_10 rfl (lv_at hl 2 rfl) ?_
      refine lv_iload_n hx hb dX5_wornByOneTurn_11 rfl (lv_at hl 0 rfl) ?_
      refine x_iald CF hK hP (25 + c) (by omega) (dX_hair c (by omega)) a (by omega) (by decide) dX5_wornByOneTurn_12 ?_
      refine lv_aload_n hx hb dX5_wornByOneTurn_13 rfl (lv_at hl 2 rfl) ?_
      refine lv_iload_n hx hb dX5_wornByOneTurn_14 rfl (lv_at hl 0 rfl) ?_
      refine lv_iconst (v := nI 1) hx hb dX5_wornByOneTurn_15 (by decide) ?_
      refine x_iadd hx hb dX5_wornByOneTurn_16 ?_
      refine x_callSP CF hK hP hS hl (As := [.int (nI (a + 1))]) (rest := [.ref (ad (25 + c)), .int (nI (M (25 + c) a))]) (c_angleOf_n (a + 1) (by omega)) kw_X5_angleOf wd2_142 rfl ⟨Nat.le_of_ble_eq_true rfl, Nat.le_of_ble_eq_true rfl⟩ ⟨Nat.le_refl _, Nat.le_refl _⟩ (Nat.le_of_ble_eq_true rfl) dX5_wornByOneTurn_17 (fun H locs hP hS => ?_)
      refine x_iald CF hK hP (25 + c) (by omega) (dX_hair c (by omega)) ((a + 1) % 12) (by omega) (by decide) dX5_wornByOneTurn_20 ?_
      refine lv_isub hx hb dX5_wornByOneTurn_21 ?_
      refine lv_iconst (v := nI 2) hx hb dX5_wornByOneTurn_22 (by decide) ?_
      refine x_zle (u := (M (25 + c) a : Int) - (M (25 + c) ((a + 1) % 12) : Nat)) (v := (2 : Int)) (tgt := 32) hx hb (z_sub (by omega) (by omega)) (rfl) dX5_wornByOneTurn_23 (by decide) (fun h_5 => ?_) (fun h_5 => ?_)
      · refine lv_iinc (v := nI (a + 1)) (lv' := [(2, .int (nI (a + 1))), (1, .int (nI (setN (wears (M (25 + c))) a))), (0, .ref (ad (25 + c)))]) hx hb dX5_wornByOneTurn_32 hl (k := 0) rfl (n_inc a 1) (by decide) rfl (fun ls hl => ?_)
        refine lv_goto (tgt := 4) hx hb dX5_wornByOneTurn_35 (by decide) ?_
        have hl0 : lv_has ls 3 [(2, .int (nI (a + 1))), (1, .int (nI (setN (wears (M (25 + c))) (a + 1)))), (0, .ref (ad (25 + c)))] := by rw [(show nI (setN (wears (M (25 + c))) (a + 1)) = nI (setN (wears (M (25 + c))) a) from by first | rfl | (congr 1; omega) | (refine congrArg nI ?_; first | rfl | (exact (setN_t (decide_eq_true (by omega)))) | (exact (setN_f (decide_eq_false (by omega)))) | (rw [Nat.or_zero]; exact (setN_f (decide_eq_false (by omega))))))]; exact lv_sub hl [0, 1, 2] rfl
        exact ih4 (a + 1) (by omega) _ _ _ (hP) hS hl0
      · refine lv_iload_n hx hb dX5_wornByOneTurn_26 rfl (lv_at hl 1 rfl) ?_
        refine lv_iconst (v := nI 1) hx hb dX5_wornByOneTurn_27 (by decide) ?_
        refine lv_iload_n hx hb dX5_wornByOneTurn_28 rfl (lv_at hl 0 rfl) ?_
        refine x_ishl hx hb (by omega) dX5_wornByOneTurn_29 ?_
        refine x_ior hx hb dX5_wornByOneTurn_30 ?_
        refine lv_istore_n (lv' := [(1, .int (nI ((setN (wears (M (25 + c))) a) ||| (1 <<< a)))), (2, .int (nI a)), (0, .ref (ad (25 + c)))]) hx hb dX5_wornByOneTurn_31 rfl hl (by decide) rfl (fun ls hl => ?_)
        refine lv_iinc (v := nI (a + 1)) (lv' := [(2, .int (nI (a + 1))), (1, .int (nI ((setN (wears (M (25 + c))) a) ||| (1 <<< a)))), (0, .ref (ad (25 + c)))]) hx hb dX5_wornByOneTurn_32 hl (k := 1) rfl (n_inc a 1) (by decide) rfl (fun ls hl => ?_)
        refine lv_goto (tgt := 4) hx hb dX5_wornByOneTurn_35 (by decide) ?_
        have hl0 : lv_has ls 3 [(2, .int (nI (a + 1))), (1, .int (nI (setN (wears (M (25 + c))) (a + 1)))), (0, .ref (ad (25 + c)))] := by rw [(show nI (setN (wears (M (25 + c))) (a + 1)) = nI ((setN (wears (M (25 + c))) a) ||| (1 <<< a)) from by first | rfl | (congr 1; omega) | (refine congrArg nI ?_; first | rfl | (exact (setN_t (decide_eq_true (by omega)))) | (exact (setN_f (decide_eq_false (by omega)))) | (rw [Nat.or_zero]; exact (setN_f (decide_eq_false (by omega))))))]; exact lv_sub hl [0, 1, 2] rfl
        exact ih4 (a + 1) (by omega) _ _ _ (hP) hS hl0
  have hl0 : lv_has ls 3 [(2, .int (nI 0)), (1, .int (nI (setN (wears (M (25 + c))) 0))), (0, .ref (ad (25 + c)))] := by rw [(show nI (setN (wears (M (25 + c))) 0) = nI 0 from rfl)]; exact lv_sub hl [0, 1, 2] rfl
  exact L4 12 0 (by omega) _ _ _ (hP) hS hl0
set_option maxHeartbeats 4000000 in
set_option maxRecDepth 100000 in
theorem c_wornBy {l : Launch} {g : gE} {ad : Nat → Nat} (hI : g_inj ad 55) (M : gMem) (J : gMeL) (c : Nat) (hc : c < 6) (hq : ∀ a, a < 12 → M (25 + c) a ≤ 9) (n : Nat) (hn : n ≤ 9) : CI l g ad dsX 55 yX5_wornBy cX5_wornBy 4 (some .int) 4 [.ref (ad (25 + c)), .int (nI n)] M J (nI (pop (lessN (M (25 + c)) n))) (rowN M (25 + c) 12 (wearI (M (25 + c)) n)) J := by
  refine CI.of (plainFor_of_name (by decide)) (Nat.le_of_ble_eq_true rfl) (fun p9 e9 s9 m9 args9 below9 meth9 c9 CF hK hr9 hlk9 hP hS ls hl => ?_)
  have hx := CF.1
  have hb := CF.2.1
  have hA : ∀ q, g_A ad 55 q → g_A ad 55 q := fun _ h => h
  have hl : lv_has ls 4 [(0, .ref (ad (25 + c))), (1, .int (nI n))] := hl
  refine lv_iconst (v := nI 0) hx hb dX5_wornBy_0 (by decide) ?_
  refine lv_istore_n (lv' := [(2, .int (nI 0)), (0, .ref (ad (25 + c))), (1, .int (nI n))]) hx hb dX5_wornBy_1 rfl hl (by decide) rfl (fun ls hl => ?_)
  refine lv_iconst (v := nI 0) hx hb dX5_wornBy_2 (by decide) ?_
  refine lv_istore_n (lv' := [(3, .int (nI 0)), (2, .int (nI 0)), (0, .ref (ad (25 + c))), (1, .int (nI n))]) hx hb dX5_wornBy_3 rfl hl (by decide) rfl (fun ls hl => ?_)
  have L4 : ∀ (d4 : Nat) (t : Nat), (t + d4 = n) → (∀ (H : Heap) (locs : List Loc) (ls : Array Slot), g_P g ad dsX 55 (rowN M (25 + c) 12 (wearI (M (25 + c)) t)) J H → va_S (g_A ad 55) s9.heap H locs → lv_has ls 4 [(3, .int (nI t)), (2, .int (nI (lessN (M (25 + c)) t))), (0, .ref (ad (25 + c))), (1, .int (nI n))] → W p9 l e9 (g_rm 4) s9 m9 args9 below9 meth9 c9 H locs 0 0 (MQ below9 (va_Qi (fun r' (_ : Unit) => r' = (nI (pop (lessN (M (25 + c)) n)))) (fun _ t => g_P g ad dsX 55 (rowN M (25 + c) 12 (wearI (M (25 + c)) n)) J t.heap) (g_A ad 55)) args9 s9 0 0 (g_A ad 55)) (F0 m9 4 ls [])) := by
    intro d4
    induction d4 with
    | zero =>
      intro t h_t H locs ls hP hS hl
      have b1 := lessN_lt (M (25 + c)) t
      refine lv_iload_n hx hb dX5_wornBy_4 rfl (lv_at hl 0 rfl) ?_
      refine lv_iload_n hx hb dX5_wornBy_5 rfl (lv_at hl 3 rfl) ?_
      refine x_zge (u := (t : Nat)) (v := (n : Nat)) (tgt := 22) hx hb (nI_toInt (by omega)) (nI_toInt (by omega)) dX5_wornBy_6 (by decide) (fun h_1 => ?_) (fun h_1 => (by omega : False).elim)
      refine lv_iload_n hx hb dX5_wornBy_22 rfl (lv_at hl 1 rfl) ?_
      refine x_callSP CF hK hP hS hl (As := [.int (nI (lessN (M (25 + c)) t))]) (rest := []) (c_bitCount (lessN (M (25 + c)) t) (by omega)) kw_J6_bitCount_0f7a4 wd2_167 rfl ⟨Nat.le_of_ble_eq_true rfl, Nat.le_of_ble_eq_true rfl⟩ ⟨Nat.le_refl _, Nat.le_refl _⟩ (Nat.le_of_ble_eq_true rfl) dX5_wornBy_23 (fun H locs hP hS => ?_)
      exact x_reti hx hb hr9 hlk9 hS (by rw [show n = t by omega]; exact hP) (by rw [show t = n by omega]) dX5_wornBy_26
    | succ d4 ih4 =>
      intro t h_t H locs ls hP hS hl
      refine lv_iload_n hx hb dX5_wornBy_4 rfl (lv_at hl 0 rfl) ?_
      refine lv_iload_n hx hb dX5_wornBy_5 rfl (lv_at hl 3 rfl) ?_
      refine x_zge (u := (t : Nat)) (v := (n : Nat)) (tgt := 22) hx hb (nI_toInt (by omega)) (nI_toInt (by omega)) dX5_wornBy_6 (by decide) (fun h_2 => (by omega : False).elim) (fun h_2 => ?_)
      refine lv_iload_n hx hb dX5_wornBy_9 rfl (lv_at hl 1 rfl) ?_
      refine lv_aload_n hx hb dX5_wornBy_10 rfl (lv_at hl 2 rfl) ?_
      refine x_callSI CF hK hP hS hA hl (As := [.ref (ad (25 + c))]) (rest := [.int (nI (lessN (M (25 + c)) t))]) (c_oneTurn hI (rowN M (25 + c) 12 (wearI (M (25 + c)) t)) J c (by omega) (fun a ha => by rw [rowN_in ha]; exact Nat.le_trans (wearI_le t) (hq a ha))) kw_X5_wornByOneTurn wd2_164 rfl ⟨Nat.le_of_ble_eq_true rfl, Nat.le_of_ble_eq_true rfl⟩ ⟨Nat.le_refl _, Nat.le_refl _⟩ (Nat.le_of_ble_eq_true rfl) dX5_wornBy_11 (fun H locs hP hS => ?_)
      have hP : g_P g ad dsX 55 (rowN M (25 + c) 12 (wearI (M (25 + c)) (t + 1))) J H := (by rw [← wearR_s]; exact hP)
      refine x_ri (show (nI (wearS ((rowN M (25 + c) 12 (wearI (M (25 + c)) t)) (25 + c)))) = nI (wearS (wearI (M (25 + c)) t)) from congrArg nI (wearS_congr (fun a ha => rowN_in ha))) ?_
      refine x_ior hx hb dX5_wornBy_14 ?_
      refine lv_istore_n (lv' := [(2, .int (nI ((lessN (M (25 + c)) t) ||| (wearS (wearI (M (25 + c)) t))))), (3, .int (nI t)), (0, .ref (ad (25 + c))), (1, .int (nI n))]) hx hb dX5_wornBy_15 rfl hl (by decide) rfl (fun ls hl => ?_)
      refine lv_iinc (v := nI (t + 1)) (lv' := [(3, .int (nI (t + 1))), (2, .int (nI ((lessN (M (25 + c)) t) ||| (wearS (wearI (M (25 + c)) t))))), (0, .ref (ad (25 + c))), (1, .int (nI n))]) hx hb dX5_wornBy_16 hl (k := 1) rfl (n_inc t 1) (by decide) rfl (fun ls hl => ?_)
      refine lv_goto (tgt := 4) hx hb dX5_wornBy_19 (by decide) ?_
      have hl0 : lv_has ls 4 [(3, .int (nI (t + 1))), (2, .int (nI (lessN (M (25 + c)) (t + 1)))), (0, .ref (ad (25 + c))), (1, .int (nI n))] := by rw [(show nI (lessN (M (25 + c)) (t + 1)) = nI ((lessN (M (25 + c)) t) ||| (wearS (wearI (M (25 + c)) t))) from rfl)]; exact lv_sub hl [0, 1, 2, 3] rfl
      exact ih4 (t + 1) (by omega) _ _ _ (hP) hS hl0
  have hl0 : lv_has ls 4 [(3, .int (nI 0)), (2, .int (nI (lessN (M (25 + c)) 0))), (0, .ref (ad (25 + c))), (1, .int (nI n))] := by rw [(show nI (lessN (M (25 + c)) 0) = nI 0 from rfl)]; exact lv_sub hl [0, 1, 2, 3] rfl
  exact L4 n 0 (by omega) _ _ _ (by rw [show wearI (M (25 + c)) 0 = M (25 + c) from rfl, rowN_self]; exact hP) hS hl0
def stp (r : Nat → Nat) (q : Nat) : Nat := r q - r ((q + 1) % 12) + (r ((q + 1) % 12) - r q)
def stpS (r : Nat → Nat) : Nat → Nat
  | 0 => 0
  | k + 1 => stpS r k ||| 1 <<< stp r k
theorem stpS_congr {r q : Nat → Nat} (h : ∀ a, a < 12 → r a = q a) {k : Nat} (hk : k ≤ 12) : stpS r k = stpS q k := by
  induction k with
  | zero => rfl
  | succ k ih => simp only [stpS, ih (by omega), stp, h k (by omega), h ((k + 1) % 12) (by omega)]
theorem stpS_lt {r : Nat → Nat} (h : ∀ a, a < 12 → r a ≤ 9) {k : Nat} (hk : k ≤ 12) : stpS r k < 4096 := by
  induction k with
  | zero => simp [stpS]
  | succ k ih =>
    have h1 := h k (by omega)
    have h2 := h ((k + 1) % 12) (by omega)
    exact or_lt (ih (by omega)) (shl_lt (by unfold stp; omega))
set_option maxHeartbeats 4000000 in
set_option maxRecDepth 100000 in
theorem c_stepsIn {l : Launch} {g : gE} {ad : Nat → Nat} (hI : g_inj ad 55) (M : gMem) (J : gMeL) (c : Nat) (hc : c < 6) (hq : ∀ a, a < 12 → M (25 + c) a ≤ 9) : CI l g ad dsX 55 yX5_stepsIn cX5_stepsIn 3 (some .int) 3 [.ref (ad (25 + c))] M J (nI (stpS (M (25 + c)) 12)) M J := by
  refine CI.of (plainFor_of_name (by decide)) (Nat.le_of_ble_eq_true rfl) (fun p9 e9 s9 m9 args9 below9 meth9 c9 CF hK hr9 hlk9 hP hS ls hl => ?_)
  have hx := CF.1
  have hb := CF.2.1
  have hA : ∀ q, g_A ad 55 q → g_A ad 55 q := fun _ h => h
  have hl : lv_has ls 3 [(0, .ref (ad (25 + c)))] := hl
  refine lv_iconst (v := nI 0) hx hb dX5_stepsIn_0 (by decide) ?_
  refine lv_istore_n (lv' := [(1, .int (nI 0)), (0, .ref (ad (25 + c)))]) hx hb dX5_stepsIn_1 rfl hl (by decide) rfl (fun ls hl => ?_)
  refine lv_iconst (v := nI 0) hx hb dX5_stepsIn_2 (by decide) ?_
  refine lv_istore_n (lv' := [(2, .int (nI 0)), (1, .int (nI 0)), (0, .ref (ad (25 + c)))]) hx hb dX5_stepsIn_3 rfl hl (by decide) rfl (fun ls hl => ?_)
  have L4 : ∀ (d4 : Nat) (a : Nat), (a + d4 = 12) → (∀ (H : Heap) (locs : List Loc) (ls : Array Slot), g_P g ad dsX 55 M J H → va_S (g_A ad 55) s9.heap H locs → lv_has ls 3 [(2, .int (nI a)), (1, .int (nI (stpS (M (25 + c)) a))), (0, .ref (ad (25 + c)))] → W p9 l e9 (g_rm 3) s9 m9 args9 below9 meth9 c9 H locs 0 0 (MQ below9 (va_Qi (fun r' (_ : Unit) => r' = (nI (stpS (M (25 + c)) 12))) (fun _ t => g_P g ad dsX 55 M J t.heap) (g_A ad 55)) args9 s9 0 0 (g_A ad 55)) (F0 m9 4 ls [])) := by
    intro d4
    induction d4 with
    | zero =>
      intro a h_a H locs ls hP hS hl
      refine lv_iload_n hx hb dX5_stepsIn_4 rfl (lv_at hl 0 rfl) ?_
      refine lv_bipush (v := nI 12) hx hb dX5_stepsIn_5 (by decide) ?_
      refine x_zge (u := (a : Nat)) (v := (12 : Int)) (tgt := 36) hx hb (nI_toInt (by omega)) (rfl) dX5_stepsIn_7 (by decide) (fun h_1 => ?_) (fun h_1 => (by omega : False).elim)
      refine lv_iload_n hx hb dX5_stepsIn_36 rfl (lv_at hl 1 rfl) ?_
      exact x_reti hx hb hr9 hlk9 hS hP (by rw [show a = 12 by omega]) dX5_stepsIn_37
    | succ d4 ih4 =>
      intro a h_a H locs ls hP hS hl
      have b1 := hq a (by omega)
      have b2 := hq ((a + 1) % 12) (by omega)
      refine lv_iload_n hx hb dX5_stepsIn_4 rfl (lv_at hl 0 rfl) ?_
      refine lv_bipush (v := nI 12) hx hb dX5_stepsIn_5 (by decide) ?_
      refine x_zge (u := (a : Nat)) (v := (12 : Int)) (tgt := 36) hx hb (nI_toInt (by omega)) (rfl) dX5_stepsIn_7 (by decide) (fun h_2 => (by omega : False).elim) (fun h_2 => ?_)
      refine lv_iload_n hx hb dX5_stepsIn_10 rfl (lv_at hl 1 rfl) ?_
      refine lv_iconst (v := nI 1) hx hb dX5_stepsIn_11 (by decide) ?_
      refine lv_aload_n hx hb dX5_stepsIn_12 rfl (lv_at hl 2 rfl) ?_
      refine lv_iload_n hx hb dX5_stepsIn_13 rfl (lv_at hl 0 rfl) ?_
      refine x_iald CF hK hP (25 + c) (by omega) (dX_hair c (by omega)) a (by omega) (by decide) dX5_stepsIn_14 ?_
      refine lv_aload_n hx hb dX5_stepsIn_15 rfl (lv_at hl 2 rfl) ?_
      refine lv_iload_n hx hb dX5_stepsIn_16 rfl (lv_at hl 0 rfl) ?_
      refine lv_iconst (v := nI 1) hx hb dX5_stepsIn_17 (by decide) ?_
      refine x_iadd hx hb dX5_stepsIn_18 ?_
      refine x_callSP CF hK hP hS hl (As := [.int (nI (a + 1))]) (rest := [.ref (ad (25 + c)), .int (nI (M (25 + c) a)), .int (nI 1), .int (nI (stpS (M (25 + c)) a))]) (c_angleOf_n (a + 1) (by omega)) kw_X5_angleOf wd2_142 rfl ⟨Nat.le_of_ble_eq_true rfl, Nat.le_of_ble_eq_true rfl⟩ ⟨Nat.le_refl _, Nat.le_refl _⟩ (Nat.le_of_ble_eq_true rfl) dX5_stepsIn_19 (fun H locs hP hS => ?_)
      refine x_iald CF hK hP (25 + c) (by omega) (dX_hair c (by omega)) ((a + 1) % 12) (by omega) (by decide) dX5_stepsIn_22 ?_
      refine lv_isub hx hb dX5_stepsIn_23 ?_
      refine x_callSP CF hK hP hS hl (As := [.int (nI (M (25 + c) a) - nI (M (25 + c) ((a + 1) % 12)))]) (rest := [.int (nI 1), .int (nI (stpS (M (25 + c)) a))]) (c_abs (M (25 + c) a) (M (25 + c) ((a + 1) % 12)) (by omega) (by omega)) kw_J9_abs_0f7a4 wd3_5 rfl ⟨Nat.le_of_ble_eq_true rfl, Nat.le_of_ble_eq_true rfl⟩ ⟨Nat.le_refl _, Nat.le_refl _⟩ (Nat.le_of_ble_eq_true rfl) dX5_stepsIn_24 (fun H locs hP hS => ?_)
      refine x_ishl hx hb (by omega) dX5_stepsIn_27 ?_
      refine x_ior hx hb dX5_stepsIn_28 ?_
      refine lv_istore_n (lv' := [(1, .int (nI ((stpS (M (25 + c)) a) ||| (1 <<< ((M (25 + c) a) - (M (25 + c) ((a + 1) % 12)) + ((M (25 + c) ((a + 1) % 12)) - (M (25 + c) a))))))), (2, .int (nI a)), (0, .ref (ad (25 + c)))]) hx hb dX5_stepsIn_29 rfl hl (by decide) rfl (fun ls hl => ?_)
      refine lv_iinc (v := nI (a + 1)) (lv' := [(2, .int (nI (a + 1))), (1, .int (nI ((stpS (M (25 + c)) a) ||| (1 <<< ((M (25 + c) a) - (M (25 + c) ((a + 1) % 12)) + ((M (25 + c) ((a + 1) % 12)) - (M (25 + c) a))))))), (0, .ref (ad (25 + c)))]) hx hb dX5_stepsIn_30 hl (k := 1) rfl (n_inc a 1) (by decide) rfl (fun ls hl => ?_)
      refine lv_goto (tgt := 4) hx hb dX5_stepsIn_33 (by decide) ?_
      have hl0 : lv_has ls 3 [(2, .int (nI (a + 1))), (1, .int (nI (stpS (M (25 + c)) (a + 1)))), (0, .ref (ad (25 + c)))] := by rw [(show nI (stpS (M (25 + c)) (a + 1)) = nI ((stpS (M (25 + c)) a) ||| (1 <<< ((M (25 + c) a) - (M (25 + c) ((a + 1) % 12)) + ((M (25 + c) ((a + 1) % 12)) - (M (25 + c) a))))) from rfl)]; exact lv_sub hl [0, 1, 2] rfl
      exact ih4 (a + 1) (by omega) _ _ _ (hP) hS hl0
  have hl0 : lv_has ls 3 [(2, .int (nI 0)), (1, .int (nI (stpS (M (25 + c)) 0))), (0, .ref (ad (25 + c)))] := by rw [(show nI (stpS (M (25 + c)) 0) = nI 0 from rfl)]; exact lv_sub hl [0, 1, 2] rfl
  exact L4 12 0 (by omega) _ _ _ (hP) hS hl0
set_option maxHeartbeats 4000000 in
set_option maxRecDepth 100000 in
theorem c_lessen {l : Launch} {g : gE} {ad : Nat → Nat} (hI : g_inj ad 55) (M : gMem) (J : gMeL) (c : Nat) (hc : c < 6) (hq : ∀ a, a < 12 → M (25 + c) a ≤ 9) (w : Nat) (hw9 : w ≤ 9) : CV l g ad dsX 55 yX5_lessenInto cX5_lessenInto 4 2 [.ref (ad 22), .ref (ad (25 + c)), .int (nI w)] M J (rowN M 22 12 (lessR (M (25 + c)) w)) J := by
  refine CV.of (plainFor_of_name (by decide)) (Nat.le_of_ble_eq_true rfl) (fun p9 e9 s9 m9 args9 below9 meth9 c9 CF hK hr9 hlk9 hP hS ls hl => ?_)
  have hx := CF.1
  have hb := CF.2.1
  have hA : ∀ q, g_A ad 55 q → g_A ad 55 q := fun _ h => h
  have hl : lv_has ls 4 [(0, .ref (ad 22)), (1, .ref (ad (25 + c))), (2, .int (nI w))] := hl
  refine lv_iconst (v := nI 0) hx hb dX5_lessenInto_0 (by decide) ?_
  refine lv_istore_n (lv' := [(3, .int (nI 0)), (0, .ref (ad 22)), (1, .ref (ad (25 + c))), (2, .int (nI w))]) hx hb dX5_lessenInto_1 rfl hl (by decide) rfl (fun ls hl => ?_)
  have L2 : ∀ (d2 : Nat) (a : Nat), (a + d2 = 12) → (∀ (H : Heap) (locs : List Loc) (ls : Array Slot), g_P g ad dsX 55 (rowN M 22 a (lessR (M (25 + c)) w)) J H → va_S (g_A ad 55) s9.heap H locs → lv_has ls 4 [(3, .int (nI a)), (0, .ref (ad 22)), (1, .ref (ad (25 + c))), (2, .int (nI w))] → W p9 l e9 (g_rm 2) s9 m9 args9 below9 meth9 c9 H locs 0 0 (MQ below9 (va_Qv (fun (_ : Unit) => True) (fun _ t => g_P g ad dsX 55 (rowN M 22 12 (lessR (M (25 + c)) w)) J t.heap) (g_A ad 55)) args9 s9 0 0 (g_A ad 55)) (F0 m9 2 ls [])) := by
    intro d2
    induction d2 with
    | zero =>
      intro a h_a H locs ls hP hS hl
      refine lv_iload_n hx hb dX5_lessenInto_2 rfl (lv_at hl 0 rfl) ?_
      refine lv_bipush (v := nI 12) hx hb dX5_lessenInto_3 (by decide) ?_
      refine x_zge (u := (a : Nat)) (v := (12 : Int)) (tgt := 26) hx hb (nI_toInt (by omega)) (rfl) dX5_lessenInto_5 (by decide) (fun h_1 => ?_) (fun h_1 => (by omega : False).elim)
      exact x_retv hx hb hr9 hlk9 hS (by rw [show 12 = a by omega]; exact hP) dX5_lessenInto_26
    | succ d2 ih2 =>
      intro a h_a H locs ls hP hS hl
      have b1 := hq a (by omega)
      refine lv_iload_n hx hb dX5_lessenInto_2 rfl (lv_at hl 0 rfl) ?_
      refine lv_bipush (v := nI 12) hx hb dX5_lessenInto_3 (by decide) ?_
      refine x_zge (u := (a : Nat)) (v := (12 : Int)) (tgt := 26) hx hb (nI_toInt (by omega)) (rfl) dX5_lessenInto_5 (by decide) (fun h_2 => (by omega : False).elim) (fun h_2 => ?_)
      refine lv_aload_n hx hb dX5_lessenInto_8 rfl (lv_at hl 1 rfl) ?_
      refine lv_iload_n hx hb dX5_lessenInto_9 rfl (lv_at hl 0 rfl) ?_
      refine lv_aload_n hx hb dX5_lessenInto_10 rfl (lv_at hl 2 rfl) ?_
      refine lv_iload_n hx hb dX5_lessenInto_11 rfl (lv_at hl 0 rfl) ?_
      refine x_iald CF hK hP (25 + c) (by omega) (dX_hair c (by omega)) a (by omega) (by decide) dX5_lessenInto_12 ?_
      refine x_ri (show (nI ((rowN M 22 a (lessR (M (25 + c)) w)) (25 + c) a)) = nI (M (25 + c) a) from by rw [rowN_out (by omega)]) ?_
      refine lv_iload_n hx hb dX5_lessenInto_13 rfl (lv_at hl 3 rfl) ?_
      refine lv_isub hx hb dX5_lessenInto_14 ?_
      refine lv_iconst (v := nI 0) hx hb dX5_lessenInto_15 (by decide) ?_
      refine x_callSP CF hK hP hS hl (As := [.int (nI (M (25 + c) a) - nI w), .int (nI 0)]) (rest := [.int (nI a), .ref (ad 22)]) (c_max (nI (M (25 + c) a) - nI w) (nI 0)) kw_J9_max_7cf53 wd2_199 rfl ⟨Nat.le_of_ble_eq_true rfl, Nat.le_of_ble_eq_true rfl⟩ ⟨Nat.le_refl _, Nat.le_refl _⟩ (Nat.le_of_ble_eq_true rfl) dX5_lessenInto_16 (fun H locs hP hS => ?_)
      refine x_ri (show (if (nI (M (25 + c) a) - nI w).toInt < (nI 0).toInt then nI 0 else nI (M (25 + c) a) - nI w) = nI (M (25 + c) a - w) from n_less (by omega) (by omega)) ?_
      refine x_iast CF hK hI hA hP hS 22 (by decide) dX_22 a (by omega) (by decide) (M (25 + c) a - w) dX5_lessenInto_19 (fun H locs hP hS => ?_)
      refine lv_iinc (v := nI (a + 1)) (lv' := [(3, .int (nI (a + 1))), (0, .ref (ad 22)), (1, .ref (ad (25 + c))), (2, .int (nI w))]) hx hb dX5_lessenInto_20 hl (k := 0) rfl (n_inc a 1) (by decide) rfl (fun ls hl => ?_)
      refine lv_goto (tgt := 2) hx hb dX5_lessenInto_23 (by decide) ?_
      have hl0 : lv_has ls 4 [(3, .int (nI (a + 1))), (0, .ref (ad 22)), (1, .ref (ad (25 + c))), (2, .int (nI w))] := lv_sub hl [0, 1, 2, 3] rfl
      exact ih2 (a + 1) (by omega) _ _ _ (by rw [← rowN_s (f := lessR (M (25 + c)) w) (n := a) (x := M (25 + c) a - w) rfl]; exact hP) hS hl0
  have hl0 : lv_has ls 4 [(3, .int (nI 0)), (0, .ref (ad 22)), (1, .ref (ad (25 + c))), (2, .int (nI w))] := lv_sub hl [0, 1, 2, 3] rfl
  exact L2 12 0 (by omega) _ _ _ (by rw [rowN_0]; exact hP) hS hl0
set_option maxHeartbeats 4000000 in
set_option maxRecDepth 100000 in
theorem c_isSo_c {l : Launch} {g : gE} {ad : Nat → Nat} (hI : g_inj ad 55) (M : gMem) (J : gMeL) (hw : wfX M) (s i wc : Nat) (hs : s < 4) (hi9 : i + M 23 3 ≤ 24) (hwc : wc < 6) (hq22 : ∀ a, a < 12 → M 22 a ≤ 9) : CI l g ad dsX 55 yX5_isSo cX5_isSo 7 (some .boolean) 7 [.ref (ad 0), .ref (ad (5 + s)), .int (nI i), .int (nI wc)] M J (nI (b2n (allF (fun k => decide (J (9 + s) (i + k) = lN (upsW M wc k))) 0 (M 23 3)))) M J := by
  refine CI.of (plainFor_of_name (by decide)) (Nat.le_of_ble_eq_true rfl) (fun p9 e9 s9 m9 args9 below9 meth9 c9 CF hK hr9 hlk9 hP hS ls hl => ?_)
  have hx := CF.1
  have hb := CF.2.1
  have hA : ∀ q, g_A ad 55 q → g_A ad 55 q := fun _ h => h
  have hl : lv_has ls 7 [(0, .ref (ad 0)), (1, .ref (ad (5 + s))), (2, .int (nI i)), (3, .int (nI wc))] := hl
  have hnf := hw.nf
  refine lv_iconst (v := nI 0) hx hb dX5_isSo_0 (by decide) ?_
  refine lv_istore (lv' := [(4, .int (nI 0)), (0, .ref (ad 0)), (1, .ref (ad (5 + s))), (2, .int (nI i)), (3, .int (nI wc))]) hx hb dX5_isSo_1 hl (by decide) rfl (fun ls hl => ?_)
  have L3 : ∀ (d3 : Nat) (k : Nat), (k + d3 = M 23 3) → (allF (fun k => decide (J (9 + s) (i + k) = lN (upsW M wc k))) k d3 = allF (fun k => decide (J (9 + s) (i + k) = lN (upsW M wc k))) 0 (M 23 3)) → (∀ (H : Heap) (locs : List Loc) (ls : Array Slot), g_P g ad dsX 55 M J H → va_S (g_A ad 55) s9.heap H locs → lv_has ls 7 [(4, .int (nI k)), (0, .ref (ad 0)), (1, .ref (ad (5 + s))), (2, .int (nI i)), (3, .int (nI wc))] → W p9 l e9 (g_rm 7) s9 m9 args9 below9 meth9 c9 H locs 0 0 (MQ below9 (va_Qi (fun r' (_ : Unit) => r' = (nI (b2n (allF (fun k => decide (J (9 + s) (i + k) = lN (upsW M wc k))) 0 (M 23 3))))) (fun _ t => g_P g ad dsX 55 M J t.heap) (g_A ad 55)) args9 s9 0 0 (g_A ad 55)) (F0 m9 3 ls [])) := by
    intro d3
    induction d3 with
    | zero =>
      intro k hk hR H locs ls hP hS hl
      refine lv_iload hx hb dX5_isSo_3 (lv_at hl 0 rfl) ?_
      refine lv_aload_n hx hb dX5_isSo_5 rfl (lv_at hl 1 rfl) ?_
      refine x_getr CF hK hP 0 (by decide) dX_0 rfl uX5 0 (by decide) (j := 23) rfl wd1_164 rfl dX5_isSo_6 ?_
      refine x_geti CF hK hP 23 (by decide) dX_23 rfl uX1 3 (by decide) rfl wd1_74 rfl dX5_isSo_9 ?_
      refine x_zge (u := (k : Nat)) (v := (M 23 3 : Nat)) (tgt := 91) hx hb (nI_toInt (by omega)) (nI_toInt (by omega)) dX5_isSo_12 (by decide) (fun h_1 => ?_) (fun h_1 => (by omega : False).elim)
      refine lv_iconst (v := nI 1) hx hb dX5_isSo_91 (by decide) ?_
      exact x_retz hx hb hr9 hlk9 hS hP (by rw [← hR]; rfl) (rfl) dX5_isSo_92
    | succ d3 ih3 =>
      intro k hk hR H locs ls hP hS hl
      have hf := hw.fig (show k < 5 by omega)
      rw [allF] at hR
      refine lv_iload hx hb dX5_isSo_3 (lv_at hl 0 rfl) ?_
      refine lv_aload_n hx hb dX5_isSo_5 rfl (lv_at hl 1 rfl) ?_
      refine x_getr CF hK hP 0 (by decide) dX_0 rfl uX5 0 (by decide) (j := 23) rfl wd1_164 rfl dX5_isSo_6 ?_
      refine x_geti CF hK hP 23 (by decide) dX_23 rfl uX1 3 (by decide) rfl wd1_74 rfl dX5_isSo_9 ?_
      refine x_zge (u := (k : Nat)) (v := (M 23 3 : Nat)) (tgt := 91) hx hb (nI_toInt (by omega)) (nI_toInt (by omega)) dX5_isSo_12 (by decide) (fun h_2 => (by omega : False).elim) (fun h_2 => ?_)
      refine lv_aload_n hx hb dX5_isSo_15 rfl (lv_at hl 1 rfl) ?_
      refine x_getr CF hK hP 0 (by decide) dX_0 rfl uX5 0 (by decide) (j := 23) rfl wd1_164 rfl dX5_isSo_16 ?_
      refine x_getr CF hK hP 23 (by decide) dX_23 rfl uX1 2 (by decide) (j := 31) rfl wd1_72 rfl dX5_isSo_19 ?_
      refine lv_iload hx hb dX5_isSo_22 (lv_at hl 0 rfl) ?_
      refine x_aald CF hK hP 31 (by decide) (t := 0) dX_31 (by decide) k (by omega) (by decide) (j := (32 + k)) (oX_fig k (by omega)) dX5_isSo_24 ?_
      refine lv_astore (lv' := [(5, .ref (ad (32 + k))), (4, .int (nI k)), (0, .ref (ad 0)), (1, .ref (ad (5 + s))), (2, .int (nI i)), (3, .int (nI wc))]) hx hb dX5_isSo_25 hl (by decide) rfl (fun ls hl => ?_)
      refine lv_aload hx hb dX5_isSo_27 (lv_at hl 0 rfl) ?_
      refine x_geti CF hK hP (32 + k) (by omega) (dX_fig k (by omega)) rfl uX0 1 (by decide) rfl wd1_39 rfl dX5_isSo_29 ?_
      refine lv_iload_n hx hb dX5_isSo_32 rfl (lv_at hl 5 rfl) ?_
      refine x_zne (u := (M (32 + k) 1 : Nat)) (v := (wc : Nat)) (tgt := 43) hx hb (nI_toInt (by omega)) (nI_toInt (by omega)) dX5_isSo_33 (by decide) (fun h_3 => ?_) (fun h_3 => ?_)
      · refine lv_aload_n hx hb dX5_isSo_43 rfl (lv_at hl 2 rfl) ?_
        refine x_getr CF hK hP 0 (by decide) dX_0 rfl uX5 0 (by decide) (j := 23) rfl wd1_164 rfl dX5_isSo_44 ?_
        refine x_getr CF hK hP 23 (by decide) dX_23 rfl uX1 0 (by decide) (j := 24) rfl wd1_68 rfl dX5_isSo_47 ?_
        refine lv_aload hx hb dX5_isSo_50 (lv_at hl 0 rfl) ?_
        refine x_geti CF hK hP (32 + k) (by omega) (dX_fig k (by omega)) rfl uX0 1 (by decide) rfl wd1_39 rfl dX5_isSo_52 ?_
        refine x_aald CF hK hP 24 (by decide) (t := 2) dX_24 (by decide) (M (32 + k) 1) (by omega) (by decide) (j := (25 + (M (32 + k) 1))) (oX_hair (M (32 + k) 1) (by omega)) dX5_isSo_55 ?_
        refine lv_astore (lv' := [(6, .ref (ad (25 + (M (32 + k) 1)))), (5, .ref (ad (32 + k))), (4, .int (nI k)), (0, .ref (ad 0)), (1, .ref (ad (5 + s))), (2, .int (nI i)), (3, .int (nI wc))]) hx hb dX5_isSo_56 hl (by decide) rfl (fun ls hl => ?_)
        refine lv_aload_n hx hb dX5_isSo_58 rfl (lv_at hl 4 rfl) ?_
        refine x_getr CF hK hP (5 + s) (by omega) (dX_sheet s (by omega)) rfl uX3 0 (by decide) (j := (9 + s)) rfl wd1_133 rfl dX5_isSo_59 ?_
        refine lv_iload_n hx hb dX5_isSo_62 rfl (lv_at hl 5 rfl) ?_
        refine lv_iload hx hb dX5_isSo_63 (lv_at hl 2 rfl) ?_
        refine x_iadd hx hb dX5_isSo_65 ?_
        refine x_lald CF hK hP (9 + s) (by omega) (dX_items s (by omega)) (i + k) (by omega) (by decide) dX5_isSo_66 ?_
        refine lv_aload_n hx hb dX5_isSo_67 rfl (lv_at hl 3 rfl) ?_
        refine x_getr CF hK hP 0 (by decide) dX_0 rfl uX5 0 (by decide) (j := 23) rfl wd1_164 rfl dX5_isSo_68 ?_
        refine lv_aload hx hb dX5_isSo_71 (lv_at hl 0 rfl) ?_
        refine lv_aload hx hb dX5_isSo_73 (lv_at hl 1 rfl) ?_
        refine x_callVI CF hK hP hS hA hl (As := [.ref (ad (25 + (M (32 + k) 1))), .ref (ad (32 + k))]) (rest := [.long (J (9 + s) (i + k))]) (c_upsOn_h hI M J hw (M (32 + k) 1) (by omega) k (by omega)) kw_X1_upsOn wd3_50 (by decide) dX_23 rfl rfl ⟨Nat.le_of_ble_eq_true rfl, Nat.le_of_ble_eq_true rfl⟩ ⟨Nat.le_refl _, Nat.le_refl _⟩ (Nat.le_of_ble_eq_true rfl) dX5_isSo_75 (fun H locs hP hS => ?_)
        refine x_ri (show (nI (ups (M (25 + (M (32 + k) 1))) (M (32 + k) 2) (M 23 5) (M (32 + k) 0) (M 23 4))) = nI (upsW M wc k) from congrArg nI (by rw [upsW, if_neg (by omega)]; try rfl)) ?_
        refine lv_i2l hx hb dX5_isSo_78 (nI_l (Nat.lt_of_lt_of_le (upsW_lt _ _ _) (by decide))) ?_
        refine W.lcmp hx hb dX5_isSo_79 ?_
        refine x_yeq (u := _) (tgt := 85) hx hb (rfl) dX5_isSo_80 (by decide) (fun h_4 => ?_) (fun h_4 => ?_)
        · refine lv_iinc (v := nI (k + 1)) (lv' := [(4, .int (nI (k + 1))), (6, .ref (ad (25 + (M (32 + k) 1)))), (5, .ref (ad (32 + k))), (0, .ref (ad 0)), (1, .ref (ad (5 + s))), (2, .int (nI i)), (3, .int (nI wc))]) hx hb dX5_isSo_85 hl (k := 2) rfl (n_inc k 1) (by decide) rfl (fun ls hl => ?_)
          refine lv_goto (tgt := 3) hx hb dX5_isSo_88 (by decide) ?_
          have hl0 : lv_has ls 7 [(4, .int (nI (k + 1))), (0, .ref (ad 0)), (1, .ref (ad (5 + s))), (2, .int (nI i)), (3, .int (nI wc))] := lv_sub hl [0, 3, 4, 5, 6] rfl
          exact ih3 (k + 1) (by omega) (by rw [if_pos (decide_eq_true (lg_cmp0.mp (by omega)))] at hR; exact hR) _ _ _ (hP) hS hl0
        · refine lv_iconst (v := nI 0) hx hb dX5_isSo_83 (by decide) ?_
          exact x_retz hx hb hr9 hlk9 hS hP (by rw [if_neg (fun h => by have := lg_cmp0.mpr (of_decide_eq_true h); omega)] at hR; rw [← hR]; rfl) (rfl) dX5_isSo_84
      · refine lv_aload_n hx hb dX5_isSo_36 rfl (lv_at hl 2 rfl) ?_
        refine x_getr CF hK hP 0 (by decide) dX_0 rfl uX5 6 (by decide) (j := 22) rfl wd1_170 rfl dX5_isSo_37 ?_
        refine lv_goto (tgt := 56) hx hb dX5_isSo_40 (by decide) ?_
        refine lv_astore (lv' := [(6, .ref (ad 22)), (5, .ref (ad (32 + k))), (4, .int (nI k)), (0, .ref (ad 0)), (1, .ref (ad (5 + s))), (2, .int (nI i)), (3, .int (nI wc))]) hx hb dX5_isSo_56 hl (by decide) rfl (fun ls hl => ?_)
        refine lv_aload_n hx hb dX5_isSo_58 rfl (lv_at hl 4 rfl) ?_
        refine x_getr CF hK hP (5 + s) (by omega) (dX_sheet s (by omega)) rfl uX3 0 (by decide) (j := (9 + s)) rfl wd1_133 rfl dX5_isSo_59 ?_
        refine lv_iload_n hx hb dX5_isSo_62 rfl (lv_at hl 5 rfl) ?_
        refine lv_iload hx hb dX5_isSo_63 (lv_at hl 2 rfl) ?_
        refine x_iadd hx hb dX5_isSo_65 ?_
        refine x_lald CF hK hP (9 + s) (by omega) (dX_items s (by omega)) (i + k) (by omega) (by decide) dX5_isSo_66 ?_
        refine lv_aload_n hx hb dX5_isSo_67 rfl (lv_at hl 3 rfl) ?_
        refine x_getr CF hK hP 0 (by decide) dX_0 rfl uX5 0 (by decide) (j := 23) rfl wd1_164 rfl dX5_isSo_68 ?_
        refine lv_aload hx hb dX5_isSo_71 (lv_at hl 0 rfl) ?_
        refine lv_aload hx hb dX5_isSo_73 (lv_at hl 1 rfl) ?_
        refine x_callVI CF hK hP hS hA hl (As := [.ref (ad 22), .ref (ad (32 + k))]) (rest := [.long (J (9 + s) (i + k))]) (c_upsOn_w hI M J hw hq22 k (by omega)) kw_X1_upsOn wd3_50 (by decide) dX_23 rfl rfl ⟨Nat.le_of_ble_eq_true rfl, Nat.le_of_ble_eq_true rfl⟩ ⟨Nat.le_refl _, Nat.le_refl _⟩ (Nat.le_of_ble_eq_true rfl) dX5_isSo_75 (fun H locs hP hS => ?_)
        refine x_ri (show (nI (ups (M 22) (M (32 + k) 2) (M 23 5) (M (32 + k) 0) (M 23 4))) = nI (upsW M wc k) from congrArg nI (by rw [upsW, if_pos (by omega)]; try rfl)) ?_
        refine lv_i2l hx hb dX5_isSo_78 (nI_l (Nat.lt_of_lt_of_le (upsW_lt _ _ _) (by decide))) ?_
        refine W.lcmp hx hb dX5_isSo_79 ?_
        refine x_yeq (u := _) (tgt := 85) hx hb (rfl) dX5_isSo_80 (by decide) (fun h_5 => ?_) (fun h_5 => ?_)
        · refine lv_iinc (v := nI (k + 1)) (lv' := [(4, .int (nI (k + 1))), (6, .ref (ad 22)), (5, .ref (ad (32 + k))), (0, .ref (ad 0)), (1, .ref (ad (5 + s))), (2, .int (nI i)), (3, .int (nI wc))]) hx hb dX5_isSo_85 hl (k := 2) rfl (n_inc k 1) (by decide) rfl (fun ls hl => ?_)
          refine lv_goto (tgt := 3) hx hb dX5_isSo_88 (by decide) ?_
          have hl0 : lv_has ls 7 [(4, .int (nI (k + 1))), (0, .ref (ad 0)), (1, .ref (ad (5 + s))), (2, .int (nI i)), (3, .int (nI wc))] := lv_sub hl [0, 3, 4, 5, 6] rfl
          exact ih3 (k + 1) (by omega) (by rw [if_pos (decide_eq_true (lg_cmp0.mp (by omega)))] at hR; exact hR) _ _ _ (hP) hS hl0
        · refine lv_iconst (v := nI 0) hx hb dX5_isSo_83 (by decide) ?_
          exact x_retz hx hb hr9 hlk9 hS hP (by rw [if_neg (fun h => by have := lg_cmp0.mpr (of_decide_eq_true h); omega)] at hR; rw [← hR]; rfl) (rfl) dX5_isSo_84
  have hl0 : lv_has ls 7 [(4, .int (nI 0)), (0, .ref (ad 0)), (1, .ref (ad (5 + s))), (2, .int (nI i)), (3, .int (nI wc))] := lv_sub hl [0, 1, 2, 3, 4] rfl
  exact L3 (M 23 3) 0 (by omega) (rfl) _ _ _ (hP) hS hl0
set_option maxHeartbeats 4000000 in
set_option maxRecDepth 100000 in
theorem c_isSo_n {l : Launch} {g : gE} {ad : Nat → Nat} (hI : g_inj ad 55) (M : gMem) (J : gMeL) (hw : wfX M) (s i : Nat) (hs : s < 4) (hi9 : i + M 23 3 ≤ 24) : CI l g ad dsX 55 yX5_isSo cX5_isSo 7 (some .boolean) 7 [.ref (ad 0), .ref (ad (5 + s)), .int (nI i), .int (nI 4294967295)] M J (nI (b2n (allF (fun k => decide (J (9 + s) (i + k) = lN (upsW M 4294967295 k))) 0 (M 23 3)))) M J := by
  refine CI.of (plainFor_of_name (by decide)) (Nat.le_of_ble_eq_true rfl) (fun p9 e9 s9 m9 args9 below9 meth9 c9 CF hK hr9 hlk9 hP hS ls hl => ?_)
  have hx := CF.1
  have hb := CF.2.1
  have hA : ∀ q, g_A ad 55 q → g_A ad 55 q := fun _ h => h
  have hl : lv_has ls 7 [(0, .ref (ad 0)), (1, .ref (ad (5 + s))), (2, .int (nI i)), (3, .int (nI 4294967295))] := hl
  have hnf := hw.nf
  have hq22 : True := trivial
  refine lv_iconst (v := nI 0) hx hb dX5_isSo_0 (by decide) ?_
  refine lv_istore (lv' := [(4, .int (nI 0)), (0, .ref (ad 0)), (1, .ref (ad (5 + s))), (2, .int (nI i)), (3, .int (nI 4294967295))]) hx hb dX5_isSo_1 hl (by decide) rfl (fun ls hl => ?_)
  have L3 : ∀ (d3 : Nat) (k : Nat), (k + d3 = M 23 3) → (allF (fun k => decide (J (9 + s) (i + k) = lN (upsW M 4294967295 k))) k d3 = allF (fun k => decide (J (9 + s) (i + k) = lN (upsW M 4294967295 k))) 0 (M 23 3)) → (∀ (H : Heap) (locs : List Loc) (ls : Array Slot), g_P g ad dsX 55 M J H → va_S (g_A ad 55) s9.heap H locs → lv_has ls 7 [(4, .int (nI k)), (0, .ref (ad 0)), (1, .ref (ad (5 + s))), (2, .int (nI i)), (3, .int (nI 4294967295))] → W p9 l e9 (g_rm 7) s9 m9 args9 below9 meth9 c9 H locs 0 0 (MQ below9 (va_Qi (fun r' (_ : Unit) => r' = (nI (b2n (allF (fun k => decide (J (9 + s) (i + k) = lN (upsW M 4294967295 k))) 0 (M 23 3))))) (fun _ t => g_P g ad dsX 55 M J t.heap) (g_A ad 55)) args9 s9 0 0 (g_A ad 55)) (F0 m9 3 ls [])) := by
    intro d3
    induction d3 with
    | zero =>
      intro k hk hR H locs ls hP hS hl
      refine lv_iload hx hb dX5_isSo_3 (lv_at hl 0 rfl) ?_
      refine lv_aload_n hx hb dX5_isSo_5 rfl (lv_at hl 1 rfl) ?_
      refine x_getr CF hK hP 0 (by decide) dX_0 rfl uX5 0 (by decide) (j := 23) rfl wd1_164 rfl dX5_isSo_6 ?_
      refine x_geti CF hK hP 23 (by decide) dX_23 rfl uX1 3 (by decide) rfl wd1_74 rfl dX5_isSo_9 ?_
      refine x_zge (u := (k : Nat)) (v := (M 23 3 : Nat)) (tgt := 91) hx hb (nI_toInt (by omega)) (nI_toInt (by omega)) dX5_isSo_12 (by decide) (fun h_1 => ?_) (fun h_1 => (by omega : False).elim)
      refine lv_iconst (v := nI 1) hx hb dX5_isSo_91 (by decide) ?_
      exact x_retz hx hb hr9 hlk9 hS hP (by rw [← hR]; rfl) (rfl) dX5_isSo_92
    | succ d3 ih3 =>
      intro k hk hR H locs ls hP hS hl
      have hf := hw.fig (show k < 5 by omega)
      rw [allF] at hR
      refine lv_iload hx hb dX5_isSo_3 (lv_at hl 0 rfl) ?_
      refine lv_aload_n hx hb dX5_isSo_5 rfl (lv_at hl 1 rfl) ?_
      refine x_getr CF hK hP 0 (by decide) dX_0 rfl uX5 0 (by decide) (j := 23) rfl wd1_164 rfl dX5_isSo_6 ?_
      refine x_geti CF hK hP 23 (by decide) dX_23 rfl uX1 3 (by decide) rfl wd1_74 rfl dX5_isSo_9 ?_
      refine x_zge (u := (k : Nat)) (v := (M 23 3 : Nat)) (tgt := 91) hx hb (nI_toInt (by omega)) (nI_toInt (by omega)) dX5_isSo_12 (by decide) (fun h_2 => (by omega : False).elim) (fun h_2 => ?_)
      refine lv_aload_n hx hb dX5_isSo_15 rfl (lv_at hl 1 rfl) ?_
      refine x_getr CF hK hP 0 (by decide) dX_0 rfl uX5 0 (by decide) (j := 23) rfl wd1_164 rfl dX5_isSo_16 ?_
      refine x_getr CF hK hP 23 (by decide) dX_23 rfl uX1 2 (by decide) (j := 31) rfl wd1_72 rfl dX5_isSo_19 ?_
      refine lv_iload hx hb dX5_isSo_22 (lv_at hl 0 rfl) ?_
      refine x_aald CF hK hP 31 (by decide) (t := 0) dX_31 (by decide) k (by omega) (by decide) (j := (32 + k)) (oX_fig k (by omega)) dX5_isSo_24 ?_
      refine lv_astore (lv' := [(5, .ref (ad (32 + k))), (4, .int (nI k)), (0, .ref (ad 0)), (1, .ref (ad (5 + s))), (2, .int (nI i)), (3, .int (nI 4294967295))]) hx hb dX5_isSo_25 hl (by decide) rfl (fun ls hl => ?_)
      refine lv_aload hx hb dX5_isSo_27 (lv_at hl 0 rfl) ?_
      refine x_geti CF hK hP (32 + k) (by omega) (dX_fig k (by omega)) rfl uX0 1 (by decide) rfl wd1_39 rfl dX5_isSo_29 ?_
      refine lv_iload_n hx hb dX5_isSo_32 rfl (lv_at hl 5 rfl) ?_
      refine x_zne (u := (M (32 + k) 1 : Nat)) (v := (-1 : Int)) (tgt := 43) hx hb (nI_toInt (by omega)) (rfl) dX5_isSo_33 (by decide) (fun h_3 => ?_) (fun h_3 => (by omega : False).elim)
      refine lv_aload_n hx hb dX5_isSo_43 rfl (lv_at hl 2 rfl) ?_
      refine x_getr CF hK hP 0 (by decide) dX_0 rfl uX5 0 (by decide) (j := 23) rfl wd1_164 rfl dX5_isSo_44 ?_
      refine x_getr CF hK hP 23 (by decide) dX_23 rfl uX1 0 (by decide) (j := 24) rfl wd1_68 rfl dX5_isSo_47 ?_
      refine lv_aload hx hb dX5_isSo_50 (lv_at hl 0 rfl) ?_
      refine x_geti CF hK hP (32 + k) (by omega) (dX_fig k (by omega)) rfl uX0 1 (by decide) rfl wd1_39 rfl dX5_isSo_52 ?_
      refine x_aald CF hK hP 24 (by decide) (t := 2) dX_24 (by decide) (M (32 + k) 1) (by omega) (by decide) (j := (25 + (M (32 + k) 1))) (oX_hair (M (32 + k) 1) (by omega)) dX5_isSo_55 ?_
      refine lv_astore (lv' := [(6, .ref (ad (25 + (M (32 + k) 1)))), (5, .ref (ad (32 + k))), (4, .int (nI k)), (0, .ref (ad 0)), (1, .ref (ad (5 + s))), (2, .int (nI i)), (3, .int (nI 4294967295))]) hx hb dX5_isSo_56 hl (by decide) rfl (fun ls hl => ?_)
      refine lv_aload_n hx hb dX5_isSo_58 rfl (lv_at hl 4 rfl) ?_
      refine x_getr CF hK hP (5 + s) (by omega) (dX_sheet s (by omega)) rfl uX3 0 (by decide) (j := (9 + s)) rfl wd1_133 rfl dX5_isSo_59 ?_
      refine lv_iload_n hx hb dX5_isSo_62 rfl (lv_at hl 5 rfl) ?_
      refine lv_iload hx hb dX5_isSo_63 (lv_at hl 2 rfl) ?_
      refine x_iadd hx hb dX5_isSo_65 ?_
      refine x_lald CF hK hP (9 + s) (by omega) (dX_items s (by omega)) (i + k) (by omega) (by decide) dX5_isSo_66 ?_
      refine lv_aload_n hx hb dX5_isSo_67 rfl (lv_at hl 3 rfl) ?_
      refine x_getr CF hK hP 0 (by decide) dX_0 rfl uX5 0 (by decide) (j := 23) rfl wd1_164 rfl dX5_isSo_68 ?_
      refine lv_aload hx hb dX5_isSo_71 (lv_at hl 0 rfl) ?_
      refine lv_aload hx hb dX5_isSo_73 (lv_at hl 1 rfl) ?_
      refine x_callVI CF hK hP hS hA hl (As := [.ref (ad (25 + (M (32 + k) 1))), .ref (ad (32 + k))]) (rest := [.long (J (9 + s) (i + k))]) (c_upsOn_h hI M J hw (M (32 + k) 1) (by omega) k (by omega)) kw_X1_upsOn wd3_50 (by decide) dX_23 rfl rfl ⟨Nat.le_of_ble_eq_true rfl, Nat.le_of_ble_eq_true rfl⟩ ⟨Nat.le_refl _, Nat.le_refl _⟩ (Nat.le_of_ble_eq_true rfl) dX5_isSo_75 (fun H locs hP hS => ?_)
      refine x_ri (show (nI (ups (M (25 + (M (32 + k) 1))) (M (32 + k) 2) (M 23 5) (M (32 + k) 0) (M 23 4))) = nI (upsW M 4294967295 k) from congrArg nI (by rw [upsW, if_neg (by omega)]; try rfl)) ?_
      refine lv_i2l hx hb dX5_isSo_78 (nI_l (Nat.lt_of_lt_of_le (upsW_lt _ _ _) (by decide))) ?_
      refine W.lcmp hx hb dX5_isSo_79 ?_
      refine x_yeq (u := _) (tgt := 85) hx hb (rfl) dX5_isSo_80 (by decide) (fun h_4 => ?_) (fun h_4 => ?_)
      · refine lv_iinc (v := nI (k + 1)) (lv' := [(4, .int (nI (k + 1))), (6, .ref (ad (25 + (M (32 + k) 1)))), (5, .ref (ad (32 + k))), (0, .ref (ad 0)), (1, .ref (ad (5 + s))), (2, .int (nI i)), (3, .int (nI 4294967295))]) hx hb dX5_isSo_85 hl (k := 2) rfl (n_inc k 1) (by decide) rfl (fun ls hl => ?_)
        refine lv_goto (tgt := 3) hx hb dX5_isSo_88 (by decide) ?_
        have hl0 : lv_has ls 7 [(4, .int (nI (k + 1))), (0, .ref (ad 0)), (1, .ref (ad (5 + s))), (2, .int (nI i)), (3, .int (nI 4294967295))] := lv_sub hl [0, 3, 4, 5, 6] rfl
        exact ih3 (k + 1) (by omega) (by rw [if_pos (decide_eq_true (lg_cmp0.mp (by omega)))] at hR; exact hR) _ _ _ (hP) hS hl0
      · refine lv_iconst (v := nI 0) hx hb dX5_isSo_83 (by decide) ?_
        exact x_retz hx hb hr9 hlk9 hS hP (by rw [if_neg (fun h => by have := lg_cmp0.mpr (of_decide_eq_true h); omega)] at hR; rw [← hR]; rfl) (rfl) dX5_isSo_84
  have hl0 : lv_has ls 7 [(4, .int (nI 0)), (0, .ref (ad 0)), (1, .ref (ad (5 + s))), (2, .int (nI i)), (3, .int (nI 4294967295))] := lv_sub hl [0, 1, 2, 3, 4] rfl
  exact L3 (M 23 3) 0 (by omega) (rfl) _ _ _ (hP) hS hl0
set_option maxHeartbeats 4000000 in
set_option maxRecDepth 100000 in
theorem c_ref_ok {l : Launch} {g : gE} {ad : Nat → Nat} (hI : g_inj ad 55) (M : gMem) (J : gMeL) (s ln : Nat) (hs : s < 4) (hln : ln < 3) (i n : Nat) (hl9 : M (5 + s) 1 = ln) (h : i + n ≤ M (5 + s) 2) (h2 : M (5 + s) 2 ≤ 24) : CI l g ad dsX 55 yX5_refusalOf cX5_refusalOf 5 (some .int) 3 [.ref (ad 0), .int (nI s), .int (nI ln), .int (nI i), .int (nI n)] M J (nI 0) M J := by
  refine CI.of (plainFor_of_name (by decide)) (Nat.le_of_ble_eq_true rfl) (fun p9 e9 s9 m9 args9 below9 meth9 c9 CF hK hr9 hlk9 hP hS ls hl => ?_)
  have hx := CF.1
  have hb := CF.2.1
  have hA : ∀ q, g_A ad 55 q → g_A ad 55 q := fun _ h => h
  have hl : lv_has ls 5 [(0, .ref (ad 0)), (1, .int (nI s)), (2, .int (nI ln)), (3, .int (nI i)), (4, .int (nI n))] := hl
  refine lv_iload_n hx hb dX5_refusalOf_0 rfl (lv_at hl 1 rfl) ?_
  refine x_callSP CF hK hP hS hl (As := [.int (nI s)]) (rest := []) (c_isSheet_t s (by omega)) kw_X5_isSheet wd3_32 rfl ⟨Nat.le_of_ble_eq_true rfl, Nat.le_of_ble_eq_true rfl⟩ ⟨Nat.le_refl _, Nat.le_refl _⟩ (Nat.le_of_ble_eq_true rfl) dX5_refusalOf_1 (fun H locs hP hS => ?_)
  refine x_yeq (u := (1 : Int)) (tgt := 14) hx hb (rfl) dX5_refusalOf_4 (by decide) (fun h_1 => (by omega : False).elim) (fun h_1 => ?_)
  refine lv_iload_n hx hb dX5_refusalOf_7 rfl (lv_at hl 2 rfl) ?_
  refine x_callSP CF hK hP hS hl (As := [.int (nI ln)]) (rest := []) (c_isLane_t ln (by omega)) kw_X5_isLane wd3_35 rfl ⟨Nat.le_of_ble_eq_true rfl, Nat.le_of_ble_eq_true rfl⟩ ⟨Nat.le_refl _, Nat.le_refl _⟩ (Nat.le_of_ble_eq_true rfl) dX5_refusalOf_8 (fun H locs hP hS => ?_)
  refine x_yne (u := (1 : Int)) (tgt := 16) hx hb (rfl) dX5_refusalOf_11 (by decide) (fun h_2 => ?_) (fun h_2 => (by omega : False).elim)
  refine lv_aload_n hx hb dX5_refusalOf_16 rfl (lv_at hl 0 rfl) ?_
  refine x_getr CF hK hP 0 (by decide) dX_0 rfl uX5 4 (by decide) (j := 4) rfl wd1_168 rfl dX5_refusalOf_17 ?_
  refine lv_iload_n hx hb dX5_refusalOf_20 rfl (lv_at hl 1 rfl) ?_
  refine x_aald CF hK hP 4 (by decide) (t := 1) dX_4 (by decide) s (by omega) (by decide) (j := (5 + s)) (oX_sheet s (by omega)) dX5_refusalOf_21 ?_
  refine x_callVI CF hK hP hS hA hl (As := []) (rest := []) (c_isNothing_f hI M J s (by omega) (by omega)) kw_X3_isNothing wd3_38 (by omega) (dX_sheet s (by omega)) rfl rfl ⟨Nat.le_of_ble_eq_true rfl, Nat.le_of_ble_eq_true rfl⟩ ⟨Nat.le_refl _, Nat.le_refl _⟩ (Nat.le_of_ble_eq_true rfl) dX5_refusalOf_22 (fun H locs hP hS => ?_)
  refine x_yeq (u := (0 : Int)) (tgt := 31) hx hb (rfl) dX5_refusalOf_25 (by decide) (fun h_3 => ?_) (fun h_3 => (by omega : False).elim)
  refine lv_aload_n hx hb dX5_refusalOf_31 rfl (lv_at hl 0 rfl) ?_
  refine x_getr CF hK hP 0 (by decide) dX_0 rfl uX5 4 (by decide) (j := 4) rfl wd1_168 rfl dX5_refusalOf_32 ?_
  refine lv_iload_n hx hb dX5_refusalOf_35 rfl (lv_at hl 1 rfl) ?_
  refine x_aald CF hK hP 4 (by decide) (t := 1) dX_4 (by decide) s (by omega) (by decide) (j := (5 + s)) (oX_sheet s (by omega)) dX5_refusalOf_36 ?_
  refine x_geti CF hK hP (5 + s) (by omega) (dX_sheet s (by omega)) rfl uX3 1 (by decide) rfl wd1_135 rfl dX5_refusalOf_37 ?_
  refine lv_iload_n hx hb dX5_refusalOf_40 rfl (lv_at hl 2 rfl) ?_
  refine x_zeq (u := (M (5 + s) 1 : Nat)) (v := (ln : Nat)) (tgt := 47) hx hb (nI_toInt (by omega)) (nI_toInt (by omega)) dX5_refusalOf_41 (by decide) (fun h_4 => ?_) (fun h_4 => (by omega : False).elim)
  refine lv_aload_n hx hb dX5_refusalOf_47 rfl (lv_at hl 0 rfl) ?_
  refine x_getr CF hK hP 0 (by decide) dX_0 rfl uX5 4 (by decide) (j := 4) rfl wd1_168 rfl dX5_refusalOf_48 ?_
  refine lv_iload_n hx hb dX5_refusalOf_51 rfl (lv_at hl 1 rfl) ?_
  refine x_aald CF hK hP 4 (by decide) (t := 1) dX_4 (by decide) s (by omega) (by decide) (j := (5 + s)) (oX_sheet s (by omega)) dX5_refusalOf_52 ?_
  refine lv_iload_n hx hb dX5_refusalOf_53 rfl (lv_at hl 3 rfl) ?_
  refine lv_iload hx hb dX5_refusalOf_54 (lv_at hl 4 rfl) ?_
  refine x_callVI CF hK hP hS hA hl (As := [.int (nI i), .int (nI n)]) (rest := []) (c_hasItems_t hI M J s (by omega) i n h h2) kw_X3_hasItems wd3_42 (by omega) (dX_sheet s (by omega)) rfl rfl ⟨Nat.le_of_ble_eq_true rfl, Nat.le_of_ble_eq_true rfl⟩ ⟨Nat.le_refl _, Nat.le_refl _⟩ (Nat.le_of_ble_eq_true rfl) dX5_refusalOf_56 (fun H locs hP hS => ?_)
  refine x_yeq (u := (1 : Int)) (tgt := 66) hx hb (rfl) dX5_refusalOf_59 (by decide) (fun h_5 => (by omega : False).elim) (fun h_5 => ?_)
  refine lv_iconst (v := nI 0) hx hb dX5_refusalOf_62 (by decide) ?_
  refine lv_goto (tgt := 68) hx hb dX5_refusalOf_63 (by decide) ?_
  exact x_reti hx hb hr9 hlk9 hS hP (by first | rfl | (show nI 0 = nI 0; first | rfl | omega)) dX5_refusalOf_68
set_option maxHeartbeats 4000000 in
set_option maxRecDepth 100000 in
theorem c_ref_null {l : Launch} {g : gE} {ad : Nat → Nat} (hI : g_inj ad 55) (M : gMem) (J : gMeL) (s ln : Nat) (hs : s < 4) (hln : ln < 3) (i n : Int32) (h : M (5 + s) 1 = 4294967295) : CI l g ad dsX 55 yX5_refusalOf cX5_refusalOf 5 (some .int) 3 [.ref (ad 0), .int (nI s), .int (nI ln), .int i, .int n] M J (nI 4294967285) M J := by
  refine CI.of (plainFor_of_name (by decide)) (Nat.le_of_ble_eq_true rfl) (fun p9 e9 s9 m9 args9 below9 meth9 c9 CF hK hr9 hlk9 hP hS ls hl => ?_)
  have hx := CF.1
  have hb := CF.2.1
  have hA : ∀ q, g_A ad 55 q → g_A ad 55 q := fun _ h => h
  have hl : lv_has ls 5 [(0, .ref (ad 0)), (1, .int (nI s)), (2, .int (nI ln)), (3, .int i), (4, .int n)] := hl
  refine lv_iload_n hx hb dX5_refusalOf_0 rfl (lv_at hl 1 rfl) ?_
  refine x_callSP CF hK hP hS hl (As := [.int (nI s)]) (rest := []) (c_isSheet_t s (by omega)) kw_X5_isSheet wd3_32 rfl ⟨Nat.le_of_ble_eq_true rfl, Nat.le_of_ble_eq_true rfl⟩ ⟨Nat.le_refl _, Nat.le_refl _⟩ (Nat.le_of_ble_eq_true rfl) dX5_refusalOf_1 (fun H locs hP hS => ?_)
  refine x_yeq (u := (1 : Int)) (tgt := 14) hx hb (rfl) dX5_refusalOf_4 (by decide) (fun h_1 => (by omega : False).elim) (fun h_1 => ?_)
  refine lv_iload_n hx hb dX5_refusalOf_7 rfl (lv_at hl 2 rfl) ?_
  refine x_callSP CF hK hP hS hl (As := [.int (nI ln)]) (rest := []) (c_isLane_t ln (by omega)) kw_X5_isLane wd3_35 rfl ⟨Nat.le_of_ble_eq_true rfl, Nat.le_of_ble_eq_true rfl⟩ ⟨Nat.le_refl _, Nat.le_refl _⟩ (Nat.le_of_ble_eq_true rfl) dX5_refusalOf_8 (fun H locs hP hS => ?_)
  refine x_yne (u := (1 : Int)) (tgt := 16) hx hb (rfl) dX5_refusalOf_11 (by decide) (fun h_2 => ?_) (fun h_2 => (by omega : False).elim)
  refine lv_aload_n hx hb dX5_refusalOf_16 rfl (lv_at hl 0 rfl) ?_
  refine x_getr CF hK hP 0 (by decide) dX_0 rfl uX5 4 (by decide) (j := 4) rfl wd1_168 rfl dX5_refusalOf_17 ?_
  refine lv_iload_n hx hb dX5_refusalOf_20 rfl (lv_at hl 1 rfl) ?_
  refine x_aald CF hK hP 4 (by decide) (t := 1) dX_4 (by decide) s (by omega) (by decide) (j := (5 + s)) (oX_sheet s (by omega)) dX5_refusalOf_21 ?_
  refine x_callVI CF hK hP hS hA hl (As := []) (rest := []) (c_isNothing_t hI M J s (by omega) h) kw_X3_isNothing wd3_38 (by omega) (dX_sheet s (by omega)) rfl rfl ⟨Nat.le_of_ble_eq_true rfl, Nat.le_of_ble_eq_true rfl⟩ ⟨Nat.le_refl _, Nat.le_refl _⟩ (Nat.le_of_ble_eq_true rfl) dX5_refusalOf_22 (fun H locs hP hS => ?_)
  refine x_yeq (u := (1 : Int)) (tgt := 31) hx hb (rfl) dX5_refusalOf_25 (by decide) (fun h_3 => (by omega : False).elim) (fun h_3 => ?_)
  refine lv_bipush (v := nI 4294967285) hx hb dX5_refusalOf_28 (by decide) ?_
  exact x_reti hx hb hr9 hlk9 hS hP (by first | rfl | (show nI 4294967285 = nI 4294967285; first | rfl | omega)) dX5_refusalOf_30
set_option maxHeartbeats 4000000 in
set_option maxRecDepth 100000 in
theorem c_ref_cast {l : Launch} {g : gE} {ad : Nat → Nat} (hI : g_inj ad 55) (M : gMem) (J : gMeL) (s ln : Nat) (hs : s < 4) (hln : ln < 3) (i n : Int32) (h : M (5 + s) 1 ≤ 2) (h3 : ¬ M (5 + s) 1 = ln) : CI l g ad dsX 55 yX5_refusalOf cX5_refusalOf 5 (some .int) 3 [.ref (ad 0), .int (nI s), .int (nI ln), .int i, .int n] M J (nI 4294967284) M J := by
  refine CI.of (plainFor_of_name (by decide)) (Nat.le_of_ble_eq_true rfl) (fun p9 e9 s9 m9 args9 below9 meth9 c9 CF hK hr9 hlk9 hP hS ls hl => ?_)
  have hx := CF.1
  have hb := CF.2.1
  have hA : ∀ q, g_A ad 55 q → g_A ad 55 q := fun _ h => h
  have hl : lv_has ls 5 [(0, .ref (ad 0)), (1, .int (nI s)), (2, .int (nI ln)), (3, .int i), (4, .int n)] := hl
  refine lv_iload_n hx hb dX5_refusalOf_0 rfl (lv_at hl 1 rfl) ?_
  refine x_callSP CF hK hP hS hl (As := [.int (nI s)]) (rest := []) (c_isSheet_t s (by omega)) kw_X5_isSheet wd3_32 rfl ⟨Nat.le_of_ble_eq_true rfl, Nat.le_of_ble_eq_true rfl⟩ ⟨Nat.le_refl _, Nat.le_refl _⟩ (Nat.le_of_ble_eq_true rfl) dX5_refusalOf_1 (fun H locs hP hS => ?_)
  refine x_yeq (u := (1 : Int)) (tgt := 14) hx hb (rfl) dX5_refusalOf_4 (by decide) (fun h_1 => (by omega : False).elim) (fun h_1 => ?_)
  refine lv_iload_n hx hb dX5_refusalOf_7 rfl (lv_at hl 2 rfl) ?_
  refine x_callSP CF hK hP hS hl (As := [.int (nI ln)]) (rest := []) (c_isLane_t ln (by omega)) kw_X5_isLane wd3_35 rfl ⟨Nat.le_of_ble_eq_true rfl, Nat.le_of_ble_eq_true rfl⟩ ⟨Nat.le_refl _, Nat.le_refl _⟩ (Nat.le_of_ble_eq_true rfl) dX5_refusalOf_8 (fun H locs hP hS => ?_)
  refine x_yne (u := (1 : Int)) (tgt := 16) hx hb (rfl) dX5_refusalOf_11 (by decide) (fun h_2 => ?_) (fun h_2 => (by omega : False).elim)
  refine lv_aload_n hx hb dX5_refusalOf_16 rfl (lv_at hl 0 rfl) ?_
  refine x_getr CF hK hP 0 (by decide) dX_0 rfl uX5 4 (by decide) (j := 4) rfl wd1_168 rfl dX5_refusalOf_17 ?_
  refine lv_iload_n hx hb dX5_refusalOf_20 rfl (lv_at hl 1 rfl) ?_
  refine x_aald CF hK hP 4 (by decide) (t := 1) dX_4 (by decide) s (by omega) (by decide) (j := (5 + s)) (oX_sheet s (by omega)) dX5_refusalOf_21 ?_
  refine x_callVI CF hK hP hS hA hl (As := []) (rest := []) (c_isNothing_f hI M J s (by omega) h) kw_X3_isNothing wd3_38 (by omega) (dX_sheet s (by omega)) rfl rfl ⟨Nat.le_of_ble_eq_true rfl, Nat.le_of_ble_eq_true rfl⟩ ⟨Nat.le_refl _, Nat.le_refl _⟩ (Nat.le_of_ble_eq_true rfl) dX5_refusalOf_22 (fun H locs hP hS => ?_)
  refine x_yeq (u := (0 : Int)) (tgt := 31) hx hb (rfl) dX5_refusalOf_25 (by decide) (fun h_3 => ?_) (fun h_3 => (by omega : False).elim)
  refine lv_aload_n hx hb dX5_refusalOf_31 rfl (lv_at hl 0 rfl) ?_
  refine x_getr CF hK hP 0 (by decide) dX_0 rfl uX5 4 (by decide) (j := 4) rfl wd1_168 rfl dX5_refusalOf_32 ?_
  refine lv_iload_n hx hb dX5_refusalOf_35 rfl (lv_at hl 1 rfl) ?_
  refine x_aald CF hK hP 4 (by decide) (t := 1) dX_4 (by decide) s (by omega) (by decide) (j := (5 + s)) (oX_sheet s (by omega)) dX5_refusalOf_36 ?_
  refine x_geti CF hK hP (5 + s) (by omega) (dX_sheet s (by omega)) rfl uX3 1 (by decide) rfl wd1_135 rfl dX5_refusalOf_37 ?_
  refine lv_iload_n hx hb dX5_refusalOf_40 rfl (lv_at hl 2 rfl) ?_
  refine x_zeq (u := (M (5 + s) 1 : Nat)) (v := (ln : Nat)) (tgt := 47) hx hb (nI_toInt (by omega)) (nI_toInt (by omega)) dX5_refusalOf_41 (by decide) (fun h_4 => (by omega : False).elim) (fun h_4 => ?_)
  refine lv_bipush (v := nI 4294967284) hx hb dX5_refusalOf_44 (by decide) ?_
  exact x_reti hx hb hr9 hlk9 hS hP (by first | rfl | (show nI 4294967284 = nI 4294967284; first | rfl | omega)) dX5_refusalOf_46
set_option maxHeartbeats 4000000 in
set_option maxRecDepth 100000 in
theorem c_ref_index {l : Launch} {g : gE} {ad : Nat → Nat} (hI : g_inj ad 55) (M : gMem) (J : gMeL) (s ln : Nat) (hs : s < 4) (hln : ln < 3) (i n : Int32) (hl9 : M (5 + s) 1 = ln) (h : ¬ (0 ≤ i.toInt ∧ 0 ≤ n.toInt ∧ i.toInt + n.toInt ≤ M (5 + s) 2)) (h2 : M (5 + s) 2 ≤ 24) : CI l g ad dsX 55 yX5_refusalOf cX5_refusalOf 5 (some .int) 3 [.ref (ad 0), .int (nI s), .int (nI ln), .int i, .int n] M J (nI 4294967283) M J := by
  refine CI.of (plainFor_of_name (by decide)) (Nat.le_of_ble_eq_true rfl) (fun p9 e9 s9 m9 args9 below9 meth9 c9 CF hK hr9 hlk9 hP hS ls hl => ?_)
  have hx := CF.1
  have hb := CF.2.1
  have hA : ∀ q, g_A ad 55 q → g_A ad 55 q := fun _ h => h
  have hl : lv_has ls 5 [(0, .ref (ad 0)), (1, .int (nI s)), (2, .int (nI ln)), (3, .int i), (4, .int n)] := hl
  refine lv_iload_n hx hb dX5_refusalOf_0 rfl (lv_at hl 1 rfl) ?_
  refine x_callSP CF hK hP hS hl (As := [.int (nI s)]) (rest := []) (c_isSheet_t s (by omega)) kw_X5_isSheet wd3_32 rfl ⟨Nat.le_of_ble_eq_true rfl, Nat.le_of_ble_eq_true rfl⟩ ⟨Nat.le_refl _, Nat.le_refl _⟩ (Nat.le_of_ble_eq_true rfl) dX5_refusalOf_1 (fun H locs hP hS => ?_)
  refine x_yeq (u := (1 : Int)) (tgt := 14) hx hb (rfl) dX5_refusalOf_4 (by decide) (fun h_1 => (by omega : False).elim) (fun h_1 => ?_)
  refine lv_iload_n hx hb dX5_refusalOf_7 rfl (lv_at hl 2 rfl) ?_
  refine x_callSP CF hK hP hS hl (As := [.int (nI ln)]) (rest := []) (c_isLane_t ln (by omega)) kw_X5_isLane wd3_35 rfl ⟨Nat.le_of_ble_eq_true rfl, Nat.le_of_ble_eq_true rfl⟩ ⟨Nat.le_refl _, Nat.le_refl _⟩ (Nat.le_of_ble_eq_true rfl) dX5_refusalOf_8 (fun H locs hP hS => ?_)
  refine x_yne (u := (1 : Int)) (tgt := 16) hx hb (rfl) dX5_refusalOf_11 (by decide) (fun h_2 => ?_) (fun h_2 => (by omega : False).elim)
  refine lv_aload_n hx hb dX5_refusalOf_16 rfl (lv_at hl 0 rfl) ?_
  refine x_getr CF hK hP 0 (by decide) dX_0 rfl uX5 4 (by decide) (j := 4) rfl wd1_168 rfl dX5_refusalOf_17 ?_
  refine lv_iload_n hx hb dX5_refusalOf_20 rfl (lv_at hl 1 rfl) ?_
  refine x_aald CF hK hP 4 (by decide) (t := 1) dX_4 (by decide) s (by omega) (by decide) (j := (5 + s)) (oX_sheet s (by omega)) dX5_refusalOf_21 ?_
  refine x_callVI CF hK hP hS hA hl (As := []) (rest := []) (c_isNothing_f hI M J s (by omega) (by omega)) kw_X3_isNothing wd3_38 (by omega) (dX_sheet s (by omega)) rfl rfl ⟨Nat.le_of_ble_eq_true rfl, Nat.le_of_ble_eq_true rfl⟩ ⟨Nat.le_refl _, Nat.le_refl _⟩ (Nat.le_of_ble_eq_true rfl) dX5_refusalOf_22 (fun H locs hP hS => ?_)
  refine x_yeq (u := (0 : Int)) (tgt := 31) hx hb (rfl) dX5_refusalOf_25 (by decide) (fun h_3 => ?_) (fun h_3 => (by omega : False).elim)
  refine lv_aload_n hx hb dX5_refusalOf_31 rfl (lv_at hl 0 rfl) ?_
  refine x_getr CF hK hP 0 (by decide) dX_0 rfl uX5 4 (by decide) (j := 4) rfl wd1_168 rfl dX5_refusalOf_32 ?_
  refine lv_iload_n hx hb dX5_refusalOf_35 rfl (lv_at hl 1 rfl) ?_
  refine x_aald CF hK hP 4 (by decide) (t := 1) dX_4 (by decide) s (by omega) (by decide) (j := (5 + s)) (oX_sheet s (by omega)) dX5_refusalOf_36 ?_
  refine x_geti CF hK hP (5 + s) (by omega) (dX_sheet s (by omega)) rfl uX3 1 (by decide) rfl wd1_135 rfl dX5_refusalOf_37 ?_
  refine lv_iload_n hx hb dX5_refusalOf_40 rfl (lv_at hl 2 rfl) ?_
  refine x_zeq (u := (M (5 + s) 1 : Nat)) (v := (ln : Nat)) (tgt := 47) hx hb (nI_toInt (by omega)) (nI_toInt (by omega)) dX5_refusalOf_41 (by decide) (fun h_4 => ?_) (fun h_4 => (by omega : False).elim)
  refine lv_aload_n hx hb dX5_refusalOf_47 rfl (lv_at hl 0 rfl) ?_
  refine x_getr CF hK hP 0 (by decide) dX_0 rfl uX5 4 (by decide) (j := 4) rfl wd1_168 rfl dX5_refusalOf_48 ?_
  refine lv_iload_n hx hb dX5_refusalOf_51 rfl (lv_at hl 1 rfl) ?_
  refine x_aald CF hK hP 4 (by decide) (t := 1) dX_4 (by decide) s (by omega) (by decide) (j := (5 + s)) (oX_sheet s (by omega)) dX5_refusalOf_52 ?_
  refine lv_iload_n hx hb dX5_refusalOf_53 rfl (lv_at hl 3 rfl) ?_
  refine lv_iload hx hb dX5_refusalOf_54 (lv_at hl 4 rfl) ?_
  refine x_callVI CF hK hP hS hA hl (As := [.int i, .int n]) (rest := []) (c_hasItems_f hI M J s (by omega) (i) (n) h h2) kw_X3_hasItems wd3_42 (by omega) (dX_sheet s (by omega)) rfl rfl ⟨Nat.le_of_ble_eq_true rfl, Nat.le_of_ble_eq_true rfl⟩ ⟨Nat.le_refl _, Nat.le_refl _⟩ (Nat.le_of_ble_eq_true rfl) dX5_refusalOf_56 (fun H locs hP hS => ?_)
  refine x_yeq (u := (0 : Int)) (tgt := 66) hx hb (rfl) dX5_refusalOf_59 (by decide) (fun h_5 => ?_) (fun h_5 => (by omega : False).elim)
  refine lv_bipush (v := nI 4294967283) hx hb dX5_refusalOf_66 (by decide) ?_
  exact x_reti hx hb hr9 hlk9 hS hP (by first | rfl | (show nI 4294967283 = nI 4294967283; first | rfl | omega)) dX5_refusalOf_68
set_option maxHeartbeats 4000000 in
set_option maxRecDepth 100000 in
theorem c_ref_bad {l : Launch} {g : gE} {ad : Nat → Nat} (hI : g_inj ad 55) (M : gMem) (J : gMeL) (s ln i n : Int32) (h : ¬ (inR s 4 ∧ inR ln 3)) : CI l g ad dsX 55 yX5_refusalOf cX5_refusalOf 5 (some .int) 3 [.ref (ad 0), .int s, .int ln, .int i, .int n] M J (nI 4294967295) M J := by
  refine CI.of (plainFor_of_name (by decide)) (Nat.le_of_ble_eq_true rfl) (fun p9 e9 s9 m9 args9 below9 meth9 c9 CF hK hr9 hlk9 hP hS ls hl => ?_)
  have hx := CF.1
  have hb := CF.2.1
  have hA : ∀ q, g_A ad 55 q → g_A ad 55 q := fun _ h => h
  have hl : lv_has ls 5 [(0, .ref (ad 0)), (1, .int s), (2, .int ln), (3, .int i), (4, .int n)] := hl
  refine lv_iload_n hx hb dX5_refusalOf_0 rfl (lv_at hl 1 rfl) ?_
  rcases n_int (x := s) (n := 4) (by omega) with ⟨sa, h_sa, rfl⟩ | ho_s
  · refine x_callSP CF hK hP hS hl (As := [.int (nI sa)]) (rest := []) (c_isSheet_t sa (by omega)) kw_X5_isSheet wd3_32 rfl ⟨Nat.le_of_ble_eq_true rfl, Nat.le_of_ble_eq_true rfl⟩ ⟨Nat.le_refl _, Nat.le_refl _⟩ (Nat.le_of_ble_eq_true rfl) dX5_refusalOf_1 (fun H locs hP hS => ?_)
    refine x_yeq (u := (1 : Int)) (tgt := 14) hx hb (rfl) dX5_refusalOf_4 (by decide) (fun h_1 => (by omega : False).elim) (fun h_1 => ?_)
    refine lv_iload_n hx hb dX5_refusalOf_7 rfl (lv_at hl 2 rfl) ?_
    rcases n_int (x := ln) (n := 3) (by omega) with ⟨la, h_la, rfl⟩ | ho_ln
    · refine x_callSP CF hK hP hS hl (As := [.int (nI la)]) (rest := []) (c_isLane_t la (by omega)) kw_X5_isLane wd3_35 rfl ⟨Nat.le_of_ble_eq_true rfl, Nat.le_of_ble_eq_true rfl⟩ ⟨Nat.le_refl _, Nat.le_refl _⟩ (Nat.le_of_ble_eq_true rfl) dX5_refusalOf_8 (fun H locs hP hS => ?_)
      refine x_yne (u := (1 : Int)) (tgt := 16) hx hb (rfl) dX5_refusalOf_11 (by decide) (fun h_2 => ?_) (fun h_2 => (by omega : False).elim)
      exact absurd ⟨inR_n h_sa (by decide), inR_n h_la (by decide)⟩ h
    · refine x_callSP CF hK hP hS hl (As := [.int ln]) (rest := []) (c_isLane_f ln ho_ln) kw_X5_isLane wd3_35 rfl ⟨Nat.le_of_ble_eq_true rfl, Nat.le_of_ble_eq_true rfl⟩ ⟨Nat.le_refl _, Nat.le_refl _⟩ (Nat.le_of_ble_eq_true rfl) dX5_refusalOf_8 (fun H locs hP hS => ?_)
      refine x_yne (u := (0 : Int)) (tgt := 16) hx hb (rfl) dX5_refusalOf_11 (by decide) (fun h_3 => (by omega : False).elim) (fun h_3 => ?_)
      refine lv_iconst (v := nI 4294967295) hx hb dX5_refusalOf_14 (by decide) ?_
      exact x_reti hx hb hr9 hlk9 hS hP (by first | rfl | (show nI 4294967295 = nI 4294967295; first | rfl | omega)) dX5_refusalOf_15
  · refine x_callSP CF hK hP hS hl (As := [.int s]) (rest := []) (c_isSheet_f s ho_s) kw_X5_isSheet wd3_32 rfl ⟨Nat.le_of_ble_eq_true rfl, Nat.le_of_ble_eq_true rfl⟩ ⟨Nat.le_refl _, Nat.le_refl _⟩ (Nat.le_of_ble_eq_true rfl) dX5_refusalOf_1 (fun H locs hP hS => ?_)
    refine x_yeq (u := (0 : Int)) (tgt := 14) hx hb (rfl) dX5_refusalOf_4 (by decide) (fun h_4 => ?_) (fun h_4 => (by omega : False).elim)
    refine lv_iconst (v := nI 4294967295) hx hb dX5_refusalOf_14 (by decide) ?_
    exact x_reti hx hb hr9 hlk9 hS hP (by first | rfl | (show nI 4294967295 = nI 4294967295; first | rfl | omega)) dX5_refusalOf_15
