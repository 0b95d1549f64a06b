set_option maxHeartbeats 4000000 in
set_option maxRecDepth 100000 in
theorem c_changeKind {l : Launch} {g : gE} {ad : Nat → Nat} (hI : g_inj ad 55) (M : gMem) (J : gMeL) (k : Nat) (hk : k < 5) (v : Nat) : CI l g ad dsX 55 yX0_changeKind cX0_changeKind 3 (some .int) 0 [.ref (ad (32 + k)), .int (nI v)] M J (nI (M (32 + k) 0)) (u2 M (32 + k) 0 v) J := by
  refine CI.of (plainFor_of_name (by decide)) (Nat.le_of_ble_eq_true rfl) (fun p9 e9 s9 m9 args9 below9 meth9 c9 CF hK hr9 hlk9 hP hS ls hl => ?_)
  have hx := CF.1
  have hb := CF.2.1
  have hA : ∀ q, g_A ad 55 q → g_A ad 55 q := fun _ h => h
  have hl : lv_has ls 3 [(0, .ref (ad (32 + k))), (1, .int (nI v))] := hl
  refine lv_aload_n hx hb dX0_changeKind_0 rfl (lv_at hl 0 rfl) ?_
  refine x_geti CF hK hP (32 + k) (by omega) (dX_fig k (by omega)) rfl uX0 0 (by decide) rfl wd1_35 rfl dX0_changeKind_1 ?_
  refine lv_istore_n (lv' := [(2, .int (nI (M (32 + k) 0))), (0, .ref (ad (32 + k))), (1, .int (nI v))]) hx hb dX0_changeKind_4 rfl hl (by decide) rfl (fun ls hl => ?_)
  refine lv_aload_n hx hb dX0_changeKind_5 rfl (lv_at hl 1 rfl) ?_
  refine lv_iload_n hx hb dX0_changeKind_6 rfl (lv_at hl 2 rfl) ?_
  refine x_puti CF hK hI hA hP hS (32 + k) (by omega) (dX_fig k (by omega)) rfl uX0 tyX0 tyX0_ok nmX0 0 (by decide) rfl wd1_35 rfl rfl v (ty := .int) rfl rfl rfl dX0_changeKind_7 (fun H locs hP hS => ?_)
  refine lv_iload_n hx hb dX0_changeKind_10 rfl (lv_at hl 0 rfl) ?_
  exact x_reti hx hb hr9 hlk9 hS hP (by first | rfl | (show nI (M (32 + k) 0) = nI (M (32 + k) 0); first | rfl | omega)) dX0_changeKind_11
set_option maxHeartbeats 4000000 in
set_option maxRecDepth 100000 in
theorem c_changeCam {l : Launch} {g : gE} {ad : Nat → Nat} (hI : g_inj ad 55) (M : gMem) (J : gMeL) (k : Nat) (hk : k < 5) (v : Nat) : CI l g ad dsX 55 yX0_changeCam cX0_changeCam 3 (some .int) 0 [.ref (ad (32 + k)), .int (nI v)] M J (nI (M (32 + k) 1)) (u2 M (32 + k) 1 v) J := by
  refine CI.of (plainFor_of_name (by decide)) (Nat.le_of_ble_eq_true rfl) (fun p9 e9 s9 m9 args9 below9 meth9 c9 CF hK hr9 hlk9 hP hS ls hl => ?_)
  have hx := CF.1
  have hb := CF.2.1
  have hA : ∀ q, g_A ad 55 q → g_A ad 55 q := fun _ h => h
  have hl : lv_has ls 3 [(0, .ref (ad (32 + k))), (1, .int (nI v))] := hl
  refine lv_aload_n hx hb dX0_changeCam_0 rfl (lv_at hl 0 rfl) ?_
  refine x_geti CF hK hP (32 + k) (by omega) (dX_fig k (by omega)) rfl uX0 1 (by decide) rfl wd1_37 rfl dX0_changeCam_1 ?_
  refine lv_istore_n (lv' := [(2, .int (nI (M (32 + k) 1))), (0, .ref (ad (32 + k))), (1, .int (nI v))]) hx hb dX0_changeCam_4 rfl hl (by decide) rfl (fun ls hl => ?_)
  refine lv_aload_n hx hb dX0_changeCam_5 rfl (lv_at hl 1 rfl) ?_
  refine lv_iload_n hx hb dX0_changeCam_6 rfl (lv_at hl 2 rfl) ?_
  refine x_puti CF hK hI hA hP hS (32 + k) (by omega) (dX_fig k (by omega)) rfl uX0 tyX0 tyX0_ok nmX0 1 (by decide) rfl wd1_37 rfl rfl v (ty := .int) rfl rfl rfl dX0_changeCam_7 (fun H locs hP hS => ?_)
  refine lv_iload_n hx hb dX0_changeCam_10 rfl (lv_at hl 0 rfl) ?_
  exact x_reti hx hb hr9 hlk9 hS hP (by first | rfl | (show nI (M (32 + k) 1) = nI (M (32 + k) 1); first | rfl | omega)) dX0_changeCam_11
set_option maxHeartbeats 4000000 in
set_option maxRecDepth 100000 in
theorem c_changeLag {l : Launch} {g : gE} {ad : Nat → Nat} (hI : g_inj ad 55) (M : gMem) (J : gMeL) (k : Nat) (hk : k < 5) (v : Nat) : CI l g ad dsX 55 yX0_changeLag cX0_changeLag 3 (some .int) 0 [.ref (ad (32 + k)), .int (nI v)] M J (nI (M (32 + k) 2)) (u2 M (32 + k) 2 v) J := by
  refine CI.of (plainFor_of_name (by decide)) (Nat.le_of_ble_eq_true rfl) (fun p9 e9 s9 m9 args9 below9 meth9 c9 CF hK hr9 hlk9 hP hS ls hl => ?_)
  have hx := CF.1
  have hb := CF.2.1
  have hA : ∀ q, g_A ad 55 q → g_A ad 55 q := fun _ h => h
  have hl : lv_has ls 3 [(0, .ref (ad (32 + k))), (1, .int (nI v))] := hl
  refine lv_aload_n hx hb dX0_changeLag_0 rfl (lv_at hl 0 rfl) ?_
  refine x_geti CF hK hP (32 + k) (by omega) (dX_fig k (by omega)) rfl uX0 2 (by decide) rfl wd1_40 rfl dX0_changeLag_1 ?_
  refine lv_istore_n (lv' := [(2, .int (nI (M (32 + k) 2))), (0, .ref (ad (32 + k))), (1, .int (nI v))]) hx hb dX0_changeLag_4 rfl hl (by decide) rfl (fun ls hl => ?_)
  refine lv_aload_n hx hb dX0_changeLag_5 rfl (lv_at hl 1 rfl) ?_
  refine lv_iload_n hx hb dX0_changeLag_6 rfl (lv_at hl 2 rfl) ?_
  refine x_puti CF hK hI hA hP hS (32 + k) (by omega) (dX_fig k (by omega)) rfl uX0 tyX0 tyX0_ok nmX0 2 (by decide) rfl wd1_40 rfl rfl v (ty := .int) rfl rfl rfl dX0_changeLag_7 (fun H locs hP hS => ?_)
  refine lv_iload_n hx hb dX0_changeLag_10 rfl (lv_at hl 0 rfl) ?_
  exact x_reti hx hb hr9 hlk9 hS hP (by first | rfl | (show nI (M (32 + k) 2) = nI (M (32 + k) 2); first | rfl | omega)) dX0_changeLag_11
set_option maxHeartbeats 4000000 in
set_option maxRecDepth 100000 in
theorem c_changePlace {l : Launch} {g : gE} {ad : Nat → Nat} (hI : g_inj ad 55) (M : gMem) (J : gMeL) (k : Nat) (hk : k < 5) (v : Nat) : CI l g ad dsX 55 yX0_changePlace cX0_changePlace 3 (some .int) 0 [.ref (ad (32 + k)), .int (nI v)] M J (nI (M (32 + k) 3)) (u2 M (32 + k) 3 v) J := by
  refine CI.of (plainFor_of_name (by decide)) (Nat.le_of_ble_eq_true rfl) (fun p9 e9 s9 m9 args9 below9 meth9 c9 CF hK hr9 hlk9 hP hS ls hl => ?_)
  have hx := CF.1
  have hb := CF.2.1
  have hA : ∀ q, g_A ad 55 q → g_A ad 55 q := fun _ h => h
  have hl : lv_has ls 3 [(0, .ref (ad (32 + k))), (1, .int (nI v))] := hl
  refine lv_aload_n hx hb dX0_changePlace_0 rfl (lv_at hl 0 rfl) ?_
  refine x_geti CF hK hP (32 + k) (by omega) (dX_fig k (by omega)) rfl uX0 3 (by decide) rfl wd1_43 rfl dX0_changePlace_1 ?_
  refine lv_istore_n (lv' := [(2, .int (nI (M (32 + k) 3))), (0, .ref (ad (32 + k))), (1, .int (nI v))]) hx hb dX0_changePlace_4 rfl hl (by decide) rfl (fun ls hl => ?_)
  refine lv_aload_n hx hb dX0_changePlace_5 rfl (lv_at hl 1 rfl) ?_
  refine lv_iload_n hx hb dX0_changePlace_6 rfl (lv_at hl 2 rfl) ?_
  refine x_puti CF hK hI hA hP hS (32 + k) (by omega) (dX_fig k (by omega)) rfl uX0 tyX0 tyX0_ok nmX0 3 (by decide) rfl wd1_43 rfl rfl v (ty := .int) rfl rfl rfl dX0_changePlace_7 (fun H locs hP hS => ?_)
  refine lv_iload_n hx hb dX0_changePlace_10 rfl (lv_at hl 0 rfl) ?_
  exact x_reti hx hb hr9 hlk9 hS hP (by first | rfl | (show nI (M (32 + k) 3) = nI (M (32 + k) 3); first | rfl | omega)) dX0_changePlace_11
set_option maxHeartbeats 4000000 in
set_option maxRecDepth 100000 in
theorem c_wishFor {l : Launch} {g : gE} {ad : Nat → Nat} (hI : g_inj ad 55) (M : gMem) (J : gMeL) (k : Nat) (hk : k < 5) (hs3 : ∀ a, a < 12 → M 3 a < 256) : CI l g ad dsX 55 yX0_wishFor cX0_wishFor 3 (some .int) 1 [.ref (ad (32 + k)), .ref (ad 3)] M J (nI (pop (setN (fun q => decide (M 3 q = 117)) 12 ||| setN (fun q => decide (¬ M 3 q = 117 ∧ M 3 q = 100)) 12))) (w45 M (32 + k) (setN (fun q => decide (M 3 q = 117)) 12) (setN (fun q => decide (¬ M 3 q = 117 ∧ M 3 q = 100)) 12)) J := by
  refine CI.of (plainFor_of_name (by decide)) (Nat.le_of_ble_eq_true rfl) (fun p9 e9 s9 m9 args9 below9 meth9 c9 CF hK hr9 hlk9 hP hS ls hl => ?_)
  have hx := CF.1
  have hb := CF.2.1
  have hA : ∀ q, g_A ad 55 q → g_A ad 55 q := fun _ h => h
  have hl : lv_has ls 3 [(0, .ref (ad (32 + k))), (1, .ref (ad 3))] := hl
  refine lv_aload_n hx hb dX0_wishFor_0 rfl (lv_at hl 0 rfl) ?_
  refine lv_iconst (v := nI 0) hx hb dX0_wishFor_1 (by decide) ?_
  refine x_puti CF hK hI hA hP hS (32 + k) (by omega) (dX_fig k (by omega)) rfl uX0 tyX0 tyX0_ok nmX0 4 (by decide) rfl wd1_46 rfl rfl 0 (ty := .int) rfl rfl rfl dX0_wishFor_2 (fun H locs hP hS => ?_)
  refine lv_aload_n hx hb dX0_wishFor_5 rfl (lv_at hl 0 rfl) ?_
  refine lv_iconst (v := nI 0) hx hb dX0_wishFor_6 (by decide) ?_
  refine x_puti CF hK hI hA hP hS (32 + k) (by omega) (dX_fig k (by omega)) rfl uX0 tyX0 tyX0_ok nmX0 5 (by decide) rfl wd1_49 rfl rfl 0 (ty := .int) rfl rfl rfl dX0_wishFor_7 (fun H locs hP hS => ?_)
  have hP : g_P g ad dsX 55 (w45 M (32 + k) (setN (fun q => decide (M 3 q = 117)) 0) (setN (fun q => decide (¬ M 3 q = 117 ∧ M 3 q = 100)) 0)) J H := hP
  refine lv_iconst (v := nI 0) hx hb dX0_wishFor_10 (by decide) ?_
  refine lv_istore_n (lv' := [(2, .int (nI 0)), (0, .ref (ad (32 + k))), (1, .ref (ad 3))]) hx hb dX0_wishFor_11 rfl hl (by decide) rfl (fun ls hl => ?_)
  have L12 : ∀ (d12 : Nat) (a : Nat), (a + d12 = 12) → (∀ (H : Heap) (locs : List Loc) (ls : Array Slot), g_P g ad dsX 55 (w45 M (32 + k) (setN (fun q => decide (M 3 q = 117)) a) (setN (fun q => decide (¬ M 3 q = 117 ∧ M 3 q = 100)) a)) J H → va_S (g_A ad 55) s9.heap H locs → lv_has ls 3 [(2, .int (nI a)), (0, .ref (ad (32 + k))), (1, .ref (ad 3))] → W p9 l e9 (g_rm 1) s9 m9 args9 below9 meth9 c9 H locs 0 0 (MQ below9 (va_Qi (fun r' (_ : Unit) => r' = (nI (pop (setN (fun q => decide (M 3 q = 117)) 12 ||| setN (fun q => decide (¬ M 3 q = 117 ∧ M 3 q = 100)) 12)))) (fun _ t => g_P g ad dsX 55 (w45 M (32 + k) (setN (fun q => decide (M 3 q = 117)) 12) (setN (fun q => decide (¬ M 3 q = 117 ∧ M 3 q = 100)) 12)) J t.heap) (g_A ad 55)) args9 s9 0 0 (g_A ad 55)) (F0 m9 12 ls [])) := by
    intro d12
    induction d12 with
    | zero =>
      intro a h_a H locs ls hP hS hl
      have b2 : setN (fun q => decide (M 3 q = 117)) a ||| setN (fun q => decide (¬ M 3 q = 117 ∧ M 3 q = 100)) a < 4096 := by rw [show a = 12 by omega]; exact or_lt (setN_12 _) (setN_12 _)
      refine lv_iload_n hx hb dX0_wishFor_12 rfl (lv_at hl 0 rfl) ?_
      refine lv_bipush (v := nI 12) hx hb dX0_wishFor_13 (by decide) ?_
      refine x_zge (u := (a : Nat)) (v := (12 : Int)) (tgt := 67) hx hb (nI_toInt (by omega)) (rfl) dX0_wishFor_15 (by decide) (fun h_1 => ?_) (fun h_1 => (by omega : False).elim)
      refine lv_aload_n hx hb dX0_wishFor_67 rfl (lv_at hl 1 rfl) ?_
      refine x_geti CF hK hP (32 + k) (by omega) (dX_fig k (by omega)) rfl uX0 4 (by decide) rfl wd1_46 rfl dX0_wishFor_68 ?_
      refine x_ri (show (nI ((w45 M (32 + k) (setN (fun q => decide (M 3 q = 117)) a) (setN (fun q => decide (¬ M 3 q = 117 ∧ M 3 q = 100)) a)) (32 + k) 4)) = nI (setN (fun q => decide (M 3 q = 117)) a) from by rw [w45_r4]) ?_
      refine lv_aload_n hx hb dX0_wishFor_71 rfl (lv_at hl 1 rfl) ?_
      refine x_geti CF hK hP (32 + k) (by omega) (dX_fig k (by omega)) rfl uX0 5 (by decide) rfl wd1_49 rfl dX0_wishFor_72 ?_
      refine x_ri (show (nI ((w45 M (32 + k) (setN (fun q => decide (M 3 q = 117)) a) (setN (fun q => decide (¬ M 3 q = 117 ∧ M 3 q = 100)) a)) (32 + k) 5)) = nI (setN (fun q => decide (¬ M 3 q = 117 ∧ M 3 q = 100)) a) from by rw [w45_r5]) ?_
      refine x_ior hx hb dX0_wishFor_75 ?_
      refine x_callSP CF hK hP hS hl (As := [.int (nI ((setN (fun q => decide (M 3 q = 117)) a) ||| (setN (fun q => decide (¬ M 3 q = 117 ∧ M 3 q = 100)) a)))]) (rest := []) (c_bitCount ((setN (fun q => decide (M 3 q = 117)) a) ||| (setN (fun q => decide (¬ M 3 q = 117 ∧ M 3 q = 100)) a)) (by omega)) kw_J6_bitCount_0f7a4 wd2_55 rfl ⟨Nat.le_of_ble_eq_true rfl, Nat.le_of_ble_eq_true rfl⟩ ⟨Nat.le_refl _, Nat.le_refl _⟩ (Nat.le_of_ble_eq_true rfl) dX0_wishFor_76 (fun H locs hP hS => ?_)
      exact x_reti hx hb hr9 hlk9 hS (by rw [show 12 = a by omega]; exact hP) (by rw [show a = 12 by omega]) dX0_wishFor_79
    | succ d12 ih12 =>
      intro a h_a H locs ls hP hS hl
      have b1 := hs3 a (by omega)
      refine lv_iload_n hx hb dX0_wishFor_12 rfl (lv_at hl 0 rfl) ?_
      refine lv_bipush (v := nI 12) hx hb dX0_wishFor_13 (by decide) ?_
      refine x_zge (u := (a : Nat)) (v := (12 : Int)) (tgt := 67) hx hb (nI_toInt (by omega)) (rfl) dX0_wishFor_15 (by decide) (fun h_2 => (by omega : False).elim) (fun h_2 => ?_)
      refine lv_aload_n hx hb dX0_wishFor_18 rfl (lv_at hl 2 rfl) ?_
      refine lv_iload_n hx hb dX0_wishFor_19 rfl (lv_at hl 0 rfl) ?_
      refine x_iald CF hK hP 3 (by decide) dX_3 a (by omega) (by decide) dX0_wishFor_20 ?_
      refine x_ri (show (nI ((w45 M (32 + k) (setN (fun q => decide (M 3 q = 117)) a) (setN (fun q => decide (¬ M 3 q = 117 ∧ M 3 q = 100)) a)) 3 a)) = nI (M 3 a) from by rw [w45_row (show 3 ≠ 32 + k by omega)]) ?_
      refine lv_bipush (v := nI 117) hx hb dX0_wishFor_21 (by decide) ?_
      refine x_zne (u := (M 3 a : Nat)) (v := (117 : Int)) (tgt := 41) hx hb (nI_toInt (by omega)) (rfl) dX0_wishFor_23 (by decide) (fun h_3 => ?_) (fun h_3 => ?_)
      · refine lv_aload_n hx hb dX0_wishFor_41 rfl (lv_at hl 2 rfl) ?_
        refine lv_iload_n hx hb dX0_wishFor_42 rfl (lv_at hl 0 rfl) ?_
        refine x_iald CF hK hP 3 (by decide) dX_3 a (by omega) (by decide) dX0_wishFor_43 ?_
        refine x_ri (show (nI ((w45 M (32 + k) (setN (fun q => decide (M 3 q = 117)) a) (setN (fun q => decide (¬ M 3 q = 117 ∧ M 3 q = 100)) a)) 3 a)) = nI (M 3 a) from by rw [w45_row (show 3 ≠ 32 + k by omega)]) ?_
        refine lv_bipush (v := nI 100) hx hb dX0_wishFor_44 (by decide) ?_
        refine x_zne (u := (M 3 a : Nat)) (v := (100 : Int)) (tgt := 61) hx hb (nI_toInt (by omega)) (rfl) dX0_wishFor_46 (by decide) (fun h_4 => ?_) (fun h_4 => ?_)
        · refine lv_iinc (v := nI (a + 1)) (lv' := [(2, .int (nI (a + 1))), (0, .ref (ad (32 + k))), (1, .ref (ad 3))]) hx hb dX0_wishFor_61 hl (k := 0) rfl (n_inc a 1) (by decide) rfl (fun ls hl => ?_)
          refine lv_goto (tgt := 12) hx hb dX0_wishFor_64 (by decide) ?_
          have hl0 : lv_has ls 3 [(2, .int (nI (a + 1))), (0, .ref (ad (32 + k))), (1, .ref (ad 3))] := lv_sub hl [0, 1, 2] rfl
          exact ih12 (a + 1) (by omega) _ _ _ (by rw [setN_f (p := (fun q => decide (M 3 q = 117))) (decide_eq_false (by omega)), setN_f (p := (fun q => decide (¬ M 3 q = 117 ∧ M 3 q = 100))) (decide_eq_false (by omega))]; exact hP) hS hl0
        · refine lv_aload_n hx hb dX0_wishFor_49 rfl (lv_at hl 1 rfl) ?_
          refine lv_dup hx hb dX0_wishFor_50 rfl ?_
          refine x_geti CF hK hP (32 + k) (by omega) (dX_fig k (by omega)) rfl uX0 5 (by decide) rfl wd1_49 rfl dX0_wishFor_51 ?_
          refine x_ri (show (nI ((w45 M (32 + k) (setN (fun q => decide (M 3 q = 117)) a) (setN (fun q => decide (¬ M 3 q = 117 ∧ M 3 q = 100)) a)) (32 + k) 5)) = nI (setN (fun q => decide (¬ M 3 q = 117 ∧ M 3 q = 100)) a) from by rw [w45_r5]) ?_
          refine lv_iconst (v := nI 1) hx hb dX0_wishFor_54 (by decide) ?_
          refine lv_iload_n hx hb dX0_wishFor_55 rfl (lv_at hl 0 rfl) ?_
          refine x_ishl hx hb (by omega) dX0_wishFor_56 ?_
          refine x_ior hx hb dX0_wishFor_57 ?_
          refine x_puti CF hK hI hA hP hS (32 + k) (by omega) (dX_fig k (by omega)) rfl uX0 tyX0 tyX0_ok nmX0 5 (by decide) rfl wd1_49 rfl rfl ((setN (fun q => decide (¬ M 3 q = 117 ∧ M 3 q = 100)) a) ||| (1 <<< a)) (ty := .int) rfl rfl rfl dX0_wishFor_58 (fun H locs hP hS => ?_)
          have hP : g_P g ad dsX 55 (w45 M (32 + k) (setN (fun q => decide (M 3 q = 117)) a) (setN (fun q => decide (¬ M 3 q = 117 ∧ M 3 q = 100)) a ||| 1 <<< a)) J H := (by rw [← w45_5]; exact hP)
          refine lv_iinc (v := nI (a + 1)) (lv' := [(2, .int (nI (a + 1))), (0, .ref (ad (32 + k))), (1, .ref (ad 3))]) hx hb dX0_wishFor_61 hl (k := 0) rfl (n_inc a 1) (by decide) rfl (fun ls hl => ?_)
          refine lv_goto (tgt := 12) hx hb dX0_wishFor_64 (by decide) ?_
          have hl0 : lv_has ls 3 [(2, .int (nI (a + 1))), (0, .ref (ad (32 + k))), (1, .ref (ad 3))] := lv_sub hl [0, 1, 2] rfl
          exact ih12 (a + 1) (by omega) _ _ _ (by rw [setN_f (p := (fun q => decide (M 3 q = 117))) (decide_eq_false (by omega)), setN_t (p := (fun q => decide (¬ M 3 q = 117 ∧ M 3 q = 100))) (decide_eq_true (by omega))]; exact hP) hS hl0
      · refine lv_aload_n hx hb dX0_wishFor_26 rfl (lv_at hl 1 rfl) ?_
        refine lv_dup hx hb dX0_wishFor_27 rfl ?_
        refine x_geti CF hK hP (32 + k) (by omega) (dX_fig k (by omega)) rfl uX0 4 (by decide) rfl wd1_46 rfl dX0_wishFor_28 ?_
        refine x_ri (show (nI ((w45 M (32 + k) (setN (fun q => decide (M 3 q = 117)) a) (setN (fun q => decide (¬ M 3 q = 117 ∧ M 3 q = 100)) a)) (32 + k) 4)) = nI (setN (fun q => decide (M 3 q = 117)) a) from by rw [w45_r4]) ?_
        refine lv_iconst (v := nI 1) hx hb dX0_wishFor_31 (by decide) ?_
        refine lv_iload_n hx hb dX0_wishFor_32 rfl (lv_at hl 0 rfl) ?_
        refine x_ishl hx hb (by omega) dX0_wishFor_33 ?_
        refine x_ior hx hb dX0_wishFor_34 ?_
        refine x_puti CF hK hI hA hP hS (32 + k) (by omega) (dX_fig k (by omega)) rfl uX0 tyX0 tyX0_ok nmX0 4 (by decide) rfl wd1_46 rfl rfl ((setN (fun q => decide (M 3 q = 117)) a) ||| (1 <<< a)) (ty := .int) rfl rfl rfl dX0_wishFor_35 (fun H locs hP hS => ?_)
        have hP : g_P g ad dsX 55 (w45 M (32 + k) (setN (fun q => decide (M 3 q = 117)) a ||| 1 <<< a) (setN (fun q => decide (¬ M 3 q = 117 ∧ M 3 q = 100)) a)) J H := (by rw [← w45_4]; exact hP)
        refine lv_goto (tgt := 61) hx hb dX0_wishFor_38 (by decide) ?_
        refine lv_iinc (v := nI (a + 1)) (lv' := [(2, .int (nI (a + 1))), (0, .ref (ad (32 + k))), (1, .ref (ad 3))]) hx hb dX0_wishFor_61 hl (k := 0) rfl (n_inc a 1) (by decide) rfl (fun ls hl => ?_)
        refine lv_goto (tgt := 12) hx hb dX0_wishFor_64 (by decide) ?_
        have hl0 : lv_has ls 3 [(2, .int (nI (a + 1))), (0, .ref (ad (32 + k))), (1, .ref (ad 3))] := lv_sub hl [0, 1, 2] rfl
        exact ih12 (a + 1) (by omega) _ _ _ (by rw [setN_t (p := (fun q => decide (M 3 q = 117))) (decide_eq_true (by omega)), setN_f (p := (fun q => decide (¬ M 3 q = 117 ∧ M 3 q = 100))) (decide_eq_false (by omega))]; exact hP) hS hl0
  have hl0 : lv_has ls 3 [(2, .int (nI 0)), (0, .ref (ad (32 + k))), (1, .ref (ad 3))] := lv_sub hl [0, 1, 2] rfl
  exact L12 12 0 (by omega) _ _ _ (hP) hS hl0
set_option maxHeartbeats 4000000 in
set_option maxRecDepth 100000 in
theorem c_figLike_ni {l : Launch} {g : gE} {ad : Nat → Nat} (hI : g_inj ad 55) (M : gMem) (J : gMeL) (k : Nat) (hk : k < 5) : CV l g ad dsX 55 yX0_becomeLike cX0_becomeLike 2 0 [.ref (ad (32 + k)), .ref (ad (48 + k))] M J (cpf M (32 + k) (48 + k)) J := by
  refine CV.of (plainFor_of_name (by decide)) (Nat.le_of_ble_eq_true rfl) (fun p9 e9 s9 m9 args9 below9 meth9 c9 CF hK hr9 hlk9 hP hS ls hl => ?_)
  have hx := CF.1
  have hb := CF.2.1
  have hA : ∀ q, g_A ad 55 q → g_A ad 55 q := fun _ h => h
  have hl : lv_has ls 2 [(0, .ref (ad (32 + k))), (1, .ref (ad (48 + k)))] := hl
  refine lv_aload_n hx hb dX0_becomeLike_0 rfl (lv_at hl 0 rfl) ?_
  refine lv_aload_n hx hb dX0_becomeLike_1 rfl (lv_at hl 1 rfl) ?_
  refine x_geti CF hK hP (48 + k) (by omega) (dX_fig2 k (by omega)) rfl uX0 0 (by decide) rfl wd1_35 rfl dX0_becomeLike_2 ?_
  refine x_ri (show (nI (M (48 + k) 0)) = nI (M (48 + k) 0) from by first | rfl | (congr 1; repeat rw [u2_row (show 48 + k ≠ 32 + k by omega)])) ?_
  refine x_puti CF hK hI hA hP hS (32 + k) (by omega) (dX_fig k (by omega)) rfl uX0 tyX0 tyX0_ok nmX0 0 (by decide) rfl wd1_35 rfl rfl (M (48 + k) 0) (ty := .int) rfl rfl rfl dX0_becomeLike_5 (fun H locs hP hS => ?_)
  refine lv_aload_n hx hb dX0_becomeLike_8 rfl (lv_at hl 0 rfl) ?_
  refine lv_aload_n hx hb dX0_becomeLike_9 rfl (lv_at hl 1 rfl) ?_
  refine x_geti CF hK hP (48 + k) (by omega) (dX_fig2 k (by omega)) rfl uX0 1 (by decide) rfl wd1_37 rfl dX0_becomeLike_10 ?_
  refine x_ri (show (nI ((u2 M (32 + k) 0 (M (48 + k) 0)) (48 + k) 1)) = nI (M (48 + k) 1) from by first | rfl | (congr 1; repeat rw [u2_row (show 48 + k ≠ 32 + k by omega)])) ?_
  refine x_puti CF hK hI hA hP hS (32 + k) (by omega) (dX_fig k (by omega)) rfl uX0 tyX0 tyX0_ok nmX0 1 (by decide) rfl wd1_37 rfl rfl (M (48 + k) 1) (ty := .int) rfl rfl rfl dX0_becomeLike_13 (fun H locs hP hS => ?_)
  refine lv_aload_n hx hb dX0_becomeLike_16 rfl (lv_at hl 0 rfl) ?_
  refine lv_aload_n hx hb dX0_becomeLike_17 rfl (lv_at hl 1 rfl) ?_
  refine x_geti CF hK hP (48 + k) (by omega) (dX_fig2 k (by omega)) rfl uX0 2 (by decide) rfl wd1_40 rfl dX0_becomeLike_18 ?_
  refine x_ri (show (nI ((u2 (u2 M (32 + k) 0 (M (48 + k) 0)) (32 + k) 1 (M (48 + k) 1)) (48 + k) 2)) = nI (M (48 + k) 2) from by first | rfl | (congr 1; repeat rw [u2_row (show 48 + k ≠ 32 + k by omega)])) ?_
  refine x_puti CF hK hI hA hP hS (32 + k) (by omega) (dX_fig k (by omega)) rfl uX0 tyX0 tyX0_ok nmX0 2 (by decide) rfl wd1_40 rfl rfl (M (48 + k) 2) (ty := .int) rfl rfl rfl dX0_becomeLike_21 (fun H locs hP hS => ?_)
  refine lv_aload_n hx hb dX0_becomeLike_24 rfl (lv_at hl 0 rfl) ?_
  refine lv_aload_n hx hb dX0_becomeLike_25 rfl (lv_at hl 1 rfl) ?_
  refine x_geti CF hK hP (48 + k) (by omega) (dX_fig2 k (by omega)) rfl uX0 3 (by decide) rfl wd1_43 rfl dX0_becomeLike_26 ?_
  refine x_ri (show (nI ((u2 (u2 (u2 M (32 + k) 0 (M (48 + k) 0)) (32 + k) 1 (M (48 + k) 1)) (32 + k) 2 (M (48 + k) 2)) (48 + k) 3)) = nI (M (48 + k) 3) from by first | rfl | (congr 1; repeat rw [u2_row (show 48 + k ≠ 32 + k by omega)])) ?_
  refine x_puti CF hK hI hA hP hS (32 + k) (by omega) (dX_fig k (by omega)) rfl uX0 tyX0 tyX0_ok nmX0 3 (by decide) rfl wd1_43 rfl rfl (M (48 + k) 3) (ty := .int) rfl rfl rfl dX0_becomeLike_29 (fun H locs hP hS => ?_)
  refine lv_aload_n hx hb dX0_becomeLike_32 rfl (lv_at hl 0 rfl) ?_
  refine lv_aload_n hx hb dX0_becomeLike_33 rfl (lv_at hl 1 rfl) ?_
  refine x_geti CF hK hP (48 + k) (by omega) (dX_fig2 k (by omega)) rfl uX0 4 (by decide) rfl wd1_46 rfl dX0_becomeLike_34 ?_
  refine x_ri (show (nI ((u2 (u2 (u2 (u2 M (32 + k) 0 (M (48 + k) 0)) (32 + k) 1 (M (48 + k) 1)) (32 + k) 2 (M (48 + k) 2)) (32 + k) 3 (M (48 + k) 3)) (48 + k) 4)) = nI (M (48 + k) 4) from by first | rfl | (congr 1; repeat rw [u2_row (show 48 + k ≠ 32 + k by omega)])) ?_
  refine x_puti CF hK hI hA hP hS (32 + k) (by omega) (dX_fig k (by omega)) rfl uX0 tyX0 tyX0_ok nmX0 4 (by decide) rfl wd1_46 rfl rfl (M (48 + k) 4) (ty := .int) rfl rfl rfl dX0_becomeLike_37 (fun H locs hP hS => ?_)
  refine lv_aload_n hx hb dX0_becomeLike_40 rfl (lv_at hl 0 rfl) ?_
  refine lv_aload_n hx hb dX0_becomeLike_41 rfl (lv_at hl 1 rfl) ?_
  refine x_geti CF hK hP (48 + k) (by omega) (dX_fig2 k (by omega)) rfl uX0 5 (by decide) rfl wd1_49 rfl dX0_becomeLike_42 ?_
  refine x_ri (show (nI ((u2 (u2 (u2 (u2 (u2 M (32 + k) 0 (M (48 + k) 0)) (32 + k) 1 (M (48 + k) 1)) (32 + k) 2 (M (48 + k) 2)) (32 + k) 3 (M (48 + k) 3)) (32 + k) 4 (M (48 + k) 4)) (48 + k) 5)) = nI (M (48 + k) 5) from by first | rfl | (congr 1; repeat rw [u2_row (show 48 + k ≠ 32 + k by omega)])) ?_
  refine x_puti CF hK hI hA hP hS (32 + k) (by omega) (dX_fig k (by omega)) rfl uX0 tyX0 tyX0_ok nmX0 5 (by decide) rfl wd1_49 rfl rfl (M (48 + k) 5) (ty := .int) rfl rfl rfl dX0_becomeLike_45 (fun H locs hP hS => ?_)
  have hP : g_P g ad dsX 55 (cpf M (32 + k) (48 + k)) J H := (by rw [← cpf_ok (show 48 + k ≠ 32 + k by omega)]; exact hP)
  exact x_retv hx hb hr9 hlk9 hS hP dX0_becomeLike_48
set_option maxHeartbeats 4000000 in
set_option maxRecDepth 100000 in
theorem c_figLike_in {l : Launch} {g : gE} {ad : Nat → Nat} (hI : g_inj ad 55) (M : gMem) (J : gMeL) (k : Nat) (hk : k < 5) : CV l g ad dsX 55 yX0_becomeLike cX0_becomeLike 2 0 [.ref (ad (48 + k)), .ref (ad (32 + k))] M J (cpf M (48 + k) (32 + k)) J := by
  refine CV.of (plainFor_of_name (by decide)) (Nat.le_of_ble_eq_true rfl) (fun p9 e9 s9 m9 args9 below9 meth9 c9 CF hK hr9 hlk9 hP hS ls hl => ?_)
  have hx := CF.1
  have hb := CF.2.1
  have hA : ∀ q, g_A ad 55 q → g_A ad 55 q := fun _ h => h
  have hl : lv_has ls 2 [(0, .ref (ad (48 + k))), (1, .ref (ad (32 + k)))] := hl
  refine lv_aload_n hx hb dX0_becomeLike_0 rfl (lv_at hl 0 rfl) ?_
  refine lv_aload_n hx hb dX0_becomeLike_1 rfl (lv_at hl 1 rfl) ?_
  refine x_geti CF hK hP (32 + k) (by omega) (dX_fig k (by omega)) rfl uX0 0 (by decide) rfl wd1_35 rfl dX0_becomeLike_2 ?_
  refine x_ri (show (nI (M (32 + k) 0)) = nI (M (32 + k) 0) from by first | rfl | (congr 1; repeat rw [u2_row (show 32 + k ≠ 48 + k by omega)])) ?_
  refine x_puti CF hK hI hA hP hS (48 + k) (by omega) (dX_fig2 k (by omega)) rfl uX0 tyX0 tyX0_ok nmX0 0 (by decide) rfl wd1_35 rfl rfl (M (32 + k) 0) (ty := .int) rfl rfl rfl dX0_becomeLike_5 (fun H locs hP hS => ?_)
  refine lv_aload_n hx hb dX0_becomeLike_8 rfl (lv_at hl 0 rfl) ?_
  refine lv_aload_n hx hb dX0_becomeLike_9 rfl (lv_at hl 1 rfl) ?_
  refine x_geti CF hK hP (32 + k) (by omega) (dX_fig k (by omega)) rfl uX0 1 (by decide) rfl wd1_37 rfl dX0_becomeLike_10 ?_
  refine x_ri (show (nI ((u2 M (48 + k) 0 (M (32 + k) 0)) (32 + k) 1)) = nI (M (32 + k) 1) from by first | rfl | (congr 1; repeat rw [u2_row (show 32 + k ≠ 48 + k by omega)])) ?_
  refine x_puti CF hK hI hA hP hS (48 + k) (by omega) (dX_fig2 k (by omega)) rfl uX0 tyX0 tyX0_ok nmX0 1 (by decide) rfl wd1_37 rfl rfl (M (32 + k) 1) (ty := .int) rfl rfl rfl dX0_becomeLike_13 (fun H locs hP hS => ?_)
  refine lv_aload_n hx hb dX0_becomeLike_16 rfl (lv_at hl 0 rfl) ?_
  refine lv_aload_n hx hb dX0_becomeLike_17 rfl (lv_at hl 1 rfl) ?_
  refine x_geti CF hK hP (32 + k) (by omega) (dX_fig k (by omega)) rfl uX0 2 (by decide) rfl wd1_40 rfl dX0_becomeLike_18 ?_
  refine x_ri (show (nI ((u2 (u2 M (48 + k) 0 (M (32 + k) 0)) (48 + k) 1 (M (32 + k) 1)) (32 + k) 2)) = nI (M (32 + k) 2) from by first | rfl | (congr 1; repeat rw [u2_row (show 32 + k ≠ 48 + k by omega)])) ?_
  refine x_puti CF hK hI hA hP hS (48 + k) (by omega) (dX_fig2 k (by omega)) rfl uX0 tyX0 tyX0_ok nmX0 2 (by decide) rfl wd1_40 rfl rfl (M (32 + k) 2) (ty := .int) rfl rfl rfl dX0_becomeLike_21 (fun H locs hP hS => ?_)
  refine lv_aload_n hx hb dX0_becomeLike_24 rfl (lv_at hl 0 rfl) ?_
  refine lv_aload_n hx hb dX0_becomeLike_25 rfl (lv_at hl 1 rfl) ?_
  refine x_geti CF hK hP (32 + k) (by omega) (dX_fig k (by omega)) rfl uX0 3 (by decide) rfl wd1_43 rfl dX0_becomeLike_26 ?_
  refine x_ri (show (nI ((u2 (u2 (u2 M (48 + k) 0 (M (32 + k) 0)) (48 + k) 1 (M (32 + k) 1)) (48 + k) 2 (M (32 + k) 2)) (32 + k) 3)) = nI (M (32 + k) 3) from by first | rfl | (congr 1; repeat rw [u2_row (show 32 + k ≠ 48 + k by omega)])) ?_
  refine x_puti CF hK hI hA hP hS (48 + k) (by omega) (dX_fig2 k (by omega)) rfl uX0 tyX0 tyX0_ok nmX0 3 (by decide) rfl wd1_43 rfl rfl (M (32 + k) 3) (ty := .int) rfl rfl rfl dX0_becomeLike_29 (fun H locs hP hS => ?_)
  refine lv_aload_n hx hb dX0_becomeLike_32 rfl (lv_at hl 0 rfl) ?_
  refine lv_aload_n hx hb dX0_becomeLike_33 rfl (lv_at hl 1 rfl) ?_
  refine x_geti CF hK hP (32 + k) (by omega) (dX_fig k (by omega)) rfl uX0 4 (by decide) rfl wd1_46 rfl dX0_becomeLike_34 ?_
  refine x_ri (show (nI ((u2 (u2 (u2 (u2 M (48 + k) 0 (M (32 + k) 0)) (48 + k) 1 (M (32 + k) 1)) (48 + k) 2 (M (32 + k) 2)) (48 + k) 3 (M (32 + k) 3)) (32 + k) 4)) = nI (M (32 + k) 4) from by first | rfl | (congr 1; repeat rw [u2_row (show 32 + k ≠ 48 + k by omega)])) ?_
  refine x_puti CF hK hI hA hP hS (48 + k) (by omega) (dX_fig2 k (by omega)) rfl uX0 tyX0 tyX0_ok nmX0 4 (by decide) rfl wd1_46 rfl rfl (M (32 + k) 4) (ty := .int) rfl rfl rfl dX0_becomeLike_37 (fun H locs hP hS => ?_)
  refine lv_aload_n hx hb dX0_becomeLike_40 rfl (lv_at hl 0 rfl) ?_
  refine lv_aload_n hx hb dX0_becomeLike_41 rfl (lv_at hl 1 rfl) ?_
  refine x_geti CF hK hP (32 + k) (by omega) (dX_fig k (by omega)) rfl uX0 5 (by decide) rfl wd1_49 rfl dX0_becomeLike_42 ?_
  refine x_ri (show (nI ((u2 (u2 (u2 (u2 (u2 M (48 + k) 0 (M (32 + k) 0)) (48 + k) 1 (M (32 + k) 1)) (48 + k) 2 (M (32 + k) 2)) (48 + k) 3 (M (32 + k) 3)) (48 + k) 4 (M (32 + k) 4)) (32 + k) 5)) = nI (M (32 + k) 5) from by first | rfl | (congr 1; repeat rw [u2_row (show 32 + k ≠ 48 + k by omega)])) ?_
  refine x_puti CF hK hI hA hP hS (48 + k) (by omega) (dX_fig2 k (by omega)) rfl uX0 tyX0 tyX0_ok nmX0 5 (by decide) rfl wd1_49 rfl rfl (M (32 + k) 5) (ty := .int) rfl rfl rfl dX0_becomeLike_45 (fun H locs hP hS => ?_)
  have hP : g_P g ad dsX 55 (cpf M (48 + k) (32 + k)) J H := (by rw [← cpf_ok (show 32 + k ≠ 48 + k by omega)]; exact hP)
  exact x_retv hx hb hr9 hlk9 hS hP dX0_becomeLike_48
set_option maxHeartbeats 4000000 in
set_option maxRecDepth 100000 in
theorem c_isNothing_t {l : Launch} {g : gE} {ad : Nat → Nat} (hI : g_inj ad 55) (M : gMem) (J : gMeL) (s : Nat) (hs : s < 4) (h : M (5 + s) 1 = 4294967295) : CI l g ad dsX 55 yX3_isNothing cX3_isNothing 1 (some .boolean) 0 [.ref (ad (5 + s))] M J (nI 1) M J := by
  refine CI.of (plainFor_of_name (by decide)) (Nat.le_of_ble_eq_true rfl) (fun p9 e9 s9 m9 args9 below9 meth9 c9 CF hK hr9 hlk9 hP hS ls hl => ?_)
  have hx := CF.1
  have hb := CF.2.1
  have hA : ∀ q, g_A ad 55 q → g_A ad 55 q := fun _ h => h
  have hl : lv_has ls 1 [(0, .ref (ad (5 + s)))] := hl
  refine lv_aload_n hx hb dX3_isNothing_0 rfl (lv_at hl 0 rfl) ?_
  refine x_geti CF hK hP (5 + s) (by omega) (dX_sheet s (by omega)) rfl uX3 1 (by decide) rfl wd1_134 rfl dX3_isNothing_1 ?_
  refine x_ri (show (nI (M (5 + s) 1)) = nI 4294967295 from congrArg nI h) ?_
  refine lv_iconst (v := nI 4294967295) hx hb dX3_isNothing_4 (by decide) ?_
  refine x_zne (u := (-1 : Int)) (v := (-1 : Int)) (tgt := 12) hx hb (rfl) (rfl) dX3_isNothing_5 (by decide) (fun h_1 => (by omega : False).elim) (fun h_1 => ?_)
  refine lv_iconst (v := nI 1) hx hb dX3_isNothing_8 (by decide) ?_
  refine lv_goto (tgt := 13) hx hb dX3_isNothing_9 (by decide) ?_
  exact x_retz hx hb hr9 hlk9 hS hP (by first | rfl | (show nI 1 = nI 1; first | rfl | omega)) (rfl) dX3_isNothing_13
set_option maxHeartbeats 4000000 in
set_option maxRecDepth 100000 in
theorem c_isNothing_f {l : Launch} {g : gE} {ad : Nat → Nat} (hI : g_inj ad 55) (M : gMem) (J : gMeL) (s : Nat) (hs : s < 4) (h : M (5 + s) 1 ≤ 2) : CI l g ad dsX 55 yX3_isNothing cX3_isNothing 1 (some .boolean) 0 [.ref (ad (5 + s))] M J (nI 0) M J := by
  refine CI.of (plainFor_of_name (by decide)) (Nat.le_of_ble_eq_true rfl) (fun p9 e9 s9 m9 args9 below9 meth9 c9 CF hK hr9 hlk9 hP hS ls hl => ?_)
  have hx := CF.1
  have hb := CF.2.1
  have hA : ∀ q, g_A ad 55 q → g_A ad 55 q := fun _ h => h
  have hl : lv_has ls 1 [(0, .ref (ad (5 + s)))] := hl
  refine lv_aload_n hx hb dX3_isNothing_0 rfl (lv_at hl 0 rfl) ?_
  refine x_geti CF hK hP (5 + s) (by omega) (dX_sheet s (by omega)) rfl uX3 1 (by decide) rfl wd1_134 rfl dX3_isNothing_1 ?_
  refine lv_iconst (v := nI 4294967295) hx hb dX3_isNothing_4 (by decide) ?_
  refine x_zne (u := (M (5 + s) 1 : Nat)) (v := (-1 : Int)) (tgt := 12) hx hb (nI_toInt (by omega)) (rfl) dX3_isNothing_5 (by decide) (fun h_1 => ?_) (fun h_1 => (by omega : False).elim)
  refine lv_iconst (v := nI 0) hx hb dX3_isNothing_12 (by decide) ?_
  exact x_retz hx hb hr9 hlk9 hS hP (by first | rfl | (show nI 0 = nI 0; first | rfl | omega)) (rfl) dX3_isNothing_13
set_option maxHeartbeats 4000000 in
set_option maxRecDepth 100000 in
theorem c_end {l : Launch} {g : gE} {ad : Nat → Nat} (hI : g_inj ad 55) (M : gMem) (J : gMeL) (s : Nat) (hs : s < 4)  : CI l g ad dsX 55 yX3_end cX3_end 1 (some .int) 0 [.ref (ad (5 + s))] M J (nI (M (5 + s) 2)) (u2 M (5 + s) 1 4294967295) J := by
  refine CI.of (plainFor_of_name (by decide)) (Nat.le_of_ble_eq_true rfl) (fun p9 e9 s9 m9 args9 below9 meth9 c9 CF hK hr9 hlk9 hP hS ls hl => ?_)
  have hx := CF.1
  have hb := CF.2.1
  have hA : ∀ q, g_A ad 55 q → g_A ad 55 q := fun _ h => h
  have hl : lv_has ls 1 [(0, .ref (ad (5 + s)))] := hl
  refine lv_aload_n hx hb dX3_end_0 rfl (lv_at hl 0 rfl) ?_
  refine lv_iconst (v := nI 4294967295) hx hb dX3_end_1 (by decide) ?_
  refine x_puti CF hK hI hA hP hS (5 + s) (by omega) (dX_sheet s (by omega)) rfl uX3 tyX3 tyX3_ok nmX3 1 (by decide) rfl wd1_134 rfl rfl 4294967295 (ty := .int) rfl rfl rfl dX3_end_2 (fun H locs hP hS => ?_)
  refine lv_aload_n hx hb dX3_end_5 rfl (lv_at hl 0 rfl) ?_
  refine x_geti CF hK hP (5 + s) (by omega) (dX_sheet s (by omega)) rfl uX3 2 (by decide) rfl wd1_136 rfl dX3_end_6 ?_
  exact x_reti hx hb hr9 hlk9 hS hP (by simp [u2]) dX3_end_9
set_option maxHeartbeats 4000000 in
set_option maxRecDepth 100000 in
theorem c_fillL {l : Launch} {g : gE} {ad : Nat → Nat} (hI : g_inj ad 55) (M : gMem) (J : gMeL) (s : Nat) (hs : s < 4) (v : Int64) : CV l g ad dsX 55 yJ7_fill_d0a16 cJ7_fill_d0a16 5 0 [.ref (ad (9 + s)), .long v] M J M (rowL J (9 + s) 24 (fun _ => v)) := by
  refine CV.of (by decide +kernel) (Nat.le_of_ble_eq_true rfl) (fun p9 e9 s9 m9 args9 below9 meth9 c9 CF hK hr9 hlk9 hP hS ls hl => ?_)
  have hx := CF.1
  have hb := CF.2.1
  have hA : ∀ q, g_A ad 55 q → g_A ad 55 q := fun _ h => h
  have hl : lv_has ls 5 [(0, .ref (ad (9 + s))), (1, .long v)] := hl
  refine lv_iconst (v := nI 0) hx hb dJ7_fill_d0a16_0 (by decide) ?_
  refine lv_istore_n (lv' := [(3, .int (nI 0)), (0, .ref (ad (9 + s))), (1, .long v)]) hx hb dJ7_fill_d0a16_1 rfl hl (by decide) rfl (fun ls hl => ?_)
  refine lv_aload_n hx hb dJ7_fill_d0a16_2 rfl (lv_at hl 1 rfl) ?_
  refine x_alenl CF hK hP (9 + s) (by omega) (dX_items s (by omega)) dJ7_fill_d0a16_3 ?_
  refine lv_istore (lv' := [(4, .int (nI 24)), (3, .int (nI 0)), (0, .ref (ad (9 + s))), (1, .long v)]) hx hb dJ7_fill_d0a16_4 hl (by decide) rfl (fun ls hl => ?_)
  have L6 : ∀ (d6 : Nat) (i : Nat), (i + d6 = 24) → (∀ (H : Heap) (locs : List Loc) (ls : Array Slot), g_P g ad dsX 55 M (rowL J (9 + s) i (fun _ => v)) H → va_S (g_A ad 55) s9.heap H locs → lv_has ls 5 [(4, .int (nI 24)), (3, .int (nI i)), (0, .ref (ad (9 + s))), (1, .long v)] → W p9 l e9 (g_rm 0) s9 m9 args9 below9 meth9 c9 H locs 0 0 (MQ below9 (va_Qv (fun (_ : Unit) => True) (fun _ t => g_P g ad dsX 55 M (rowL J (9 + s) 24 (fun _ => v)) t.heap) (g_A ad 55)) args9 s9 0 0 (g_A ad 55)) (F0 m9 6 ls [])) := by
    intro d6
    induction d6 with
    | zero =>
      intro i h_i H locs ls hP hS hl
      refine lv_iload_n hx hb dJ7_fill_d0a16_6 rfl (lv_at hl 1 rfl) ?_
      refine lv_iload hx hb dJ7_fill_d0a16_7 (lv_at hl 0 rfl) ?_
      refine x_zge (u := (i : Nat)) (v := (24 : Int)) (tgt := 22) hx hb (nI_toInt (by omega)) (rfl) dJ7_fill_d0a16_9 (by decide) (fun h_1 => ?_) (fun h_1 => (by omega : False).elim)
      exact x_retv hx hb hr9 hlk9 hS (by rw [show 24 = i by omega]; exact hP) dJ7_fill_d0a16_22
    | succ d6 ih6 =>
      intro i h_i H locs ls hP hS hl
      refine lv_iload_n hx hb dJ7_fill_d0a16_6 rfl (lv_at hl 1 rfl) ?_
      refine lv_iload hx hb dJ7_fill_d0a16_7 (lv_at hl 0 rfl) ?_
      refine x_zge (u := (i : Nat)) (v := (24 : Int)) (tgt := 22) hx hb (nI_toInt (by omega)) (rfl) dJ7_fill_d0a16_9 (by decide) (fun h_2 => (by omega : False).elim) (fun h_2 => ?_)
      refine lv_aload_n hx hb dJ7_fill_d0a16_12 rfl (lv_at hl 2 rfl) ?_
      refine lv_iload_n hx hb dJ7_fill_d0a16_13 rfl (lv_at hl 1 rfl) ?_
      refine lv_lload_n hx hb dJ7_fill_d0a16_14 rfl (lv_at hl 3 rfl) ?_
      refine x_last CF hK hI hA hP hS (9 + s) (by omega) (dX_items s (by omega)) i (by omega) (by decide) v dJ7_fill_d0a16_15 (fun H locs hP hS => ?_)
      refine lv_iinc (v := nI (i + 1)) (lv' := [(3, .int (nI (i + 1))), (4, .int (nI 24)), (0, .ref (ad (9 + s))), (1, .long v)]) hx hb dJ7_fill_d0a16_16 hl (k := 1) rfl (n_inc i 1) (by decide) rfl (fun ls hl => ?_)
      refine lv_goto (tgt := 6) hx hb dJ7_fill_d0a16_19 (by decide) ?_
      have hl0 : lv_has ls 5 [(4, .int (nI 24)), (3, .int (nI (i + 1))), (0, .ref (ad (9 + s))), (1, .long v)] := lv_sub hl [1, 0, 2, 3] rfl
      exact ih6 (i + 1) (by omega) _ _ _ (by rw [← rowL_s (f := fun _ => v) (x := v) rfl]; exact hP) hS hl0
  have hl0 : lv_has ls 5 [(4, .int (nI 24)), (3, .int (nI 0)), (0, .ref (ad (9 + s))), (1, .long v)] := lv_sub hl [0, 1, 2, 3] rfl
  exact L6 24 0 (by omega) _ _ _ (by rw [rowL_0]; exact hP) hS hl0
set_option maxHeartbeats 4000000 in
set_option maxRecDepth 100000 in
theorem c_begin {l : Launch} {g : gE} {ad : Nat → Nat} (hI : g_inj ad 55) (M : gMem) (J : gMeL) (s : Nat) (hs : s < 4) (ln n : Nat) : CV l g ad dsX 55 yX3_begin cX3_begin 3 1 [.ref (ad (5 + s)), .int (nI ln), .int (nI n)] M J (u2 (u2 M (5 + s) 1 ln) (5 + s) 2 n) (rowL J (9 + s) 24 (fun _ => (0 : Int64))) := by
  refine CV.of (plainFor_of_name (by decide)) (Nat.le_of_ble_eq_true rfl) (fun p9 e9 s9 m9 args9 below9 meth9 c9 CF hK hr9 hlk9 hP hS ls hl => ?_)
  have hx := CF.1
  have hb := CF.2.1
  have hA : ∀ q, g_A ad 55 q → g_A ad 55 q := fun _ h => h
  have hl : lv_has ls 3 [(0, .ref (ad (5 + s))), (1, .int (nI ln)), (2, .int (nI n))] := hl
  refine lv_aload_n hx hb dX3_begin_0 rfl (lv_at hl 0 rfl) ?_
  refine lv_iload_n hx hb dX3_begin_1 rfl (lv_at hl 1 rfl) ?_
  refine x_puti CF hK hI hA hP hS (5 + s) (by omega) (dX_sheet s (by omega)) rfl uX3 tyX3 tyX3_ok nmX3 1 (by decide) rfl wd1_134 rfl rfl ln (ty := .int) rfl rfl rfl dX3_begin_2 (fun H locs hP hS => ?_)
  refine lv_aload_n hx hb dX3_begin_5 rfl (lv_at hl 0 rfl) ?_
  refine lv_iload_n hx hb dX3_begin_6 rfl (lv_at hl 2 rfl) ?_
  refine x_puti CF hK hI hA hP hS (5 + s) (by omega) (dX_sheet s (by omega)) rfl uX3 tyX3 tyX3_ok nmX3 2 (by decide) rfl wd1_136 rfl rfl n (ty := .int) rfl rfl rfl dX3_begin_7 (fun H locs hP hS => ?_)
  refine lv_aload_n hx hb dX3_begin_10 rfl (lv_at hl 0 rfl) ?_
  refine x_getr CF hK hP (5 + s) (by omega) (dX_sheet s (by omega)) rfl uX3 0 (by decide) (j := (9 + s)) rfl wd1_132 rfl dX3_begin_11 ?_
  refine lv_lconst (v := (0 : Int64)) hx hb dX3_begin_14 rfl ?_
  refine x_callSV CF hK hP hS hA hl (As := [.ref (ad (9 + s)), .long (0 : Int64)]) (rest := []) (c_fillL hI (u2 (u2 M (5 + s) 1 ln) (5 + s) 2 n) J s (by omega) (0 : Int64)) kw_J7_fill_d0a16 wd3_70 rfl ⟨Nat.le_of_ble_eq_true rfl, Nat.le_of_ble_eq_true rfl⟩ ⟨Nat.le_refl _, Nat.le_refl _⟩ (Nat.le_of_ble_eq_true rfl) dX3_begin_15 (fun H locs hP hS => ?_)
  exact x_retv hx hb hr9 hlk9 hS hP dX3_begin_18
set_option maxHeartbeats 4000000 in
set_option maxRecDepth 100000 in
theorem c_hasItems_t {l : Launch} {g : gE} {ad : Nat → Nat} (hI : g_inj ad 55) (M : gMem) (J : gMeL) (s : Nat) (hs : s < 4) (i n : Nat) (h : i + n ≤ M (5 + s) 2) (h2 : M (5 + s) 2 ≤ 24) : CI l g ad dsX 55 yX3_hasItems cX3_hasItems 3 (some .boolean) 0 [.ref (ad (5 + s)), .int (nI i), .int (nI n)] M J (nI 1) M J := by
  refine CI.of (plainFor_of_name (by decide)) (Nat.le_of_ble_eq_true rfl) (fun p9 e9 s9 m9 args9 below9 meth9 c9 CF hK hr9 hlk9 hP hS ls hl => ?_)
  have hx := CF.1
  have hb := CF.2.1
  have hA : ∀ q, g_A ad 55 q → g_A ad 55 q := fun _ h => h
  have hl : lv_has ls 3 [(0, .ref (ad (5 + s))), (1, .int (nI i)), (2, .int (nI n))] := hl
  refine lv_iload_n hx hb dX3_hasItems_0 rfl (lv_at hl 1 rfl) ?_
  refine x_ylt (u := (i : Nat)) (tgt := 22) hx hb (nI_toInt (by omega)) dX3_hasItems_1 (by decide) (fun h_1 => (by omega : False).elim) (fun h_1 => ?_)
  refine lv_iload_n hx hb dX3_hasItems_4 rfl (lv_at hl 2 rfl) ?_
  refine x_ylt (u := (n : Nat)) (tgt := 22) hx hb (nI_toInt (by omega)) dX3_hasItems_5 (by decide) (fun h_2 => (by omega : False).elim) (fun h_2 => ?_)
  refine lv_iload_n hx hb dX3_hasItems_8 rfl (lv_at hl 1 rfl) ?_
  refine lv_aload_n hx hb dX3_hasItems_9 rfl (lv_at hl 0 rfl) ?_
  refine x_geti CF hK hP (5 + s) (by omega) (dX_sheet s (by omega)) rfl uX3 2 (by decide) rfl wd1_136 rfl dX3_hasItems_10 ?_
  refine lv_iload_n hx hb dX3_hasItems_13 rfl (lv_at hl 2 rfl) ?_
  refine x_isub hx hb (by omega) dX3_hasItems_14 ?_
  refine x_zgt (u := (i : Nat)) (v := ((M (5 + s) 2) - n : Nat)) (tgt := 22) hx hb (nI_toInt (by omega)) (nI_toInt (by omega)) dX3_hasItems_15 (by decide) (fun h_3 => (by omega : False).elim) (fun h_3 => ?_)
  refine lv_iconst (v := nI 1) hx hb dX3_hasItems_18 (by decide) ?_
  refine lv_goto (tgt := 23) hx hb dX3_hasItems_19 (by decide) ?_
  exact x_retz hx hb hr9 hlk9 hS hP (by first | rfl | (show nI 1 = nI 1; first | rfl | omega)) (rfl) dX3_hasItems_23
theorem z_subn {a : Nat} {x : Int32} (ha : a < 2 ^ 30) (hx : 0 ≤ x.toInt) : (nI a - x).toInt = (a : Int) - x.toInt := by
  have h1 := x.toInt_lt
  rw [Int32.toInt_sub, tz (by omega), Int.bmod_eq_of_le (by omega) (by omega)]
set_option maxHeartbeats 4000000 in
set_option maxRecDepth 100000 in
theorem c_hasItems_f {l : Launch} {g : gE} {ad : Nat → Nat} (hI : g_inj ad 55) (M : gMem) (J : gMeL) (s : Nat) (hs : s < 4) (i n : Int32) (h : ¬ (0 ≤ i.toInt ∧ 0 ≤ n.toInt ∧ i.toInt + n.toInt ≤ M (5 + s) 2)) (h2 : M (5 + s) 2 ≤ 24) : CI l g ad dsX 55 yX3_hasItems cX3_hasItems 3 (some .boolean) 0 [.ref (ad (5 + s)), .int i, .int n] M J (nI 0) M J := by
  refine CI.of (plainFor_of_name (by decide)) (Nat.le_of_ble_eq_true rfl) (fun p9 e9 s9 m9 args9 below9 meth9 c9 CF hK hr9 hlk9 hP hS ls hl => ?_)
  have hx := CF.1
  have hb := CF.2.1
  have hA : ∀ q, g_A ad 55 q → g_A ad 55 q := fun _ h => h
  have hl : lv_has ls 3 [(0, .ref (ad (5 + s))), (1, .int i), (2, .int n)] := hl
  refine lv_iload_n hx hb dX3_hasItems_0 rfl (lv_at hl 1 rfl) ?_
  refine x_ylt (u := _) (tgt := 22) hx hb (rfl) dX3_hasItems_1 (by decide) (fun h_1 => ?_) (fun h_1 => ?_)
  · refine lv_iconst (v := nI 0) hx hb dX3_hasItems_22 (by decide) ?_
    exact x_retz hx hb hr9 hlk9 hS hP (by first | rfl | (show nI 0 = nI 0; first | rfl | omega)) (rfl) dX3_hasItems_23
  · refine lv_iload_n hx hb dX3_hasItems_4 rfl (lv_at hl 2 rfl) ?_
    refine x_ylt (u := _) (tgt := 22) hx hb (rfl) dX3_hasItems_5 (by decide) (fun h_2 => ?_) (fun h_2 => ?_)
    · refine lv_iconst (v := nI 0) hx hb dX3_hasItems_22 (by decide) ?_
      exact x_retz hx hb hr9 hlk9 hS hP (by first | rfl | (show nI 0 = nI 0; first | rfl | omega)) (rfl) dX3_hasItems_23
    · refine lv_iload_n hx hb dX3_hasItems_8 rfl (lv_at hl 1 rfl) ?_
      refine lv_aload_n hx hb dX3_hasItems_9 rfl (lv_at hl 0 rfl) ?_
      refine x_geti CF hK hP (5 + s) (by omega) (dX_sheet s (by omega)) rfl uX3 2 (by decide) rfl wd1_136 rfl dX3_hasItems_10 ?_
      refine lv_iload_n hx hb dX3_hasItems_13 rfl (lv_at hl 2 rfl) ?_
      refine lv_isub hx hb dX3_hasItems_14 ?_
      refine x_zgt (u := _) (v := _) (tgt := 22) hx hb (rfl) (z_subn (by omega) (by omega)) dX3_hasItems_15 (by decide) (fun h_3 => ?_) (fun h_3 => ?_)
      · refine lv_iconst (v := nI 0) hx hb dX3_hasItems_22 (by decide) ?_
        exact x_retz hx hb hr9 hlk9 hS hP (by first | rfl | (show nI 0 = nI 0; first | rfl | omega)) (rfl) dX3_hasItems_23
      · exact (by omega : False).elim
set_option maxHeartbeats 4000000 in
set_option maxRecDepth 100000 in
theorem c_put {l : Launch} {g : gE} {ad : Nat → Nat} (hI : g_inj ad 55) (M : gMem) (J : gMeL) (s : Nat) (hs : s < 4) (i : Nat) (hi9 : i < 24) (v : Int64) (h : M (5 + s) 1 ≤ 2) : CV l g ad dsX 55 yX3_put cX3_put 4 0 [.ref (ad (5 + s)), .int (nI i), .long v] M J M (u2L J (9 + s) i (cutv (M (5 + s) 1) v)) := by
  refine CV.of (plainFor_of_name (by decide)) (Nat.le_of_ble_eq_true rfl) (fun p9 e9 s9 m9 args9 below9 meth9 c9 CF hK hr9 hlk9 hP hS ls hl => ?_)
  have hx := CF.1
  have hb := CF.2.1
  have hA : ∀ q, g_A ad 55 q → g_A ad 55 q := fun _ h => h
  have hl : lv_has ls 4 [(0, .ref (ad (5 + s))), (1, .int (nI i)), (2, .long v)] := hl
  refine lv_aload_n hx hb dX3_put_0 rfl (lv_at hl 0 rfl) ?_
  refine x_geti CF hK hP (5 + s) (by omega) (dX_sheet s (by omega)) rfl uX3 1 (by decide) rfl wd1_134 rfl dX3_put_1 ?_
  rcases (show M (5 + s) 1 = 0 ∨ M (5 + s) 1 = 1 ∨ (M (5 + s) 1 ≠ 0 ∧ M (5 + s) 1 ≠ 1) by omega) with sw_1 | sw_1 | sw_1
  · refine lv_lookup (off := 28) (tgt := 32) hx hb dX3_put_4 (by decide) (by rw [sw_1]; decide +kernel) (by decide) ?_
    refine lv_aload_n hx hb dX3_put_32 rfl (lv_at hl 0 rfl) ?_
    refine x_getr CF hK hP (5 + s) (by omega) (dX_sheet s (by omega)) rfl uX3 0 (by decide) (j := (9 + s)) rfl wd1_132 rfl dX3_put_33 ?_
    refine lv_iload_n hx hb dX3_put_36 rfl (lv_at hl 1 rfl) ?_
    refine lv_lload_n hx hb dX3_put_37 rfl (lv_at hl 2 rfl) ?_
    refine lv_l2i hx hb dX3_put_38 rfl ?_
    refine lv_i2s hx hb dX3_put_39 rfl ?_
    refine lv_i2l hx hb dX3_put_40 rfl ?_
    refine x_last CF hK hI hA hP hS (9 + s) (by omega) (dX_items s (by omega)) i (by omega) (by decide) v.toInt32.toInt16.toInt32.toInt64 dX3_put_41 (fun H locs hP hS => ?_)
    have hP : g_P g ad dsX 55 M (u2L J (9 + s) i (cutv (M (5 + s) 1) v)) H := (by rw [cutv, if_pos sw_1]; exact hP)
    refine lv_goto (tgt := 64) hx hb dX3_put_42 (by decide) ?_
    exact x_retv hx hb hr9 hlk9 hS hP dX3_put_64
  · refine lv_lookup (off := 41) (tgt := 45) hx hb dX3_put_4 (by decide) (by rw [sw_1]; decide +kernel) (by decide) ?_
    refine lv_aload_n hx hb dX3_put_45 rfl (lv_at hl 0 rfl) ?_
    refine x_getr CF hK hP (5 + s) (by omega) (dX_sheet s (by omega)) rfl uX3 0 (by decide) (j := (9 + s)) rfl wd1_132 rfl dX3_put_46 ?_
    refine lv_iload_n hx hb dX3_put_49 rfl (lv_at hl 1 rfl) ?_
    refine lv_lload_n hx hb dX3_put_50 rfl (lv_at hl 2 rfl) ?_
    refine lv_l2i hx hb dX3_put_51 rfl ?_
    refine lv_i2l hx hb dX3_put_52 rfl ?_
    refine x_last CF hK hI hA hP hS (9 + s) (by omega) (dX_items s (by omega)) i (by omega) (by decide) v.toInt32.toInt64 dX3_put_53 (fun H locs hP hS => ?_)
    have hP : g_P g ad dsX 55 M (u2L J (9 + s) i (cutv (M (5 + s) 1) v)) H := (by rw [cutv, if_neg (by omega), if_pos sw_1]; exact hP)
    refine lv_goto (tgt := 64) hx hb dX3_put_54 (by decide) ?_
    exact x_retv hx hb hr9 hlk9 hS hP dX3_put_64
  · refine lv_lookup (off := 53) (tgt := 57) hx hb dX3_put_4 (by decide) (by simp only [Op.lookupswitch.offset]; rw [if_neg (by rw [tz (by omega)]; omega), if_neg (by rw [tz (by omega)]; omega)]) (by decide) ?_
    refine lv_aload_n hx hb dX3_put_57 rfl (lv_at hl 0 rfl) ?_
    refine x_getr CF hK hP (5 + s) (by omega) (dX_sheet s (by omega)) rfl uX3 0 (by decide) (j := (9 + s)) rfl wd1_132 rfl dX3_put_58 ?_
    refine lv_iload_n hx hb dX3_put_61 rfl (lv_at hl 1 rfl) ?_
    refine lv_lload_n hx hb dX3_put_62 rfl (lv_at hl 2 rfl) ?_
    refine x_last CF hK hI hA hP hS (9 + s) (by omega) (dX_items s (by omega)) i (by omega) (by decide) v dX3_put_63 (fun H locs hP hS => ?_)
    have hP : g_P g ad dsX 55 M (u2L J (9 + s) i (cutv (M (5 + s) 1) v)) H := (by rw [cutv, if_neg (by omega), if_neg (by omega)]; exact hP)
    exact x_retv hx hb hr9 hlk9 hS hP dX3_put_64
