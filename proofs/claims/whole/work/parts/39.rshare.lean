set_option maxHeartbeats 4000000 in
set_option maxRecDepth 100000 in
theorem r_puts {l : Launch} {g : gE} {ad : Nat → Nat} (hI : g_inj ad 14) (M : gMem) (J : gMeL) (hw : wfR M) (f : Nat) (hf5 : f < 5) (h6 : M 6 f ≤ 5) (h7 : M 7 f ≤ 11) (hb9 : ∀ b, M 8 b < 4096 ∧ M 9 b < 4096) : CI l g ad dsR 14 yX6_puts cX6_puts 3 (some .boolean) 1 [.ref (ad 0), .int (nI f)] M J (nI (b2n (putB M f))) (putM M f) J := by
  refine CI.of (plainFor_of_name (by decide)) (Nat.le_of_ble_eq_true rfl) (fun p9 e9 s9 m9 args9 below9 meth9 c9 CF hK hr9 hlk9 hP hS ls hl => ?_)
  have hx := CF.1
  have hb := CF.2.1
  have hA : ∀ q, g_A ad 14 q → g_A ad 14 q := fun _ h => h
  have hl : lv_has ls 3 [(0, .ref (ad 0)), (1, .int (nI f))] := hl
  have hnc := hw.nc
  have hnf := hw.nf
  have hwy := hw.way
  have hf := hw.fig hf5
  refine lv_iconst (v := nI 0) hx hb dX6_puts_0 (by decide) ?_
  refine lv_istore_n (lv' := [(2, .int (nI 0)), (0, .ref (ad 0)), (1, .int (nI f))]) hx hb dX6_puts_1 rfl hl (by decide) rfl (fun ls hl => ?_)
  have L2 : ∀ (d2 : Nat) (k : Nat), (k + d2 = 6) → (∀ (H : Heap) (locs : List Loc) (ls : Array Slot), g_P g ad dsR 14 (cpA M f k) J H → va_S (g_A ad 14) s9.heap H locs → lv_has ls 3 [(2, .int (nI k)), (0, .ref (ad 0)), (1, .int (nI f))] → W p9 l e9 (g_rm 1) s9 m9 args9 below9 meth9 c9 H locs 0 0 (MQ below9 (va_Qi (fun r' (_ : Unit) => r' = (nI (b2n (putB M f)))) (fun _ t => g_P g ad dsR 14 (putM M f) J t.heap) (g_A ad 14)) args9 s9 0 0 (g_A ad 14)) (F0 m9 2 ls [])) := by
    intro d2
    induction d2 with
    | zero =>
      intro k h_k H locs ls hP hS hl
      have e6 : k = 6 := by omega
      have bu := pu_lt (m := M) (f := f) hb9
      have bd := pd_lt (m := M) (f := f) hb9
      have bv := and_lt (pd M f) bu
      refine lv_iload_n hx hb dX6_puts_2 rfl (lv_at hl 0 rfl) ?_
      refine lv_bipush (v := nI 6) hx hb dX6_puts_3 (by decide) ?_
      refine x_zge (u := (k : Nat)) (v := (6 : Int)) (tgt := 62) hx hb (nI_toInt (by omega)) (rfl) dX6_puts_5 (by decide) (fun h_1 => ?_) (fun h_1 => (by omega : False).elim)
      refine lv_bipush (v := nI 6) hx hb dX6_puts_62 (by decide) ?_
      refine lv_iload_n hx hb dX6_puts_64 rfl (lv_at hl 2 rfl) ?_
      refine lv_iconst (v := nI 1) hx hb dX6_puts_65 (by decide) ?_
      refine x_iadd hx hb dX6_puts_66 ?_
      refine x_imul hx hb dX6_puts_67 ?_
      refine lv_aload_n hx hb dX6_puts_68 rfl (lv_at hl 1 rfl) ?_
      refine x_getr CF hK hP 0 (by decide) dR_0 rfl uX6 7 (by decide) (j := 6) rfl wd3_103 rfl dX6_puts_69 ?_
      refine lv_iload_n hx hb dX6_puts_72 rfl (lv_at hl 2 rfl) ?_
      refine x_iald CF hK hP 6 (by decide) dR_6 f (by omega) (by decide) dX6_puts_73 ?_
      refine x_ri (show (nI ((cpA M f k) 6 f)) = nI (M 6 f) from congrArg nI (by rw [cpA_row (by decide)])) ?_
      refine x_iadd hx hb dX6_puts_74 ?_
      refine lv_istore_n (lv' := [(2, .int (nI ((6 * (f + 1)) + (M 6 f)))), (0, .ref (ad 0)), (1, .int (nI f))]) hx hb dX6_puts_75 rfl hl (by decide) rfl (fun ls hl => ?_)
      refine lv_aload_n hx hb dX6_puts_76 rfl (lv_at hl 1 rfl) ?_
      refine x_getr CF hK hP 0 (by decide) dR_0 rfl uX6 9 (by decide) (j := 8) rfl wd3_105 rfl dX6_puts_77 ?_
      refine lv_iload_n hx hb dX6_puts_80 rfl (lv_at hl 0 rfl) ?_
      refine lv_dup2_11 hx hb dX6_puts_81 rfl rfl ?_
      refine x_iald CF hK hP 8 (by decide) dR_8 ((6 * (f + 1)) + (M 6 f)) (by omega) (by decide) dX6_puts_82 ?_
      refine x_ri (show (nI ((cpA M f k) 8 ((6 * (f + 1)) + (M 6 f)))) = nI (M 8 (6 * f + M 6 f)) from congrArg nI (by rw [e6]; exact cpA_in (Or.inl rfl) (by omega))) ?_
      refine lv_aload_n hx hb dX6_puts_83 rfl (lv_at hl 1 rfl) ?_
      refine x_getr CF hK hP 0 (by decide) dR_0 rfl uX6 0 (by decide) (j := 1) rfl wd3_96 rfl dX6_puts_84 ?_
      refine lv_bipush (v := nI 94) hx hb dX6_puts_87 (by decide) ?_
      refine lv_iload_n hx hb dX6_puts_89 rfl (lv_at hl 2 rfl) ?_
      refine x_iadd hx hb dX6_puts_90 ?_
      refine x_iald CF hK hP 1 (by decide) dR_1 (94 + f) (by omega) (by decide) dX6_puts_91 ?_
      refine x_ri (show (nI ((cpA M f k) 1 (94 + f))) = nI (M 1 (94 + f)) from congrArg nI (by rw [cpA_row (by decide)])) ?_
      refine lv_aload_n hx hb dX6_puts_92 rfl (lv_at hl 1 rfl) ?_
      refine x_getr CF hK hP 0 (by decide) dR_0 rfl uX6 8 (by decide) (j := 7) rfl wd3_104 rfl dX6_puts_93 ?_
      refine lv_iload_n hx hb dX6_puts_96 rfl (lv_at hl 2 rfl) ?_
      refine x_iald CF hK hP 7 (by decide) dR_7 f (by omega) (by decide) dX6_puts_97 ?_
      refine x_ri (show (nI ((cpA M f k) 7 f)) = nI (M 7 f) from congrArg nI (by rw [cpA_row (by decide)])) ?_
      refine x_callSP CF hK hP hS hl (As := [.int (nI (M 1 (94 + f))), .int (nI (M 7 f))]) (rest := [.int (nI (M 8 (6 * f + M 6 f))), .int (nI ((6 * (f + 1)) + (M 6 f))), .ref (ad 8)]) (r_turned (M 1 (94 + f)) (M 7 f) (by omega) (by omega)) kw_X6_turned wd4_44 rfl ⟨Nat.le_of_ble_eq_true rfl, Nat.le_of_ble_eq_true rfl⟩ ⟨Nat.le_refl _, Nat.le_refl _⟩ (Nat.le_of_ble_eq_true rfl) dX6_puts_98 (fun H locs hP hS => ?_)
      refine x_ior hx hb dX6_puts_101 ?_
      refine x_ri (show (nI ((M 8 (6 * f + M 6 f)) ||| (rot (M 1 (94 + f)) (M 7 f)))) = nI (pu M f) from rfl) ?_
      refine x_iast CF hK hI hA hP hS 8 (by decide) dR_8 ((6 * (f + 1)) + (M 6 f)) (by omega) (by decide) (pu M f) dX6_puts_102 (fun H locs hP hS => ?_)
      refine lv_aload_n hx hb dX6_puts_103 rfl (lv_at hl 1 rfl) ?_
      refine x_getr CF hK hP 0 (by decide) dR_0 rfl uX6 10 (by decide) (j := 9) rfl wd3_106 rfl dX6_puts_104 ?_
      refine lv_iload_n hx hb dX6_puts_107 rfl (lv_at hl 0 rfl) ?_
      refine lv_dup2_11 hx hb dX6_puts_108 rfl rfl ?_
      refine x_iald CF hK hP 9 (by decide) dR_9 ((6 * (f + 1)) + (M 6 f)) (by omega) (by decide) dX6_puts_109 ?_
      refine x_ri (show (nI ((u2 (cpA M f k) 8 ((6 * (f + 1)) + (M 6 f)) (pu M f)) 9 ((6 * (f + 1)) + (M 6 f)))) = nI (M 9 (6 * f + M 6 f)) from congrArg nI (by rw [e6, u2_row (by decide)]; exact cpA_in (Or.inr rfl) (by omega))) ?_
      refine lv_aload_n hx hb dX6_puts_110 rfl (lv_at hl 1 rfl) ?_
      refine x_getr CF hK hP 0 (by decide) dR_0 rfl uX6 0 (by decide) (j := 1) rfl wd3_96 rfl dX6_puts_111 ?_
      refine lv_bipush (v := nI 99) hx hb dX6_puts_114 (by decide) ?_
      refine lv_iload_n hx hb dX6_puts_116 rfl (lv_at hl 2 rfl) ?_
      refine x_iadd hx hb dX6_puts_117 ?_
      refine x_iald CF hK hP 1 (by decide) dR_1 (99 + f) (by omega) (by decide) dX6_puts_118 ?_
      refine x_ri (show (nI ((u2 (cpA M f k) 8 ((6 * (f + 1)) + (M 6 f)) (pu M f)) 1 (99 + f))) = nI (M 1 (99 + f)) from congrArg nI (by rw [u2_row (by decide), cpA_row (by decide)])) ?_
      refine lv_aload_n hx hb dX6_puts_119 rfl (lv_at hl 1 rfl) ?_
      refine x_getr CF hK hP 0 (by decide) dR_0 rfl uX6 8 (by decide) (j := 7) rfl wd3_104 rfl dX6_puts_120 ?_
      refine lv_iload_n hx hb dX6_puts_123 rfl (lv_at hl 2 rfl) ?_
      refine x_iald CF hK hP 7 (by decide) dR_7 f (by omega) (by decide) dX6_puts_124 ?_
      refine x_ri (show (nI ((u2 (cpA M f k) 8 ((6 * (f + 1)) + (M 6 f)) (pu M f)) 7 f)) = nI (M 7 f) from congrArg nI (by rw [u2_row (by decide), cpA_row (by decide)])) ?_
      refine x_callSP CF hK hP hS hl (As := [.int (nI (M 1 (99 + f))), .int (nI (M 7 f))]) (rest := [.int (nI (M 9 (6 * f + M 6 f))), .int (nI ((6 * (f + 1)) + (M 6 f))), .ref (ad 9)]) (r_turned (M 1 (99 + f)) (M 7 f) (by omega) (by omega)) kw_X6_turned wd4_44 rfl ⟨Nat.le_of_ble_eq_true rfl, Nat.le_of_ble_eq_true rfl⟩ ⟨Nat.le_refl _, Nat.le_refl _⟩ (Nat.le_of_ble_eq_true rfl) dX6_puts_125 (fun H locs hP hS => ?_)
      refine x_ior hx hb dX6_puts_128 ?_
      refine x_ri (show (nI ((M 9 (6 * f + M 6 f)) ||| (rot (M 1 (99 + f)) (M 7 f)))) = nI (pd M f) from rfl) ?_
      refine x_iast CF hK hI hA hP hS 9 (by decide) dR_9 ((6 * (f + 1)) + (M 6 f)) (by omega) (by decide) (pd M f) dX6_puts_129 (fun H locs hP hS => ?_)
      refine lv_aload_n hx hb dX6_puts_130 rfl (lv_at hl 1 rfl) ?_
      refine x_getr CF hK hP 0 (by decide) dR_0 rfl uX6 9 (by decide) (j := 8) rfl wd3_105 rfl dX6_puts_131 ?_
      refine lv_iload_n hx hb dX6_puts_134 rfl (lv_at hl 0 rfl) ?_
      refine x_iald CF hK hP 8 (by decide) dR_8 ((6 * (f + 1)) + (M 6 f)) (by omega) (by decide) dX6_puts_135 ?_
      refine x_ri (show (nI ((u2 (u2 (cpA M f k) 8 ((6 * (f + 1)) + (M 6 f)) (pu M f)) 9 ((6 * (f + 1)) + (M 6 f)) (pd M f)) 8 ((6 * (f + 1)) + (M 6 f)))) = nI (pu M f) from congrArg nI (by rw [u2_row (by decide), u2_same])) ?_
      refine lv_aload_n hx hb dX6_puts_136 rfl (lv_at hl 1 rfl) ?_
      refine x_getr CF hK hP 0 (by decide) dR_0 rfl uX6 10 (by decide) (j := 9) rfl wd3_106 rfl dX6_puts_137 ?_
      refine lv_iload_n hx hb dX6_puts_140 rfl (lv_at hl 0 rfl) ?_
      refine x_iald CF hK hP 9 (by decide) dR_9 ((6 * (f + 1)) + (M 6 f)) (by omega) (by decide) dX6_puts_141 ?_
      refine x_ri (show (nI ((u2 (u2 (cpA M f k) 8 ((6 * (f + 1)) + (M 6 f)) (pu M f)) 9 ((6 * (f + 1)) + (M 6 f)) (pd M f)) 9 ((6 * (f + 1)) + (M 6 f)))) = nI (pd M f) from congrArg nI (by rw [u2_same])) ?_
      refine x_iand hx hb dX6_puts_142 ?_
      refine x_yne (u := ((pu M f) &&& (pd M f) : Nat)) (tgt := 150) hx hb (nI_toInt (by omega)) dX6_puts_143 (by decide) (fun h_2 => ?_) (fun h_2 => ?_)
      · refine lv_iconst (v := nI 0) hx hb dX6_puts_150 (by decide) ?_
        exact x_retz hx hb hr9 hlk9 hS (by rw [e6] at hP; exact hP) (by rw [putB, decide_eq_false (by omega)]; rfl) (rfl) dX6_puts_151
      · refine lv_iconst (v := nI 1) hx hb dX6_puts_146 (by decide) ?_
        refine lv_goto (tgt := 151) hx hb dX6_puts_147 (by decide) ?_
        exact x_retz hx hb hr9 hlk9 hS (by rw [e6] at hP; exact hP) (by rw [putB, decide_eq_true (by omega)]; rfl) (rfl) dX6_puts_151
    | succ d2 ih2 =>
      intro k h_k H locs ls hP hS hl
      refine lv_iload_n hx hb dX6_puts_2 rfl (lv_at hl 0 rfl) ?_
      refine lv_bipush (v := nI 6) hx hb dX6_puts_3 (by decide) ?_
      refine x_zge (u := (k : Nat)) (v := (6 : Int)) (tgt := 62) hx hb (nI_toInt (by omega)) (rfl) dX6_puts_5 (by decide) (fun h_3 => (by omega : False).elim) (fun h_3 => ?_)
      refine lv_aload_n hx hb dX6_puts_8 rfl (lv_at hl 1 rfl) ?_
      refine x_getr CF hK hP 0 (by decide) dR_0 rfl uX6 9 (by decide) (j := 8) rfl wd3_105 rfl dX6_puts_9 ?_
      refine lv_bipush (v := nI 6) hx hb dX6_puts_12 (by decide) ?_
      refine lv_iload_n hx hb dX6_puts_14 rfl (lv_at hl 2 rfl) ?_
      refine lv_iconst (v := nI 1) hx hb dX6_puts_15 (by decide) ?_
      refine x_iadd hx hb dX6_puts_16 ?_
      refine x_imul hx hb dX6_puts_17 ?_
      refine lv_iload_n hx hb dX6_puts_18 rfl (lv_at hl 0 rfl) ?_
      refine x_iadd hx hb dX6_puts_19 ?_
      refine lv_aload_n hx hb dX6_puts_20 rfl (lv_at hl 1 rfl) ?_
      refine x_getr CF hK hP 0 (by decide) dR_0 rfl uX6 9 (by decide) (j := 8) rfl wd3_105 rfl dX6_puts_21 ?_
      refine lv_bipush (v := nI 6) hx hb dX6_puts_24 (by decide) ?_
      refine lv_iload_n hx hb dX6_puts_26 rfl (lv_at hl 2 rfl) ?_
      refine x_imul hx hb dX6_puts_27 ?_
      refine lv_iload_n hx hb dX6_puts_28 rfl (lv_at hl 0 rfl) ?_
      refine x_iadd hx hb dX6_puts_29 ?_
      refine x_iald CF hK hP 8 (by decide) dR_8 ((6 * f) + k) (by omega) (by decide) dX6_puts_30 ?_
      refine x_ri (show (nI ((cpA M f k) 8 ((6 * f) + k))) = nI (M 8 (6 * f + k)) from congrArg nI (cpA_no (by omega))) ?_
      refine x_iast CF hK hI hA hP hS 8 (by decide) dR_8 ((6 * (f + 1)) + k) (by omega) (by decide) (M 8 (6 * f + k)) dX6_puts_31 (fun H locs hP hS => ?_)
      refine lv_aload_n hx hb dX6_puts_32 rfl (lv_at hl 1 rfl) ?_
      refine x_getr CF hK hP 0 (by decide) dR_0 rfl uX6 10 (by decide) (j := 9) rfl wd3_106 rfl dX6_puts_33 ?_
      refine lv_bipush (v := nI 6) hx hb dX6_puts_36 (by decide) ?_
      refine lv_iload_n hx hb dX6_puts_38 rfl (lv_at hl 2 rfl) ?_
      refine lv_iconst (v := nI 1) hx hb dX6_puts_39 (by decide) ?_
      refine x_iadd hx hb dX6_puts_40 ?_
      refine x_imul hx hb dX6_puts_41 ?_
      refine lv_iload_n hx hb dX6_puts_42 rfl (lv_at hl 0 rfl) ?_
      refine x_iadd hx hb dX6_puts_43 ?_
      refine lv_aload_n hx hb dX6_puts_44 rfl (lv_at hl 1 rfl) ?_
      refine x_getr CF hK hP 0 (by decide) dR_0 rfl uX6 10 (by decide) (j := 9) rfl wd3_106 rfl dX6_puts_45 ?_
      refine lv_bipush (v := nI 6) hx hb dX6_puts_48 (by decide) ?_
      refine lv_iload_n hx hb dX6_puts_50 rfl (lv_at hl 2 rfl) ?_
      refine x_imul hx hb dX6_puts_51 ?_
      refine lv_iload_n hx hb dX6_puts_52 rfl (lv_at hl 0 rfl) ?_
      refine x_iadd hx hb dX6_puts_53 ?_
      refine x_iald CF hK hP 9 (by decide) dR_9 ((6 * f) + k) (by omega) (by decide) dX6_puts_54 ?_
      refine x_ri (show (nI ((u2 (cpA M f k) 8 ((6 * (f + 1)) + k) (M 8 (6 * f + k))) 9 ((6 * f) + k))) = nI (M 9 (6 * f + k)) from congrArg nI (by rw [u2_row (by decide)]; exact cpA_no (by omega))) ?_
      refine x_iast CF hK hI hA hP hS 9 (by decide) dR_9 ((6 * (f + 1)) + k) (by omega) (by decide) (M 9 (6 * f + k)) dX6_puts_55 (fun H locs hP hS => ?_)
      have hP : g_P g ad dsR 14 (cpA M f (k + 1)) J H := (by rw [← cpA_s]; exact hP)
      refine lv_iinc (v := nI (k + 1)) (lv' := [(2, .int (nI (k + 1))), (0, .ref (ad 0)), (1, .int (nI f))]) hx hb dX6_puts_56 hl (k := 0) rfl (n_inc k 1) (by decide) rfl (fun ls hl => ?_)
      refine lv_goto (tgt := 2) hx hb dX6_puts_59 (by decide) ?_
      have hl0 : lv_has ls 3 [(2, .int (nI (k + 1))), (0, .ref (ad 0)), (1, .int (nI f))] := lv_sub hl [0, 1, 2] rfl
      exact ih2 (k + 1) (by omega) _ _ _ (hP) hS hl0
  have hl0 : lv_has ls 3 [(2, .int (nI 0)), (0, .ref (ad 0)), (1, .int (nI f))] := lv_sub hl [0, 1, 2] rfl
  exact L2 6 0 (by omega) _ _ _ (by rw [cpA_0]; exact hP) hS hl0
set_option maxHeartbeats 4000000 in
set_option maxRecDepth 100000 in
theorem r_camsUsed {l : Launch} {g : gE} {ad : Nat → Nat} (hI : g_inj ad 14) (M : gMem) (J : gMeL) (f : Nat) (hf5 : f ≤ 5) (h6 : ∀ e, e < f → M 6 e ≤ 5) : CI l g ad dsR 14 yX6_camsUsed cX6_camsUsed 4 (some .int) 0 [.ref (ad 0), .int (nI f)] M J (nI (usedN (M 6) f)) M J := by
  refine CI.of (plainFor_of_name (by decide)) (Nat.le_of_ble_eq_true rfl) (fun p9 e9 s9 m9 args9 below9 meth9 c9 CF hK hr9 hlk9 hP hS ls hl => ?_)
  have hx := CF.1
  have hb := CF.2.1
  have hA : ∀ q, g_A ad 14 q → g_A ad 14 q := fun _ h => h
  have hl : lv_has ls 4 [(0, .ref (ad 0)), (1, .int (nI f))] := hl
  refine lv_iconst (v := nI 0) hx hb dX6_camsUsed_0 (by decide) ?_
  refine lv_istore_n (lv' := [(2, .int (nI 0)), (0, .ref (ad 0)), (1, .int (nI f))]) hx hb dX6_camsUsed_1 rfl hl (by decide) rfl (fun ls hl => ?_)
  refine lv_iconst (v := nI 0) hx hb dX6_camsUsed_2 (by decide) ?_
  refine lv_istore_n (lv' := [(3, .int (nI 0)), (2, .int (nI 0)), (0, .ref (ad 0)), (1, .int (nI f))]) hx hb dX6_camsUsed_3 rfl hl (by decide) rfl (fun ls hl => ?_)
  have L4 : ∀ (d4 : Nat) (k : Nat), (k + d4 = f) → (∀ (H : Heap) (locs : List Loc) (ls : Array Slot), g_P g ad dsR 14 M J H → va_S (g_A ad 14) s9.heap H locs → lv_has ls 4 [(3, .int (nI k)), (2, .int (nI (usedN (M 6) k))), (0, .ref (ad 0)), (1, .int (nI f))] → W p9 l e9 (g_rm 0) s9 m9 args9 below9 meth9 c9 H locs 0 0 (MQ below9 (va_Qi (fun r' (_ : Unit) => r' = (nI (usedN (M 6) f))) (fun _ t => g_P g ad dsR 14 M J t.heap) (g_A ad 14)) args9 s9 0 0 (g_A ad 14)) (F0 m9 4 ls [])) := by
    intro d4
    induction d4 with
    | zero =>
      intro k h_k H locs ls hP hS hl
      refine lv_iload_n hx hb dX6_camsUsed_4 rfl (lv_at hl 0 rfl) ?_
      refine lv_iload_n hx hb dX6_camsUsed_5 rfl (lv_at hl 3 rfl) ?_
      refine x_zge (u := (k : Nat)) (v := (f : Nat)) (tgt := 38) hx hb (nI_toInt (by omega)) (nI_toInt (by omega)) dX6_camsUsed_6 (by decide) (fun h_1 => ?_) (fun h_1 => (by omega : False).elim)
      refine lv_iload_n hx hb dX6_camsUsed_38 rfl (lv_at hl 1 rfl) ?_
      exact x_reti hx hb hr9 hlk9 hS hP (by rw [show k = f by omega]) dX6_camsUsed_39
    | succ d4 ih4 =>
      intro k h_k H locs ls hP hS hl
      have b1 := h6 k (by omega)
      have b2 := usedN_le (r := M 6) (n := k) (B := 5) (fun e he => h6 e (by omega))
      refine lv_iload_n hx hb dX6_camsUsed_4 rfl (lv_at hl 0 rfl) ?_
      refine lv_iload_n hx hb dX6_camsUsed_5 rfl (lv_at hl 3 rfl) ?_
      refine x_zge (u := (k : Nat)) (v := (f : Nat)) (tgt := 38) hx hb (nI_toInt (by omega)) (nI_toInt (by omega)) dX6_camsUsed_6 (by decide) (fun h_2 => (by omega : False).elim) (fun h_2 => ?_)
      refine lv_aload_n hx hb dX6_camsUsed_9 rfl (lv_at hl 2 rfl) ?_
      refine x_getr CF hK hP 0 (by decide) dR_0 rfl uX6 7 (by decide) (j := 6) rfl wd3_103 rfl dX6_camsUsed_10 ?_
      refine lv_iload_n hx hb dX6_camsUsed_13 rfl (lv_at hl 0 rfl) ?_
      refine x_iald CF hK hP 6 (by decide) dR_6 k (by omega) (by decide) dX6_camsUsed_14 ?_
      refine lv_iload_n hx hb dX6_camsUsed_15 rfl (lv_at hl 1 rfl) ?_
      refine x_zlt (u := (M 6 k : Nat)) (v := (usedN (M 6) k : Nat)) (tgt := 30) hx hb (nI_toInt (by omega)) (nI_toInt (by omega)) dX6_camsUsed_16 (by decide) (fun h_3 => ?_) (fun h_3 => ?_)
      · refine lv_iload_n hx hb dX6_camsUsed_30 rfl (lv_at hl 1 rfl) ?_
        refine lv_istore_n (lv' := [(2, .int (nI (usedN (M 6) k))), (3, .int (nI k)), (0, .ref (ad 0)), (1, .int (nI f))]) hx hb dX6_camsUsed_31 rfl hl (by decide) rfl (fun ls hl => ?_)
        refine lv_iinc (v := nI (k + 1)) (lv' := [(3, .int (nI (k + 1))), (2, .int (nI (usedN (M 6) k))), (0, .ref (ad 0)), (1, .int (nI f))]) hx hb dX6_camsUsed_32 hl (k := 1) rfl (n_inc k 1) (by decide) rfl (fun ls hl => ?_)
        refine lv_goto (tgt := 4) hx hb dX6_camsUsed_35 (by decide) ?_
        have hl0 : lv_has ls 4 [(3, .int (nI (k + 1))), (2, .int (nI (usedN (M 6) (k + 1)))), (0, .ref (ad 0)), (1, .int (nI f))] := by rw [(show nI (usedN (M 6) (k + 1)) = nI (usedN (M 6) k) from by rw [usedN, if_pos (by omega)])]; exact lv_sub hl [0, 1, 2, 3] rfl
        exact ih4 (k + 1) (by omega) _ _ _ (hP) hS hl0
      · refine lv_aload_n hx hb dX6_camsUsed_19 rfl (lv_at hl 2 rfl) ?_
        refine x_getr CF hK hP 0 (by decide) dR_0 rfl uX6 7 (by decide) (j := 6) rfl wd3_103 rfl dX6_camsUsed_20 ?_
        refine lv_iload_n hx hb dX6_camsUsed_23 rfl (lv_at hl 0 rfl) ?_
        refine x_iald CF hK hP 6 (by decide) dR_6 k (by omega) (by decide) dX6_camsUsed_24 ?_
        refine lv_iconst (v := nI 1) hx hb dX6_camsUsed_25 (by decide) ?_
        refine x_iadd hx hb dX6_camsUsed_26 ?_
        refine lv_goto (tgt := 31) hx hb dX6_camsUsed_27 (by decide) ?_
        refine lv_istore_n (lv' := [(2, .int (nI ((M 6 k) + 1))), (3, .int (nI k)), (0, .ref (ad 0)), (1, .int (nI f))]) hx hb dX6_camsUsed_31 rfl hl (by decide) rfl (fun ls hl => ?_)
        refine lv_iinc (v := nI (k + 1)) (lv' := [(3, .int (nI (k + 1))), (2, .int (nI ((M 6 k) + 1))), (0, .ref (ad 0)), (1, .int (nI f))]) hx hb dX6_camsUsed_32 hl (k := 1) rfl (n_inc k 1) (by decide) rfl (fun ls hl => ?_)
        refine lv_goto (tgt := 4) hx hb dX6_camsUsed_35 (by decide) ?_
        have hl0 : lv_has ls 4 [(3, .int (nI (k + 1))), (2, .int (nI (usedN (M 6) (k + 1)))), (0, .ref (ad 0)), (1, .int (nI f))] := by rw [(show nI (usedN (M 6) (k + 1)) = nI ((M 6 k) + 1) from by rw [usedN, if_neg (by omega)])]; exact lv_sub hl [0, 1, 2, 3] rfl
        exact ih4 (k + 1) (by omega) _ _ _ (hP) hS hl0
  have hl0 : lv_has ls 4 [(3, .int (nI 0)), (2, .int (nI (usedN (M 6) 0))), (0, .ref (ad 0)), (1, .int (nI f))] := by rw [(show nI (usedN (M 6) 0) = nI 0 from rfl)]; exact lv_sub hl [0, 1, 2, 3] rfl
  exact L4 f 0 (by omega) _ _ _ (hP) hS hl0
set_option maxHeartbeats 4000000 in
set_option maxRecDepth 100000 in
theorem r_sharesBy {l : Launch} {g : gE} {ad : Nat → Nat} (hI : g_inj ad 14) (M : gMem) (J : gMeL) (hw : wfR M) (most : Nat) (hms : most ≤ 5) (r : Bool × gMem) (n0 : Nat) (hn0 : itR most (M 1 73) n0 1 (u2 (u2 M 6 0 0) 7 0 4294967295) = some r) (hi0 : shI 1 (u2 (u2 M 6 0 0) 7 0 4294967295)) : CI l g ad dsR 14 yX6_sharesBy cX6_sharesBy 5 (some .boolean) 2 [.ref (ad 0), .int (nI most)] M J (nI (b2n r.1)) r.2 J := by
  refine CI.of (plainFor_of_name (by decide)) (Nat.le_of_ble_eq_true rfl) (fun p9 e9 s9 m9 args9 below9 meth9 c9 CF hK hr9 hlk9 hP hS ls hl => ?_)
  have hx := CF.1
  have hb := CF.2.1
  have hA : ∀ q, g_A ad 14 q → g_A ad 14 q := fun _ h => h
  have hl : lv_has ls 5 [(0, .ref (ad 0)), (1, .int (nI most))] := hl
  have hnc := hw.nc
  have hnf := hw.nf
  have hwy := hw.way
  refine lv_iconst (v := nI 0) hx hb dX6_sharesBy_0 (by decide) ?_
  refine lv_istore_n (lv' := [(2, .int (nI 0)), (0, .ref (ad 0)), (1, .int (nI most))]) hx hb dX6_sharesBy_1 rfl hl (by decide) rfl (fun ls hl => ?_)
  refine lv_aload_n hx hb dX6_sharesBy_2 rfl (lv_at hl 1 rfl) ?_
  refine x_getr CF hK hP 0 (by decide) dR_0 rfl uX6 7 (by decide) (j := 6) rfl wd3_103 rfl dX6_sharesBy_3 ?_
  refine lv_iconst (v := nI 0) hx hb dX6_sharesBy_6 (by decide) ?_
  refine lv_iconst (v := nI 0) hx hb dX6_sharesBy_7 (by decide) ?_
  refine x_iast CF hK hI hA hP hS 6 (by decide) dR_6 0 (by omega) (by decide) 0 dX6_sharesBy_8 (fun H locs hP hS => ?_)
  refine lv_aload_n hx hb dX6_sharesBy_9 rfl (lv_at hl 1 rfl) ?_
  refine x_getr CF hK hP 0 (by decide) dR_0 rfl uX6 8 (by decide) (j := 7) rfl wd3_104 rfl dX6_sharesBy_10 ?_
  refine lv_iconst (v := nI 0) hx hb dX6_sharesBy_13 (by decide) ?_
  refine lv_iconst (v := nI 4294967295) hx hb dX6_sharesBy_14 (by decide) ?_
  refine x_iast CF hK hI hA hP hS 7 (by decide) dR_7 0 (by omega) (by decide) 4294967295 dX6_sharesBy_15 (fun H locs hP hS => ?_)
  have L16 : ∀ (d16 : Nat) (y : Nat) (m : gMem), (itR most (M 1 73) d16 y m = some r) → (m 1 = M 1) → (shI y m) → (y ≤ M 1 73 + 1) → (∀ (H : Heap) (locs : List Loc) (ls : Array Slot), g_P g ad dsR 14 m J H → va_S (g_A ad 14) s9.heap H locs → lv_has ls 5 [(2, .int (nI y - nI 1)), (0, .ref (ad 0)), (1, .int (nI most))] → W p9 l e9 (g_rm 2) s9 m9 args9 below9 meth9 c9 H locs 0 0 (MQ below9 (va_Qi (fun r' (_ : Unit) => r' = (nI (b2n r.1))) (fun _ t => g_P g ad dsR 14 r.2 J t.heap) (g_A ad 14)) args9 s9 0 0 (g_A ad 14)) (F0 m9 16 ls [])) := by
    intro d16
    induction d16 with
    | zero =>
      intro y m hR h1 hi hy H locs ls hP hS hl
      exact absurd (show 1 = 0 from absurd hR (by simp [itR])) (by omega)
    | succ d16 ih16 =>
      intro y m hR h1 hi hy H locs ls hP hS hl
      obtain rfl | ⟨f, rfl⟩ : y = 0 ∨ ∃ f, y = f + 1 := by cases y with | zero => exact Or.inl rfl | succ f => exact Or.inr ⟨f, rfl⟩
      · have hl : lv_has ls 5 [(2, .int (nI 4294967295)), (0, .ref (ad 0)), (1, .int (nI most))] := by rw [show nI 0 - nI 1 = nI 4294967295 from by decide] at hl; exact hl
        have hR1 : (false, m) = r := Option.some.inj hR
        refine lv_iload_n hx hb dX6_sharesBy_16 rfl (lv_at hl 0 rfl) ?_
        refine x_ylt (u := (-1 : Int)) (tgt := 177) hx hb (rfl) dX6_sharesBy_17 (by decide) (fun h_1 => ?_) (fun h_1 => (by omega : False).elim)
        refine lv_iload_n hx hb dX6_sharesBy_177 rfl (lv_at hl 0 rfl) ?_
        refine x_ylt (u := (-1 : Int)) (tgt := 185) hx hb (rfl) dX6_sharesBy_178 (by decide) (fun h_2 => ?_) (fun h_2 => (by omega : False).elim)
        refine lv_iconst (v := nI 0) hx hb dX6_sharesBy_185 (by decide) ?_
        exact x_retz hx hb hr9 hlk9 hS (by rw [← hR1]; exact hP) (by rw [← hR1]; rfl) (rfl) dX6_sharesBy_186
      · have hl : lv_has ls 5 [(2, .int (nI f)), (0, .ref (ad 0)), (1, .int (nI most))] := by rw [show nI (f + 1) - nI 1 = nI f from pk_sub (by omega)] at hl; exact hl
        rw [itR_s] at hR
        have e73 : m 1 73 = M 1 73 := by rw [h1]
        have hwm : wfR m := hw.of h1
        have bU := usedN_le (r := m 6) (n := f) (B := 5) (fun e he => (hi.1 e (by omega)).1)
        have bL := stL_le hi (Nat.lt_succ_self f)
        have bC := (hi.1 f (Nat.lt_succ_self f)).1
        have bN := stN_6 hi (Nat.lt_succ_self f)
        have b7 := stN_7 hi (Nat.lt_succ_self f)
        refine lv_iload_n hx hb dX6_sharesBy_16 rfl (lv_at hl 0 rfl) ?_
        refine x_ylt (u := (f : Nat)) (tgt := 177) hx hb (nI_toInt (by omega)) dX6_sharesBy_17 (by decide) (fun h_3 => (by omega : False).elim) (fun h_3 => ?_)
        refine lv_iload_n hx hb dX6_sharesBy_20 rfl (lv_at hl 0 rfl) ?_
        refine lv_aload_n hx hb dX6_sharesBy_21 rfl (lv_at hl 1 rfl) ?_
        refine x_getr CF hK hP 0 (by decide) dR_0 rfl uX6 0 (by decide) (j := 1) rfl wd3_96 rfl dX6_sharesBy_22 ?_
        refine lv_bipush (v := nI 73) hx hb dX6_sharesBy_25 (by decide) ?_
        refine x_iald CF hK hP 1 (by decide) dR_1 73 (by omega) (by decide) dX6_sharesBy_27 ?_
        refine x_ri (show (nI (m 1 73)) = nI (M 1 73) from congrArg nI e73) ?_
        refine x_zge (u := (f : Nat)) (v := (M 1 73 : Nat)) (tgt := 177) hx hb (nI_toInt (by omega)) (nI_toInt (by omega)) dX6_sharesBy_28 (by decide) (fun h_4 => ?_) (fun h_4 => ?_)
        · refine lv_iload_n hx hb dX6_sharesBy_177 rfl (lv_at hl 0 rfl) ?_
          refine x_ylt (u := (f : Nat)) (tgt := 185) hx hb (nI_toInt (by omega)) dX6_sharesBy_178 (by decide) (fun h_5 => (by omega : False).elim) (fun h_5 => ?_)
          refine lv_iconst (v := nI 1) hx hb dX6_sharesBy_181 (by decide) ?_
          refine lv_goto (tgt := 186) hx hb dX6_sharesBy_182 (by decide) ?_
          exact x_retz hx hb hr9 hlk9 hS (by rw [if_pos (by omega)] at hR; rw [← Option.some.inj hR]; exact hP) (by rw [if_pos (by omega)] at hR; rw [← Option.some.inj hR]; rfl) (rfl) dX6_sharesBy_186
        · refine lv_aload_n hx hb dX6_sharesBy_31 rfl (lv_at hl 1 rfl) ?_
          refine lv_iload_n hx hb dX6_sharesBy_32 rfl (lv_at hl 0 rfl) ?_
          refine x_callVI CF hK hP hS hA hl (As := [.int (nI f)]) (rest := []) (r_camsUsed hI m J f (by omega) (fun e he => (hi.1 e (by omega)).1)) kw_X6_camsUsed wd4_36 (by decide) dR_0 rfl rfl ⟨Nat.le_of_ble_eq_true rfl, Nat.le_of_ble_eq_true rfl⟩ ⟨Nat.le_refl _, Nat.le_refl _⟩ (Nat.le_of_ble_eq_true rfl) dX6_sharesBy_33 (fun H locs hP hS => ?_)
          refine lv_istore_n (lv' := [(3, .int (nI (usedN (m 6) f))), (2, .int (nI f)), (0, .ref (ad 0)), (1, .int (nI most))]) hx hb dX6_sharesBy_36 rfl hl (by decide) rfl (fun ls hl => ?_)
          refine lv_aload_n hx hb dX6_sharesBy_37 rfl (lv_at hl 2 rfl) ?_
          refine x_getr CF hK hP 0 (by decide) dR_0 rfl uX6 8 (by decide) (j := 7) rfl wd3_104 rfl dX6_sharesBy_38 ?_
          refine lv_iload_n hx hb dX6_sharesBy_41 rfl (lv_at hl 1 rfl) ?_
          refine lv_dup2_11 hx hb dX6_sharesBy_42 rfl rfl ?_
          refine x_iald CF hK hP 7 (by decide) dR_7 f (by omega) (by decide) dX6_sharesBy_43 ?_
          refine lv_iconst (v := nI 1) hx hb dX6_sharesBy_44 (by decide) ?_
          refine x_iadd hx hb dX6_sharesBy_45 ?_
          refine x_ri (show (nI ((m 7 f) + 1)) = nI (stL m f) from n_mod32 _) ?_
          refine x_iast CF hK hI hA hP hS 7 (by decide) dR_7 f (by omega) (by decide) (stL m f) dX6_sharesBy_46 (fun H locs hP hS => ?_)
          refine lv_aload_n hx hb dX6_sharesBy_47 rfl (lv_at hl 2 rfl) ?_
          refine x_getr CF hK hP 0 (by decide) dR_0 rfl uX6 7 (by decide) (j := 6) rfl wd3_103 rfl dX6_sharesBy_48 ?_
          refine lv_iload_n hx hb dX6_sharesBy_51 rfl (lv_at hl 1 rfl) ?_
          refine x_iald CF hK hP 6 (by decide) dR_6 f (by omega) (by decide) dX6_sharesBy_52 ?_
          refine x_ri (show (nI ((u2 m 7 f (stL m f)) 6 f)) = nI (m 6 f) from congrArg nI (by simp [u2])) ?_
          refine lv_iload_n hx hb dX6_sharesBy_53 rfl (lv_at hl 0 rfl) ?_
          refine x_zne (u := (m 6 f : Nat)) (v := (usedN (m 6) f : Nat)) (tgt := 61) hx hb (nI_toInt (by omega)) (nI_toInt (by omega)) dX6_sharesBy_54 (by decide) (fun h_6 => ?_) (fun h_6 => ?_)
          · refine lv_iconst (v := nI 0) hx hb dX6_sharesBy_61 (by decide) ?_
            refine lv_istore (lv' := [(4, .int (nI 0)), (3, .int (nI (usedN (m 6) f))), (2, .int (nI f)), (0, .ref (ad 0)), (1, .int (nI most))]) hx hb dX6_sharesBy_62 hl (by decide) rfl (fun ls hl => ?_)
            refine lv_aload_n hx hb dX6_sharesBy_64 rfl (lv_at hl 3 rfl) ?_
            refine x_getr CF hK hP 0 (by decide) dR_0 rfl uX6 8 (by decide) (j := 7) rfl wd3_104 rfl dX6_sharesBy_65 ?_
            refine lv_iload_n hx hb dX6_sharesBy_68 rfl (lv_at hl 2 rfl) ?_
            refine x_iald CF hK hP 7 (by decide) dR_7 f (by omega) (by decide) dX6_sharesBy_69 ?_
            refine x_ri (show (nI ((u2 m 7 f (stL m f)) 7 f)) = nI (stL m f) from congrArg nI (u2_same _ _ _ _)) ?_
            refine lv_bipush (v := nI 12) hx hb dX6_sharesBy_70 (by decide) ?_
            refine x_zeq (u := (stL m f : Nat)) (v := (12 : Int)) (tgt := 89) hx hb (nI_toInt (by omega)) (rfl) dX6_sharesBy_72 (by decide) (fun h_7 => ?_) (fun h_7 => ?_)
            · refine lv_aload_n hx hb dX6_sharesBy_89 rfl (lv_at hl 3 rfl) ?_
              refine x_getr CF hK hP 0 (by decide) dR_0 rfl uX6 7 (by decide) (j := 6) rfl wd3_103 rfl dX6_sharesBy_90 ?_
              refine lv_iload_n hx hb dX6_sharesBy_93 rfl (lv_at hl 2 rfl) ?_
              refine lv_dup2_11 hx hb dX6_sharesBy_94 rfl rfl ?_
              refine x_iald CF hK hP 6 (by decide) dR_6 f (by omega) (by decide) dX6_sharesBy_95 ?_
              refine x_ri (show (nI ((u2 m 7 f (stL m f)) 6 f)) = nI (m 6 f) from congrArg nI (by simp [u2])) ?_
              refine lv_iconst (v := nI 1) hx hb dX6_sharesBy_96 (by decide) ?_
              refine x_iadd hx hb dX6_sharesBy_97 ?_
              refine x_iast CF hK hI hA hP hS 6 (by decide) dR_6 f (by omega) (by decide) ((m 6 f) + 1) dX6_sharesBy_98 (fun H locs hP hS => ?_)
              refine lv_aload_n hx hb dX6_sharesBy_99 rfl (lv_at hl 3 rfl) ?_
              refine x_getr CF hK hP 0 (by decide) dR_0 rfl uX6 8 (by decide) (j := 7) rfl wd3_104 rfl dX6_sharesBy_100 ?_
              refine lv_iload_n hx hb dX6_sharesBy_103 rfl (lv_at hl 2 rfl) ?_
              refine lv_iconst (v := nI 0) hx hb dX6_sharesBy_104 (by decide) ?_
              refine x_iast CF hK hI hA hP hS 7 (by decide) dR_7 f (by omega) (by decide) 0 dX6_sharesBy_105 (fun H locs hP hS => ?_)
              refine lv_aload_n hx hb dX6_sharesBy_106 rfl (lv_at hl 3 rfl) ?_
              refine x_getr CF hK hP 0 (by decide) dR_0 rfl uX6 7 (by decide) (j := 6) rfl wd3_103 rfl dX6_sharesBy_107 ?_
              refine lv_iload_n hx hb dX6_sharesBy_110 rfl (lv_at hl 2 rfl) ?_
              refine x_iald CF hK hP 6 (by decide) dR_6 f (by omega) (by decide) dX6_sharesBy_111 ?_
              refine x_ri (show (nI ((u2 (u2 (u2 m 7 f (stL m f)) 6 f ((m 6 f) + 1)) 7 f 0) 6 f)) = nI (m 6 f + 1) from congrArg nI (by simp [u2])) ?_
              refine lv_iload_n hx hb dX6_sharesBy_112 rfl (lv_at hl 1 rfl) ?_
              refine x_zne (u := (m 6 f + 1 : Nat)) (v := (usedN (m 6) f : Nat)) (tgt := 120) hx hb (nI_toInt (by omega)) (nI_toInt (by omega)) dX6_sharesBy_113 (by decide) (fun h_8 => ?_) (fun h_8 => ?_)
              · refine lv_iconst (v := nI 0) hx hb dX6_sharesBy_120 (by decide) ?_
                refine lv_istore (lv' := [(4, .int (nI 0)), (3, .int (nI (usedN (m 6) f))), (2, .int (nI f)), (0, .ref (ad 0)), (1, .int (nI most))]) hx hb dX6_sharesBy_121 hl (by decide) rfl (fun ls hl => ?_)
                have hP : g_P g ad dsR 14 (stN m f) J H := by rw [stN, if_pos (show stC m f from by unfold stC; omega)]; exact hP
                refine lv_aload_n hx hb dX6_sharesBy_123 rfl (lv_at hl 3 rfl) ?_
                refine x_getr CF hK hP 0 (by decide) dR_0 rfl uX6 7 (by decide) (j := 6) rfl wd3_103 rfl dX6_sharesBy_124 ?_
                refine lv_iload_n hx hb dX6_sharesBy_127 rfl (lv_at hl 2 rfl) ?_
                refine x_iald CF hK hP 6 (by decide) dR_6 f (by omega) (by decide) dX6_sharesBy_128 ?_
                refine lv_iload_n hx hb dX6_sharesBy_129 rfl (lv_at hl 1 rfl) ?_
                refine x_zgt (u := ((stN m f) 6 f : Nat)) (v := (usedN (m 6) f : Nat)) (tgt := 143) hx hb (nI_toInt (by omega)) (nI_toInt (by omega)) dX6_sharesBy_130 (by decide) (fun h_9 => ?_) (fun h_9 => ?_)
                · refine lv_iinc (v := nI f - nI 1) (lv' := [(2, .int (nI f - nI 1)), (4, .int (nI 0)), (3, .int (nI (usedN (m 6) f))), (0, .ref (ad 0)), (1, .int (nI most))]) hx hb dX6_sharesBy_143 hl (k := 2) rfl (n_dec0 f) (by decide) rfl (fun ls hl => ?_)
                  refine lv_goto (tgt := 174) hx hb dX6_sharesBy_146 (by decide) ?_
                  refine lv_goto (tgt := 16) hx hb dX6_sharesBy_174 (by decide) ?_
                  have hl0 : lv_has ls 5 [(2, .int (nI f - nI 1)), (0, .ref (ad 0)), (1, .int (nI most))] := lv_sub hl [0, 3, 4] rfl
                  exact ih16 f (stN m f) (by rw [if_neg (by omega), if_pos (show stO most m f from by unfold stO; omega)] at hR; exact hR) (by rw [stN_row (by decide) (by decide)]; exact h1) (hi.st) (by omega) _ _ _ (hP) hS hl0
                · refine lv_aload_n hx hb dX6_sharesBy_133 rfl (lv_at hl 3 rfl) ?_
                  refine x_getr CF hK hP 0 (by decide) dR_0 rfl uX6 7 (by decide) (j := 6) rfl wd3_103 rfl dX6_sharesBy_134 ?_
                  refine lv_iload_n hx hb dX6_sharesBy_137 rfl (lv_at hl 2 rfl) ?_
                  refine x_iald CF hK hP 6 (by decide) dR_6 f (by omega) (by decide) dX6_sharesBy_138 ?_
                  refine lv_iload_n hx hb dX6_sharesBy_139 rfl (lv_at hl 4 rfl) ?_
                  refine x_zlt (u := ((stN m f) 6 f : Nat)) (v := (most : Nat)) (tgt := 149) hx hb (nI_toInt (by omega)) (nI_toInt (by omega)) dX6_sharesBy_140 (by decide) (fun h_10 => ?_) (fun h_10 => ?_)
                  · refine lv_aload_n hx hb dX6_sharesBy_149 rfl (lv_at hl 3 rfl) ?_
                    refine lv_iload_n hx hb dX6_sharesBy_150 rfl (lv_at hl 2 rfl) ?_
                    refine x_callVI CF hK hP hS hA hl (As := [.int (nI f)]) (rest := []) (r_puts hI (stN m f) J (hwm.of (stN_row (by decide) (by decide))) f (by omega) (by omega) (by omega) hi.st.2) kw_X6_puts wd4_40 (by decide) dR_0 rfl rfl ⟨Nat.le_of_ble_eq_true rfl, Nat.le_of_ble_eq_true rfl⟩ ⟨Nat.le_refl _, Nat.le_refl _⟩ (Nat.le_of_ble_eq_true rfl) dX6_sharesBy_151 (fun H locs hP hS => ?_)
                    refine x_yeq (u := (b2n (putB (stN m f) f) : Nat)) (tgt := 174) hx hb (nI_toInt (Nat.lt_of_le_of_lt (b2n_le _) (by decide))) dX6_sharesBy_154 (by decide) (fun h_11 => ?_) (fun h_11 => ?_)
                    · refine lv_goto (tgt := 16) hx hb dX6_sharesBy_174 (by decide) ?_
                      have hl0 : lv_has ls 5 [(2, .int (nI (f + 1) - nI 1)), (0, .ref (ad 0)), (1, .int (nI most))] := by rw [(show nI (f + 1) - nI 1 = nI f from pk_sub (by omega))]; exact lv_sub hl [2, 3, 4] rfl
                      exact ih16 (f + 1) (putM (stN m f) f) (by rw [if_neg (by omega), if_neg (show ¬ stO most m f from by unfold stO; omega), if_neg (by rw [b2n_0 h_11]; decide)] at hR; exact hR) (by rw [putM_row (by decide), stN_row (by decide) (by decide)]; exact h1) ((hi.st1 (by omega)).put) (by omega) _ _ _ (hP) hS hl0
                    · refine lv_iinc (v := nI (f + 1)) (lv' := [(2, .int (nI (f + 1))), (4, .int (nI 0)), (3, .int (nI (usedN (m 6) f))), (0, .ref (ad 0)), (1, .int (nI most))]) hx hb dX6_sharesBy_157 hl (k := 2) rfl (n_inc f 1) (by decide) rfl (fun ls hl => ?_)
                      refine lv_aload_n hx hb dX6_sharesBy_160 rfl (lv_at hl 3 rfl) ?_
                      refine x_getr CF hK hP 0 (by decide) dR_0 rfl uX6 7 (by decide) (j := 6) rfl wd3_103 rfl dX6_sharesBy_161 ?_
                      refine lv_iload_n hx hb dX6_sharesBy_164 rfl (lv_at hl 0 rfl) ?_
                      refine lv_iconst (v := nI 0) hx hb dX6_sharesBy_165 (by decide) ?_
                      refine x_iast CF hK hI hA hP hS 6 (by decide) dR_6 (f + 1) (by omega) (by decide) 0 dX6_sharesBy_166 (fun H locs hP hS => ?_)
                      refine lv_aload_n hx hb dX6_sharesBy_167 rfl (lv_at hl 3 rfl) ?_
                      refine x_getr CF hK hP 0 (by decide) dR_0 rfl uX6 8 (by decide) (j := 7) rfl wd3_104 rfl dX6_sharesBy_168 ?_
                      refine lv_iload_n hx hb dX6_sharesBy_171 rfl (lv_at hl 0 rfl) ?_
                      refine lv_iconst (v := nI 4294967295) hx hb dX6_sharesBy_172 (by decide) ?_
                      refine x_iast CF hK hI hA hP hS 7 (by decide) dR_7 (f + 1) (by omega) (by decide) 4294967295 dX6_sharesBy_173 (fun H locs hP hS => ?_)
                      refine lv_goto (tgt := 16) hx hb dX6_sharesBy_174 (by decide) ?_
                      have hl0 : lv_has ls 5 [(2, .int (nI (f + 2) - nI 1)), (0, .ref (ad 0)), (1, .int (nI most))] := by rw [(show nI (f + 2) - nI 1 = nI (f + 1) from pk_sub (by omega))]; exact lv_sub hl [0, 3, 4] rfl
                      exact ih16 (f + 2) (nxM (stN m f) f) (by rw [if_neg (by omega), if_neg (show ¬ stO most m f from by unfold stO; omega), if_pos (b2n_1 h_11)] at hR; exact hR) (by rw [nxM_1, stN_row (by decide) (by decide)]; exact h1) ((hi.st1 (by omega)).nx) (by omega) _ _ _ (hP) hS hl0
                  · refine lv_iinc (v := nI f - nI 1) (lv' := [(2, .int (nI f - nI 1)), (4, .int (nI 0)), (3, .int (nI (usedN (m 6) f))), (0, .ref (ad 0)), (1, .int (nI most))]) hx hb dX6_sharesBy_143 hl (k := 2) rfl (n_dec0 f) (by decide) rfl (fun ls hl => ?_)
                    refine lv_goto (tgt := 174) hx hb dX6_sharesBy_146 (by decide) ?_
                    refine lv_goto (tgt := 16) hx hb dX6_sharesBy_174 (by decide) ?_
                    have hl0 : lv_has ls 5 [(2, .int (nI f - nI 1)), (0, .ref (ad 0)), (1, .int (nI most))] := lv_sub hl [0, 3, 4] rfl
                    exact ih16 f (stN m f) (by rw [if_neg (by omega), if_pos (show stO most m f from by unfold stO; omega)] at hR; exact hR) (by rw [stN_row (by decide) (by decide)]; exact h1) (hi.st) (by omega) _ _ _ (hP) hS hl0
              · refine lv_iconst (v := nI 1) hx hb dX6_sharesBy_116 (by decide) ?_
                refine lv_goto (tgt := 121) hx hb dX6_sharesBy_117 (by decide) ?_
                refine lv_istore (lv' := [(4, .int (nI 1)), (3, .int (nI (usedN (m 6) f))), (2, .int (nI f)), (0, .ref (ad 0)), (1, .int (nI most))]) hx hb dX6_sharesBy_121 hl (by decide) rfl (fun ls hl => ?_)
                have hP : g_P g ad dsR 14 (stN m f) J H := by rw [stN, if_pos (show stC m f from by unfold stC; omega)]; exact hP
                refine lv_aload_n hx hb dX6_sharesBy_123 rfl (lv_at hl 3 rfl) ?_
                refine x_getr CF hK hP 0 (by decide) dR_0 rfl uX6 7 (by decide) (j := 6) rfl wd3_103 rfl dX6_sharesBy_124 ?_
                refine lv_iload_n hx hb dX6_sharesBy_127 rfl (lv_at hl 2 rfl) ?_
                refine x_iald CF hK hP 6 (by decide) dR_6 f (by omega) (by decide) dX6_sharesBy_128 ?_
                refine lv_iload_n hx hb dX6_sharesBy_129 rfl (lv_at hl 1 rfl) ?_
                refine x_zgt (u := ((stN m f) 6 f : Nat)) (v := (usedN (m 6) f : Nat)) (tgt := 143) hx hb (nI_toInt (by omega)) (nI_toInt (by omega)) dX6_sharesBy_130 (by decide) (fun h_12 => ?_) (fun h_12 => ?_)
                · refine lv_iinc (v := nI f - nI 1) (lv' := [(2, .int (nI f - nI 1)), (4, .int (nI 1)), (3, .int (nI (usedN (m 6) f))), (0, .ref (ad 0)), (1, .int (nI most))]) hx hb dX6_sharesBy_143 hl (k := 2) rfl (n_dec0 f) (by decide) rfl (fun ls hl => ?_)
                  refine lv_goto (tgt := 174) hx hb dX6_sharesBy_146 (by decide) ?_
                  refine lv_goto (tgt := 16) hx hb dX6_sharesBy_174 (by decide) ?_
                  have hl0 : lv_has ls 5 [(2, .int (nI f - nI 1)), (0, .ref (ad 0)), (1, .int (nI most))] := lv_sub hl [0, 3, 4] rfl
                  exact ih16 f (stN m f) (by rw [if_neg (by omega), if_pos (show stO most m f from by unfold stO; omega)] at hR; exact hR) (by rw [stN_row (by decide) (by decide)]; exact h1) (hi.st) (by omega) _ _ _ (hP) hS hl0
                · refine lv_aload_n hx hb dX6_sharesBy_133 rfl (lv_at hl 3 rfl) ?_
                  refine x_getr CF hK hP 0 (by decide) dR_0 rfl uX6 7 (by decide) (j := 6) rfl wd3_103 rfl dX6_sharesBy_134 ?_
                  refine lv_iload_n hx hb dX6_sharesBy_137 rfl (lv_at hl 2 rfl) ?_
                  refine x_iald CF hK hP 6 (by decide) dR_6 f (by omega) (by decide) dX6_sharesBy_138 ?_
                  refine lv_iload_n hx hb dX6_sharesBy_139 rfl (lv_at hl 4 rfl) ?_
                  refine x_zlt (u := ((stN m f) 6 f : Nat)) (v := (most : Nat)) (tgt := 149) hx hb (nI_toInt (by omega)) (nI_toInt (by omega)) dX6_sharesBy_140 (by decide) (fun h_13 => ?_) (fun h_13 => ?_)
                  · refine lv_aload_n hx hb dX6_sharesBy_149 rfl (lv_at hl 3 rfl) ?_
                    refine lv_iload_n hx hb dX6_sharesBy_150 rfl (lv_at hl 2 rfl) ?_
                    refine x_callVI CF hK hP hS hA hl (As := [.int (nI f)]) (rest := []) (r_puts hI (stN m f) J (hwm.of (stN_row (by decide) (by decide))) f (by omega) (by omega) (by omega) hi.st.2) kw_X6_puts wd4_40 (by decide) dR_0 rfl rfl ⟨Nat.le_of_ble_eq_true rfl, Nat.le_of_ble_eq_true rfl⟩ ⟨Nat.le_refl _, Nat.le_refl _⟩ (Nat.le_of_ble_eq_true rfl) dX6_sharesBy_151 (fun H locs hP hS => ?_)
                    refine x_yeq (u := (b2n (putB (stN m f) f) : Nat)) (tgt := 174) hx hb (nI_toInt (Nat.lt_of_le_of_lt (b2n_le _) (by decide))) dX6_sharesBy_154 (by decide) (fun h_14 => ?_) (fun h_14 => ?_)
                    · refine lv_goto (tgt := 16) hx hb dX6_sharesBy_174 (by decide) ?_
                      have hl0 : lv_has ls 5 [(2, .int (nI (f + 1) - nI 1)), (0, .ref (ad 0)), (1, .int (nI most))] := by rw [(show nI (f + 1) - nI 1 = nI f from pk_sub (by omega))]; exact lv_sub hl [2, 3, 4] rfl
                      exact ih16 (f + 1) (putM (stN m f) f) (by rw [if_neg (by omega), if_neg (show ¬ stO most m f from by unfold stO; omega), if_neg (by rw [b2n_0 h_14]; decide)] at hR; exact hR) (by rw [putM_row (by decide), stN_row (by decide) (by decide)]; exact h1) ((hi.st1 (by omega)).put) (by omega) _ _ _ (hP) hS hl0
                    · refine lv_iinc (v := nI (f + 1)) (lv' := [(2, .int (nI (f + 1))), (4, .int (nI 1)), (3, .int (nI (usedN (m 6) f))), (0, .ref (ad 0)), (1, .int (nI most))]) hx hb dX6_sharesBy_157 hl (k := 2) rfl (n_inc f 1) (by decide) rfl (fun ls hl => ?_)
                      refine lv_aload_n hx hb dX6_sharesBy_160 rfl (lv_at hl 3 rfl) ?_
                      refine x_getr CF hK hP 0 (by decide) dR_0 rfl uX6 7 (by decide) (j := 6) rfl wd3_103 rfl dX6_sharesBy_161 ?_
                      refine lv_iload_n hx hb dX6_sharesBy_164 rfl (lv_at hl 0 rfl) ?_
                      refine lv_iconst (v := nI 0) hx hb dX6_sharesBy_165 (by decide) ?_
                      refine x_iast CF hK hI hA hP hS 6 (by decide) dR_6 (f + 1) (by omega) (by decide) 0 dX6_sharesBy_166 (fun H locs hP hS => ?_)
                      refine lv_aload_n hx hb dX6_sharesBy_167 rfl (lv_at hl 3 rfl) ?_
                      refine x_getr CF hK hP 0 (by decide) dR_0 rfl uX6 8 (by decide) (j := 7) rfl wd3_104 rfl dX6_sharesBy_168 ?_
                      refine lv_iload_n hx hb dX6_sharesBy_171 rfl (lv_at hl 0 rfl) ?_
                      refine lv_iconst (v := nI 4294967295) hx hb dX6_sharesBy_172 (by decide) ?_
                      refine x_iast CF hK hI hA hP hS 7 (by decide) dR_7 (f + 1) (by omega) (by decide) 4294967295 dX6_sharesBy_173 (fun H locs hP hS => ?_)
                      refine lv_goto (tgt := 16) hx hb dX6_sharesBy_174 (by decide) ?_
                      have hl0 : lv_has ls 5 [(2, .int (nI (f + 2) - nI 1)), (0, .ref (ad 0)), (1, .int (nI most))] := by rw [(show nI (f + 2) - nI 1 = nI (f + 1) from pk_sub (by omega))]; exact lv_sub hl [0, 3, 4] rfl
                      exact ih16 (f + 2) (nxM (stN m f) f) (by rw [if_neg (by omega), if_neg (show ¬ stO most m f from by unfold stO; omega), if_pos (b2n_1 h_14)] at hR; exact hR) (by rw [nxM_1, stN_row (by decide) (by decide)]; exact h1) ((hi.st1 (by omega)).nx) (by omega) _ _ _ (hP) hS hl0
                  · refine lv_iinc (v := nI f - nI 1) (lv' := [(2, .int (nI f - nI 1)), (4, .int (nI 1)), (3, .int (nI (usedN (m 6) f))), (0, .ref (ad 0)), (1, .int (nI most))]) hx hb dX6_sharesBy_143 hl (k := 2) rfl (n_dec0 f) (by decide) rfl (fun ls hl => ?_)
                    refine lv_goto (tgt := 174) hx hb dX6_sharesBy_146 (by decide) ?_
                    refine lv_goto (tgt := 16) hx hb dX6_sharesBy_174 (by decide) ?_
                    have hl0 : lv_has ls 5 [(2, .int (nI f - nI 1)), (0, .ref (ad 0)), (1, .int (nI most))] := lv_sub hl [0, 3, 4] rfl
                    exact ih16 f (stN m f) (by rw [if_neg (by omega), if_pos (show stO most m f from by unfold stO; omega)] at hR; exact hR) (by rw [stN_row (by decide) (by decide)]; exact h1) (hi.st) (by omega) _ _ _ (hP) hS hl0
            · refine lv_iload hx hb dX6_sharesBy_75 (lv_at hl 0 rfl) ?_
              refine x_yeq (u := (0 : Int)) (tgt := 123) hx hb (rfl) dX6_sharesBy_77 (by decide) (fun h_15 => ?_) (fun h_15 => (by omega : False).elim)
              have hP : g_P g ad dsR 14 (stN m f) J H := by rw [stN, if_neg (show ¬ stC m f from by unfold stC; omega)]; exact hP
              refine lv_aload_n hx hb dX6_sharesBy_123 rfl (lv_at hl 3 rfl) ?_
              refine x_getr CF hK hP 0 (by decide) dR_0 rfl uX6 7 (by decide) (j := 6) rfl wd3_103 rfl dX6_sharesBy_124 ?_
              refine lv_iload_n hx hb dX6_sharesBy_127 rfl (lv_at hl 2 rfl) ?_
              refine x_iald CF hK hP 6 (by decide) dR_6 f (by omega) (by decide) dX6_sharesBy_128 ?_
              refine lv_iload_n hx hb dX6_sharesBy_129 rfl (lv_at hl 1 rfl) ?_
              refine x_zgt (u := ((stN m f) 6 f : Nat)) (v := (usedN (m 6) f : Nat)) (tgt := 143) hx hb (nI_toInt (by omega)) (nI_toInt (by omega)) dX6_sharesBy_130 (by decide) (fun h_16 => ?_) (fun h_16 => ?_)
              · refine lv_iinc (v := nI f - nI 1) (lv' := [(2, .int (nI f - nI 1)), (4, .int (nI 0)), (3, .int (nI (usedN (m 6) f))), (0, .ref (ad 0)), (1, .int (nI most))]) hx hb dX6_sharesBy_143 hl (k := 2) rfl (n_dec0 f) (by decide) rfl (fun ls hl => ?_)
                refine lv_goto (tgt := 174) hx hb dX6_sharesBy_146 (by decide) ?_
                refine lv_goto (tgt := 16) hx hb dX6_sharesBy_174 (by decide) ?_
                have hl0 : lv_has ls 5 [(2, .int (nI f - nI 1)), (0, .ref (ad 0)), (1, .int (nI most))] := lv_sub hl [0, 3, 4] rfl
                exact ih16 f (stN m f) (by rw [if_neg (by omega), if_pos (show stO most m f from by unfold stO; omega)] at hR; exact hR) (by rw [stN_row (by decide) (by decide)]; exact h1) (hi.st) (by omega) _ _ _ (hP) hS hl0
              · refine lv_aload_n hx hb dX6_sharesBy_133 rfl (lv_at hl 3 rfl) ?_
                refine x_getr CF hK hP 0 (by decide) dR_0 rfl uX6 7 (by decide) (j := 6) rfl wd3_103 rfl dX6_sharesBy_134 ?_
                refine lv_iload_n hx hb dX6_sharesBy_137 rfl (lv_at hl 2 rfl) ?_
                refine x_iald CF hK hP 6 (by decide) dR_6 f (by omega) (by decide) dX6_sharesBy_138 ?_
                refine lv_iload_n hx hb dX6_sharesBy_139 rfl (lv_at hl 4 rfl) ?_
                refine x_zlt (u := ((stN m f) 6 f : Nat)) (v := (most : Nat)) (tgt := 149) hx hb (nI_toInt (by omega)) (nI_toInt (by omega)) dX6_sharesBy_140 (by decide) (fun h_17 => ?_) (fun h_17 => ?_)
                · refine lv_aload_n hx hb dX6_sharesBy_149 rfl (lv_at hl 3 rfl) ?_
                  refine lv_iload_n hx hb dX6_sharesBy_150 rfl (lv_at hl 2 rfl) ?_
                  refine x_callVI CF hK hP hS hA hl (As := [.int (nI f)]) (rest := []) (r_puts hI (stN m f) J (hwm.of (stN_row (by decide) (by decide))) f (by omega) (by omega) (by omega) hi.st.2) kw_X6_puts wd4_40 (by decide) dR_0 rfl rfl ⟨Nat.le_of_ble_eq_true rfl, Nat.le_of_ble_eq_true rfl⟩ ⟨Nat.le_refl _, Nat.le_refl _⟩ (Nat.le_of_ble_eq_true rfl) dX6_sharesBy_151 (fun H locs hP hS => ?_)
                  refine x_yeq (u := (b2n (putB (stN m f) f) : Nat)) (tgt := 174) hx hb (nI_toInt (Nat.lt_of_le_of_lt (b2n_le _) (by decide))) dX6_sharesBy_154 (by decide) (fun h_18 => ?_) (fun h_18 => ?_)
                  · refine lv_goto (tgt := 16) hx hb dX6_sharesBy_174 (by decide) ?_
                    have hl0 : lv_has ls 5 [(2, .int (nI (f + 1) - nI 1)), (0, .ref (ad 0)), (1, .int (nI most))] := by rw [(show nI (f + 1) - nI 1 = nI f from pk_sub (by omega))]; exact lv_sub hl [2, 3, 4] rfl
                    exact ih16 (f + 1) (putM (stN m f) f) (by rw [if_neg (by omega), if_neg (show ¬ stO most m f from by unfold stO; omega), if_neg (by rw [b2n_0 h_18]; decide)] at hR; exact hR) (by rw [putM_row (by decide), stN_row (by decide) (by decide)]; exact h1) ((hi.st1 (by omega)).put) (by omega) _ _ _ (hP) hS hl0
                  · refine lv_iinc (v := nI (f + 1)) (lv' := [(2, .int (nI (f + 1))), (4, .int (nI 0)), (3, .int (nI (usedN (m 6) f))), (0, .ref (ad 0)), (1, .int (nI most))]) hx hb dX6_sharesBy_157 hl (k := 2) rfl (n_inc f 1) (by decide) rfl (fun ls hl => ?_)
                    refine lv_aload_n hx hb dX6_sharesBy_160 rfl (lv_at hl 3 rfl) ?_
                    refine x_getr CF hK hP 0 (by decide) dR_0 rfl uX6 7 (by decide) (j := 6) rfl wd3_103 rfl dX6_sharesBy_161 ?_
                    refine lv_iload_n hx hb dX6_sharesBy_164 rfl (lv_at hl 0 rfl) ?_
                    refine lv_iconst (v := nI 0) hx hb dX6_sharesBy_165 (by decide) ?_
                    refine x_iast CF hK hI hA hP hS 6 (by decide) dR_6 (f + 1) (by omega) (by decide) 0 dX6_sharesBy_166 (fun H locs hP hS => ?_)
                    refine lv_aload_n hx hb dX6_sharesBy_167 rfl (lv_at hl 3 rfl) ?_
                    refine x_getr CF hK hP 0 (by decide) dR_0 rfl uX6 8 (by decide) (j := 7) rfl wd3_104 rfl dX6_sharesBy_168 ?_
                    refine lv_iload_n hx hb dX6_sharesBy_171 rfl (lv_at hl 0 rfl) ?_
                    refine lv_iconst (v := nI 4294967295) hx hb dX6_sharesBy_172 (by decide) ?_
                    refine x_iast CF hK hI hA hP hS 7 (by decide) dR_7 (f + 1) (by omega) (by decide) 4294967295 dX6_sharesBy_173 (fun H locs hP hS => ?_)
                    refine lv_goto (tgt := 16) hx hb dX6_sharesBy_174 (by decide) ?_
                    have hl0 : lv_has ls 5 [(2, .int (nI (f + 2) - nI 1)), (0, .ref (ad 0)), (1, .int (nI most))] := by rw [(show nI (f + 2) - nI 1 = nI (f + 1) from pk_sub (by omega))]; exact lv_sub hl [0, 3, 4] rfl
                    exact ih16 (f + 2) (nxM (stN m f) f) (by rw [if_neg (by omega), if_neg (show ¬ stO most m f from by unfold stO; omega), if_pos (b2n_1 h_18)] at hR; exact hR) (by rw [nxM_1, stN_row (by decide) (by decide)]; exact h1) ((hi.st1 (by omega)).nx) (by omega) _ _ _ (hP) hS hl0
                · refine lv_iinc (v := nI f - nI 1) (lv' := [(2, .int (nI f - nI 1)), (4, .int (nI 0)), (3, .int (nI (usedN (m 6) f))), (0, .ref (ad 0)), (1, .int (nI most))]) hx hb dX6_sharesBy_143 hl (k := 2) rfl (n_dec0 f) (by decide) rfl (fun ls hl => ?_)
                  refine lv_goto (tgt := 174) hx hb dX6_sharesBy_146 (by decide) ?_
                  refine lv_goto (tgt := 16) hx hb dX6_sharesBy_174 (by decide) ?_
                  have hl0 : lv_has ls 5 [(2, .int (nI f - nI 1)), (0, .ref (ad 0)), (1, .int (nI most))] := lv_sub hl [0, 3, 4] rfl
                  exact ih16 f (stN m f) (by rw [if_neg (by omega), if_pos (show stO most m f from by unfold stO; omega)] at hR; exact hR) (by rw [stN_row (by decide) (by decide)]; exact h1) (hi.st) (by omega) _ _ _ (hP) hS hl0
          · refine lv_iconst (v := nI 1) hx hb dX6_sharesBy_57 (by decide) ?_
            refine lv_goto (tgt := 62) hx hb dX6_sharesBy_58 (by decide) ?_
            refine lv_istore (lv' := [(4, .int (nI 1)), (3, .int (nI (usedN (m 6) f))), (2, .int (nI f)), (0, .ref (ad 0)), (1, .int (nI most))]) hx hb dX6_sharesBy_62 hl (by decide) rfl (fun ls hl => ?_)
            refine lv_aload_n hx hb dX6_sharesBy_64 rfl (lv_at hl 3 rfl) ?_
            refine x_getr CF hK hP 0 (by decide) dR_0 rfl uX6 8 (by decide) (j := 7) rfl wd3_104 rfl dX6_sharesBy_65 ?_
            refine lv_iload_n hx hb dX6_sharesBy_68 rfl (lv_at hl 2 rfl) ?_
            refine x_iald CF hK hP 7 (by decide) dR_7 f (by omega) (by decide) dX6_sharesBy_69 ?_
            refine x_ri (show (nI ((u2 m 7 f (stL m f)) 7 f)) = nI (stL m f) from congrArg nI (u2_same _ _ _ _)) ?_
            refine lv_bipush (v := nI 12) hx hb dX6_sharesBy_70 (by decide) ?_
            refine x_zeq (u := (stL m f : Nat)) (v := (12 : Int)) (tgt := 89) hx hb (nI_toInt (by omega)) (rfl) dX6_sharesBy_72 (by decide) (fun h_19 => ?_) (fun h_19 => ?_)
            · refine lv_aload_n hx hb dX6_sharesBy_89 rfl (lv_at hl 3 rfl) ?_
              refine x_getr CF hK hP 0 (by decide) dR_0 rfl uX6 7 (by decide) (j := 6) rfl wd3_103 rfl dX6_sharesBy_90 ?_
              refine lv_iload_n hx hb dX6_sharesBy_93 rfl (lv_at hl 2 rfl) ?_
              refine lv_dup2_11 hx hb dX6_sharesBy_94 rfl rfl ?_
              refine x_iald CF hK hP 6 (by decide) dR_6 f (by omega) (by decide) dX6_sharesBy_95 ?_
              refine x_ri (show (nI ((u2 m 7 f (stL m f)) 6 f)) = nI (m 6 f) from congrArg nI (by simp [u2])) ?_
              refine lv_iconst (v := nI 1) hx hb dX6_sharesBy_96 (by decide) ?_
              refine x_iadd hx hb dX6_sharesBy_97 ?_
              refine x_iast CF hK hI hA hP hS 6 (by decide) dR_6 f (by omega) (by decide) ((m 6 f) + 1) dX6_sharesBy_98 (fun H locs hP hS => ?_)
              refine lv_aload_n hx hb dX6_sharesBy_99 rfl (lv_at hl 3 rfl) ?_
              refine x_getr CF hK hP 0 (by decide) dR_0 rfl uX6 8 (by decide) (j := 7) rfl wd3_104 rfl dX6_sharesBy_100 ?_
              refine lv_iload_n hx hb dX6_sharesBy_103 rfl (lv_at hl 2 rfl) ?_
              refine lv_iconst (v := nI 0) hx hb dX6_sharesBy_104 (by decide) ?_
              refine x_iast CF hK hI hA hP hS 7 (by decide) dR_7 f (by omega) (by decide) 0 dX6_sharesBy_105 (fun H locs hP hS => ?_)
              refine lv_aload_n hx hb dX6_sharesBy_106 rfl (lv_at hl 3 rfl) ?_
              refine x_getr CF hK hP 0 (by decide) dR_0 rfl uX6 7 (by decide) (j := 6) rfl wd3_103 rfl dX6_sharesBy_107 ?_
              refine lv_iload_n hx hb dX6_sharesBy_110 rfl (lv_at hl 2 rfl) ?_
              refine x_iald CF hK hP 6 (by decide) dR_6 f (by omega) (by decide) dX6_sharesBy_111 ?_
              refine x_ri (show (nI ((u2 (u2 (u2 m 7 f (stL m f)) 6 f ((m 6 f) + 1)) 7 f 0) 6 f)) = nI (m 6 f + 1) from congrArg nI (by simp [u2])) ?_
              refine lv_iload_n hx hb dX6_sharesBy_112 rfl (lv_at hl 1 rfl) ?_
              refine x_zne (u := (m 6 f + 1 : Nat)) (v := (usedN (m 6) f : Nat)) (tgt := 120) hx hb (nI_toInt (by omega)) (nI_toInt (by omega)) dX6_sharesBy_113 (by decide) (fun h_20 => ?_) (fun h_20 => ?_)
              · refine lv_iconst (v := nI 0) hx hb dX6_sharesBy_120 (by decide) ?_
                refine lv_istore (lv' := [(4, .int (nI 0)), (3, .int (nI (usedN (m 6) f))), (2, .int (nI f)), (0, .ref (ad 0)), (1, .int (nI most))]) hx hb dX6_sharesBy_121 hl (by decide) rfl (fun ls hl => ?_)
                have hP : g_P g ad dsR 14 (stN m f) J H := by rw [stN, if_pos (show stC m f from by unfold stC; omega)]; exact hP
                refine lv_aload_n hx hb dX6_sharesBy_123 rfl (lv_at hl 3 rfl) ?_
                refine x_getr CF hK hP 0 (by decide) dR_0 rfl uX6 7 (by decide) (j := 6) rfl wd3_103 rfl dX6_sharesBy_124 ?_
                refine lv_iload_n hx hb dX6_sharesBy_127 rfl (lv_at hl 2 rfl) ?_
                refine x_iald CF hK hP 6 (by decide) dR_6 f (by omega) (by decide) dX6_sharesBy_128 ?_
                refine lv_iload_n hx hb dX6_sharesBy_129 rfl (lv_at hl 1 rfl) ?_
                refine x_zgt (u := ((stN m f) 6 f : Nat)) (v := (usedN (m 6) f : Nat)) (tgt := 143) hx hb (nI_toInt (by omega)) (nI_toInt (by omega)) dX6_sharesBy_130 (by decide) (fun h_21 => ?_) (fun h_21 => ?_)
                · refine lv_iinc (v := nI f - nI 1) (lv' := [(2, .int (nI f - nI 1)), (4, .int (nI 0)), (3, .int (nI (usedN (m 6) f))), (0, .ref (ad 0)), (1, .int (nI most))]) hx hb dX6_sharesBy_143 hl (k := 2) rfl (n_dec0 f) (by decide) rfl (fun ls hl => ?_)
                  refine lv_goto (tgt := 174) hx hb dX6_sharesBy_146 (by decide) ?_
                  refine lv_goto (tgt := 16) hx hb dX6_sharesBy_174 (by decide) ?_
                  have hl0 : lv_has ls 5 [(2, .int (nI f - nI 1)), (0, .ref (ad 0)), (1, .int (nI most))] := lv_sub hl [0, 3, 4] rfl
                  exact ih16 f (stN m f) (by rw [if_neg (by omega), if_pos (show stO most m f from by unfold stO; omega)] at hR; exact hR) (by rw [stN_row (by decide) (by decide)]; exact h1) (hi.st) (by omega) _ _ _ (hP) hS hl0
                · refine lv_aload_n hx hb dX6_sharesBy_133 rfl (lv_at hl 3 rfl) ?_
                  refine x_getr CF hK hP 0 (by decide) dR_0 rfl uX6 7 (by decide) (j := 6) rfl wd3_103 rfl dX6_sharesBy_134 ?_
                  refine lv_iload_n hx hb dX6_sharesBy_137 rfl (lv_at hl 2 rfl) ?_
                  refine x_iald CF hK hP 6 (by decide) dR_6 f (by omega) (by decide) dX6_sharesBy_138 ?_
                  refine lv_iload_n hx hb dX6_sharesBy_139 rfl (lv_at hl 4 rfl) ?_
                  refine x_zlt (u := ((stN m f) 6 f : Nat)) (v := (most : Nat)) (tgt := 149) hx hb (nI_toInt (by omega)) (nI_toInt (by omega)) dX6_sharesBy_140 (by decide) (fun h_22 => ?_) (fun h_22 => ?_)
                  · refine lv_aload_n hx hb dX6_sharesBy_149 rfl (lv_at hl 3 rfl) ?_
                    refine lv_iload_n hx hb dX6_sharesBy_150 rfl (lv_at hl 2 rfl) ?_
                    refine x_callVI CF hK hP hS hA hl (As := [.int (nI f)]) (rest := []) (r_puts hI (stN m f) J (hwm.of (stN_row (by decide) (by decide))) f (by omega) (by omega) (by omega) hi.st.2) kw_X6_puts wd4_40 (by decide) dR_0 rfl rfl ⟨Nat.le_of_ble_eq_true rfl, Nat.le_of_ble_eq_true rfl⟩ ⟨Nat.le_refl _, Nat.le_refl _⟩ (Nat.le_of_ble_eq_true rfl) dX6_sharesBy_151 (fun H locs hP hS => ?_)
                    refine x_yeq (u := (b2n (putB (stN m f) f) : Nat)) (tgt := 174) hx hb (nI_toInt (Nat.lt_of_le_of_lt (b2n_le _) (by decide))) dX6_sharesBy_154 (by decide) (fun h_23 => ?_) (fun h_23 => ?_)
                    · refine lv_goto (tgt := 16) hx hb dX6_sharesBy_174 (by decide) ?_
                      have hl0 : lv_has ls 5 [(2, .int (nI (f + 1) - nI 1)), (0, .ref (ad 0)), (1, .int (nI most))] := by rw [(show nI (f + 1) - nI 1 = nI f from pk_sub (by omega))]; exact lv_sub hl [2, 3, 4] rfl
                      exact ih16 (f + 1) (putM (stN m f) f) (by rw [if_neg (by omega), if_neg (show ¬ stO most m f from by unfold stO; omega), if_neg (by rw [b2n_0 h_23]; decide)] at hR; exact hR) (by rw [putM_row (by decide), stN_row (by decide) (by decide)]; exact h1) ((hi.st1 (by omega)).put) (by omega) _ _ _ (hP) hS hl0
                    · refine lv_iinc (v := nI (f + 1)) (lv' := [(2, .int (nI (f + 1))), (4, .int (nI 0)), (3, .int (nI (usedN (m 6) f))), (0, .ref (ad 0)), (1, .int (nI most))]) hx hb dX6_sharesBy_157 hl (k := 2) rfl (n_inc f 1) (by decide) rfl (fun ls hl => ?_)
                      refine lv_aload_n hx hb dX6_sharesBy_160 rfl (lv_at hl 3 rfl) ?_
                      refine x_getr CF hK hP 0 (by decide) dR_0 rfl uX6 7 (by decide) (j := 6) rfl wd3_103 rfl dX6_sharesBy_161 ?_
                      refine lv_iload_n hx hb dX6_sharesBy_164 rfl (lv_at hl 0 rfl) ?_
                      refine lv_iconst (v := nI 0) hx hb dX6_sharesBy_165 (by decide) ?_
                      refine x_iast CF hK hI hA hP hS 6 (by decide) dR_6 (f + 1) (by omega) (by decide) 0 dX6_sharesBy_166 (fun H locs hP hS => ?_)
                      refine lv_aload_n hx hb dX6_sharesBy_167 rfl (lv_at hl 3 rfl) ?_
                      refine x_getr CF hK hP 0 (by decide) dR_0 rfl uX6 8 (by decide) (j := 7) rfl wd3_104 rfl dX6_sharesBy_168 ?_
                      refine lv_iload_n hx hb dX6_sharesBy_171 rfl (lv_at hl 0 rfl) ?_
                      refine lv_iconst (v := nI 4294967295) hx hb dX6_sharesBy_172 (by decide) ?_
                      refine x_iast CF hK hI hA hP hS 7 (by decide) dR_7 (f + 1) (by omega) (by decide) 4294967295 dX6_sharesBy_173 (fun H locs hP hS => ?_)
                      refine lv_goto (tgt := 16) hx hb dX6_sharesBy_174 (by decide) ?_
                      have hl0 : lv_has ls 5 [(2, .int (nI (f + 2) - nI 1)), (0, .ref (ad 0)), (1, .int (nI most))] := by rw [(show nI (f + 2) - nI 1 = nI (f + 1) from pk_sub (by omega))]; exact lv_sub hl [0, 3, 4] rfl
                      exact ih16 (f + 2) (nxM (stN m f) f) (by rw [if_neg (by omega), if_neg (show ¬ stO most m f from by unfold stO; omega), if_pos (b2n_1 h_23)] at hR; exact hR) (by rw [nxM_1, stN_row (by decide) (by decide)]; exact h1) ((hi.st1 (by omega)).nx) (by omega) _ _ _ (hP) hS hl0
                  · refine lv_iinc (v := nI f - nI 1) (lv' := [(2, .int (nI f - nI 1)), (4, .int (nI 0)), (3, .int (nI (usedN (m 6) f))), (0, .ref (ad 0)), (1, .int (nI most))]) hx hb dX6_sharesBy_143 hl (k := 2) rfl (n_dec0 f) (by decide) rfl (fun ls hl => ?_)
                    refine lv_goto (tgt := 174) hx hb dX6_sharesBy_146 (by decide) ?_
                    refine lv_goto (tgt := 16) hx hb dX6_sharesBy_174 (by decide) ?_
                    have hl0 : lv_has ls 5 [(2, .int (nI f - nI 1)), (0, .ref (ad 0)), (1, .int (nI most))] := lv_sub hl [0, 3, 4] rfl
                    exact ih16 f (stN m f) (by rw [if_neg (by omega), if_pos (show stO most m f from by unfold stO; omega)] at hR; exact hR) (by rw [stN_row (by decide) (by decide)]; exact h1) (hi.st) (by omega) _ _ _ (hP) hS hl0
              · refine lv_iconst (v := nI 1) hx hb dX6_sharesBy_116 (by decide) ?_
                refine lv_goto (tgt := 121) hx hb dX6_sharesBy_117 (by decide) ?_
                refine lv_istore (lv' := [(4, .int (nI 1)), (3, .int (nI (usedN (m 6) f))), (2, .int (nI f)), (0, .ref (ad 0)), (1, .int (nI most))]) hx hb dX6_sharesBy_121 hl (by decide) rfl (fun ls hl => ?_)
                have hP : g_P g ad dsR 14 (stN m f) J H := by rw [stN, if_pos (show stC m f from by unfold stC; omega)]; exact hP
                refine lv_aload_n hx hb dX6_sharesBy_123 rfl (lv_at hl 3 rfl) ?_
                refine x_getr CF hK hP 0 (by decide) dR_0 rfl uX6 7 (by decide) (j := 6) rfl wd3_103 rfl dX6_sharesBy_124 ?_
                refine lv_iload_n hx hb dX6_sharesBy_127 rfl (lv_at hl 2 rfl) ?_
                refine x_iald CF hK hP 6 (by decide) dR_6 f (by omega) (by decide) dX6_sharesBy_128 ?_
                refine lv_iload_n hx hb dX6_sharesBy_129 rfl (lv_at hl 1 rfl) ?_
                refine x_zgt (u := ((stN m f) 6 f : Nat)) (v := (usedN (m 6) f : Nat)) (tgt := 143) hx hb (nI_toInt (by omega)) (nI_toInt (by omega)) dX6_sharesBy_130 (by decide) (fun h_24 => ?_) (fun h_24 => ?_)
                · refine lv_iinc (v := nI f - nI 1) (lv' := [(2, .int (nI f - nI 1)), (4, .int (nI 1)), (3, .int (nI (usedN (m 6) f))), (0, .ref (ad 0)), (1, .int (nI most))]) hx hb dX6_sharesBy_143 hl (k := 2) rfl (n_dec0 f) (by decide) rfl (fun ls hl => ?_)
                  refine lv_goto (tgt := 174) hx hb dX6_sharesBy_146 (by decide) ?_
                  refine lv_goto (tgt := 16) hx hb dX6_sharesBy_174 (by decide) ?_
                  have hl0 : lv_has ls 5 [(2, .int (nI f - nI 1)), (0, .ref (ad 0)), (1, .int (nI most))] := lv_sub hl [0, 3, 4] rfl
                  exact ih16 f (stN m f) (by rw [if_neg (by omega), if_pos (show stO most m f from by unfold stO; omega)] at hR; exact hR) (by rw [stN_row (by decide) (by decide)]; exact h1) (hi.st) (by omega) _ _ _ (hP) hS hl0
                · refine lv_aload_n hx hb dX6_sharesBy_133 rfl (lv_at hl 3 rfl) ?_
                  refine x_getr CF hK hP 0 (by decide) dR_0 rfl uX6 7 (by decide) (j := 6) rfl wd3_103 rfl dX6_sharesBy_134 ?_
                  refine lv_iload_n hx hb dX6_sharesBy_137 rfl (lv_at hl 2 rfl) ?_
                  refine x_iald CF hK hP 6 (by decide) dR_6 f (by omega) (by decide) dX6_sharesBy_138 ?_
                  refine lv_iload_n hx hb dX6_sharesBy_139 rfl (lv_at hl 4 rfl) ?_
                  refine x_zlt (u := ((stN m f) 6 f : Nat)) (v := (most : Nat)) (tgt := 149) hx hb (nI_toInt (by omega)) (nI_toInt (by omega)) dX6_sharesBy_140 (by decide) (fun h_25 => ?_) (fun h_25 => ?_)
                  · refine lv_aload_n hx hb dX6_sharesBy_149 rfl (lv_at hl 3 rfl) ?_
                    refine lv_iload_n hx hb dX6_sharesBy_150 rfl (lv_at hl 2 rfl) ?_
                    refine x_callVI CF hK hP hS hA hl (As := [.int (nI f)]) (rest := []) (r_puts hI (stN m f) J (hwm.of (stN_row (by decide) (by decide))) f (by omega) (by omega) (by omega) hi.st.2) kw_X6_puts wd4_40 (by decide) dR_0 rfl rfl ⟨Nat.le_of_ble_eq_true rfl, Nat.le_of_ble_eq_true rfl⟩ ⟨Nat.le_refl _, Nat.le_refl _⟩ (Nat.le_of_ble_eq_true rfl) dX6_sharesBy_151 (fun H locs hP hS => ?_)
                    refine x_yeq (u := (b2n (putB (stN m f) f) : Nat)) (tgt := 174) hx hb (nI_toInt (Nat.lt_of_le_of_lt (b2n_le _) (by decide))) dX6_sharesBy_154 (by decide) (fun h_26 => ?_) (fun h_26 => ?_)
                    · refine lv_goto (tgt := 16) hx hb dX6_sharesBy_174 (by decide) ?_
                      have hl0 : lv_has ls 5 [(2, .int (nI (f + 1) - nI 1)), (0, .ref (ad 0)), (1, .int (nI most))] := by rw [(show nI (f + 1) - nI 1 = nI f from pk_sub (by omega))]; exact lv_sub hl [2, 3, 4] rfl
                      exact ih16 (f + 1) (putM (stN m f) f) (by rw [if_neg (by omega), if_neg (show ¬ stO most m f from by unfold stO; omega), if_neg (by rw [b2n_0 h_26]; decide)] at hR; exact hR) (by rw [putM_row (by decide), stN_row (by decide) (by decide)]; exact h1) ((hi.st1 (by omega)).put) (by omega) _ _ _ (hP) hS hl0
                    · refine lv_iinc (v := nI (f + 1)) (lv' := [(2, .int (nI (f + 1))), (4, .int (nI 1)), (3, .int (nI (usedN (m 6) f))), (0, .ref (ad 0)), (1, .int (nI most))]) hx hb dX6_sharesBy_157 hl (k := 2) rfl (n_inc f 1) (by decide) rfl (fun ls hl => ?_)
                      refine lv_aload_n hx hb dX6_sharesBy_160 rfl (lv_at hl 3 rfl) ?_
                      refine x_getr CF hK hP 0 (by decide) dR_0 rfl uX6 7 (by decide) (j := 6) rfl wd3_103 rfl dX6_sharesBy_161 ?_
                      refine lv_iload_n hx hb dX6_sharesBy_164 rfl (lv_at hl 0 rfl) ?_
                      refine lv_iconst (v := nI 0) hx hb dX6_sharesBy_165 (by decide) ?_
                      refine x_iast CF hK hI hA hP hS 6 (by decide) dR_6 (f + 1) (by omega) (by decide) 0 dX6_sharesBy_166 (fun H locs hP hS => ?_)
                      refine lv_aload_n hx hb dX6_sharesBy_167 rfl (lv_at hl 3 rfl) ?_
                      refine x_getr CF hK hP 0 (by decide) dR_0 rfl uX6 8 (by decide) (j := 7) rfl wd3_104 rfl dX6_sharesBy_168 ?_
                      refine lv_iload_n hx hb dX6_sharesBy_171 rfl (lv_at hl 0 rfl) ?_
                      refine lv_iconst (v := nI 4294967295) hx hb dX6_sharesBy_172 (by decide) ?_
                      refine x_iast CF hK hI hA hP hS 7 (by decide) dR_7 (f + 1) (by omega) (by decide) 4294967295 dX6_sharesBy_173 (fun H locs hP hS => ?_)
                      refine lv_goto (tgt := 16) hx hb dX6_sharesBy_174 (by decide) ?_
                      have hl0 : lv_has ls 5 [(2, .int (nI (f + 2) - nI 1)), (0, .ref (ad 0)), (1, .int (nI most))] := by rw [(show nI (f + 2) - nI 1 = nI (f + 1) from pk_sub (by omega))]; exact lv_sub hl [0, 3, 4] rfl
                      exact ih16 (f + 2) (nxM (stN m f) f) (by rw [if_neg (by omega), if_neg (show ¬ stO most m f from by unfold stO; omega), if_pos (b2n_1 h_26)] at hR; exact hR) (by rw [nxM_1, stN_row (by decide) (by decide)]; exact h1) ((hi.st1 (by omega)).nx) (by omega) _ _ _ (hP) hS hl0
                  · refine lv_iinc (v := nI f - nI 1) (lv' := [(2, .int (nI f - nI 1)), (4, .int (nI 1)), (3, .int (nI (usedN (m 6) f))), (0, .ref (ad 0)), (1, .int (nI most))]) hx hb dX6_sharesBy_143 hl (k := 2) rfl (n_dec0 f) (by decide) rfl (fun ls hl => ?_)
                    refine lv_goto (tgt := 174) hx hb dX6_sharesBy_146 (by decide) ?_
                    refine lv_goto (tgt := 16) hx hb dX6_sharesBy_174 (by decide) ?_
                    have hl0 : lv_has ls 5 [(2, .int (nI f - nI 1)), (0, .ref (ad 0)), (1, .int (nI most))] := lv_sub hl [0, 3, 4] rfl
                    exact ih16 f (stN m f) (by rw [if_neg (by omega), if_pos (show stO most m f from by unfold stO; omega)] at hR; exact hR) (by rw [stN_row (by decide) (by decide)]; exact h1) (hi.st) (by omega) _ _ _ (hP) hS hl0
            · refine lv_iload hx hb dX6_sharesBy_75 (lv_at hl 0 rfl) ?_
              refine x_yeq (u := (1 : Int)) (tgt := 123) hx hb (rfl) dX6_sharesBy_77 (by decide) (fun h_27 => (by omega : False).elim) (fun h_27 => ?_)
              refine lv_aload_n hx hb dX6_sharesBy_80 rfl (lv_at hl 3 rfl) ?_
              refine x_getr CF hK hP 0 (by decide) dR_0 rfl uX6 8 (by decide) (j := 7) rfl wd3_104 rfl dX6_sharesBy_81 ?_
              refine lv_iload_n hx hb dX6_sharesBy_84 rfl (lv_at hl 2 rfl) ?_
              refine x_iald CF hK hP 7 (by decide) dR_7 f (by omega) (by decide) dX6_sharesBy_85 ?_
              refine x_ri (show (nI ((u2 m 7 f (stL m f)) 7 f)) = nI (stL m f) from congrArg nI (u2_same _ _ _ _)) ?_
              refine x_yle (u := (stL m f : Nat)) (tgt := 123) hx hb (nI_toInt (by omega)) dX6_sharesBy_86 (by decide) (fun h_28 => ?_) (fun h_28 => ?_)
              · have hP : g_P g ad dsR 14 (stN m f) J H := by rw [stN, if_neg (show ¬ stC m f from by unfold stC; omega)]; exact hP
                refine lv_aload_n hx hb dX6_sharesBy_123 rfl (lv_at hl 3 rfl) ?_
                refine x_getr CF hK hP 0 (by decide) dR_0 rfl uX6 7 (by decide) (j := 6) rfl wd3_103 rfl dX6_sharesBy_124 ?_
                refine lv_iload_n hx hb dX6_sharesBy_127 rfl (lv_at hl 2 rfl) ?_
                refine x_iald CF hK hP 6 (by decide) dR_6 f (by omega) (by decide) dX6_sharesBy_128 ?_
                refine lv_iload_n hx hb dX6_sharesBy_129 rfl (lv_at hl 1 rfl) ?_
                refine x_zgt (u := ((stN m f) 6 f : Nat)) (v := (usedN (m 6) f : Nat)) (tgt := 143) hx hb (nI_toInt (by omega)) (nI_toInt (by omega)) dX6_sharesBy_130 (by decide) (fun h_29 => ?_) (fun h_29 => ?_)
                · refine lv_iinc (v := nI f - nI 1) (lv' := [(2, .int (nI f - nI 1)), (4, .int (nI 1)), (3, .int (nI (usedN (m 6) f))), (0, .ref (ad 0)), (1, .int (nI most))]) hx hb dX6_sharesBy_143 hl (k := 2) rfl (n_dec0 f) (by decide) rfl (fun ls hl => ?_)
                  refine lv_goto (tgt := 174) hx hb dX6_sharesBy_146 (by decide) ?_
                  refine lv_goto (tgt := 16) hx hb dX6_sharesBy_174 (by decide) ?_
                  have hl0 : lv_has ls 5 [(2, .int (nI f - nI 1)), (0, .ref (ad 0)), (1, .int (nI most))] := lv_sub hl [0, 3, 4] rfl
                  exact ih16 f (stN m f) (by rw [if_neg (by omega), if_pos (show stO most m f from by unfold stO; omega)] at hR; exact hR) (by rw [stN_row (by decide) (by decide)]; exact h1) (hi.st) (by omega) _ _ _ (hP) hS hl0
                · refine lv_aload_n hx hb dX6_sharesBy_133 rfl (lv_at hl 3 rfl) ?_
                  refine x_getr CF hK hP 0 (by decide) dR_0 rfl uX6 7 (by decide) (j := 6) rfl wd3_103 rfl dX6_sharesBy_134 ?_
                  refine lv_iload_n hx hb dX6_sharesBy_137 rfl (lv_at hl 2 rfl) ?_
                  refine x_iald CF hK hP 6 (by decide) dR_6 f (by omega) (by decide) dX6_sharesBy_138 ?_
                  refine lv_iload_n hx hb dX6_sharesBy_139 rfl (lv_at hl 4 rfl) ?_
                  refine x_zlt (u := ((stN m f) 6 f : Nat)) (v := (most : Nat)) (tgt := 149) hx hb (nI_toInt (by omega)) (nI_toInt (by omega)) dX6_sharesBy_140 (by decide) (fun h_30 => ?_) (fun h_30 => ?_)
                  · refine lv_aload_n hx hb dX6_sharesBy_149 rfl (lv_at hl 3 rfl) ?_
                    refine lv_iload_n hx hb dX6_sharesBy_150 rfl (lv_at hl 2 rfl) ?_
                    refine x_callVI CF hK hP hS hA hl (As := [.int (nI f)]) (rest := []) (r_puts hI (stN m f) J (hwm.of (stN_row (by decide) (by decide))) f (by omega) (by omega) (by omega) hi.st.2) kw_X6_puts wd4_40 (by decide) dR_0 rfl rfl ⟨Nat.le_of_ble_eq_true rfl, Nat.le_of_ble_eq_true rfl⟩ ⟨Nat.le_refl _, Nat.le_refl _⟩ (Nat.le_of_ble_eq_true rfl) dX6_sharesBy_151 (fun H locs hP hS => ?_)
                    refine x_yeq (u := (b2n (putB (stN m f) f) : Nat)) (tgt := 174) hx hb (nI_toInt (Nat.lt_of_le_of_lt (b2n_le _) (by decide))) dX6_sharesBy_154 (by decide) (fun h_31 => ?_) (fun h_31 => ?_)
                    · refine lv_goto (tgt := 16) hx hb dX6_sharesBy_174 (by decide) ?_
                      have hl0 : lv_has ls 5 [(2, .int (nI (f + 1) - nI 1)), (0, .ref (ad 0)), (1, .int (nI most))] := by rw [(show nI (f + 1) - nI 1 = nI f from pk_sub (by omega))]; exact lv_sub hl [2, 3, 4] rfl
                      exact ih16 (f + 1) (putM (stN m f) f) (by rw [if_neg (by omega), if_neg (show ¬ stO most m f from by unfold stO; omega), if_neg (by rw [b2n_0 h_31]; decide)] at hR; exact hR) (by rw [putM_row (by decide), stN_row (by decide) (by decide)]; exact h1) ((hi.st1 (by omega)).put) (by omega) _ _ _ (hP) hS hl0
                    · refine lv_iinc (v := nI (f + 1)) (lv' := [(2, .int (nI (f + 1))), (4, .int (nI 1)), (3, .int (nI (usedN (m 6) f))), (0, .ref (ad 0)), (1, .int (nI most))]) hx hb dX6_sharesBy_157 hl (k := 2) rfl (n_inc f 1) (by decide) rfl (fun ls hl => ?_)
                      refine lv_aload_n hx hb dX6_sharesBy_160 rfl (lv_at hl 3 rfl) ?_
                      refine x_getr CF hK hP 0 (by decide) dR_0 rfl uX6 7 (by decide) (j := 6) rfl wd3_103 rfl dX6_sharesBy_161 ?_
                      refine lv_iload_n hx hb dX6_sharesBy_164 rfl (lv_at hl 0 rfl) ?_
                      refine lv_iconst (v := nI 0) hx hb dX6_sharesBy_165 (by decide) ?_
                      refine x_iast CF hK hI hA hP hS 6 (by decide) dR_6 (f + 1) (by omega) (by decide) 0 dX6_sharesBy_166 (fun H locs hP hS => ?_)
                      refine lv_aload_n hx hb dX6_sharesBy_167 rfl (lv_at hl 3 rfl) ?_
                      refine x_getr CF hK hP 0 (by decide) dR_0 rfl uX6 8 (by decide) (j := 7) rfl wd3_104 rfl dX6_sharesBy_168 ?_
                      refine lv_iload_n hx hb dX6_sharesBy_171 rfl (lv_at hl 0 rfl) ?_
                      refine lv_iconst (v := nI 4294967295) hx hb dX6_sharesBy_172 (by decide) ?_
                      refine x_iast CF hK hI hA hP hS 7 (by decide) dR_7 (f + 1) (by omega) (by decide) 4294967295 dX6_sharesBy_173 (fun H locs hP hS => ?_)
                      refine lv_goto (tgt := 16) hx hb dX6_sharesBy_174 (by decide) ?_
                      have hl0 : lv_has ls 5 [(2, .int (nI (f + 2) - nI 1)), (0, .ref (ad 0)), (1, .int (nI most))] := by rw [(show nI (f + 2) - nI 1 = nI (f + 1) from pk_sub (by omega))]; exact lv_sub hl [0, 3, 4] rfl
                      exact ih16 (f + 2) (nxM (stN m f) f) (by rw [if_neg (by omega), if_neg (show ¬ stO most m f from by unfold stO; omega), if_pos (b2n_1 h_31)] at hR; exact hR) (by rw [nxM_1, stN_row (by decide) (by decide)]; exact h1) ((hi.st1 (by omega)).nx) (by omega) _ _ _ (hP) hS hl0
                  · refine lv_iinc (v := nI f - nI 1) (lv' := [(2, .int (nI f - nI 1)), (4, .int (nI 1)), (3, .int (nI (usedN (m 6) f))), (0, .ref (ad 0)), (1, .int (nI most))]) hx hb dX6_sharesBy_143 hl (k := 2) rfl (n_dec0 f) (by decide) rfl (fun ls hl => ?_)
                    refine lv_goto (tgt := 174) hx hb dX6_sharesBy_146 (by decide) ?_
                    refine lv_goto (tgt := 16) hx hb dX6_sharesBy_174 (by decide) ?_
                    have hl0 : lv_has ls 5 [(2, .int (nI f - nI 1)), (0, .ref (ad 0)), (1, .int (nI most))] := lv_sub hl [0, 3, 4] rfl
                    exact ih16 f (stN m f) (by rw [if_neg (by omega), if_pos (show stO most m f from by unfold stO; omega)] at hR; exact hR) (by rw [stN_row (by decide) (by decide)]; exact h1) (hi.st) (by omega) _ _ _ (hP) hS hl0
              · refine lv_aload_n hx hb dX6_sharesBy_89 rfl (lv_at hl 3 rfl) ?_
                refine x_getr CF hK hP 0 (by decide) dR_0 rfl uX6 7 (by decide) (j := 6) rfl wd3_103 rfl dX6_sharesBy_90 ?_
                refine lv_iload_n hx hb dX6_sharesBy_93 rfl (lv_at hl 2 rfl) ?_
                refine lv_dup2_11 hx hb dX6_sharesBy_94 rfl rfl ?_
                refine x_iald CF hK hP 6 (by decide) dR_6 f (by omega) (by decide) dX6_sharesBy_95 ?_
                refine x_ri (show (nI ((u2 m 7 f (stL m f)) 6 f)) = nI (m 6 f) from congrArg nI (by simp [u2])) ?_
                refine lv_iconst (v := nI 1) hx hb dX6_sharesBy_96 (by decide) ?_
                refine x_iadd hx hb dX6_sharesBy_97 ?_
                refine x_iast CF hK hI hA hP hS 6 (by decide) dR_6 f (by omega) (by decide) ((m 6 f) + 1) dX6_sharesBy_98 (fun H locs hP hS => ?_)
                refine lv_aload_n hx hb dX6_sharesBy_99 rfl (lv_at hl 3 rfl) ?_
                refine x_getr CF hK hP 0 (by decide) dR_0 rfl uX6 8 (by decide) (j := 7) rfl wd3_104 rfl dX6_sharesBy_100 ?_
                refine lv_iload_n hx hb dX6_sharesBy_103 rfl (lv_at hl 2 rfl) ?_
                refine lv_iconst (v := nI 0) hx hb dX6_sharesBy_104 (by decide) ?_
                refine x_iast CF hK hI hA hP hS 7 (by decide) dR_7 f (by omega) (by decide) 0 dX6_sharesBy_105 (fun H locs hP hS => ?_)
                refine lv_aload_n hx hb dX6_sharesBy_106 rfl (lv_at hl 3 rfl) ?_
                refine x_getr CF hK hP 0 (by decide) dR_0 rfl uX6 7 (by decide) (j := 6) rfl wd3_103 rfl dX6_sharesBy_107 ?_
                refine lv_iload_n hx hb dX6_sharesBy_110 rfl (lv_at hl 2 rfl) ?_
                refine x_iald CF hK hP 6 (by decide) dR_6 f (by omega) (by decide) dX6_sharesBy_111 ?_
                refine x_ri (show (nI ((u2 (u2 (u2 m 7 f (stL m f)) 6 f ((m 6 f) + 1)) 7 f 0) 6 f)) = nI (m 6 f + 1) from congrArg nI (by simp [u2])) ?_
                refine lv_iload_n hx hb dX6_sharesBy_112 rfl (lv_at hl 1 rfl) ?_
                refine x_zne (u := (m 6 f + 1 : Nat)) (v := (usedN (m 6) f : Nat)) (tgt := 120) hx hb (nI_toInt (by omega)) (nI_toInt (by omega)) dX6_sharesBy_113 (by decide) (fun h_32 => ?_) (fun h_32 => ?_)
                · refine lv_iconst (v := nI 0) hx hb dX6_sharesBy_120 (by decide) ?_
                  refine lv_istore (lv' := [(4, .int (nI 0)), (3, .int (nI (usedN (m 6) f))), (2, .int (nI f)), (0, .ref (ad 0)), (1, .int (nI most))]) hx hb dX6_sharesBy_121 hl (by decide) rfl (fun ls hl => ?_)
                  have hP : g_P g ad dsR 14 (stN m f) J H := by rw [stN, if_pos (show stC m f from by unfold stC; omega)]; exact hP
                  refine lv_aload_n hx hb dX6_sharesBy_123 rfl (lv_at hl 3 rfl) ?_
                  refine x_getr CF hK hP 0 (by decide) dR_0 rfl uX6 7 (by decide) (j := 6) rfl wd3_103 rfl dX6_sharesBy_124 ?_
                  refine lv_iload_n hx hb dX6_sharesBy_127 rfl (lv_at hl 2 rfl) ?_
                  refine x_iald CF hK hP 6 (by decide) dR_6 f (by omega) (by decide) dX6_sharesBy_128 ?_
                  refine lv_iload_n hx hb dX6_sharesBy_129 rfl (lv_at hl 1 rfl) ?_
                  refine x_zgt (u := ((stN m f) 6 f : Nat)) (v := (usedN (m 6) f : Nat)) (tgt := 143) hx hb (nI_toInt (by omega)) (nI_toInt (by omega)) dX6_sharesBy_130 (by decide) (fun h_33 => ?_) (fun h_33 => ?_)
                  · refine lv_iinc (v := nI f - nI 1) (lv' := [(2, .int (nI f - nI 1)), (4, .int (nI 0)), (3, .int (nI (usedN (m 6) f))), (0, .ref (ad 0)), (1, .int (nI most))]) hx hb dX6_sharesBy_143 hl (k := 2) rfl (n_dec0 f) (by decide) rfl (fun ls hl => ?_)
                    refine lv_goto (tgt := 174) hx hb dX6_sharesBy_146 (by decide) ?_
                    refine lv_goto (tgt := 16) hx hb dX6_sharesBy_174 (by decide) ?_
                    have hl0 : lv_has ls 5 [(2, .int (nI f - nI 1)), (0, .ref (ad 0)), (1, .int (nI most))] := lv_sub hl [0, 3, 4] rfl
                    exact ih16 f (stN m f) (by rw [if_neg (by omega), if_pos (show stO most m f from by unfold stO; omega)] at hR; exact hR) (by rw [stN_row (by decide) (by decide)]; exact h1) (hi.st) (by omega) _ _ _ (hP) hS hl0
                  · refine lv_aload_n hx hb dX6_sharesBy_133 rfl (lv_at hl 3 rfl) ?_
                    refine x_getr CF hK hP 0 (by decide) dR_0 rfl uX6 7 (by decide) (j := 6) rfl wd3_103 rfl dX6_sharesBy_134 ?_
                    refine lv_iload_n hx hb dX6_sharesBy_137 rfl (lv_at hl 2 rfl) ?_
                    refine x_iald CF hK hP 6 (by decide) dR_6 f (by omega) (by decide) dX6_sharesBy_138 ?_
                    refine lv_iload_n hx hb dX6_sharesBy_139 rfl (lv_at hl 4 rfl) ?_
                    refine x_zlt (u := ((stN m f) 6 f : Nat)) (v := (most : Nat)) (tgt := 149) hx hb (nI_toInt (by omega)) (nI_toInt (by omega)) dX6_sharesBy_140 (by decide) (fun h_34 => ?_) (fun h_34 => ?_)
                    · refine lv_aload_n hx hb dX6_sharesBy_149 rfl (lv_at hl 3 rfl) ?_
                      refine lv_iload_n hx hb dX6_sharesBy_150 rfl (lv_at hl 2 rfl) ?_
                      refine x_callVI CF hK hP hS hA hl (As := [.int (nI f)]) (rest := []) (r_puts hI (stN m f) J (hwm.of (stN_row (by decide) (by decide))) f (by omega) (by omega) (by omega) hi.st.2) kw_X6_puts wd4_40 (by decide) dR_0 rfl rfl ⟨Nat.le_of_ble_eq_true rfl, Nat.le_of_ble_eq_true rfl⟩ ⟨Nat.le_refl _, Nat.le_refl _⟩ (Nat.le_of_ble_eq_true rfl) dX6_sharesBy_151 (fun H locs hP hS => ?_)
                      refine x_yeq (u := (b2n (putB (stN m f) f) : Nat)) (tgt := 174) hx hb (nI_toInt (Nat.lt_of_le_of_lt (b2n_le _) (by decide))) dX6_sharesBy_154 (by decide) (fun h_35 => ?_) (fun h_35 => ?_)
                      · refine lv_goto (tgt := 16) hx hb dX6_sharesBy_174 (by decide) ?_
                        have hl0 : lv_has ls 5 [(2, .int (nI (f + 1) - nI 1)), (0, .ref (ad 0)), (1, .int (nI most))] := by rw [(show nI (f + 1) - nI 1 = nI f from pk_sub (by omega))]; exact lv_sub hl [2, 3, 4] rfl
                        exact ih16 (f + 1) (putM (stN m f) f) (by rw [if_neg (by omega), if_neg (show ¬ stO most m f from by unfold stO; omega), if_neg (by rw [b2n_0 h_35]; decide)] at hR; exact hR) (by rw [putM_row (by decide), stN_row (by decide) (by decide)]; exact h1) ((hi.st1 (by omega)).put) (by omega) _ _ _ (hP) hS hl0
                      · refine lv_iinc (v := nI (f + 1)) (lv' := [(2, .int (nI (f + 1))), (4, .int (nI 0)), (3, .int (nI (usedN (m 6) f))), (0, .ref (ad 0)), (1, .int (nI most))]) hx hb dX6_sharesBy_157 hl (k := 2) rfl (n_inc f 1) (by decide) rfl (fun ls hl => ?_)
                        refine lv_aload_n hx hb dX6_sharesBy_160 rfl (lv_at hl 3 rfl) ?_
                        refine x_getr CF hK hP 0 (by decide) dR_0 rfl uX6 7 (by decide) (j := 6) rfl wd3_103 rfl dX6_sharesBy_161 ?_
                        refine lv_iload_n hx hb dX6_sharesBy_164 rfl (lv_at hl 0 rfl) ?_
                        refine lv_iconst (v := nI 0) hx hb dX6_sharesBy_165 (by decide) ?_
                        refine x_iast CF hK hI hA hP hS 6 (by decide) dR_6 (f + 1) (by omega) (by decide) 0 dX6_sharesBy_166 (fun H locs hP hS => ?_)
                        refine lv_aload_n hx hb dX6_sharesBy_167 rfl (lv_at hl 3 rfl) ?_
                        refine x_getr CF hK hP 0 (by decide) dR_0 rfl uX6 8 (by decide) (j := 7) rfl wd3_104 rfl dX6_sharesBy_168 ?_
                        refine lv_iload_n hx hb dX6_sharesBy_171 rfl (lv_at hl 0 rfl) ?_
                        refine lv_iconst (v := nI 4294967295) hx hb dX6_sharesBy_172 (by decide) ?_
                        refine x_iast CF hK hI hA hP hS 7 (by decide) dR_7 (f + 1) (by omega) (by decide) 4294967295 dX6_sharesBy_173 (fun H locs hP hS => ?_)
                        refine lv_goto (tgt := 16) hx hb dX6_sharesBy_174 (by decide) ?_
                        have hl0 : lv_has ls 5 [(2, .int (nI (f + 2) - nI 1)), (0, .ref (ad 0)), (1, .int (nI most))] := by rw [(show nI (f + 2) - nI 1 = nI (f + 1) from pk_sub (by omega))]; exact lv_sub hl [0, 3, 4] rfl
                        exact ih16 (f + 2) (nxM (stN m f) f) (by rw [if_neg (by omega), if_neg (show ¬ stO most m f from by unfold stO; omega), if_pos (b2n_1 h_35)] at hR; exact hR) (by rw [nxM_1, stN_row (by decide) (by decide)]; exact h1) ((hi.st1 (by omega)).nx) (by omega) _ _ _ (hP) hS hl0
                    · refine lv_iinc (v := nI f - nI 1) (lv' := [(2, .int (nI f - nI 1)), (4, .int (nI 0)), (3, .int (nI (usedN (m 6) f))), (0, .ref (ad 0)), (1, .int (nI most))]) hx hb dX6_sharesBy_143 hl (k := 2) rfl (n_dec0 f) (by decide) rfl (fun ls hl => ?_)
                      refine lv_goto (tgt := 174) hx hb dX6_sharesBy_146 (by decide) ?_
                      refine lv_goto (tgt := 16) hx hb dX6_sharesBy_174 (by decide) ?_
                      have hl0 : lv_has ls 5 [(2, .int (nI f - nI 1)), (0, .ref (ad 0)), (1, .int (nI most))] := lv_sub hl [0, 3, 4] rfl
                      exact ih16 f (stN m f) (by rw [if_neg (by omega), if_pos (show stO most m f from by unfold stO; omega)] at hR; exact hR) (by rw [stN_row (by decide) (by decide)]; exact h1) (hi.st) (by omega) _ _ _ (hP) hS hl0
                · refine lv_iconst (v := nI 1) hx hb dX6_sharesBy_116 (by decide) ?_
                  refine lv_goto (tgt := 121) hx hb dX6_sharesBy_117 (by decide) ?_
                  refine lv_istore (lv' := [(4, .int (nI 1)), (3, .int (nI (usedN (m 6) f))), (2, .int (nI f)), (0, .ref (ad 0)), (1, .int (nI most))]) hx hb dX6_sharesBy_121 hl (by decide) rfl (fun ls hl => ?_)
                  have hP : g_P g ad dsR 14 (stN m f) J H := by rw [stN, if_pos (show stC m f from by unfold stC; omega)]; exact hP
                  refine lv_aload_n hx hb dX6_sharesBy_123 rfl (lv_at hl 3 rfl) ?_
                  refine x_getr CF hK hP 0 (by decide) dR_0 rfl uX6 7 (by decide) (j := 6) rfl wd3_103 rfl dX6_sharesBy_124 ?_
                  refine lv_iload_n hx hb dX6_sharesBy_127 rfl (lv_at hl 2 rfl) ?_
                  refine x_iald CF hK hP 6 (by decide) dR_6 f (by omega) (by decide) dX6_sharesBy_128 ?_
                  refine lv_iload_n hx hb dX6_sharesBy_129 rfl (lv_at hl 1 rfl) ?_
                  refine x_zgt (u := ((stN m f) 6 f : Nat)) (v := (usedN (m 6) f : Nat)) (tgt := 143) hx hb (nI_toInt (by omega)) (nI_toInt (by omega)) dX6_sharesBy_130 (by decide) (fun h_36 => ?_) (fun h_36 => ?_)
                  · refine lv_iinc (v := nI f - nI 1) (lv' := [(2, .int (nI f - nI 1)), (4, .int (nI 1)), (3, .int (nI (usedN (m 6) f))), (0, .ref (ad 0)), (1, .int (nI most))]) hx hb dX6_sharesBy_143 hl (k := 2) rfl (n_dec0 f) (by decide) rfl (fun ls hl => ?_)
                    refine lv_goto (tgt := 174) hx hb dX6_sharesBy_146 (by decide) ?_
                    refine lv_goto (tgt := 16) hx hb dX6_sharesBy_174 (by decide) ?_
                    have hl0 : lv_has ls 5 [(2, .int (nI f - nI 1)), (0, .ref (ad 0)), (1, .int (nI most))] := lv_sub hl [0, 3, 4] rfl
                    exact ih16 f (stN m f) (by rw [if_neg (by omega), if_pos (show stO most m f from by unfold stO; omega)] at hR; exact hR) (by rw [stN_row (by decide) (by decide)]; exact h1) (hi.st) (by omega) _ _ _ (hP) hS hl0
                  · refine lv_aload_n hx hb dX6_sharesBy_133 rfl (lv_at hl 3 rfl) ?_
                    refine x_getr CF hK hP 0 (by decide) dR_0 rfl uX6 7 (by decide) (j := 6) rfl wd3_103 rfl dX6_sharesBy_134 ?_
                    refine lv_iload_n hx hb dX6_sharesBy_137 rfl (lv_at hl 2 rfl) ?_
                    refine x_iald CF hK hP 6 (by decide) dR_6 f (by omega) (by decide) dX6_sharesBy_138 ?_
                    refine lv_iload_n hx hb dX6_sharesBy_139 rfl (lv_at hl 4 rfl) ?_
                    refine x_zlt (u := ((stN m f) 6 f : Nat)) (v := (most : Nat)) (tgt := 149) hx hb (nI_toInt (by omega)) (nI_toInt (by omega)) dX6_sharesBy_140 (by decide) (fun h_37 => ?_) (fun h_37 => ?_)
                    · refine lv_aload_n hx hb dX6_sharesBy_149 rfl (lv_at hl 3 rfl) ?_
                      refine lv_iload_n hx hb dX6_sharesBy_150 rfl (lv_at hl 2 rfl) ?_
                      refine x_callVI CF hK hP hS hA hl (As := [.int (nI f)]) (rest := []) (r_puts hI (stN m f) J (hwm.of (stN_row (by decide) (by decide))) f (by omega) (by omega) (by omega) hi.st.2) kw_X6_puts wd4_40 (by decide) dR_0 rfl rfl ⟨Nat.le_of_ble_eq_true rfl, Nat.le_of_ble_eq_true rfl⟩ ⟨Nat.le_refl _, Nat.le_refl _⟩ (Nat.le_of_ble_eq_true rfl) dX6_sharesBy_151 (fun H locs hP hS => ?_)
                      refine x_yeq (u := (b2n (putB (stN m f) f) : Nat)) (tgt := 174) hx hb (nI_toInt (Nat.lt_of_le_of_lt (b2n_le _) (by decide))) dX6_sharesBy_154 (by decide) (fun h_38 => ?_) (fun h_38 => ?_)
                      · refine lv_goto (tgt := 16) hx hb dX6_sharesBy_174 (by decide) ?_
                        have hl0 : lv_has ls 5 [(2, .int (nI (f + 1) - nI 1)), (0, .ref (ad 0)), (1, .int (nI most))] := by rw [(show nI (f + 1) - nI 1 = nI f from pk_sub (by omega))]; exact lv_sub hl [2, 3, 4] rfl
                        exact ih16 (f + 1) (putM (stN m f) f) (by rw [if_neg (by omega), if_neg (show ¬ stO most m f from by unfold stO; omega), if_neg (by rw [b2n_0 h_38]; decide)] at hR; exact hR) (by rw [putM_row (by decide), stN_row (by decide) (by decide)]; exact h1) ((hi.st1 (by omega)).put) (by omega) _ _ _ (hP) hS hl0
                      · refine lv_iinc (v := nI (f + 1)) (lv' := [(2, .int (nI (f + 1))), (4, .int (nI 1)), (3, .int (nI (usedN (m 6) f))), (0, .ref (ad 0)), (1, .int (nI most))]) hx hb dX6_sharesBy_157 hl (k := 2) rfl (n_inc f 1) (by decide) rfl (fun ls hl => ?_)
                        refine lv_aload_n hx hb dX6_sharesBy_160 rfl (lv_at hl 3 rfl) ?_
                        refine x_getr CF hK hP 0 (by decide) dR_0 rfl uX6 7 (by decide) (j := 6) rfl wd3_103 rfl dX6_sharesBy_161 ?_
                        refine lv_iload_n hx hb dX6_sharesBy_164 rfl (lv_at hl 0 rfl) ?_
                        refine lv_iconst (v := nI 0) hx hb dX6_sharesBy_165 (by decide) ?_
                        refine x_iast CF hK hI hA hP hS 6 (by decide) dR_6 (f + 1) (by omega) (by decide) 0 dX6_sharesBy_166 (fun H locs hP hS => ?_)
                        refine lv_aload_n hx hb dX6_sharesBy_167 rfl (lv_at hl 3 rfl) ?_
                        refine x_getr CF hK hP 0 (by decide) dR_0 rfl uX6 8 (by decide) (j := 7) rfl wd3_104 rfl dX6_sharesBy_168 ?_
                        refine lv_iload_n hx hb dX6_sharesBy_171 rfl (lv_at hl 0 rfl) ?_
                        refine lv_iconst (v := nI 4294967295) hx hb dX6_sharesBy_172 (by decide) ?_
                        refine x_iast CF hK hI hA hP hS 7 (by decide) dR_7 (f + 1) (by omega) (by decide) 4294967295 dX6_sharesBy_173 (fun H locs hP hS => ?_)
                        refine lv_goto (tgt := 16) hx hb dX6_sharesBy_174 (by decide) ?_
                        have hl0 : lv_has ls 5 [(2, .int (nI (f + 2) - nI 1)), (0, .ref (ad 0)), (1, .int (nI most))] := by rw [(show nI (f + 2) - nI 1 = nI (f + 1) from pk_sub (by omega))]; exact lv_sub hl [0, 3, 4] rfl
                        exact ih16 (f + 2) (nxM (stN m f) f) (by rw [if_neg (by omega), if_neg (show ¬ stO most m f from by unfold stO; omega), if_pos (b2n_1 h_38)] at hR; exact hR) (by rw [nxM_1, stN_row (by decide) (by decide)]; exact h1) ((hi.st1 (by omega)).nx) (by omega) _ _ _ (hP) hS hl0
                    · refine lv_iinc (v := nI f - nI 1) (lv' := [(2, .int (nI f - nI 1)), (4, .int (nI 1)), (3, .int (nI (usedN (m 6) f))), (0, .ref (ad 0)), (1, .int (nI most))]) hx hb dX6_sharesBy_143 hl (k := 2) rfl (n_dec0 f) (by decide) rfl (fun ls hl => ?_)
                      refine lv_goto (tgt := 174) hx hb dX6_sharesBy_146 (by decide) ?_
                      refine lv_goto (tgt := 16) hx hb dX6_sharesBy_174 (by decide) ?_
                      have hl0 : lv_has ls 5 [(2, .int (nI f - nI 1)), (0, .ref (ad 0)), (1, .int (nI most))] := lv_sub hl [0, 3, 4] rfl
                      exact ih16 f (stN m f) (by rw [if_neg (by omega), if_pos (show stO most m f from by unfold stO; omega)] at hR; exact hR) (by rw [stN_row (by decide) (by decide)]; exact h1) (hi.st) (by omega) _ _ _ (hP) hS hl0
  have hl0 : lv_has ls 5 [(2, .int (nI 1 - nI 1)), (0, .ref (ad 0)), (1, .int (nI most))] := by rw [(show nI 1 - nI 1 = nI 0 from by decide)]; exact lv_sub hl [0, 1, 2] rfl
  exact L16 n0 1 (u2 (u2 M 6 0 0) 7 0 4294967295) (hn0) (by rw [u2_row (by decide), u2_row (by decide)]) (hi0) (by omega) _ _ _ (hP) hS hl0
