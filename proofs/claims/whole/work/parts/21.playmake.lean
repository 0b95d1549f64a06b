/-- a play becomes like another -/
def bl (B S : Nat) (M : gMem) : gMem := fun a b => if a = B ∧ (b = 1 ∨ 3 ≤ b ∧ b ≤ 7) then M S b else if B + 2 ≤ a ∧ a < B + 8 ∧ b < 12 then M (a + S - B) b else if B + 9 ≤ a ∧ a < B + 14 ∧ b < 6 then M (a + S - B) b else if a = B + 14 ∧ b < 12 then M (S + 14) b else if a = B + 15 ∧ b < 4 then M (S + 15) b else M a b
def bl1 (B S : Nat) (M : gMem) (c : Nat) : gMem := fun a b => if B + 2 ≤ a ∧ a < B + 2 + c ∧ b < 12 then M (a + S - B) b else M a b
def bl2 (B S : Nat) (M : gMem) (k : Nat) : gMem := fun a b => if B + 9 ≤ a ∧ a < B + 9 + k ∧ b < 6 then M (a + S - B) b else M a b
theorem bl1_0 (B S : Nat) (M : gMem) : bl1 B S M 0 = M := by funext a b; simp only [bl1]; rw [if_neg (by omega)]
theorem bl2_0 (B S : Nat) (M : gMem) : bl2 B S M 0 = M := by funext a b; simp only [bl2]; rw [if_neg (by omega)]
theorem bl1_out {B S : Nat} {M : gMem} {c a : Nat} (h : a < B + 2 ∨ B + 2 + c ≤ a) : bl1 B S M c a = M a := by funext b; simp only [bl1]; rw [if_neg (by omega)]
theorem bl2_out {B S : Nat} {M : gMem} {c a : Nat} (h : a < B + 9 ∨ B + 9 + c ≤ a) : bl2 B S M c a = M a := by funext b; simp only [bl2]; rw [if_neg (by omega)]
theorem bl1_s {B S : Nat} {M : gMem} {c i j : Nat} (hi : i = S + 2 + c) (hj : j = B + 2 + c) (hd : S + 2 + c < B + 2 ∨ B + 2 + c ≤ S + 2 + c) : gcpy (bl1 B S M c) i 0 j 0 12 = bl1 B S M (c + 1) := by
  subst hi; subst hj
  funext a b
  simp only [gcpy]
  by_cases h : a = B + 2 + c ∧ 0 ≤ b ∧ b < 0 + 12
  · rw [if_pos h, bl1_out hd]
    simp only [bl1]
    rw [if_pos (by omega), h.1]
    congr 1 <;> omega
  · rw [if_neg h]
    simp only [bl1]
    by_cases h2 : B + 2 ≤ a ∧ a < B + 2 + c ∧ b < 12
    · rw [if_pos h2, if_pos (by omega)]
    · rw [if_neg h2, if_neg (by omega)]
theorem bl2_s {B S : Nat} {M : gMem} {c i j : Nat} (hi : i = B + 9 + c) (hj : j = S + 9 + c) (hd : S + 9 + c < B + 9 ∨ B + 9 + c ≤ S + 9 + c) : cpf (bl2 B S M c) i j = bl2 B S M (c + 1) := by
  subst hi; subst hj
  funext a b
  simp only [cpf]
  by_cases h : a = B + 9 + c ∧ b < 6
  · rw [if_pos h, bl2_out hd]
    simp only [bl2]
    rw [if_pos (by omega), h.1]
    congr 1; omega
  · rw [if_neg h]
    simp only [bl2]
    by_cases h2 : B + 9 ≤ a ∧ a < B + 9 + c ∧ b < 6
    · rw [if_pos h2, if_pos (by omega)]
    · rw [if_neg h2, if_neg (by omega)]
def blA (B S : Nat) (M : gMem) : gMem := bl2 B S (u2 (bl1 B S M 6) B 1 (M S 1)) 5
def blB (B S : Nat) (M : gMem) : gMem := u2 (u2 (u2 (u2 (u2 (blA B S M) B 3 (M S 3)) B 4 (M S 4)) B 5 (M S 5)) B 6 (M S 6)) B 7 (M S 7)
theorem blB_at {B S : Nat} {M : gMem} (h : S + 16 ≤ B ∨ B + 16 ≤ S) (a b : Nat) : blB B S M a b = if a = B ∧ (b = 1 ∨ 3 ≤ b ∧ b ≤ 7) then M S b else if B + 2 ≤ a ∧ a < B + 8 ∧ b < 12 then M (a + S - B) b else if B + 9 ≤ a ∧ a < B + 14 ∧ b < 6 then M (a + S - B) b else M a b := by
  simp only [blB, blA]
  by_cases h1 : a = B
  · subst h1
    rcases (show b = 1 ∨ b = 3 ∨ b = 4 ∨ b = 5 ∨ b = 6 ∨ b = 7 ∨ (b ≠ 1 ∧ b ≠ 3 ∧ b ≠ 4 ∧ b ≠ 5 ∧ b ≠ 6 ∧ b ≠ 7) by omega) with rfl | rfl | rfl | rfl | rfl | rfl | hb
    · simp [u2, bl2]
      intro h1; omega
    · simp [u2]
    · simp [u2]
    · simp [u2]
    · simp [u2]
    · simp [u2]
    · simp only [u2, bl2, bl1]; (repeat first | rw [if_pos (by omega)] | rw [if_neg (by omega)])
  · rw [u2_row h1, u2_row h1, u2_row h1, u2_row h1, u2_row h1, if_neg (by omega)]
    by_cases h2 : B + 9 ≤ a ∧ a < B + 14 ∧ b < 6
    · rw [if_neg (by omega), if_pos h2]
      simp only [bl2]
      rw [if_pos (by omega), u2_row (by omega), bl1_out (by omega)]
    · rw [if_neg h2]
      simp only [bl2]
      rw [if_neg (by omega), u2_row h1]
      rfl
theorem blB_out {B S : Nat} {M : gMem} (h : S + 16 ≤ B ∨ B + 16 ≤ S) {a : Nat} (ha : a < B ∨ B + 14 ≤ a) : blB B S M a = M a := by
  funext b
  rw [blB_at h]
  (repeat first | rw [if_pos (by omega)] | rw [if_neg (by omega)])
theorem bl_ok {B S : Nat} {M : gMem} (h : S + 16 ≤ B ∨ B + 16 ≤ S) : gcpy (gcpy (blB B S M) (S + 14) 0 (B + 14) 0 12) (S + 15) 0 (B + 15) 0 4 = bl B S M := by
  funext a b
  have e1 : gcpy (blB B S M) (S + 14) 0 (B + 14) 0 12 (S + 15) = M (S + 15) := by
    funext q; simp only [gcpy]; rw [if_neg (by omega), blB_out h (by omega)]
  simp only [gcpy] at e1 ⊢
  by_cases h1 : a = B + 15 ∧ 0 ≤ b ∧ b < 0 + 4
  · rw [if_pos h1, if_neg (by omega), blB_out h (by omega)]
    simp only [bl]
    (repeat first | rw [if_pos (by omega)] | rw [if_neg (by omega)])
    congr 1; omega
  · rw [if_neg h1]
    by_cases h2 : a = B + 14 ∧ 0 ≤ b ∧ b < 0 + 12
    · rw [if_pos h2, blB_out h (by omega)]
      simp only [bl]
      (repeat first | rw [if_pos (by omega)] | rw [if_neg (by omega)])
      congr 1; omega
    · rw [if_neg h2, blB_at h]
      simp only [bl]
      by_cases h3 : a = B ∧ (b = 1 ∨ 3 ≤ b ∧ b ≤ 7)
      · rw [if_pos h3, if_pos h3]
      · rw [if_neg h3, if_neg h3]
        by_cases h4 : B + 2 ≤ a ∧ a < B + 8 ∧ b < 12
        · rw [if_pos h4, if_pos h4]
        · rw [if_neg h4, if_neg h4]
          by_cases h5 : B + 9 ≤ a ∧ a < B + 14 ∧ b < 6
          · rw [if_pos h5, if_pos h5]
          · rw [if_neg h5, if_neg h5, if_neg (by omega), if_neg (by omega)]
set_option maxHeartbeats 4000000 in
set_option maxRecDepth 100000 in
theorem c_playLike_ni {l : Launch} {g : gE} {ad : Nat → Nat} (hI : g_inj ad 55) (M : gMem) (J : gMeL)  : CV l g ad dsX 55 yX1_becomeLike cX1_becomeLike 3 1 [.ref (ad 23), .ref (ad 39)] M J (bl 23 39 M) J := by
  refine CV.of (plainFor_of_name (by decide)) (Nat.le_of_ble_eq_true rfl) (fun p9 e9 s9 m9 args9 below9 meth9 c9 CF hK hr9 hlk9 hP hS ls hl => ?_)
  have hx := CF.1
  have hb := CF.2.1
  have hA : ∀ q, g_A ad 55 q → g_A ad 55 q := fun _ h => h
  have hl : lv_has ls 3 [(0, .ref (ad 23)), (1, .ref (ad 39))] := hl
  refine lv_iconst (v := nI 0) hx hb dX1_becomeLike_0 (by decide) ?_
  refine lv_istore_n (lv' := [(2, .int (nI 0)), (0, .ref (ad 23)), (1, .ref (ad 39))]) hx hb dX1_becomeLike_1 rfl hl (by decide) rfl (fun ls hl => ?_)
  have L2 : ∀ (d2 : Nat) (c : Nat), (c + d2 = 6) → (∀ (H : Heap) (locs : List Loc) (ls : Array Slot), g_P g ad dsX 55 (bl1 23 39 M c) J H → va_S (g_A ad 55) s9.heap H locs → lv_has ls 3 [(2, .int (nI c)), (0, .ref (ad 23)), (1, .ref (ad 39))] → W p9 l e9 (g_rm 1) s9 m9 args9 below9 meth9 c9 H locs 0 0 (MQ below9 (va_Qv (fun (_ : Unit) => True) (fun _ t => g_P g ad dsX 55 (bl 23 39 M) J t.heap) (g_A ad 55)) args9 s9 0 0 (g_A ad 55)) (F0 m9 2 ls [])) := by
    intro d2
    induction d2 with
    | zero =>
      intro c h_c H locs ls hP hS hl
      refine lv_iload_n hx hb dX1_becomeLike_2 rfl (lv_at hl 0 rfl) ?_
      refine lv_bipush (v := nI 6) hx hb dX1_becomeLike_3 (by decide) ?_
      refine x_zge (u := (c : Nat)) (v := (6 : Int)) (tgt := 33) hx hb (nI_toInt (by omega)) (rfl) dX1_becomeLike_5 (by decide) (fun h_1 => ?_) (fun h_1 => (by omega : False).elim)
      refine lv_aload_n hx hb dX1_becomeLike_33 rfl (lv_at hl 1 rfl) ?_
      refine lv_aload_n hx hb dX1_becomeLike_34 rfl (lv_at hl 2 rfl) ?_
      refine x_geti CF hK hP 39 (by decide) dX_39 rfl uX1 1 (by decide) rfl wd1_69 rfl dX1_becomeLike_35 ?_
      refine x_ri (show (nI ((bl1 23 39 M c) 39 1)) = nI (M 39 1) from by rw [bl1_out (by omega)]) ?_
      refine x_puti CF hK hI hA hP hS 23 (by decide) dX_23 rfl uX1 tyX1 tyX1_ok nmX1 1 (by decide) rfl wd1_69 rfl rfl (M 39 1) (ty := .int) rfl rfl rfl dX1_becomeLike_38 (fun H locs hP hS => ?_)
      have hP : g_P g ad dsX 55 (u2 (bl1 23 39 M 6) 23 1 (M 39 1)) J H := (by rw [show 6 = c by omega]; exact hP)
      refine lv_iconst (v := nI 0) hx hb dX1_becomeLike_41 (by decide) ?_
      refine lv_istore_n (lv' := [(2, .int (nI 0)), (0, .ref (ad 23)), (1, .ref (ad 39))]) hx hb dX1_becomeLike_42 rfl hl (by decide) rfl (fun ls hl => ?_)
      have L43 : ∀ (d43 : Nat) (k : Nat), (k + d43 = 5) → (∀ (H : Heap) (locs : List Loc) (ls : Array Slot), g_P g ad dsX 55 (bl2 23 39 (u2 (bl1 23 39 M 6) 23 1 (M 39 1)) k) J H → va_S (g_A ad 55) s9.heap H locs → lv_has ls 3 [(2, .int (nI k)), (0, .ref (ad 23)), (1, .ref (ad 39))] → W p9 l e9 (g_rm 1) s9 m9 args9 below9 meth9 c9 H locs 0 0 (MQ below9 (va_Qv (fun (_ : Unit) => True) (fun _ t => g_P g ad dsX 55 (bl 23 39 M) J t.heap) (g_A ad 55)) args9 s9 0 0 (g_A ad 55)) (F0 m9 43 ls [])) := by
        intro d43
        induction d43 with
        | zero =>
          intro k h_k H locs ls hP hS hl
          refine lv_iload_n hx hb dX1_becomeLike_43 rfl (lv_at hl 0 rfl) ?_
          refine lv_iconst (v := nI 5) hx hb dX1_becomeLike_44 (by decide) ?_
          refine x_zge (u := (k : Nat)) (v := (5 : Int)) (tgt := 69) hx hb (nI_toInt (by omega)) (rfl) dX1_becomeLike_45 (by decide) (fun h_2 => ?_) (fun h_2 => (by omega : False).elim)
          refine lv_aload_n hx hb dX1_becomeLike_69 rfl (lv_at hl 1 rfl) ?_
          refine lv_aload_n hx hb dX1_becomeLike_70 rfl (lv_at hl 2 rfl) ?_
          refine x_geti CF hK hP 39 (by decide) dX_39 rfl uX1 3 (by decide) rfl wd1_73 rfl dX1_becomeLike_71 ?_
          refine x_ri (show (nI ((bl2 23 39 (u2 (bl1 23 39 M 6) 23 1 (M 39 1)) k) 39 3)) = nI (M 39 3) from congrArg nI (by rw [bl2_out (by omega), u2_row (by omega), bl1_out (by omega)])) ?_
          refine x_puti CF hK hI hA hP hS 23 (by decide) dX_23 rfl uX1 tyX1 tyX1_ok nmX1 3 (by decide) rfl wd1_73 rfl rfl (M 39 3) (ty := .int) rfl rfl rfl dX1_becomeLike_74 (fun H locs hP hS => ?_)
          have hP : g_P g ad dsX 55 (u2 (blA 23 39 M) 23 3 (M 39 3)) J H := (by rw [show blA 23 39 M = bl2 23 39 (u2 (bl1 23 39 M 6) 23 1 (M 39 1)) k by rw [show k = 5 by omega]; rfl]; exact hP)
          refine lv_aload_n hx hb dX1_becomeLike_77 rfl (lv_at hl 1 rfl) ?_
          refine lv_aload_n hx hb dX1_becomeLike_78 rfl (lv_at hl 2 rfl) ?_
          refine x_geti CF hK hP 39 (by decide) dX_39 rfl uX1 4 (by decide) rfl wd1_75 rfl dX1_becomeLike_79 ?_
          refine x_ri (show (nI ((u2 (blA 23 39 M) 23 3 (M 39 3)) 39 4)) = nI (M 39 4) from congrArg nI (by rw [u2_row (by omega)]; show blA 23 39 M 39 4 = _; rw [blA, bl2_out (by omega), u2_row (by omega), bl1_out (by omega)])) ?_
          refine x_puti CF hK hI hA hP hS 23 (by decide) dX_23 rfl uX1 tyX1 tyX1_ok nmX1 4 (by decide) rfl wd1_75 rfl rfl (M 39 4) (ty := .int) rfl rfl rfl dX1_becomeLike_82 (fun H locs hP hS => ?_)
          have hP : g_P g ad dsX 55 (u2 (u2 (blA 23 39 M) 23 3 (M 39 3)) 23 4 (M 39 4)) J H := hP
          refine lv_aload_n hx hb dX1_becomeLike_85 rfl (lv_at hl 1 rfl) ?_
          refine lv_aload_n hx hb dX1_becomeLike_86 rfl (lv_at hl 2 rfl) ?_
          refine x_geti CF hK hP 39 (by decide) dX_39 rfl uX1 5 (by decide) rfl wd1_77 rfl dX1_becomeLike_87 ?_
          refine x_ri (show (nI ((u2 (u2 (blA 23 39 M) 23 3 (M 39 3)) 23 4 (M 39 4)) 39 5)) = nI (M 39 5) from congrArg nI (by rw [u2_row (by omega), u2_row (by omega)]; show blA 23 39 M 39 5 = _; rw [blA, bl2_out (by omega), u2_row (by omega), bl1_out (by omega)])) ?_
          refine x_puti CF hK hI hA hP hS 23 (by decide) dX_23 rfl uX1 tyX1 tyX1_ok nmX1 5 (by decide) rfl wd1_77 rfl rfl (M 39 5) (ty := .int) rfl rfl rfl dX1_becomeLike_90 (fun H locs hP hS => ?_)
          have hP : g_P g ad dsX 55 (u2 (u2 (u2 (blA 23 39 M) 23 3 (M 39 3)) 23 4 (M 39 4)) 23 5 (M 39 5)) J H := hP
          refine lv_aload_n hx hb dX1_becomeLike_93 rfl (lv_at hl 1 rfl) ?_
          refine lv_aload_n hx hb dX1_becomeLike_94 rfl (lv_at hl 2 rfl) ?_
          refine x_geti CF hK hP 39 (by decide) dX_39 rfl uX1 6 (by decide) rfl wd1_79 rfl dX1_becomeLike_95 ?_
          refine x_ri (show (nI ((u2 (u2 (u2 (blA 23 39 M) 23 3 (M 39 3)) 23 4 (M 39 4)) 23 5 (M 39 5)) 39 6)) = nI (M 39 6) from congrArg nI (by rw [u2_row (by omega), u2_row (by omega), u2_row (by omega)]; show blA 23 39 M 39 6 = _; rw [blA, bl2_out (by omega), u2_row (by omega), bl1_out (by omega)])) ?_
          refine x_puti CF hK hI hA hP hS 23 (by decide) dX_23 rfl uX1 tyX1 tyX1_ok nmX1 6 (by decide) rfl wd1_79 rfl rfl (M 39 6) (ty := .int) rfl rfl rfl dX1_becomeLike_98 (fun H locs hP hS => ?_)
          have hP : g_P g ad dsX 55 (u2 (u2 (u2 (u2 (blA 23 39 M) 23 3 (M 39 3)) 23 4 (M 39 4)) 23 5 (M 39 5)) 23 6 (M 39 6)) J H := hP
          refine lv_aload_n hx hb dX1_becomeLike_101 rfl (lv_at hl 1 rfl) ?_
          refine lv_aload_n hx hb dX1_becomeLike_102 rfl (lv_at hl 2 rfl) ?_
          refine x_geti CF hK hP 39 (by decide) dX_39 rfl uX1 7 (by decide) rfl wd1_81 rfl dX1_becomeLike_103 ?_
          refine x_ri (show (nI ((u2 (u2 (u2 (u2 (blA 23 39 M) 23 3 (M 39 3)) 23 4 (M 39 4)) 23 5 (M 39 5)) 23 6 (M 39 6)) 39 7)) = nI (M 39 7) from congrArg nI (by rw [u2_row (by omega), u2_row (by omega), u2_row (by omega), u2_row (by omega)]; show blA 23 39 M 39 7 = _; rw [blA, bl2_out (by omega), u2_row (by omega), bl1_out (by omega)])) ?_
          refine x_puti CF hK hI hA hP hS 23 (by decide) dX_23 rfl uX1 tyX1 tyX1_ok nmX1 7 (by decide) rfl wd1_81 rfl rfl (M 39 7) (ty := .int) rfl rfl rfl dX1_becomeLike_106 (fun H locs hP hS => ?_)
          have hP : g_P g ad dsX 55 (u2 (u2 (u2 (u2 (u2 (blA 23 39 M) 23 3 (M 39 3)) 23 4 (M 39 4)) 23 5 (M 39 5)) 23 6 (M 39 6)) 23 7 (M 39 7)) J H := hP
          refine lv_aload_n hx hb dX1_becomeLike_109 rfl (lv_at hl 2 rfl) ?_
          refine x_getr CF hK hP 39 (by decide) dX_39 rfl uX1 8 (by decide) (j := 53) rfl wd1_83 rfl dX1_becomeLike_110 ?_
          refine lv_iconst (v := nI 0) hx hb dX1_becomeLike_113 (by decide) ?_
          refine lv_aload_n hx hb dX1_becomeLike_114 rfl (lv_at hl 1 rfl) ?_
          refine x_getr CF hK hP 23 (by decide) dX_23 rfl uX1 8 (by decide) (j := 37) rfl wd1_83 rfl dX1_becomeLike_115 ?_
          refine lv_iconst (v := nI 0) hx hb dX1_becomeLike_118 (by decide) ?_
          refine lv_bipush (v := nI 12) hx hb dX1_becomeLike_119 (by decide) ?_
          refine x_acpyi CF hK hI hA hP hS hl 53 (by decide) dX_53 37 (by decide) dX_37 0 0 12 wd1_231 (by omega) (by omega) (by decide) (by decide) (Nat.le_of_ble_eq_true rfl) (Nat.le_of_ble_eq_true rfl) dX1_becomeLike_121 (fun H locs hP hS => ?_)
          refine lv_aload_n hx hb dX1_becomeLike_124 rfl (lv_at hl 2 rfl) ?_
          refine x_getr CF hK hP 39 (by decide) dX_39 rfl uX1 9 (by decide) (j := 54) rfl wd1_85 rfl dX1_becomeLike_125 ?_
          refine lv_iconst (v := nI 0) hx hb dX1_becomeLike_128 (by decide) ?_
          refine lv_aload_n hx hb dX1_becomeLike_129 rfl (lv_at hl 1 rfl) ?_
          refine x_getr CF hK hP 23 (by decide) dX_23 rfl uX1 9 (by decide) (j := 38) rfl wd1_85 rfl dX1_becomeLike_130 ?_
          refine lv_iconst (v := nI 0) hx hb dX1_becomeLike_133 (by decide) ?_
          refine lv_iconst (v := nI 4) hx hb dX1_becomeLike_134 (by decide) ?_
          refine x_acpyi CF hK hI hA hP hS hl 54 (by decide) dX_54 38 (by decide) dX_38 0 0 4 wd1_231 (by omega) (by omega) (by decide) (by decide) (Nat.le_of_ble_eq_true rfl) (Nat.le_of_ble_eq_true rfl) dX1_becomeLike_135 (fun H locs hP hS => ?_)
          exact x_retv hx hb hr9 hlk9 hS (by rw [← bl_ok (by omega)]; exact hP) dX1_becomeLike_138
        | succ d43 ih43 =>
          intro k h_k H locs ls hP hS hl
          refine lv_iload_n hx hb dX1_becomeLike_43 rfl (lv_at hl 0 rfl) ?_
          refine lv_iconst (v := nI 5) hx hb dX1_becomeLike_44 (by decide) ?_
          refine x_zge (u := (k : Nat)) (v := (5 : Int)) (tgt := 69) hx hb (nI_toInt (by omega)) (rfl) dX1_becomeLike_45 (by decide) (fun h_3 => (by omega : False).elim) (fun h_3 => ?_)
          refine lv_aload_n hx hb dX1_becomeLike_48 rfl (lv_at hl 1 rfl) ?_
          refine x_getr CF hK hP 23 (by decide) dX_23 rfl uX1 2 (by decide) (j := 31) rfl wd1_71 rfl dX1_becomeLike_49 ?_
          refine lv_iload_n hx hb dX1_becomeLike_52 rfl (lv_at hl 0 rfl) ?_
          refine x_aald CF hK hP 31 (by decide) (t := 0) dX_31 (by decide) k (by omega) (by decide) (j := (32 + k)) (oX_fig k (by omega)) dX1_becomeLike_53 ?_
          refine lv_aload_n hx hb dX1_becomeLike_54 rfl (lv_at hl 2 rfl) ?_
          refine x_getr CF hK hP 39 (by decide) dX_39 rfl uX1 2 (by decide) (j := 47) rfl wd1_71 rfl dX1_becomeLike_55 ?_
          refine lv_iload_n hx hb dX1_becomeLike_58 rfl (lv_at hl 0 rfl) ?_
          refine x_aald CF hK hP 47 (by decide) (t := 0) dX_47 (by decide) k (by omega) (by decide) (j := (48 + k)) (oX_fig2 k (by omega)) dX1_becomeLike_59 ?_
          refine x_callVV CF hK hP hS hA hl (As := [.ref (ad (48 + k))]) (rest := []) (c_figLike_ni hI (bl2 23 39 (u2 (bl1 23 39 M 6) 23 1 (M 39 1)) k) J k (by omega)) kw_X0_becomeLike wd3_16 (by omega) (dX_fig k (by omega)) rfl rfl ⟨Nat.le_of_ble_eq_true rfl, Nat.le_of_ble_eq_true rfl⟩ ⟨Nat.le_refl _, Nat.le_refl _⟩ (Nat.le_of_ble_eq_true rfl) dX1_becomeLike_60 (fun H locs hP hS => ?_)
          have hP : g_P g ad dsX 55 (bl2 23 39 (u2 (bl1 23 39 M 6) 23 1 (M 39 1)) (k + 1)) J H := (by rw [← bl2_s (i := 32 + k) (j := 48 + k) (by omega) (by omega) (by omega)]; exact hP)
          refine lv_iinc (v := nI (k + 1)) (lv' := [(2, .int (nI (k + 1))), (0, .ref (ad 23)), (1, .ref (ad 39))]) hx hb dX1_becomeLike_63 hl (k := 0) rfl (n_inc k 1) (by decide) rfl (fun ls hl => ?_)
          refine lv_goto (tgt := 43) hx hb dX1_becomeLike_66 (by decide) ?_
          have hl0 : lv_has ls 3 [(2, .int (nI (k + 1))), (0, .ref (ad 23)), (1, .ref (ad 39))] := lv_sub hl [0, 1, 2] rfl
          exact ih43 (k + 1) (by omega) _ _ _ (hP) hS hl0
      have hl0 : lv_has ls 3 [(2, .int (nI 0)), (0, .ref (ad 23)), (1, .ref (ad 39))] := lv_sub hl [0, 1, 2] rfl
      exact L43 5 0 (by omega) _ _ _ (by rw [bl2_0]; exact hP) hS hl0
    | succ d2 ih2 =>
      intro c h_c H locs ls hP hS hl
      refine lv_iload_n hx hb dX1_becomeLike_2 rfl (lv_at hl 0 rfl) ?_
      refine lv_bipush (v := nI 6) hx hb dX1_becomeLike_3 (by decide) ?_
      refine x_zge (u := (c : Nat)) (v := (6 : Int)) (tgt := 33) hx hb (nI_toInt (by omega)) (rfl) dX1_becomeLike_5 (by decide) (fun h_4 => (by omega : False).elim) (fun h_4 => ?_)
      refine lv_aload_n hx hb dX1_becomeLike_8 rfl (lv_at hl 2 rfl) ?_
      refine x_getr CF hK hP 39 (by decide) dX_39 rfl uX1 0 (by decide) (j := 40) rfl wd1_67 rfl dX1_becomeLike_9 ?_
      refine lv_iload_n hx hb dX1_becomeLike_12 rfl (lv_at hl 0 rfl) ?_
      refine x_aald CF hK hP 40 (by decide) (t := 2) dX_40 (by decide) c (by omega) (by decide) (j := (41 + c)) (oX_hai2 c (by omega)) dX1_becomeLike_13 ?_
      refine lv_iconst (v := nI 0) hx hb dX1_becomeLike_14 (by decide) ?_
      refine lv_aload_n hx hb dX1_becomeLike_15 rfl (lv_at hl 1 rfl) ?_
      refine x_getr CF hK hP 23 (by decide) dX_23 rfl uX1 0 (by decide) (j := 24) rfl wd1_67 rfl dX1_becomeLike_16 ?_
      refine lv_iload_n hx hb dX1_becomeLike_19 rfl (lv_at hl 0 rfl) ?_
      refine x_aald CF hK hP 24 (by decide) (t := 2) dX_24 (by decide) c (by omega) (by decide) (j := (25 + c)) (oX_hair c (by omega)) dX1_becomeLike_20 ?_
      refine lv_iconst (v := nI 0) hx hb dX1_becomeLike_21 (by decide) ?_
      refine lv_bipush (v := nI 12) hx hb dX1_becomeLike_22 (by decide) ?_
      refine x_acpyi CF hK hI hA hP hS hl (41 + c) (by omega) (dX_hai2 c (by omega)) (25 + c) (by omega) (dX_hair c (by omega)) 0 0 12 wd1_231 (by omega) (by omega) (by decide) (by decide) (Nat.le_of_ble_eq_true rfl) (Nat.le_of_ble_eq_true rfl) dX1_becomeLike_24 (fun H locs hP hS => ?_)
      have hP : g_P g ad dsX 55 (bl1 23 39 M (c + 1)) J H := (by rw [← bl1_s (i := 41 + c) (j := 25 + c) (by omega) (by omega) (by omega)]; exact hP)
      refine lv_iinc (v := nI (c + 1)) (lv' := [(2, .int (nI (c + 1))), (0, .ref (ad 23)), (1, .ref (ad 39))]) hx hb dX1_becomeLike_27 hl (k := 0) rfl (n_inc c 1) (by decide) rfl (fun ls hl => ?_)
      refine lv_goto (tgt := 2) hx hb dX1_becomeLike_30 (by decide) ?_
      have hl0 : lv_has ls 3 [(2, .int (nI (c + 1))), (0, .ref (ad 23)), (1, .ref (ad 39))] := lv_sub hl [0, 1, 2] rfl
      exact ih2 (c + 1) (by omega) _ _ _ (hP) hS hl0
  have hl0 : lv_has ls 3 [(2, .int (nI 0)), (0, .ref (ad 23)), (1, .ref (ad 39))] := lv_sub hl [0, 1, 2] rfl
  exact L2 6 0 (by omega) _ _ _ (by rw [bl1_0]; exact hP) hS hl0
set_option maxHeartbeats 4000000 in
set_option maxRecDepth 100000 in
theorem c_playLike_in {l : Launch} {g : gE} {ad : Nat → Nat} (hI : g_inj ad 55) (M : gMem) (J : gMeL)  : CV l g ad dsX 55 yX1_becomeLike cX1_becomeLike 3 1 [.ref (ad 39), .ref (ad 23)] M J (bl 39 23 M) J := by
  refine CV.of (plainFor_of_name (by decide)) (Nat.le_of_ble_eq_true rfl) (fun p9 e9 s9 m9 args9 below9 meth9 c9 CF hK hr9 hlk9 hP hS ls hl => ?_)
  have hx := CF.1
  have hb := CF.2.1
  have hA : ∀ q, g_A ad 55 q → g_A ad 55 q := fun _ h => h
  have hl : lv_has ls 3 [(0, .ref (ad 39)), (1, .ref (ad 23))] := hl
  refine lv_iconst (v := nI 0) hx hb dX1_becomeLike_0 (by decide) ?_
  refine lv_istore_n (lv' := [(2, .int (nI 0)), (0, .ref (ad 39)), (1, .ref (ad 23))]) hx hb dX1_becomeLike_1 rfl hl (by decide) rfl (fun ls hl => ?_)
  have L2 : ∀ (d2 : Nat) (c : Nat), (c + d2 = 6) → (∀ (H : Heap) (locs : List Loc) (ls : Array Slot), g_P g ad dsX 55 (bl1 39 23 M c) J H → va_S (g_A ad 55) s9.heap H locs → lv_has ls 3 [(2, .int (nI c)), (0, .ref (ad 39)), (1, .ref (ad 23))] → W p9 l e9 (g_rm 1) s9 m9 args9 below9 meth9 c9 H locs 0 0 (MQ below9 (va_Qv (fun (_ : Unit) => True) (fun _ t => g_P g ad dsX 55 (bl 39 23 M) J t.heap) (g_A ad 55)) args9 s9 0 0 (g_A ad 55)) (F0 m9 2 ls [])) := by
    intro d2
    induction d2 with
    | zero =>
      intro c h_c H locs ls hP hS hl
      refine lv_iload_n hx hb dX1_becomeLike_2 rfl (lv_at hl 0 rfl) ?_
      refine lv_bipush (v := nI 6) hx hb dX1_becomeLike_3 (by decide) ?_
      refine x_zge (u := (c : Nat)) (v := (6 : Int)) (tgt := 33) hx hb (nI_toInt (by omega)) (rfl) dX1_becomeLike_5 (by decide) (fun h_1 => ?_) (fun h_1 => (by omega : False).elim)
      refine lv_aload_n hx hb dX1_becomeLike_33 rfl (lv_at hl 1 rfl) ?_
      refine lv_aload_n hx hb dX1_becomeLike_34 rfl (lv_at hl 2 rfl) ?_
      refine x_geti CF hK hP 23 (by decide) dX_23 rfl uX1 1 (by decide) rfl wd1_69 rfl dX1_becomeLike_35 ?_
      refine x_ri (show (nI ((bl1 39 23 M c) 23 1)) = nI (M 23 1) from by rw [bl1_out (by omega)]) ?_
      refine x_puti CF hK hI hA hP hS 39 (by decide) dX_39 rfl uX1 tyX1 tyX1_ok nmX1 1 (by decide) rfl wd1_69 rfl rfl (M 23 1) (ty := .int) rfl rfl rfl dX1_becomeLike_38 (fun H locs hP hS => ?_)
      have hP : g_P g ad dsX 55 (u2 (bl1 39 23 M 6) 39 1 (M 23 1)) J H := (by rw [show 6 = c by omega]; exact hP)
      refine lv_iconst (v := nI 0) hx hb dX1_becomeLike_41 (by decide) ?_
      refine lv_istore_n (lv' := [(2, .int (nI 0)), (0, .ref (ad 39)), (1, .ref (ad 23))]) hx hb dX1_becomeLike_42 rfl hl (by decide) rfl (fun ls hl => ?_)
      have L43 : ∀ (d43 : Nat) (k : Nat), (k + d43 = 5) → (∀ (H : Heap) (locs : List Loc) (ls : Array Slot), g_P g ad dsX 55 (bl2 39 23 (u2 (bl1 39 23 M 6) 39 1 (M 23 1)) k) J H → va_S (g_A ad 55) s9.heap H locs → lv_has ls 3 [(2, .int (nI k)), (0, .ref (ad 39)), (1, .ref (ad 23))] → W p9 l e9 (g_rm 1) s9 m9 args9 below9 meth9 c9 H locs 0 0 (MQ below9 (va_Qv (fun (_ : Unit) => True) (fun _ t => g_P g ad dsX 55 (bl 39 23 M) J t.heap) (g_A ad 55)) args9 s9 0 0 (g_A ad 55)) (F0 m9 43 ls [])) := by
        intro d43
        induction d43 with
        | zero =>
          intro k h_k H locs ls hP hS hl
          refine lv_iload_n hx hb dX1_becomeLike_43 rfl (lv_at hl 0 rfl) ?_
          refine lv_iconst (v := nI 5) hx hb dX1_becomeLike_44 (by decide) ?_
          refine x_zge (u := (k : Nat)) (v := (5 : Int)) (tgt := 69) hx hb (nI_toInt (by omega)) (rfl) dX1_becomeLike_45 (by decide) (fun h_2 => ?_) (fun h_2 => (by omega : False).elim)
          refine lv_aload_n hx hb dX1_becomeLike_69 rfl (lv_at hl 1 rfl) ?_
          refine lv_aload_n hx hb dX1_becomeLike_70 rfl (lv_at hl 2 rfl) ?_
          refine x_geti CF hK hP 23 (by decide) dX_23 rfl uX1 3 (by decide) rfl wd1_73 rfl dX1_becomeLike_71 ?_
          refine x_ri (show (nI ((bl2 39 23 (u2 (bl1 39 23 M 6) 39 1 (M 23 1)) k) 23 3)) = nI (M 23 3) from congrArg nI (by rw [bl2_out (by omega), u2_row (by omega), bl1_out (by omega)])) ?_
          refine x_puti CF hK hI hA hP hS 39 (by decide) dX_39 rfl uX1 tyX1 tyX1_ok nmX1 3 (by decide) rfl wd1_73 rfl rfl (M 23 3) (ty := .int) rfl rfl rfl dX1_becomeLike_74 (fun H locs hP hS => ?_)
          have hP : g_P g ad dsX 55 (u2 (blA 39 23 M) 39 3 (M 23 3)) J H := (by rw [show blA 39 23 M = bl2 39 23 (u2 (bl1 39 23 M 6) 39 1 (M 23 1)) k by rw [show k = 5 by omega]; rfl]; exact hP)
          refine lv_aload_n hx hb dX1_becomeLike_77 rfl (lv_at hl 1 rfl) ?_
          refine lv_aload_n hx hb dX1_becomeLike_78 rfl (lv_at hl 2 rfl) ?_
          refine x_geti CF hK hP 23 (by decide) dX_23 rfl uX1 4 (by decide) rfl wd1_75 rfl dX1_becomeLike_79 ?_
          refine x_ri (show (nI ((u2 (blA 39 23 M) 39 3 (M 23 3)) 23 4)) = nI (M 23 4) from congrArg nI (by rw [u2_row (by omega)]; show blA 39 23 M 23 4 = _; rw [blA, bl2_out (by omega), u2_row (by omega), bl1_out (by omega)])) ?_
          refine x_puti CF hK hI hA hP hS 39 (by decide) dX_39 rfl uX1 tyX1 tyX1_ok nmX1 4 (by decide) rfl wd1_75 rfl rfl (M 23 4) (ty := .int) rfl rfl rfl dX1_becomeLike_82 (fun H locs hP hS => ?_)
          have hP : g_P g ad dsX 55 (u2 (u2 (blA 39 23 M) 39 3 (M 23 3)) 39 4 (M 23 4)) J H := hP
          refine lv_aload_n hx hb dX1_becomeLike_85 rfl (lv_at hl 1 rfl) ?_
          refine lv_aload_n hx hb dX1_becomeLike_86 rfl (lv_at hl 2 rfl) ?_
          refine x_geti CF hK hP 23 (by decide) dX_23 rfl uX1 5 (by decide) rfl wd1_77 rfl dX1_becomeLike_87 ?_
          refine x_ri (show (nI ((u2 (u2 (blA 39 23 M) 39 3 (M 23 3)) 39 4 (M 23 4)) 23 5)) = nI (M 23 5) from congrArg nI (by rw [u2_row (by omega), u2_row (by omega)]; show blA 39 23 M 23 5 = _; rw [blA, bl2_out (by omega), u2_row (by omega), bl1_out (by omega)])) ?_
          refine x_puti CF hK hI hA hP hS 39 (by decide) dX_39 rfl uX1 tyX1 tyX1_ok nmX1 5 (by decide) rfl wd1_77 rfl rfl (M 23 5) (ty := .int) rfl rfl rfl dX1_becomeLike_90 (fun H locs hP hS => ?_)
          have hP : g_P g ad dsX 55 (u2 (u2 (u2 (blA 39 23 M) 39 3 (M 23 3)) 39 4 (M 23 4)) 39 5 (M 23 5)) J H := hP
          refine lv_aload_n hx hb dX1_becomeLike_93 rfl (lv_at hl 1 rfl) ?_
          refine lv_aload_n hx hb dX1_becomeLike_94 rfl (lv_at hl 2 rfl) ?_
          refine x_geti CF hK hP 23 (by decide) dX_23 rfl uX1 6 (by decide) rfl wd1_79 rfl dX1_becomeLike_95 ?_
          refine x_ri (show (nI ((u2 (u2 (u2 (blA 39 23 M) 39 3 (M 23 3)) 39 4 (M 23 4)) 39 5 (M 23 5)) 23 6)) = nI (M 23 6) from congrArg nI (by rw [u2_row (by omega), u2_row (by omega), u2_row (by omega)]; show blA 39 23 M 23 6 = _; rw [blA, bl2_out (by omega), u2_row (by omega), bl1_out (by omega)])) ?_
          refine x_puti CF hK hI hA hP hS 39 (by decide) dX_39 rfl uX1 tyX1 tyX1_ok nmX1 6 (by decide) rfl wd1_79 rfl rfl (M 23 6) (ty := .int) rfl rfl rfl dX1_becomeLike_98 (fun H locs hP hS => ?_)
          have hP : g_P g ad dsX 55 (u2 (u2 (u2 (u2 (blA 39 23 M) 39 3 (M 23 3)) 39 4 (M 23 4)) 39 5 (M 23 5)) 39 6 (M 23 6)) J H := hP
          refine lv_aload_n hx hb dX1_becomeLike_101 rfl (lv_at hl 1 rfl) ?_
          refine lv_aload_n hx hb dX1_becomeLike_102 rfl (lv_at hl 2 rfl) ?_
          refine x_geti CF hK hP 23 (by decide) dX_23 rfl uX1 7 (by decide) rfl wd1_81 rfl dX1_becomeLike_103 ?_
          refine x_ri (show (nI ((u2 (u2 (u2 (u2 (blA 39 23 M) 39 3 (M 23 3)) 39 4 (M 23 4)) 39 5 (M 23 5)) 39 6 (M 23 6)) 23 7)) = nI (M 23 7) from congrArg nI (by rw [u2_row (by omega), u2_row (by omega), u2_row (by omega), u2_row (by omega)]; show blA 39 23 M 23 7 = _; rw [blA, bl2_out (by omega), u2_row (by omega), bl1_out (by omega)])) ?_
          refine x_puti CF hK hI hA hP hS 39 (by decide) dX_39 rfl uX1 tyX1 tyX1_ok nmX1 7 (by decide) rfl wd1_81 rfl rfl (M 23 7) (ty := .int) rfl rfl rfl dX1_becomeLike_106 (fun H locs hP hS => ?_)
          have hP : g_P g ad dsX 55 (u2 (u2 (u2 (u2 (u2 (blA 39 23 M) 39 3 (M 23 3)) 39 4 (M 23 4)) 39 5 (M 23 5)) 39 6 (M 23 6)) 39 7 (M 23 7)) J H := hP
          refine lv_aload_n hx hb dX1_becomeLike_109 rfl (lv_at hl 2 rfl) ?_
          refine x_getr CF hK hP 23 (by decide) dX_23 rfl uX1 8 (by decide) (j := 37) rfl wd1_83 rfl dX1_becomeLike_110 ?_
          refine lv_iconst (v := nI 0) hx hb dX1_becomeLike_113 (by decide) ?_
          refine lv_aload_n hx hb dX1_becomeLike_114 rfl (lv_at hl 1 rfl) ?_
          refine x_getr CF hK hP 39 (by decide) dX_39 rfl uX1 8 (by decide) (j := 53) rfl wd1_83 rfl dX1_becomeLike_115 ?_
          refine lv_iconst (v := nI 0) hx hb dX1_becomeLike_118 (by decide) ?_
          refine lv_bipush (v := nI 12) hx hb dX1_becomeLike_119 (by decide) ?_
          refine x_acpyi CF hK hI hA hP hS hl 37 (by decide) dX_37 53 (by decide) dX_53 0 0 12 wd1_231 (by omega) (by omega) (by decide) (by decide) (Nat.le_of_ble_eq_true rfl) (Nat.le_of_ble_eq_true rfl) dX1_becomeLike_121 (fun H locs hP hS => ?_)
          refine lv_aload_n hx hb dX1_becomeLike_124 rfl (lv_at hl 2 rfl) ?_
          refine x_getr CF hK hP 23 (by decide) dX_23 rfl uX1 9 (by decide) (j := 38) rfl wd1_85 rfl dX1_becomeLike_125 ?_
          refine lv_iconst (v := nI 0) hx hb dX1_becomeLike_128 (by decide) ?_
          refine lv_aload_n hx hb dX1_becomeLike_129 rfl (lv_at hl 1 rfl) ?_
          refine x_getr CF hK hP 39 (by decide) dX_39 rfl uX1 9 (by decide) (j := 54) rfl wd1_85 rfl dX1_becomeLike_130 ?_
          refine lv_iconst (v := nI 0) hx hb dX1_becomeLike_133 (by decide) ?_
          refine lv_iconst (v := nI 4) hx hb dX1_becomeLike_134 (by decide) ?_
          refine x_acpyi CF hK hI hA hP hS hl 38 (by decide) dX_38 54 (by decide) dX_54 0 0 4 wd1_231 (by omega) (by omega) (by decide) (by decide) (Nat.le_of_ble_eq_true rfl) (Nat.le_of_ble_eq_true rfl) dX1_becomeLike_135 (fun H locs hP hS => ?_)
          exact x_retv hx hb hr9 hlk9 hS (by rw [← bl_ok (by omega)]; exact hP) dX1_becomeLike_138
        | succ d43 ih43 =>
          intro k h_k H locs ls hP hS hl
          refine lv_iload_n hx hb dX1_becomeLike_43 rfl (lv_at hl 0 rfl) ?_
          refine lv_iconst (v := nI 5) hx hb dX1_becomeLike_44 (by decide) ?_
          refine x_zge (u := (k : Nat)) (v := (5 : Int)) (tgt := 69) hx hb (nI_toInt (by omega)) (rfl) dX1_becomeLike_45 (by decide) (fun h_3 => (by omega : False).elim) (fun h_3 => ?_)
          refine lv_aload_n hx hb dX1_becomeLike_48 rfl (lv_at hl 1 rfl) ?_
          refine x_getr CF hK hP 39 (by decide) dX_39 rfl uX1 2 (by decide) (j := 47) rfl wd1_71 rfl dX1_becomeLike_49 ?_
          refine lv_iload_n hx hb dX1_becomeLike_52 rfl (lv_at hl 0 rfl) ?_
          refine x_aald CF hK hP 47 (by decide) (t := 0) dX_47 (by decide) k (by omega) (by decide) (j := (48 + k)) (oX_fig2 k (by omega)) dX1_becomeLike_53 ?_
          refine lv_aload_n hx hb dX1_becomeLike_54 rfl (lv_at hl 2 rfl) ?_
          refine x_getr CF hK hP 23 (by decide) dX_23 rfl uX1 2 (by decide) (j := 31) rfl wd1_71 rfl dX1_becomeLike_55 ?_
          refine lv_iload_n hx hb dX1_becomeLike_58 rfl (lv_at hl 0 rfl) ?_
          refine x_aald CF hK hP 31 (by decide) (t := 0) dX_31 (by decide) k (by omega) (by decide) (j := (32 + k)) (oX_fig k (by omega)) dX1_becomeLike_59 ?_
          refine x_callVV CF hK hP hS hA hl (As := [.ref (ad (32 + k))]) (rest := []) (c_figLike_in hI (bl2 39 23 (u2 (bl1 39 23 M 6) 39 1 (M 23 1)) k) J k (by omega)) kw_X0_becomeLike wd3_16 (by omega) (dX_fig2 k (by omega)) rfl rfl ⟨Nat.le_of_ble_eq_true rfl, Nat.le_of_ble_eq_true rfl⟩ ⟨Nat.le_refl _, Nat.le_refl _⟩ (Nat.le_of_ble_eq_true rfl) dX1_becomeLike_60 (fun H locs hP hS => ?_)
          have hP : g_P g ad dsX 55 (bl2 39 23 (u2 (bl1 39 23 M 6) 39 1 (M 23 1)) (k + 1)) J H := (by rw [← bl2_s (i := 48 + k) (j := 32 + k) (by omega) (by omega) (by omega)]; exact hP)
          refine lv_iinc (v := nI (k + 1)) (lv' := [(2, .int (nI (k + 1))), (0, .ref (ad 39)), (1, .ref (ad 23))]) hx hb dX1_becomeLike_63 hl (k := 0) rfl (n_inc k 1) (by decide) rfl (fun ls hl => ?_)
          refine lv_goto (tgt := 43) hx hb dX1_becomeLike_66 (by decide) ?_
          have hl0 : lv_has ls 3 [(2, .int (nI (k + 1))), (0, .ref (ad 39)), (1, .ref (ad 23))] := lv_sub hl [0, 1, 2] rfl
          exact ih43 (k + 1) (by omega) _ _ _ (hP) hS hl0
      have hl0 : lv_has ls 3 [(2, .int (nI 0)), (0, .ref (ad 39)), (1, .ref (ad 23))] := lv_sub hl [0, 1, 2] rfl
      exact L43 5 0 (by omega) _ _ _ (by rw [bl2_0]; exact hP) hS hl0
    | succ d2 ih2 =>
      intro c h_c H locs ls hP hS hl
      refine lv_iload_n hx hb dX1_becomeLike_2 rfl (lv_at hl 0 rfl) ?_
      refine lv_bipush (v := nI 6) hx hb dX1_becomeLike_3 (by decide) ?_
      refine x_zge (u := (c : Nat)) (v := (6 : Int)) (tgt := 33) hx hb (nI_toInt (by omega)) (rfl) dX1_becomeLike_5 (by decide) (fun h_4 => (by omega : False).elim) (fun h_4 => ?_)
      refine lv_aload_n hx hb dX1_becomeLike_8 rfl (lv_at hl 2 rfl) ?_
      refine x_getr CF hK hP 23 (by decide) dX_23 rfl uX1 0 (by decide) (j := 24) rfl wd1_67 rfl dX1_becomeLike_9 ?_
      refine lv_iload_n hx hb dX1_becomeLike_12 rfl (lv_at hl 0 rfl) ?_
      refine x_aald CF hK hP 24 (by decide) (t := 2) dX_24 (by decide) c (by omega) (by decide) (j := (25 + c)) (oX_hair c (by omega)) dX1_becomeLike_13 ?_
      refine lv_iconst (v := nI 0) hx hb dX1_becomeLike_14 (by decide) ?_
      refine lv_aload_n hx hb dX1_becomeLike_15 rfl (lv_at hl 1 rfl) ?_
      refine x_getr CF hK hP 39 (by decide) dX_39 rfl uX1 0 (by decide) (j := 40) rfl wd1_67 rfl dX1_becomeLike_16 ?_
      refine lv_iload_n hx hb dX1_becomeLike_19 rfl (lv_at hl 0 rfl) ?_
      refine x_aald CF hK hP 40 (by decide) (t := 2) dX_40 (by decide) c (by omega) (by decide) (j := (41 + c)) (oX_hai2 c (by omega)) dX1_becomeLike_20 ?_
      refine lv_iconst (v := nI 0) hx hb dX1_becomeLike_21 (by decide) ?_
      refine lv_bipush (v := nI 12) hx hb dX1_becomeLike_22 (by decide) ?_
      refine x_acpyi CF hK hI hA hP hS hl (25 + c) (by omega) (dX_hair c (by omega)) (41 + c) (by omega) (dX_hai2 c (by omega)) 0 0 12 wd1_231 (by omega) (by omega) (by decide) (by decide) (Nat.le_of_ble_eq_true rfl) (Nat.le_of_ble_eq_true rfl) dX1_becomeLike_24 (fun H locs hP hS => ?_)
      have hP : g_P g ad dsX 55 (bl1 39 23 M (c + 1)) J H := (by rw [← bl1_s (i := 25 + c) (j := 41 + c) (by omega) (by omega) (by omega)]; exact hP)
      refine lv_iinc (v := nI (c + 1)) (lv' := [(2, .int (nI (c + 1))), (0, .ref (ad 39)), (1, .ref (ad 23))]) hx hb dX1_becomeLike_27 hl (k := 0) rfl (n_inc c 1) (by decide) rfl (fun ls hl => ?_)
      refine lv_goto (tgt := 2) hx hb dX1_becomeLike_30 (by decide) ?_
      have hl0 : lv_has ls 3 [(2, .int (nI (c + 1))), (0, .ref (ad 39)), (1, .ref (ad 23))] := lv_sub hl [0, 1, 2] rfl
      exact ih2 (c + 1) (by omega) _ _ _ (hP) hS hl0
  have hl0 : lv_has ls 3 [(2, .int (nI 0)), (0, .ref (ad 39)), (1, .ref (ad 23))] := lv_sub hl [0, 1, 2] rfl
  exact L2 6 0 (by omega) _ _ _ (by rw [bl1_0]; exact hP) hS hl0
set_option maxHeartbeats 4000000 in
set_option maxRecDepth 100000 in
theorem c_addCam_full {l : Launch} {g : gE} {ad : Nat → Nat} (hI : g_inj ad 55) (M : gMem) (J : gMeL) (h : M 23 1 = 6) : CI l g ad dsX 55 yX1_addCam cX1_addCam 2 (some .int) 0 [.ref (ad 23), .ref (ad 3)] M J (nI 4294967293) M J := by
  refine CI.of (plainFor_of_name (by decide)) (Nat.le_of_ble_eq_true rfl) (fun p9 e9 s9 m9 args9 below9 meth9 c9 CF hK hr9 hlk9 hP hS ls hl => ?_)
  have hx := CF.1
  have hb := CF.2.1
  have hA : ∀ q, g_A ad 55 q → g_A ad 55 q := fun _ h => h
  have hl : lv_has ls 2 [(0, .ref (ad 23)), (1, .ref (ad 3))] := hl
  refine lv_aload_n hx hb dX1_addCam_0 rfl (lv_at hl 0 rfl) ?_
  refine x_geti CF hK hP 23 (by decide) dX_23 rfl uX1 1 (by decide) rfl wd1_69 rfl dX1_addCam_1 ?_
  refine lv_bipush (v := nI 6) hx hb dX1_addCam_4 (by decide) ?_
  refine x_zlt (u := (M 23 1 : Nat)) (v := (6 : Int)) (tgt := 12) hx hb (nI_toInt (by omega)) (rfl) dX1_addCam_6 (by decide) (fun h_1 => (by omega : False).elim) (fun h_1 => ?_)
  refine lv_bipush (v := nI 4294967293) hx hb dX1_addCam_9 (by decide) ?_
  exact x_reti hx hb hr9 hlk9 hS hP (by first | rfl | (show nI 4294967293 = nI 4294967293; first | rfl | omega)) dX1_addCam_11
set_option maxHeartbeats 4000000 in
set_option maxRecDepth 100000 in
theorem c_addCam_ok {l : Launch} {g : gE} {ad : Nat → Nat} (hI : g_inj ad 55) (M : gMem) (J : gMeL) (h : M 23 1 < 6) : CI l g ad dsX 55 yX1_addCam cX1_addCam 2 (some .int) 1 [.ref (ad 23), .ref (ad 3)] M J (nI (M 23 1)) (u2 (gcpy M 3 0 (25 + M 23 1) 0 12) 23 1 (M 23 1 + 1)) J := by
  refine CI.of (plainFor_of_name (by decide)) (Nat.le_of_ble_eq_true rfl) (fun p9 e9 s9 m9 args9 below9 meth9 c9 CF hK hr9 hlk9 hP hS ls hl => ?_)
  have hx := CF.1
  have hb := CF.2.1
  have hA : ∀ q, g_A ad 55 q → g_A ad 55 q := fun _ h => h
  have hl : lv_has ls 2 [(0, .ref (ad 23)), (1, .ref (ad 3))] := hl
  refine lv_aload_n hx hb dX1_addCam_0 rfl (lv_at hl 0 rfl) ?_
  refine x_geti CF hK hP 23 (by decide) dX_23 rfl uX1 1 (by decide) rfl wd1_69 rfl dX1_addCam_1 ?_
  refine lv_bipush (v := nI 6) hx hb dX1_addCam_4 (by decide) ?_
  refine x_zlt (u := (M 23 1 : Nat)) (v := (6 : Int)) (tgt := 12) hx hb (nI_toInt (by omega)) (rfl) dX1_addCam_6 (by decide) (fun h_1 => ?_) (fun h_1 => (by omega : False).elim)
  refine lv_aload_n hx hb dX1_addCam_12 rfl (lv_at hl 1 rfl) ?_
  refine lv_iconst (v := nI 0) hx hb dX1_addCam_13 (by decide) ?_
  refine lv_aload_n hx hb dX1_addCam_14 rfl (lv_at hl 0 rfl) ?_
  refine x_getr CF hK hP 23 (by decide) dX_23 rfl uX1 0 (by decide) (j := 24) rfl wd1_67 rfl dX1_addCam_15 ?_
  refine lv_aload_n hx hb dX1_addCam_18 rfl (lv_at hl 0 rfl) ?_
  refine x_geti CF hK hP 23 (by decide) dX_23 rfl uX1 1 (by decide) rfl wd1_69 rfl dX1_addCam_19 ?_
  refine x_aald CF hK hP 24 (by decide) (t := 2) dX_24 (by decide) (M 23 1) (by omega) (by decide) (j := (25 + (M 23 1))) (oX_hair (M 23 1) (by omega)) dX1_addCam_22 ?_
  refine lv_iconst (v := nI 0) hx hb dX1_addCam_23 (by decide) ?_
  refine lv_bipush (v := nI 12) hx hb dX1_addCam_24 (by decide) ?_
  refine x_acpyi CF hK hI hA hP hS hl 3 (by decide) dX_3 (25 + (M 23 1)) (by omega) (dX_hair (M 23 1) (by omega)) 0 0 12 wd1_231 (by omega) (by omega) (by decide) (by decide) (Nat.le_of_ble_eq_true rfl) (Nat.le_of_ble_eq_true rfl) dX1_addCam_26 (fun H locs hP hS => ?_)
  refine lv_aload_n hx hb dX1_addCam_29 rfl (lv_at hl 0 rfl) ?_
  refine lv_dup hx hb dX1_addCam_30 rfl ?_
  refine x_geti CF hK hP 23 (by decide) dX_23 rfl uX1 1 (by decide) rfl wd1_69 rfl dX1_addCam_31 ?_
  refine x_ri (show (nI ((gcpy M 3 0 (25 + (M 23 1)) 0 12) 23 1)) = nI (M 23 1) from congrArg nI (by simp only [gcpy]; rw [if_neg (by omega)])) ?_
  refine lv_iconst (v := nI 1) hx hb dX1_addCam_34 (by decide) ?_
  refine x_iadd hx hb dX1_addCam_35 ?_
  refine x_puti CF hK hI hA hP hS 23 (by decide) dX_23 rfl uX1 tyX1 tyX1_ok nmX1 1 (by decide) rfl wd1_69 rfl rfl ((M 23 1) + 1) (ty := .int) rfl rfl rfl dX1_addCam_36 (fun H locs hP hS => ?_)
  refine lv_aload_n hx hb dX1_addCam_39 rfl (lv_at hl 0 rfl) ?_
  refine x_geti CF hK hP 23 (by decide) dX_23 rfl uX1 1 (by decide) rfl wd1_69 rfl dX1_addCam_40 ?_
  refine x_ri (show (nI ((u2 (gcpy M 3 0 (25 + (M 23 1)) 0 12) 23 1 ((M 23 1) + 1)) 23 1)) = nI (M 23 1 + 1) from congrArg nI (u2_same _ _ _ _)) ?_
  refine lv_iconst (v := nI 1) hx hb dX1_addCam_43 (by decide) ?_
  refine x_isub hx hb (by omega) dX1_addCam_44 ?_
  exact x_reti hx hb hr9 hlk9 hS (by exact hP) (by congr 1) dX1_addCam_45
def adF (M : gMem) (f kind cam lag place : Nat) : gMem := u2 (u2 (u2 (u2 (u2 (u2 M (32 + f) 0 kind) (32 + f) 1 cam) (32 + f) 2 lag) (32 + f) 3 place) (32 + f) 4 0) (32 + f) 5 0
theorem adF_row {M : gMem} {f kind cam lag place j : Nat} (h : j ≠ 32 + f) : adF M f kind cam lag place j = M j := by
  unfold adF; rw [u2_row h, u2_row h, u2_row h, u2_row h, u2_row h, u2_row h]
set_option maxHeartbeats 4000000 in
set_option maxRecDepth 100000 in
theorem c_addFig_full {l : Launch} {g : gE} {ad : Nat → Nat} (hI : g_inj ad 55) (M : gMem) (J : gMeL) (a b d f : Nat) (h : M 23 3 = 5) : CI l g ad dsX 55 yX1_addFigure cX1_addFigure 6 (some .int) 0 [.ref (ad 23), .int (nI a), .int (nI b), .int (nI d), .int (nI f)] M J (nI 4294967293) M J := by
  refine CI.of (plainFor_of_name (by decide)) (Nat.le_of_ble_eq_true rfl) (fun p9 e9 s9 m9 args9 below9 meth9 c9 CF hK hr9 hlk9 hP hS ls hl => ?_)
  have hx := CF.1
  have hb := CF.2.1
  have hA : ∀ q, g_A ad 55 q → g_A ad 55 q := fun _ h => h
  have hl : lv_has ls 6 [(0, .ref (ad 23)), (1, .int (nI a)), (2, .int (nI b)), (3, .int (nI d)), (4, .int (nI f))] := hl
  refine lv_aload_n hx hb dX1_addFigure_0 rfl (lv_at hl 0 rfl) ?_
  refine x_geti CF hK hP 23 (by decide) dX_23 rfl uX1 3 (by decide) rfl wd1_73 rfl dX1_addFigure_1 ?_
  refine lv_iconst (v := nI 5) hx hb dX1_addFigure_4 (by decide) ?_
  refine x_zlt (u := (M 23 3 : Nat)) (v := (5 : Int)) (tgt := 11) hx hb (nI_toInt (by omega)) (rfl) dX1_addFigure_5 (by decide) (fun h_1 => (by omega : False).elim) (fun h_1 => ?_)
  refine lv_bipush (v := nI 4294967293) hx hb dX1_addFigure_8 (by decide) ?_
  exact x_reti hx hb hr9 hlk9 hS hP (by first | rfl | (show nI 4294967293 = nI 4294967293; first | rfl | omega)) dX1_addFigure_10
set_option maxHeartbeats 4000000 in
set_option maxRecDepth 100000 in
theorem c_addFig_ok {l : Launch} {g : gE} {ad : Nat → Nat} (hI : g_inj ad 55) (M : gMem) (J : gMeL) (a b d f : Nat) (h : M 23 3 < 5) : CI l g ad dsX 55 yX1_addFigure cX1_addFigure 6 (some .int) 0 [.ref (ad 23), .int (nI a), .int (nI b), .int (nI d), .int (nI f)] M J (nI (M 23 3)) (u2 (adF M (M 23 3) a b d f) 23 3 (M 23 3 + 1)) J := by
  refine CI.of (plainFor_of_name (by decide)) (Nat.le_of_ble_eq_true rfl) (fun p9 e9 s9 m9 args9 below9 meth9 c9 CF hK hr9 hlk9 hP hS ls hl => ?_)
  have hx := CF.1
  have hb := CF.2.1
  have hA : ∀ q, g_A ad 55 q → g_A ad 55 q := fun _ h => h
  have hl : lv_has ls 6 [(0, .ref (ad 23)), (1, .int (nI a)), (2, .int (nI b)), (3, .int (nI d)), (4, .int (nI f))] := hl
  refine lv_aload_n hx hb dX1_addFigure_0 rfl (lv_at hl 0 rfl) ?_
  refine x_geti CF hK hP 23 (by decide) dX_23 rfl uX1 3 (by decide) rfl wd1_73 rfl dX1_addFigure_1 ?_
  refine lv_iconst (v := nI 5) hx hb dX1_addFigure_4 (by decide) ?_
  refine x_zlt (u := (M 23 3 : Nat)) (v := (5 : Int)) (tgt := 11) hx hb (nI_toInt (by omega)) (rfl) dX1_addFigure_5 (by decide) (fun h_1 => ?_) (fun h_1 => (by omega : False).elim)
  refine lv_aload_n hx hb dX1_addFigure_11 rfl (lv_at hl 0 rfl) ?_
  refine x_getr CF hK hP 23 (by decide) dX_23 rfl uX1 2 (by decide) (j := 31) rfl wd1_71 rfl dX1_addFigure_12 ?_
  refine lv_aload_n hx hb dX1_addFigure_15 rfl (lv_at hl 0 rfl) ?_
  refine x_geti CF hK hP 23 (by decide) dX_23 rfl uX1 3 (by decide) rfl wd1_73 rfl dX1_addFigure_16 ?_
  refine x_aald CF hK hP 31 (by decide) (t := 0) dX_31 (by decide) (M 23 3) (by omega) (by decide) (j := (32 + (M 23 3))) (oX_fig (M 23 3) (by omega)) dX1_addFigure_19 ?_
  refine lv_astore (lv' := [(5, .ref (ad (32 + (M 23 3)))), (0, .ref (ad 23)), (1, .int (nI a)), (2, .int (nI b)), (3, .int (nI d)), (4, .int (nI f))]) hx hb dX1_addFigure_20 hl (by decide) rfl (fun ls hl => ?_)
  refine lv_aload hx hb dX1_addFigure_22 (lv_at hl 0 rfl) ?_
  refine lv_iload_n hx hb dX1_addFigure_24 rfl (lv_at hl 2 rfl) ?_
  refine x_puti CF hK hI hA hP hS (32 + (M 23 3)) (by omega) (dX_fig (M 23 3) (by omega)) rfl uX0 tyX0 tyX0_ok nmX0 0 (by decide) rfl wd1_36 rfl rfl a (ty := .int) rfl rfl rfl dX1_addFigure_25 (fun H locs hP hS => ?_)
  refine lv_aload hx hb dX1_addFigure_28 (lv_at hl 0 rfl) ?_
  refine lv_iload_n hx hb dX1_addFigure_30 rfl (lv_at hl 3 rfl) ?_
  refine x_puti CF hK hI hA hP hS (32 + (M 23 3)) (by omega) (dX_fig (M 23 3) (by omega)) rfl uX0 tyX0 tyX0_ok nmX0 1 (by decide) rfl wd1_38 rfl rfl b (ty := .int) rfl rfl rfl dX1_addFigure_31 (fun H locs hP hS => ?_)
  refine lv_aload hx hb dX1_addFigure_34 (lv_at hl 0 rfl) ?_
  refine lv_iload_n hx hb dX1_addFigure_36 rfl (lv_at hl 4 rfl) ?_
  refine x_puti CF hK hI hA hP hS (32 + (M 23 3)) (by omega) (dX_fig (M 23 3) (by omega)) rfl uX0 tyX0 tyX0_ok nmX0 2 (by decide) rfl wd1_41 rfl rfl d (ty := .int) rfl rfl rfl dX1_addFigure_37 (fun H locs hP hS => ?_)
  refine lv_aload hx hb dX1_addFigure_40 (lv_at hl 0 rfl) ?_
  refine lv_iload hx hb dX1_addFigure_42 (lv_at hl 5 rfl) ?_
  refine x_puti CF hK hI hA hP hS (32 + (M 23 3)) (by omega) (dX_fig (M 23 3) (by omega)) rfl uX0 tyX0 tyX0_ok nmX0 3 (by decide) rfl wd1_42 rfl rfl f (ty := .int) rfl rfl rfl dX1_addFigure_44 (fun H locs hP hS => ?_)
  refine lv_aload hx hb dX1_addFigure_47 (lv_at hl 0 rfl) ?_
  refine lv_iconst (v := nI 0) hx hb dX1_addFigure_49 (by decide) ?_
  refine x_puti CF hK hI hA hP hS (32 + (M 23 3)) (by omega) (dX_fig (M 23 3) (by omega)) rfl uX0 tyX0 tyX0_ok nmX0 4 (by decide) rfl wd1_45 rfl rfl 0 (ty := .int) rfl rfl rfl dX1_addFigure_50 (fun H locs hP hS => ?_)
  refine lv_aload hx hb dX1_addFigure_53 (lv_at hl 0 rfl) ?_
  refine lv_iconst (v := nI 0) hx hb dX1_addFigure_55 (by decide) ?_
  refine x_puti CF hK hI hA hP hS (32 + (M 23 3)) (by omega) (dX_fig (M 23 3) (by omega)) rfl uX0 tyX0 tyX0_ok nmX0 5 (by decide) rfl wd1_48 rfl rfl 0 (ty := .int) rfl rfl rfl dX1_addFigure_56 (fun H locs hP hS => ?_)
  have hP : g_P g ad dsX 55 (adF M (M 23 3) a b d f) J H := hP
  refine lv_aload_n hx hb dX1_addFigure_59 rfl (lv_at hl 1 rfl) ?_
  refine lv_dup hx hb dX1_addFigure_60 rfl ?_
  refine x_geti CF hK hP 23 (by decide) dX_23 rfl uX1 3 (by decide) rfl wd1_73 rfl dX1_addFigure_61 ?_
  refine x_ri (show (nI ((adF M (M 23 3) a b d f) 23 3)) = nI (M 23 3) from by rw [adF_row (by omega)]) ?_
  refine lv_iconst (v := nI 1) hx hb dX1_addFigure_64 (by decide) ?_
  refine x_iadd hx hb dX1_addFigure_65 ?_
  refine x_puti CF hK hI hA hP hS 23 (by decide) dX_23 rfl uX1 tyX1 tyX1_ok nmX1 3 (by decide) rfl wd1_73 rfl rfl ((M 23 3) + 1) (ty := .int) rfl rfl rfl dX1_addFigure_66 (fun H locs hP hS => ?_)
  refine lv_aload_n hx hb dX1_addFigure_69 rfl (lv_at hl 1 rfl) ?_
  refine x_geti CF hK hP 23 (by decide) dX_23 rfl uX1 3 (by decide) rfl wd1_73 rfl dX1_addFigure_70 ?_
  refine x_ri (show (nI ((u2 (adF M (M 23 3) a b d f) 23 3 ((M 23 3) + 1)) 23 3)) = nI (M 23 3 + 1) from congrArg nI (u2_same _ _ _ _)) ?_
  refine lv_iconst (v := nI 1) hx hb dX1_addFigure_73 (by decide) ?_
  refine x_isub hx hb (by omega) dX1_addFigure_74 ?_
  exact x_reti hx hb hr9 hlk9 hS (by exact hP) (by congr 1) dX1_addFigure_75
