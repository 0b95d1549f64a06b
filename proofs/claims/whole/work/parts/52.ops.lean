/-! one call on both sides -/
def bOK (l : Launch) (g : gE) (ad ad' : Nat → Nat) (yX : MethodName) (cX : ByteArray) (mX lX : Nat) (yR : MethodName) (cR : ByteArray) (mR lR : Nat) (a : List Value) (M N : gMem) (J K : gMeL) : Prop := ∃ r M' J' N' K', CI l g ad dsX 55 yX cX mX (some .int) lX (.ref (ad 0) :: a) M J r M' J' ∧ CI l g ad' dsR 14 yR cR mR (some .int) lR (.ref (ad' 0) :: a) N K r N' K' ∧ RelA M' N' J' K'
theorem bOK.mk {l : Launch} {g : gE} {ad ad' : Nat → Nat} {yX : MethodName} {cX : ByteArray} {mX lX : Nat} {yR : MethodName} {cR : ByteArray} {mR lR : Nat} {a : List Value} {M N M' N' : gMem} {J K J' K' : gMeL} {r r' : Int32} (hx : CI l g ad dsX 55 yX cX mX (some .int) lX (.ref (ad 0) :: a) M J r M' J') (hr : CI l g ad' dsR 14 yR cR mR (some .int) lR (.ref (ad' 0) :: a) N K r' N' K') (e : r = r') (h : RelA M' N' J' K') : bOK l g ad ad' yX cX mX lX yR cR mR lR a M N J K := ⟨r, M', J', N', K', hx, e ▸ hr, h⟩
theorem inR_e {x : Int32} {n : Nat} (h : inR x n) (hn : n ≤ 2 ^ 31) : ∃ a, a < n ∧ x = nI a := by
  rcases n_int (x := x) hn with ⟨a, h1, e⟩ | h1
  · exact ⟨a, h1, e⟩
  · exact absurd h (inR_o h1)
theorem inR1_e {x : Int32} {n : Nat} (h : inR1 x n) (hn : n ≤ 2 ^ 31) : ∃ a, 1 ≤ a ∧ a < n ∧ x = nI a := by
  rcases n_int1 (x := x) hn with ⟨a, h1, h2, e⟩ | h1
  · exact ⟨a, h1, h2, e⟩
  · unfold inR1 at h; omega
theorem o_cut {l : Launch} {g : gE} {ad ad' : Nat → Nat} (hI : g_inj ad 55) (hI2 : g_inj ad' 14) {M N : gMem} {J K : gMeL} (h : RelA M N J K) (c : Int32) (a : Int32) (v : Int32) : bOK l g ad ad' yX5_cut cX5_cut 5 3 yX6_cut cX6_cut 6 3 [.int c, .int a, .int v] M N J K := by
  have hw := rq_wf h.1.1 h.1.2.1
  have hr := h.1.2.1
  have hnc := hr.nc
  have hnf := hr.nf
  have ec := rq_nc h.1.1
  have ef := rq_nf h.1.1
  by_cases hc : inR c (N 1 0) ∧ inR a 12 ∧ inR v 10
  · obtain ⟨c1, h1, rfl⟩ := inR_e hc.1 (by omega)
    obtain ⟨a1, h2, rfl⟩ := inR_e hc.2.1 (by omega)
    obtain ⟨v1, h3, rfl⟩ := inR_e hc.2.2 (by omega)
    exact bOK.mk (f_cut_ok hI M J hw c1 a1 v1 (by omega) h2 h3) (r_cut_ok hI2 N K hr c1 a1 v1 h1 h2 h3) (congrArg nI (rq_row h.1.1 (by omega) a1 h2)) (cut_rel h (by omega) h2 (by omega))
  · exact bOK.mk (f_cut_bad hI M J hw c a v (by rw [ec]; exact hc)) (r_cut_bad hI2 N K hr c a v hc) rfl h
theorem o_told {l : Launch} {g : gE} {ad ad' : Nat → Nat} (hI : g_inj ad 55) (hI2 : g_inj ad' 14) {M N : gMem} {J K : gMeL} (h : RelA M N J K) (c : Int32) (a : Int32) : bOK l g ad ad' yX5_told cX5_told 3 3 yX6_told cX6_told 3 3 [.int c, .int a] M N J K := by
  have hw := rq_wf h.1.1 h.1.2.1
  have hr := h.1.2.1
  have hnc := hr.nc
  have hnf := hr.nf
  have ec := rq_nc h.1.1
  have ef := rq_nf h.1.1
  by_cases hc : inR c (N 1 0) ∧ inR a 12
  · obtain ⟨c1, h1, rfl⟩ := inR_e hc.1 (by omega)
    obtain ⟨a1, h2, rfl⟩ := inR_e hc.2 (by omega)
    exact bOK.mk (f_told_ok hI M J hw c1 a1 (by omega) h2) (r_told_ok hI2 N K hr c1 a1 h1 h2) (congrArg nI (rq_row h.1.1 (by omega) a1 h2)) h
  · exact bOK.mk (f_told_bad hI M J hw c a (by rw [ec]; exact hc)) (r_told_bad hI2 N K hr c a hc) rfl h
theorem o_line {l : Launch} {g : gE} {ad ad' : Nat → Nat} (hI : g_inj ad 55) (hI2 : g_inj ad' 14) {M N : gMem} {J K : gMeL} (h : RelA M N J K) (v : Int32) : bOK l g ad ad' yX5_line cX5_line 3 1 yX6_line cX6_line 3 1 [.int v] M N J K := by
  have hw := rq_wf h.1.1 h.1.2.1
  have hr := h.1.2.1
  have hnc := hr.nc
  have hnf := hr.nf
  have ec := rq_nc h.1.1
  have ef := rq_nf h.1.1
  by_cases hc : inR1 v 10
  · obtain ⟨v1, h0, h1, rfl⟩ := inR1_e hc (by omega)
    exact bOK.mk (f_line_ok hI M J hw v1 (by omega) h1) (r_line_ok hI2 N K hr v1 (by omega) h1) (congrArg nI (rq_line h.1.1)) (one_rel h (by omega))
  · exact bOK.mk (f_line_bad hI M J hw v hc) (r_line_bad hI2 N K hr v hc) rfl h
theorem o_way {l : Launch} {g : gE} {ad ad' : Nat → Nat} (hI : g_inj ad 55) (hI2 : g_inj ad' 14) {M N : gMem} {J K : gMeL} (h : RelA M N J K) (v : Int32) : bOK l g ad ad' yX5_way cX5_way 3 1 yX6_way cX6_way 3 1 [.int v] M N J K := by
  have hw := rq_wf h.1.1 h.1.2.1
  have hr := h.1.2.1
  have hnc := hr.nc
  have hnf := hr.nf
  have ec := rq_nc h.1.1
  have ef := rq_nf h.1.1
  by_cases hc : inR v 2
  · obtain ⟨v1, h1, rfl⟩ := inR_e hc (by omega)
    exact bOK.mk (f_way_ok hI M J hw v1 (by omega) h1) (r_way_ok hI2 N K hr v1 (by omega) h1) (congrArg nI (rq_way h.1.1)) (one_rel h (by omega))
  · exact bOK.mk (f_way_bad hI M J hw v hc) (r_way_bad hI2 N K hr v hc) rfl h
theorem o_height {l : Launch} {g : gE} {ad ad' : Nat → Nat} (hI : g_inj ad 55) (hI2 : g_inj ad' 14) {M N : gMem} {J K : gMeL} (h : RelA M N J K) (k : Int32) (a : Int32) : bOK l g ad ad' yX5_height cX5_height 4 7 yX6_height cX6_height 3 3 [.int k, .int a] M N J K := by
  have hw := rq_wf h.1.1 h.1.2.1
  have hr := h.1.2.1
  have hnc := hr.nc
  have hnf := hr.nf
  have ec := rq_nc h.1.1
  have ef := rq_nf h.1.1
  by_cases hc : inR k (N 1 73) ∧ inR a 12
  · obtain ⟨k1, hk, rfl⟩ := inR_e hc.1 (by omega)
    obtain ⟨a1, ha, rfl⟩ := inR_e hc.2 (by omega)
    exact bOK.mk (f_height_ok hI M J hw k1 a1 (by omega) ha) (r_height_ok hI2 N K hr k1 a1 hk ha) (congrArg nI (hgt_same h.1.1 hr (by omega) a1)) (h)
  · exact bOK.mk (f_height_bad hI M J hw k a (by simp only [ec, ef]; exact hc)) (r_height_bad hI2 N K hr k a hc) rfl h
theorem o_ups {l : Launch} {g : gE} {ad ad' : Nat → Nat} (hI : g_inj ad 55) (hI2 : g_inj ad' 14) {M N : gMem} {J K : gMeL} (h : RelA M N J K) (k : Int32) : bOK l g ad ad' yX5_ups cX5_ups 2 8 yX6_ups cX6_ups 2 3 [.int k] M N J K := by
  have hw := rq_wf h.1.1 h.1.2.1
  have hr := h.1.2.1
  have hnc := hr.nc
  have hnf := hr.nf
  have ec := rq_nc h.1.1
  have ef := rq_nf h.1.1
  by_cases hc : inR k (N 1 73)
  · obtain ⟨k1, hk, rfl⟩ := inR_e hc (by omega)
    exact bOK.mk (f_ups_ok hI M J hw k1 (by omega)) (r_ups_ok hI2 N K hr k1 hk) (congrArg nI (ups_same h.1.1 hr (by omega))) (h)
  · exact bOK.mk (f_ups_bad hI M J hw k (by simp only [ec, ef]; exact hc)) (r_ups_bad hI2 N K hr k hc) rfl h
theorem o_turn {l : Launch} {g : gE} {ad ad' : Nat → Nat} (hI : g_inj ad 55) (hI2 : g_inj ad' 14) {M N : gMem} {J K : gMeL} (h : RelA M N J K) (n : Int32) : bOK l g ad ad' yX5_turn cX5_turn 3 10 yX6_turn cX6_turn 8 4 [.int n] M N J K := by
  have hw := rq_wf h.1.1 h.1.2.1
  have hr := h.1.2.1
  have hnc := hr.nc
  have hnf := hr.nf
  have ec := rq_nc h.1.1
  have ef := rq_nf h.1.1
  by_cases hc : inR1 n 601
  · obtain ⟨n1, gn, hn, rfl⟩ := inR1_e hc (by omega)
    exact bOK.mk (f_turn_ok hI M J hw n1 gn hn) (r_turn_ok hI2 N K hr n1 gn hn) (congrArg nI (sit_same h.1.1 hr n1)) (turn_rel h n1)
  · exact bOK.mk (f_turn_bad hI M J n hc) (r_turn_bad hI2 N K n hc) rfl h
theorem o_wear {l : Launch} {g : gE} {ad ad' : Nat → Nat} (hI : g_inj ad 55) (hI2 : g_inj ad' 14) {M N : gMem} {J K : gMeL} (h : RelA M N J K) (n : Int32) : bOK l g ad ad' yX5_wear cX5_wear 4 5 yX6_wear cX6_wear 6 1 [.int n] M N J K := by
  have hw := rq_wf h.1.1 h.1.2.1
  have hr := h.1.2.1
  have hnc := hr.nc
  have hnf := hr.nf
  have ec := rq_nc h.1.1
  have ef := rq_nf h.1.1
  by_cases hc : inR1 n 10
  · obtain ⟨n1, gn, hn, rfl⟩ := inR1_e hc (by omega)
    exact bOK.mk (f_wear_ok hI M J hw n1 gn hn) (r_wear_ok hI2 N K hr n1 gn hn) (congrArg nI (wear_same h.1.1 hr n1)) (wear_relA h n1)
  · exact bOK.mk (f_wear_bad hI M J n hc) (r_wear_bad hI2 N K n hc) rfl h
theorem o_missed {l : Launch} {g : gE} {ad ad' : Nat → Nat} (hI : g_inj ad 55) (hI2 : g_inj ad' 14) {M N : gMem} {J K : gMeL} (h : RelA M N J K) (k : Int32) : bOK l g ad ad' yX5_missed cX5_missed 5 8 yX6_missed cX6_missed 5 3 [.int k] M N J K := by
  have hw := rq_wf h.1.1 h.1.2.1
  have hr := h.1.2.1
  have hnc := hr.nc
  have hnf := hr.nf
  have ec := rq_nc h.1.1
  have ef := rq_nf h.1.1
  by_cases hc : inR k (N 1 73)
  · obtain ⟨k1, hk, rfl⟩ := inR_e hc (by omega)
    exact bOK.mk (f_missed_ok hI M J hw k1 (by omega)) (r_missed_ok hI2 N K hr k1 hk) (by rw [miss_same h.1.1 hr (by omega)]) (h)
  · exact bOK.mk (f_missed_bad hI M J hw k (by simp only [ec, ef]; exact hc)) (r_missed_bad hI2 N K hr k hc) rfl h
theorem o_beats {l : Launch} {g : gE} {ad ad' : Nat → Nat} (hI : g_inj ad 55) (hI2 : g_inj ad' 14) {M N : gMem} {J K : gMeL} (h : RelA M N J K) (a : Int32) (v : Int32) : bOK l g ad ad' yX5_beats cX5_beats 4 2 yX6_beats cX6_beats 4 2 [.int a, .int v] M N J K := by
  have hw := rq_wf h.1.1 h.1.2.1
  have hr := h.1.2.1
  have hnc := hr.nc
  have hnf := hr.nf
  have ec := rq_nc h.1.1
  have ef := rq_nf h.1.1
  by_cases hc : inR a 12 ∧ inR1 v 100
  · obtain ⟨a1, ha, rfl⟩ := inR_e hc.1 (by omega)
    obtain ⟨v1, gv, hv, rfl⟩ := inR1_e hc.2 (by omega)
    exact bOK.mk (f_beats_ok hI M J hw a1 v1 ha gv hv) (r_beats_ok hI2 N K hr a1 v1 ha gv hv) (congrArg nI (rq_beat h.1.1 ha)) (beat_rel h ha gv (by omega))
  · exact bOK.mk (f_beats_bad hI M J a v hc) (r_beats_bad hI2 N K a v hc) rfl h
theorem o_when {l : Launch} {g : gE} {ad ad' : Nat → Nat} (hI : g_inj ad 55) (hI2 : g_inj ad' 14) {M N : gMem} {J K : gMeL} (h : RelA M N J K) (a : Int32) : bOK l g ad ad' yX5_when cX5_when 2 4 yX6_when cX6_when 4 2 [.int a] M N J K := by
  have hw := rq_wf h.1.1 h.1.2.1
  have hr := h.1.2.1
  have hnc := hr.nc
  have hnf := hr.nf
  have ec := rq_nc h.1.1
  have ef := rq_nf h.1.1
  by_cases hc : inR a 12
  · obtain ⟨a1, ha, rfl⟩ := inR_e hc (by omega)
    exact bOK.mk (f_when_ok hI M J hw a1 ha) (r_when_ok hI2 N K hr a1 ha) (congrArg nI (when_same h.1.1 hr a1)) (h)
  · exact bOK.mk (f_when_bad hI M J a hc) (r_when_bad hI2 N K a hc) rfl h
theorem o_at {l : Launch} {g : gE} {ad ad' : Nat → Nat} (hI : g_inj ad 55) (hI2 : g_inj ad' 14) {M N : gMem} {J K : gMeL} (h : RelA M N J K) (b : Int32) : bOK l g ad ad' yX5_at cX5_at 2 4 yX6_at cX6_at 5 2 [.int b] M N J K := by
  have hw := rq_wf h.1.1 h.1.2.1
  have hr := h.1.2.1
  have hnc := hr.nc
  have hnf := hr.nf
  have ec := rq_nc h.1.1
  have ef := rq_nf h.1.1
  by_cases hc : inR b 100000
  · obtain ⟨b1, hb, rfl⟩ := inR_e hc (by omega)
    exact bOK.mk (f_at_ok hI M J hw b1 hb) (r_at_ok hI2 N K hr b1 hb) (congrArg nI (at_same h.1.1 hr b1)) (h)
  · exact bOK.mk (f_at_bad hI M J b hc) (r_at_bad hI2 N K b hc) rfl h
theorem o_hand {l : Launch} {g : gE} {ad ad' : Nat → Nat} (hI : g_inj ad 55) (hI2 : g_inj ad' 14) {M N : gMem} {J K : gMeL} (h : RelA M N J K) (k : Int32) (v : Int32) : bOK l g ad ad' yX5_hand cX5_hand 4 2 yX6_hand cX6_hand 4 2 [.int k, .int v] M N J K := by
  have hw := rq_wf h.1.1 h.1.2.1
  have hr := h.1.2.1
  have hnc := hr.nc
  have hnf := hr.nf
  have ec := rq_nc h.1.1
  have ef := rq_nf h.1.1
  by_cases hc : inR k 4 ∧ inR v 1024
  · obtain ⟨k1, hk, rfl⟩ := inR_e hc.1 (by omega)
    obtain ⟨v1, hv, rfl⟩ := inR_e hc.2 (by omega)
    exact bOK.mk (f_hand_ok hI M J hw k1 v1 hk hv) (r_hand_ok hI2 N K hr k1 v1 hk hv) (congrArg nI (rq_hand h.1.1 hk)) (hand_rel h hk (by omega))
  · exact bOK.mk (f_hand_bad hI M J k v hc) (r_hand_bad hI2 N K k v hc) rfl h
theorem o_whose {l : Launch} {g : gE} {ad ad' : Nat → Nat} (hI : g_inj ad 55) (hI2 : g_inj ad' 14) {M N : gMem} {J K : gMeL} (h : RelA M N J K) (c : Int32) : bOK l g ad ad' yX5_whose cX5_whose 5 4 yX6_whose cX6_whose 5 2 [.int c] M N J K := by
  have hw := rq_wf h.1.1 h.1.2.1
  have hr := h.1.2.1
  have hnc := hr.nc
  have hnf := hr.nf
  have ec := rq_nc h.1.1
  have ef := rq_nf h.1.1
  by_cases hc : inR c (N 1 0)
  · obtain ⟨c1, hc1, rfl⟩ := inR_e hc (by omega)
    exact bOK.mk (f_whose_ok hI M J hw c1 (by omega)) (r_whose_ok hI2 N K hr c1 hc1) (congrArg nI (whose_same h.1.1 (by omega))) (h)
  · exact bOK.mk (f_whose_bad hI M J hw c (by simp only [ec, ef]; exact hc)) (r_whose_bad hI2 N K hr c hc) rfl h
theorem o_image {l : Launch} {g : gE} {ad ad' : Nat → Nat} (hI : g_inj ad 55) (hI2 : g_inj ad' 14) {M N : gMem} {J K : gMeL} (h : RelA M N J K) : bOK l g ad ad' yX5_image cX5_image 1 2 yX6_image cX6_image 2 0 [] M N J K := by
  have hw := rq_wf h.1.1 h.1.2.1
  have hr := h.1.2.1
  have hnc := hr.nc
  have hnf := hr.nf
  have ec := rq_nc h.1.1
  have ef := rq_nf h.1.1
  exact bOK.mk (f_image hI M J) (r_image hI2 N K) rfl (image_rel h)
theorem o_restore {l : Launch} {g : gE} {ad ad' : Nat → Nat} (hI : g_inj ad 55) (hI2 : g_inj ad' 14) {M N : gMem} {J K : gMeL} (h : RelA M N J K) : bOK l g ad ad' yX5_restore cX5_restore 1 2 yX6_restore cX6_restore 2 0 [] M N J K := by
  have hw := rq_wf h.1.1 h.1.2.1
  have hr := h.1.2.1
  have hnc := hr.nc
  have hnf := hr.nf
  have ec := rq_nc h.1.1
  have ef := rq_nf h.1.1
  rcases h.2.2.2.1 with ⟨h2, h3⟩ | ⟨h2, h3, _⟩
  · exact bOK.mk (f_restore_none hI M J h2) (r_restore_none hI2 N K h3) rfl h
  · exact bOK.mk (f_restore_ok hI M J h2) (r_restore_ok hI2 N K h3) rfl (restore_rel h h3)
