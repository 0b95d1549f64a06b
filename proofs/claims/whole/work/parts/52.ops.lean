/-! one call on both sides -/
def bOK (l : Launch) (g : gE) (ad ad' : Nat → Nat) (yX : MethodName) (cX : ByteArray) (mX lX : Nat) (yR : MethodName) (cR : ByteArray) (mR lR : Nat) (a : List Value) (M N : gMem) (J K : gMeL) : Prop := ∃ r M' J' N' K', CI l g ad dsX 55 yX cX mX (some .int) lX (.ref (ad 0) :: a) M J r M' J' ∧ CI l g ad' dsR 14 yR cR mR (some .int) lR (.ref (ad' 0) :: a) N K r N' K' ∧ RelA M' N' J' K'
theorem bOK.mk {l : Launch} {g : gE} {ad ad' : Nat → Nat} {yX : MethodName} {cX : ByteArray} {mX lX : Nat} {yR : MethodName} {cR : ByteArray} {mR lR : Nat} {a : List Value} {M N M' N' : gMem} {J K J' K' : gMeL} {r r' : Int32} (hx : CI l g ad dsX 55 yX cX mX (some .int) lX (.ref (ad 0) :: a) M J r M' J') (hr : CI l g ad' dsR 14 yR cR mR (some .int) lR (.ref (ad' 0) :: a) N K r' N' K') (e : r = r') (h : RelA M' N' J' K') : bOK l g ad ad' yX cX mX lX yR cR mR lR a M N J K := ⟨r, M', J', N', K', hx, e ▸ hr, h⟩
theorem inR_e {x : Int32} {n : Nat} (h : inR x n) (hn : n ≤ 2 ^ 31) : ∃ a, a < n ∧ x = nI a := by
  rcases n_int (x := x) hn with ⟨a, h1, e⟩ | h1
  · exact ⟨a, h1, e⟩
  · exact absurd h (inR_o h1)
theorem inR1_e {x : Int32} {n : Nat} (h : inR1 x n) (hn : n ≤ 2 ^ 31) : ∃ a, 1 ≤ a ∧ a < n ∧ x = nI a := by
  rcases n_int1 (x := x) hn with ⟨a, h1, h2, e⟩ | h1
  · exact ⟨a, h1, h2, e⟩
  · unfold inR1 at h; omega
theorem o_cut {l : Launch} {g : gE} {ad ad' : Nat → Nat} (hI : g_inj ad 55) (hI2 : g_inj ad' 14) {M N : gMem} {J K : gMeL} (h : RelA M N J K) (c : Int32) (a : Int32) (v : Int32) : bOK l g ad ad' yX5_cut cX5_cut 5 3 yX6_cut cX6_cut 6 3 [.int c, .int a, .int v] M N J K := by
  have hw := rq_wf h.1.1 h.1.2.1
  have hr := h.1.2.1
  have hnc := hr.nc
  have hnf := hr.nf
  have ec := rq_nc h.1.1
  have ef := rq_nf h.1.1
  by_cases hc : inR c (N 1 0) ∧ inR a 12 ∧ inR v 10
  · obtain ⟨c1, h1, rfl⟩ := inR_e hc.1 (by omega)
    obtain ⟨a1, h2, rfl⟩ := inR_e hc.2.1 (by omega)
    obtain ⟨v1, h3, rfl⟩ := inR_e hc.2.2 (by omega)
    exact bOK.mk (f_cut_ok hI M J hw c1 a1 v1 (by omega) h2 h3) (r_cut_ok hI2 N K hr c1 a1 v1 h1 h2 h3) (congrArg nI (rq_row h.1.1 (by omega) a1 h2)) (cut_rel h (by omega) h2 (by omega))
  · exact bOK.mk (f_cut_bad hI M J hw c a v (by rw [ec]; exact hc)) (r_cut_bad hI2 N K hr c a v hc) rfl h
theorem o_told {l : Launch} {g : gE} {ad ad' : Nat → Nat} (hI : g_inj ad 55) (hI2 : g_inj ad' 14) {M N : gMem} {J K : gMeL} (h : RelA M N J K) (c : Int32) (a : Int32) : bOK l g ad ad' yX5_told cX5_told 3 3 yX6_told cX6_told 3 3 [.int c, .int a] M N J K := by
  have hw := rq_wf h.1.1 h.1.2.1
  have hr := h.1.2.1
  have hnc := hr.nc
  have hnf := hr.nf
  have ec := rq_nc h.1.1
  have ef := rq_nf h.1.1
  by_cases hc : inR c (N 1 0) ∧ inR a 12
  · obtain ⟨c1, h1, rfl⟩ := inR_e hc.1 (by omega)
    obtain ⟨a1, h2, rfl⟩ := inR_e hc.2 (by omega)
    exact bOK.mk (f_told_ok hI M J hw c1 a1 (by omega) h2) (r_told_ok hI2 N K hr c1 a1 h1 h2) (congrArg nI (rq_row h.1.1 (by omega) a1 h2)) h
  · exact bOK.mk (f_told_bad hI M J hw c a (by rw [ec]; exact hc)) (r_told_bad hI2 N K hr c a hc) rfl h
theorem o_line {l : Launch} {g : gE} {ad ad' : Nat → Nat} (hI : g_inj ad 55) (hI2 : g_inj ad' 14) {M N : gMem} {J K : gMeL} (h : RelA M N J K) (v : Int32) : bOK l g ad ad' yX5_line cX5_line 3 1 yX6_line cX6_line 3 1 [.int v] M N J K := by
  have hw := rq_wf h.1.1 h.1.2.1
  have hr := h.1.2.1
  have hnc := hr.nc
  have hnf := hr.nf
  have ec := rq_nc h.1.1
  have ef := rq_nf h.1.1
  by_cases hc : inR1 v 10
  · obtain ⟨v1, h0, h1, rfl⟩ := inR1_e hc (by omega)
    exact bOK.mk (f_line_ok hI M J hw v1 (by omega) h1) (r_line_ok hI2 N K hr v1 (by omega) h1) (congrArg nI (rq_line h.1.1)) (one_rel h (by omega))
  · exact bOK.mk (f_line_bad hI M J hw v hc) (r_line_bad hI2 N K hr v hc) rfl h
theorem o_way {l : Launch} {g : gE} {ad ad' : Nat → Nat} (hI : g_inj ad 55) (hI2 : g_inj ad' 14) {M N : gMem} {J K : gMeL} (h : RelA M N J K) (v : Int32) : bOK l g ad ad' yX5_way cX5_way 3 1 yX6_way cX6_way 3 1 [.int v] M N J K := by
  have hw := rq_wf h.1.1 h.1.2.1
  have hr := h.1.2.1
  have hnc := hr.nc
  have hnf := hr.nf
  have ec := rq_nc h.1.1
  have ef := rq_nf h.1.1
  by_cases hc : inR v 2
  · obtain ⟨v1, h1, rfl⟩ := inR_e hc (by omega)
    exact bOK.mk (f_way_ok hI M J hw v1 (by omega) h1) (r_way_ok hI2 N K hr v1 (by omega) h1) (congrArg nI (rq_way h.1.1)) (one_rel h (by omega))
  · exact bOK.mk (f_way_bad hI M J hw v hc) (r_way_bad hI2 N K hr v hc) rfl h
theorem o_height {l : Launch} {g : gE} {ad ad' : Nat → Nat} (hI : g_inj ad 55) (hI2 : g_inj ad' 14) {M N : gMem} {J K : gMeL} (h : RelA M N J K) (k : Int32) (a : Int32) : bOK l g ad ad' yX5_height cX5_height 4 7 yX6_height cX6_height 3 3 [.int k, .int a] M N J K := by
  have hw := rq_wf h.1.1 h.1.2.1
  have hr := h.1.2.1
  have hnc := hr.nc
  have hnf := hr.nf
  have ec := rq_nc h.1.1
  have ef := rq_nf h.1.1
  by_cases hc : inR k (N 1 73) ∧ inR a 12
  · obtain ⟨k1, hk, rfl⟩ := inR_e hc.1 (by omega)
    obtain ⟨a1, ha, rfl⟩ := inR_e hc.2 (by omega)
    exact bOK.mk (f_height_ok hI M J hw k1 a1 (by omega) ha) (r_height_ok hI2 N K hr k1 a1 hk ha) (congrArg nI (hgt_same h.1.1 hr (by omega) a1)) (h)
  · exact bOK.mk (f_height_bad hI M J hw k a (by simp only [ec, ef]; exact hc)) (r_height_bad hI2 N K hr k a hc) rfl h
theorem o_ups {l : Launch} {g : gE} {ad ad' : Nat → Nat} (hI : g_inj ad 55) (hI2 : g_inj ad' 14) {M N : gMem} {J K : gMeL} (h : RelA M N J K) (k : Int32) : bOK l g ad ad' yX5_ups cX5_ups 2 8 yX6_ups cX6_ups 2 3 [.int k] M N J K := by
  have hw := rq_wf h.1.1 h.1.2.1
  have hr := h.1.2.1
  have hnc := hr.nc
  have hnf := hr.nf
  have ec := rq_nc h.1.1
  have ef := rq_nf h.1.1
  by_cases hc : inR k (N 1 73)
  · obtain ⟨k1, hk, rfl⟩ := inR_e hc (by omega)
    exact bOK.mk (f_ups_ok hI M J hw k1 (by omega)) (r_ups_ok hI2 N K hr k1 hk) (congrArg nI (ups_same h.1.1 hr (by omega))) (h)
  · exact bOK.mk (f_ups_bad hI M J hw k (by simp only [ec, ef]; exact hc)) (r_ups_bad hI2 N K hr k hc) rfl h
theorem o_turn {l : Launch} {g : gE} {ad ad' : Nat → Nat} (hI : g_inj ad 55) (hI2 : g_inj ad' 14) {M N : gMem} {J K : gMeL} (h : RelA M N J K) (n : Int32) : bOK l g ad ad' yX5_turn cX5_turn 3 10 yX6_turn cX6_turn 8 4 [.int n] M N J K := by
  have hw := rq_wf h.1.1 h.1.2.1
  have hr := h.1.2.1
  have hnc := hr.nc
  have hnf := hr.nf
  have ec := rq_nc h.1.1
  have ef := rq_nf h.1.1
  by_cases hc : inR1 n 601
  · obtain ⟨n1, gn, hn, rfl⟩ := inR1_e hc (by omega)
    exact bOK.mk (f_turn_ok hI M J hw n1 gn hn) (r_turn_ok hI2 N K hr n1 gn hn) (congrArg nI (sit_same h.1.1 hr n1)) (turn_rel h n1)
  · exact bOK.mk (f_turn_bad hI M J n hc) (r_turn_bad hI2 N K n hc) rfl h
theorem o_wear {l : Launch} {g : gE} {ad ad' : Nat → Nat} (hI : g_inj ad 55) (hI2 : g_inj ad' 14) {M N : gMem} {J K : gMeL} (h : RelA M N J K) (n : Int32) : bOK l g ad ad' yX5_wear cX5_wear 4 5 yX6_wear cX6_wear 6 1 [.int n] M N J K := by
  have hw := rq_wf h.1.1 h.1.2.1
  have hr := h.1.2.1
  have hnc := hr.nc
  have hnf := hr.nf
  have ec := rq_nc h.1.1
  have ef := rq_nf h.1.1
  by_cases hc : inR1 n 10
  · obtain ⟨n1, gn, hn, rfl⟩ := inR1_e hc (by omega)
    exact bOK.mk (f_wear_ok hI M J hw n1 gn hn) (r_wear_ok hI2 N K hr n1 gn hn) (congrArg nI (wear_same h.1.1 hr n1)) (wear_relA h n1)
  · exact bOK.mk (f_wear_bad hI M J n hc) (r_wear_bad hI2 N K n hc) rfl h
theorem o_missed {l : Launch} {g : gE} {ad ad' : Nat → Nat} (hI : g_inj ad 55) (hI2 : g_inj ad' 14) {M N : gMem} {J K : gMeL} (h : RelA M N J K) (k : Int32) : bOK l g ad ad' yX5_missed cX5_missed 5 8 yX6_missed cX6_missed 5 3 [.int k] M N J K := by
  have hw := rq_wf h.1.1 h.1.2.1
  have hr := h.1.2.1
  have hnc := hr.nc
  have hnf := hr.nf
  have ec := rq_nc h.1.1
  have ef := rq_nf h.1.1
  by_cases hc : inR k (N 1 73)
  · obtain ⟨k1, hk, rfl⟩ := inR_e hc (by omega)
    exact bOK.mk (f_missed_ok hI M J hw k1 (by omega)) (r_missed_ok hI2 N K hr k1 hk) (by rw [miss_same h.1.1 hr (by omega)]) (h)
  · exact bOK.mk (f_missed_bad hI M J hw k (by simp only [ec, ef]; exact hc)) (r_missed_bad hI2 N K hr k hc) rfl h
theorem o_beats {l : Launch} {g : gE} {ad ad' : Nat → Nat} (hI : g_inj ad 55) (hI2 : g_inj ad' 14) {M N : gMem} {J K : gMeL} (h : RelA M N J K) (a : Int32) (v : Int32) : bOK l g ad ad' yX5_beats cX5_beats 4 2 yX6_beats cX6_beats 4 2 [.int a, .int v] M N J K := by
  have hw := rq_wf h.1.1 h.1.2.1
  have hr := h.1.2.1
  have hnc := hr.nc
  have hnf := hr.nf
  have ec := rq_nc h.1.1
  have ef := rq_nf h.1.1
  by_cases hc : inR a 12 ∧ inR1 v 100
  · obtain ⟨a1, ha, rfl⟩ := inR_e hc.1 (by omega)
    obtain ⟨v1, gv, hv, rfl⟩ := inR1_e hc.2 (by omega)
    exact bOK.mk (f_beats_ok hI M J hw a1 v1 ha gv hv) (r_beats_ok hI2 N K hr a1 v1 ha gv hv) (congrArg nI (rq_beat h.1.1 ha)) (beat_rel h ha gv (by omega))
  · exact bOK.mk (f_beats_bad hI M J a v hc) (r_beats_bad hI2 N K a v hc) rfl h
theorem o_when {l : Launch} {g : gE} {ad ad' : Nat → Nat} (hI : g_inj ad 55) (hI2 : g_inj ad' 14) {M N : gMem} {J K : gMeL} (h : RelA M N J K) (a : Int32) : bOK l g ad ad' yX5_when cX5_when 2 4 yX6_when cX6_when 4 2 [.int a] M N J K := by
  have hw := rq_wf h.1.1 h.1.2.1
  have hr := h.1.2.1
  have hnc := hr.nc
  have hnf := hr.nf
  have ec := rq_nc h.1.1
  have ef := rq_nf h.1.1
  by_cases hc : inR a 12
  · obtain ⟨a1, ha, rfl⟩ := inR_e hc (by omega)
    exact bOK.mk (f_when_ok hI M J hw a1 ha) (r_when_ok hI2 N K hr a1 ha) (congrArg nI (when_same h.1.1 hr a1)) (h)
  · exact bOK.mk (f_when_bad hI M J a hc) (r_when_bad hI2 N K a hc) rfl h
theorem o_at {l : Launch} {g : gE} {ad ad' : Nat → Nat} (hI : g_inj ad 55) (hI2 : g_inj ad' 14) {M N : gMem} {J K : gMeL} (h : RelA M N J K) (b : Int32) : bOK l g ad ad' yX5_at cX5_at 2 4 yX6_at cX6_at 5 2 [.int b] M N J K := by
  have hw := rq_wf h.1.1 h.1.2.1
  have hr := h.1.2.1
  have hnc := hr.nc
  have hnf := hr.nf
  have ec := rq_nc h.1.1
  have ef := rq_nf h.1.1
  by_cases hc : inR b 100000
  · obtain ⟨b1, hb, rfl⟩ := inR_e hc (by omega)
    exact bOK.mk (f_at_ok hI M J hw b1 hb) (r_at_ok hI2 N K hr b1 hb) (congrArg nI (at_same h.1.1 hr b1)) (h)
  · exact bOK.mk (f_at_bad hI M J b hc) (r_at_bad hI2 N K b hc) rfl h
theorem o_hand {l : Launch} {g : gE} {ad ad' : Nat → Nat} (hI : g_inj ad 55) (hI2 : g_inj ad' 14) {M N : gMem} {J K : gMeL} (h : RelA M N J K) (k : Int32) (v : Int32) : bOK l g ad ad' yX5_hand cX5_hand 4 2 yX6_hand cX6_hand 4 2 [.int k, .int v] M N J K := by
  have hw := rq_wf h.1.1 h.1.2.1
  have hr := h.1.2.1
  have hnc := hr.nc
  have hnf := hr.nf
  have ec := rq_nc h.1.1
  have ef := rq_nf h.1.1
  by_cases hc : inR k 4 ∧ inR v 1024
  · obtain ⟨k1, hk, rfl⟩ := inR_e hc.1 (by omega)
    obtain ⟨v1, hv, rfl⟩ := inR_e hc.2 (by omega)
    exact bOK.mk (f_hand_ok hI M J hw k1 v1 hk hv) (r_hand_ok hI2 N K hr k1 v1 hk hv) (congrArg nI (rq_hand h.1.1 hk)) (hand_rel h hk (by omega))
  · exact bOK.mk (f_hand_bad hI M J k v hc) (r_hand_bad hI2 N K k v hc) rfl h
theorem o_whose {l : Launch} {g : gE} {ad ad' : Nat → Nat} (hI : g_inj ad 55) (hI2 : g_inj ad' 14) {M N : gMem} {J K : gMeL} (h : RelA M N J K) (c : Int32) : bOK l g ad ad' yX5_whose cX5_whose 5 4 yX6_whose cX6_whose 5 2 [.int c] M N J K := by
  have hw := rq_wf h.1.1 h.1.2.1
  have hr := h.1.2.1
  have hnc := hr.nc
  have hnf := hr.nf
  have ec := rq_nc h.1.1
  have ef := rq_nf h.1.1
  by_cases hc : inR c (N 1 0)
  · obtain ⟨c1, hc1, rfl⟩ := inR_e hc (by omega)
    exact bOK.mk (f_whose_ok hI M J hw c1 (by omega)) (r_whose_ok hI2 N K hr c1 hc1) (congrArg nI (whose_same h.1.1 (by omega))) (h)
  · exact bOK.mk (f_whose_bad hI M J hw c (by simp only [ec, ef]; exact hc)) (r_whose_bad hI2 N K hr c hc) rfl h
theorem o_image {l : Launch} {g : gE} {ad ad' : Nat → Nat} (hI : g_inj ad 55) (hI2 : g_inj ad' 14) {M N : gMem} {J K : gMeL} (h : RelA M N J K) : bOK l g ad ad' yX5_image cX5_image 1 2 yX6_image cX6_image 2 0 [] M N J K := by
  have hw := rq_wf h.1.1 h.1.2.1
  have hr := h.1.2.1
  have hnc := hr.nc
  have hnf := hr.nf
  have ec := rq_nc h.1.1
  have ef := rq_nf h.1.1
  exact bOK.mk (f_image hI M J) (r_image hI2 N K) rfl (image_rel h)
theorem o_restore {l : Launch} {g : gE} {ad ad' : Nat → Nat} (hI : g_inj ad 55) (hI2 : g_inj ad' 14) {M N : gMem} {J K : gMeL} (h : RelA M N J K) : bOK l g ad ad' yX5_restore cX5_restore 1 2 yX6_restore cX6_restore 2 0 [] M N J K := by
  have hw := rq_wf h.1.1 h.1.2.1
  have hr := h.1.2.1
  have hnc := hr.nc
  have hnf := hr.nf
  have ec := rq_nc h.1.1
  have ef := rq_nf h.1.1
  rcases h.2.2.2.1 with ⟨h2, h3⟩ | ⟨h2, h3, _⟩
  · exact bOK.mk (f_restore_none hI M J h2) (r_restore_none hI2 N K h3) rfl h
  · exact bOK.mk (f_restore_ok hI M J h2) (r_restore_ok hI2 N K h3) rfl (restore_rel h h3)
theorem o_count {l : Launch} {g : gE} {ad ad' : Nat → Nat} (hI : g_inj ad 55) (hI2 : g_inj ad' 14) {M N : gMem} {J K : gMeL} (h : RelA M N J K) (w : Int32) : bOK l g ad ad' yX5_count cX5_count 2 8 yX6_count cX6_count 4 2 [.int w] M N J K := by
  have hw := rq_wf h.1.1 h.1.2.1
  have hr := h.1.2.1
  have hnc := hr.nc
  have hnf := hr.nf
  have ec := rq_nc h.1.1
  have ef := rq_nf h.1.1
  rcases n_int (x := w) (n := 6) (by omega) with ⟨w1, hw1, rfl⟩ | hw1
  · rcases (show w1 = 0 ∨ w1 = 1 ∨ w1 = 2 ∨ w1 = 3 ∨ w1 = 4 ∨ w1 = 5 by omega) with rfl | rfl | rfl | rfl | rfl | rfl
    · exact bOK.mk (f_count_0 hI M J hw) (r_count_0 hI2 N K hr) (congrArg nI ec) h
    · exact bOK.mk (f_count_1 hI M J hw) (r_count_1 hI2 N K hr) (congrArg nI ef) h
    · exact bOK.mk (f_count_2 hI M J hw) (r_count_2 hI2 N K hr) (congrArg nI (rq_at h.1.1)) h
    · exact bOK.mk (f_count_3 hI M J hw) (r_count_3 hI2 N K hr) (congrArg nI (rq_way h.1.1)) h
    · exact bOK.mk (f_count_4 hI M J hw) (r_count_4 hI2 N K hr) (congrArg nI (rq_psd h.1.1)) h
    · exact bOK.mk (f_count_5 hI M J hw) (r_count_5 hI2 N K hr) (congrArg nI (upnow_same h.1.1 hr)) h
  · exact bOK.mk (f_count_bad hI M J w (by omega)) (r_count_bad hI2 N K hr w (by omega)) rfl h
theorem o_strikes {l : Launch} {g : gE} {ad ad' : Nat → Nat} (hI : g_inj ad 55) (hI2 : g_inj ad' 14) {M N : gMem} {J K : gMeL} (h : RelA M N J K) (a : Int32) (b : Int32) : bOK l g ad ad' yX5_strikes cX5_strikes 3 9 yX6_strikes cX6_strikes 3 4 [.int a, .int b] M N J K := by
  have hw := rq_wf h.1.1 h.1.2.1
  have hr := h.1.2.1
  have hnc := hr.nc
  have hnf := hr.nf
  have ec := rq_nc h.1.1
  have ef := rq_nf h.1.1
  by_cases hc : inR a (N 1 73) ∧ inR b (N 1 73)
  · obtain ⟨a1, ha, rfl⟩ := inR_e hc.1 (by omega)
    obtain ⟨b1, hb, rfl⟩ := inR_e hc.2 (by omega)
    by_cases e : a1 = b1
    · subst e
      exact bOK.mk (f_strikes_same hI M J hw a1 (by omega)) (r_strikes_same hI2 N K hr a1 ha) rfl h
    · exact bOK.mk (f_strikes_ok hI M J hw a1 b1 (by omega) (by omega) e) (r_strikes_ok hI2 N K hr a1 b1 ha hb e) (by rw [str_same h.1.1 hr (by omega) (by omega)]) h
  · exact bOK.mk (f_strikes_bad hI M J hw a b (by rw [ef]; exact hc)) (r_strikes_bad hI2 N K hr a b hc) rfl h
theorem o_pegs {l : Launch} {g : gE} {ad ad' : Nat → Nat} (hI : g_inj ad 55) (hI2 : g_inj ad' 14) {M N : gMem} {J K : gMeL} (h : RelA M N J K) (k : Int32) (w : Int32) : bOK l g ad ad' yX5_pegs cX5_pegs 7 4 yX6_pegs cX6_pegs 8 3 [.int k, .int w] M N J K := by
  have hw := rq_wf h.1.1 h.1.2.1
  have hr := h.1.2.1
  have hnc := hr.nc
  have hnf := hr.nf
  have ec := rq_nc h.1.1
  have ef := rq_nf h.1.1
  by_cases hc : inR k (N 1 73) ∧ inR w 2
  · obtain ⟨k1, hk, rfl⟩ := inR_e hc.1 (by omega)
    obtain ⟨w1, hw1, rfl⟩ := inR_e hc.2 (by omega)
    have e := pegs_same h.1.1 hr (show k1 < 5 by omega)
    rcases (show w1 = 0 ∨ w1 = 1 by omega) with rfl | rfl
    · exact bOK.mk (f_pegs_0 hI M J hw k1 (by omega)) (r_pegs_0 hI2 N K hr k1 hk) (by rw [e]) h
    · exact bOK.mk (f_pegs_1 hI M J hw k1 (by omega)) (r_pegs_1 hI2 N K hr k1 hk) (by rw [e]) h
  · exact bOK.mk (f_pegs_bad hI M J hw k w (by rw [ef]; exact hc)) (r_pegs_bad hI2 N K hr k w hc) rfl h
theorem o_fewest {l : Launch} {g : gE} {ad ad' : Nat → Nat} (hI : g_inj ad 55) (hI2 : g_inj ad' 14) {M N : gMem} {J K : gMeL} (h : RelA M N J K) : bOK l g ad ad' yX5_fewest cX5_fewest 1 13 yX6_fewest cX6_fewest 2 3 [] M N J K := by
  have hw := rq_wf h.1.1 h.1.2.1
  have hr := h.1.2.1
  have hnc := hr.nc
  have hnf := hr.nf
  have ec := rq_nc h.1.1
  have ef := rq_nf h.1.1
  have e := few_rel h
  exact bOK.mk (f_fewest hI M J hw h.2.2.2.2.1) (r_fewest hI2 N K hr h.2.2.2.2.2.1) (congrArg nI e.1) e.2
theorem o_share {l : Launch} {g : gE} {ad ad' : Nat → Nat} (hI : g_inj ad 55) (hI2 : g_inj ad' 14) {M N : gMem} {J K : gMeL} (h : RelA M N J K) (k : Int32) (w : Int32) : bOK l g ad ad' yX5_share cX5_share 3 13 yX6_share cX6_share 4 3 [.int k, .int w] M N J K := by
  have hw := rq_wf h.1.1 h.1.2.1
  have hr := h.1.2.1
  have hnc := hr.nc
  have hnf := hr.nf
  have ec := rq_nc h.1.1
  have ef := rq_nf h.1.1
  by_cases hc : inR k (N 1 73) ∧ inR w 2
  · obtain ⟨k1, hk, rfl⟩ := inR_e hc.1 (by omega)
    obtain ⟨w1, hw1, rfl⟩ := inR_e hc.2 (by omega)
    obtain ⟨r, h1, h2, h3⟩ := share_rel h (by omega)
    rcases (show w1 = 0 ∨ w1 = 1 by omega) with rfl | rfl
    · exact bOK.mk (f_share_0 hI M J hw h.2.2.2.2.1 k1 (by omega)) (r_share_0 hI2 N K hr h.2.2.2.2.2.1 k1 hk r h1) (congrArg nI (h3 k1 hk).1.symm) h2
    · exact bOK.mk (f_share_1 hI M J hw h.2.2.2.2.1 k1 (by omega)) (r_share_1 hI2 N K hr h.2.2.2.2.2.1 k1 hk r h1) (congrArg nI (h3 k1 hk).2.symm) h2
  · exact bOK.mk (f_share_bad hI M J hw k w (by rw [ef]; exact hc)) (r_share_bad hI2 N K hr k w hc) rfl h
theorem o_set {l : Launch} {g : gE} {ad ad' : Nat → Nat} (hI : g_inj ad 55) (hI2 : g_inj ad' 14) {M N : gMem} {J K : gMeL} (h : RelA M N J K) (k : Int32) (w : Int32) (v : Int32) : bOK l g ad ad' yX5_set cX5_set 4 3 yX6_set cX6_set 6 3 [.int k, .int w, .int v] M N J K := by
  have hw := rq_wf h.1.1 h.1.2.1
  have hr := h.1.2.1
  have hnc := hr.nc
  have hnf := hr.nf
  have ec := rq_nc h.1.1
  have ef := rq_nf h.1.1
  by_cases hk0 : inR k (N 1 73)
  · obtain ⟨k1, hk, rfl⟩ := inR_e hk0 (by omega)
    rcases n_int (x := w) (n := 4) (by omega) with ⟨w1, hw1, rfl⟩ | hw1
    · rcases (show w1 = 0 ∨ w1 = 1 ∨ w1 = 2 ∨ w1 = 3 by omega) with rfl | rfl | rfl | rfl
      · by_cases hv0 : inR v (4)
        · obtain ⟨v1, hv, rfl⟩ := inR_e hv0 (by omega)
          have fq := rq_fig h.1.1 (show k1 < 5 by omega)
          exact bOK.mk (f_set_0 hI M J hw k1 v1 (by omega) (by omega)) (r_set_0 hI2 N K hr k1 v1 hk hv) (congrArg nI fq.1) (set_rel h (q := 0) (by omega) (by omega) (by simp; omega))
        · exact bOK.mk (f_set_0_bad hI M J hw k1 (by omega) v (by exact hv0)) (r_set_0_bad hI2 N K hr k1 hk v hv0) rfl h
      · by_cases hv0 : inR v (N 1 0)
        · obtain ⟨v1, hv, rfl⟩ := inR_e hv0 (by omega)
          have fq := rq_fig h.1.1 (show k1 < 5 by omega)
          exact bOK.mk (f_set_1 hI M J hw k1 v1 (by omega) (by omega)) (r_set_1 hI2 N K hr k1 v1 hk hv) (congrArg nI fq.2.1) (set_rel h (q := 1) (by omega) (by omega) (by simp; omega))
        · exact bOK.mk (f_set_1_bad hI M J hw k1 (by omega) v (by rw [ec]; exact hv0)) (r_set_1_bad hI2 N K hr k1 hk v hv0) rfl h
      · by_cases hv0 : inR v (12)
        · obtain ⟨v1, hv, rfl⟩ := inR_e hv0 (by omega)
          have fq := rq_fig h.1.1 (show k1 < 5 by omega)
          exact bOK.mk (f_set_2 hI M J hw k1 v1 (by omega) (by omega)) (r_set_2 hI2 N K hr k1 v1 hk hv) (congrArg nI fq.2.2.1) (set_rel h (q := 2) (by omega) (by omega) (by simp; omega))
        · exact bOK.mk (f_set_2_bad hI M J hw k1 (by omega) v (by exact hv0)) (r_set_2_bad hI2 N K hr k1 hk v hv0) rfl h
      · by_cases hv0 : inR v (4)
        · obtain ⟨v1, hv, rfl⟩ := inR_e hv0 (by omega)
          have fq := rq_fig h.1.1 (show k1 < 5 by omega)
          exact bOK.mk (f_set_3 hI M J hw k1 v1 (by omega) (by omega)) (r_set_3 hI2 N K hr k1 v1 hk hv) (congrArg nI fq.2.2.2.1) (set_rel h (q := 3) (by omega) (by omega) (by simp; omega))
        · exact bOK.mk (f_set_3_bad hI M J hw k1 (by omega) v (by exact hv0)) (r_set_3_bad hI2 N K hr k1 hk v hv0) rfl h
    · exact bOK.mk (f_set_what hI M J hw k1 (by omega) w v (by omega)) (r_set_what hI2 N K hr k1 hk w v (by omega)) rfl h
  · exact bOK.mk (f_set_fig hI M J hw k w v (by rw [ef]; exact hk0)) (r_set_fig hI2 N K hr k w v hk0) rfl h
theorem o_figure {l : Launch} {g : gE} {ad ad' : Nat → Nat} (hI : g_inj ad 55) (hI2 : g_inj ad' 14) {M N : gMem} {J K : gMeL} (h : RelA M N J K) (k : Int32) (c : Int32) (lg : Int32) (p : Int32) : bOK l g ad ad' yX5_figure cX5_figure 5 3 yX6_figure cX6_figure 6 3 [.int k, .int c, .int lg, .int p] M N J K := by
  have hw := rq_wf h.1.1 h.1.2.1
  have hr := h.1.2.1
  have hnc := hr.nc
  have hnf := hr.nf
  have ec := rq_nc h.1.1
  have ef := rq_nf h.1.1
  by_cases hc : inR k 4 ∧ inR c (N 1 0) ∧ inR lg 12 ∧ inR p 4
  · obtain ⟨k1, hk, rfl⟩ := inR_e hc.1 (by omega)
    obtain ⟨c1, hc1, rfl⟩ := inR_e hc.2.1 (by omega)
    obtain ⟨l1, hl, rfl⟩ := inR_e hc.2.2.1 (by omega)
    obtain ⟨p1, hp, rfl⟩ := inR_e hc.2.2.2 (by omega)
    by_cases e : N 1 73 = 5
    · exact bOK.mk (f_figure_full hI M J hw k1 c1 l1 p1 hk (by omega) hl hp (by omega)) (r_figure_full hI2 N K hr k1 c1 l1 p1 hk hc1 hl hp e) rfl h
    · exact bOK.mk (f_figure_ok hI M J hw k1 c1 l1 p1 hk (by omega) hl hp (by omega)) (r_figure_ok hI2 N K hr k1 c1 l1 p1 hk hc1 hl hp (by omega)) (congrArg nI ef) (fig_rel h (by omega) (by omega) (by omega) (by omega) (by omega))
  · exact bOK.mk (f_figure_bad hI M J hw k c lg p (by rw [ec]; exact hc)) (r_figure_bad hI2 N K hr k c lg p hc) rfl h
theorem o_cam {l : Launch} {g : gE} {ad ad' : Nat → Nat} (hI : g_inj ad 55) (hI2 : g_inj ad' 14) {M N : gMem} {J K : gMeL} (h : RelA M N J K) : bOK l g ad ad' yX5_cam cX5_cam 2 5 yX6_cam cX6_cam 4 3 [] M N J K := by
  have hw := rq_wf h.1.1 h.1.2.1
  have hr := h.1.2.1
  have hnc := hr.nc
  have hnf := hr.nf
  have ec := rq_nc h.1.1
  have ef := rq_nf h.1.1
  cases hp : rdF (N 2) okd (N 0 3) 0 0 (N 0 3) with
  | some p => exact bOK.mk (f_cam_flt hI M J (by rw [h.2.1.1]; exact h.2.1.2.1) (by rw [h.2.1.2.2.1]; exact fun q _ => h.2.1.2.2.2 q) p (by rw [rd_same h]; exact hp) (rd_le h hp)) (r_cam_flt hI2 N K h.2.1.2.1 (fun q _ => h.2.1.2.2.2 q) p hp (rd_le h hp)) rfl (sg_rel h okd (fun b => b - 48))
  | none =>
    by_cases e : N 1 0 = 6
    · exact bOK.mk (f_cam_full hI M J (by rw [h.2.1.1]; exact h.2.1.2.1) (by rw [h.2.1.2.2.1]; exact fun q _ => h.2.1.2.2.2 q) (by rw [rd_same h]; exact hp) (by omega)) (r_cam_full hI2 N K h.2.1.2.1 (fun q _ => h.2.1.2.2.2 q) hp e) rfl (sg_rel h okd (fun b => b - 48))
    · exact bOK.mk (f_cam_ok hI M J (by rw [h.2.1.1]; exact h.2.1.2.1) (by rw [h.2.1.2.2.1]; exact fun q _ => h.2.1.2.2.2 q) (by rw [rd_same h]; exact hp) (by omega)) (r_cam_ok hI2 N K h.2.1.2.1 (fun q _ => h.2.1.2.2.2 q) hp (by omega) (fun a ha => (sg_d h hp a ha).2)) (congrArg nI ec) (cam_both h hp (by omega))
theorem o_wish {l : Launch} {g : gE} {ad ad' : Nat → Nat} (hI : g_inj ad 55) (hI2 : g_inj ad' 14) {M N : gMem} {J K : gMeL} (h : RelA M N J K) (k : Int32) : bOK l g ad ad' yX5_wish cX5_wish 3 5 yX6_wish cX6_wish 6 3 [.int k] M N J K := by
  have hw := rq_wf h.1.1 h.1.2.1
  have hr := h.1.2.1
  have hnc := hr.nc
  have hnf := hr.nf
  have ec := rq_nc h.1.1
  have ef := rq_nf h.1.1
  by_cases hk0 : inR k (N 1 73)
  · obtain ⟨k1, hk, rfl⟩ := inR_e hk0 (by omega)
    cases hp : rdF (N 2) okw (N 0 3) 0 0 (N 0 3) with
    | some p => exact bOK.mk (f_wish_flt hI M J hw (by rw [h.2.1.1]; exact h.2.1.2.1) (by rw [h.2.1.2.2.1]; exact fun q _ => h.2.1.2.2.2 q) k1 (by omega) p (by rw [rd_same h]; exact hp) (rd_le h hp)) (r_wish_flt hI2 N K hr h.2.1.2.1 (fun q _ => h.2.1.2.2.2 q) k1 hk p hp (rd_le h hp)) rfl (sg_rel h okw (fun b => b))
    | none =>
      have eU := pU_same h hp
      have eD := pD_same h hp
      exact bOK.mk (f_wish_ok hI M J hw (by rw [h.2.1.1]; exact h.2.1.2.1) (by rw [h.2.1.2.2.1]; exact fun q _ => h.2.1.2.2.2 q) k1 (by omega) (by rw [rd_same h]; exact hp) (fun a ha => by have := sg_w h hp a ha; exact Nat.lt_of_le_of_lt (Nat.le_of_eq this.1) this.2)) (r_wish_ok hI2 N K hr h.2.1.2.1 (fun q _ => h.2.1.2.2.2 q) k1 hk hp (fun a ha => (sg_w h hp a ha).2)) (congrArg nI (show pop (pU (sgX M okw (fun b => b)) ||| pDX (sgX M okw (fun b => b))) = pop (pU (sgR N okw) ||| pD (sgR N okw)) by rw [eU, eD])) (wish_both h (by omega) hp)
  · exact bOK.mk (f_wish_bad hI M J hw k (by rw [ef]; exact hk0)) (r_wish_bad hI2 N K hr k hk0) rfl h
theorem o_type {l : Launch} {g : gE} {ad ad' : Nat → Nat} (hI : g_inj ad 55) (hI2 : g_inj ad' 14) {M N : gMem} {J K : gMeL} (h : RelA M N J K) (w8 : Int64) (n : Int32) : bOK l g ad ad' yX5_type cX5_type 4 4 yX6_type cX6_type 5 1 [.long w8, .int n] M N J K := by
  have hw := rq_wf h.1.1 h.1.2.1
  have hr := h.1.2.1
  have hnc := hr.nc
  have hnf := hr.nf
  have ec := rq_nc h.1.1
  have ef := rq_nf h.1.1
  by_cases hc : inR1 n 9
  · obtain ⟨n1, g1, h1, rfl⟩ := inR1_e hc (by omega)
    by_cases hb : ∃ q, q < n1 ∧ ¬ (32 ≤ byt w8 q ∧ byt w8 q ≤ 126)
    · exact bOK.mk (f_type_byte hI M J w8 n1 g1 (by omega) hb) (r_type_byte hI2 N K w8 n1 g1 (by omega) hb) rfl h
    · have hb2 : ∀ q, q < n1 → (32 ≤ byt w8 q ∧ byt w8 q ≤ 126) := fun q hq => Decidable.byContradiction (fun x => hb ⟨q, hq, x⟩)
      have hl := h.2.1.1
      have hl2 := h.2.1.2.1
      by_cases e : N 0 3 + n1 ≤ 40
      · exact bOK.mk (f_type_ok hI M J w8 n1 g1 (by omega) hb2 (by omega)) (r_type_ok hI2 N K w8 n1 g1 (by omega) hb2 e) (by rw [hl]) (type_rel h w8 (by omega))
      · exact bOK.mk (f_type_full hI M J w8 n1 g1 (by omega) hb2 (by omega) (by omega)) (r_type_full hI2 N K w8 n1 g1 (by omega) hb2 (by omega) (by omega)) rfl h
  · exact bOK.mk (f_type_n hI M J w8 n hc) (r_type_n hI2 N K w8 n hc) rfl h
theorem o_sheet {l : Launch} {g : gE} {ad ad' : Nat → Nat} (hI : g_inj ad 55) (hI2 : g_inj ad' 14) {M N : gMem} {J K : gMeL} (h : RelA M N J K) (s : Int32) (ln : Int32) (n : Int32) : bOK l g ad ad' yX5_sheet cX5_sheet 4 2 yX6_sheet cX6_sheet 5 2 [.int s, .int ln, .int n] M N J K := by
  have hw := rq_wf h.1.1 h.1.2.1
  have hr := h.1.2.1
  have hnc := hr.nc
  have hnf := hr.nf
  have ec := rq_nc h.1.1
  have ef := rq_nf h.1.1
  by_cases hc : inR s 4 ∧ inR ln 3
  · obtain ⟨s1, hs, rfl⟩ := inR_e hc.1 (by omega)
    obtain ⟨l1, hl, rfl⟩ := inR_e hc.2 (by omega)
    have hq := (h.2.2.1 s1 hs).1
    by_cases e : n.toInt < 0
    · exact bOK.mk (f_sheet_neg hI M J s1 l1 hs hl n e) (r_sheet_neg hI2 N K s1 l1 hs (by omega) n e) rfl h
    · rcases n_int (x := n) (n := 25) (by omega) with ⟨n1, hn, rfl⟩ | hn
      · exact bOK.mk (f_sheet_ok hI M J s1 l1 hs hl n1 (by omega)) (r_sheet_ok hI2 N K s1 l1 hs (by omega) n1 (by omega)) rfl (sheet_rel h hs (by omega) (by omega))
      · exact bOK.mk (f_sheet_bad hI M J _ _ n (Or.inr (by omega))) (r_sheet_bad hI2 N K _ _ n (Or.inr (by omega))) rfl h
  · exact bOK.mk (f_sheet_bad hI M J s ln n (Or.inl hc)) (r_sheet_bad hI2 N K s ln n (Or.inl hc)) rfl h
theorem o_drop {l : Launch} {g : gE} {ad ad' : Nat → Nat} (hI : g_inj ad 55) (hI2 : g_inj ad' 14) {M N : gMem} {J K : gMeL} (h : RelA M N J K) (s : Int32) : bOK l g ad ad' yX5_drop cX5_drop 2 2 yX6_drop cX6_drop 2 2 [.int s] M N J K := by
  have hw := rq_wf h.1.1 h.1.2.1
  have hr := h.1.2.1
  have hnc := hr.nc
  have hnf := hr.nf
  have ec := rq_nc h.1.1
  have ef := rq_nf h.1.1
  by_cases hc : inR s 4
  · obtain ⟨s1, hs, rfl⟩ := inR_e hc (by omega)
    have hq := (h.2.2.1 s1 hs).1
    rcases hq.2.2.1 with h2 | h2
    · exact bOK.mk (f_drop_ok hI M J s1 hs (by omega)) (r_drop_ok hI2 N K s1 hs h2) (congrArg nI hq.2.1) (drop_rel h hs)
    · exact bOK.mk (f_drop_null hI M J s1 hs (by omega)) (r_drop_null hI2 N K s1 hs h2) rfl h
  · exact bOK.mk (f_drop_bad hI M J s hc) (r_drop_bad hI2 N K s hc) rfl h
theorem o_item {l : Launch} {g : gE} {ad ad' : Nat → Nat} (hI : g_inj ad 55) (hI2 : g_inj ad' 14) {M N : gMem} {J K : gMeL} (h : RelA M N J K) (s : Int32) (ln : Int32) (i : Int32) (w8 : Int64) : bOK l g ad ad' yX5_item cX5_item 7 4 yX6_item cX6_item 7 2 [.int s, .int ln, .int i, .long w8] M N J K := by
  have hw := rq_wf h.1.1 h.1.2.1
  have hr := h.1.2.1
  have hnc := hr.nc
  have hnf := hr.nf
  have ec := rq_nc h.1.1
  have ef := rq_nf h.1.1
  by_cases hc : inR s 4 ∧ inR ln 3
  · obtain ⟨s1, hs, rfl⟩ := inR_e hc.1 (by omega)
    obtain ⟨l1, hl, rfl⟩ := inR_e hc.2 (by omega)
    have hq := (h.2.2.1 s1 hs).1
    rcases hq.2.2.1 with h2 | h2
    · by_cases e : N 10 s1 = l1
      · by_cases hx : 0 ≤ i.toInt ∧ i.toInt + 1 ≤ N 11 s1
        · rcases n_int (x := i) (n := 25) (by omega) with ⟨i1, hi, rfl⟩ | hi
          · rw [tz (by omega)] at hx
            exact bOK.mk (f_item_ok hI M J s1 l1 hs hl i1 w8 (by omega) (by omega) (by omega)) (r_item_ok hI2 N K s1 l1 hs (by omega) i1 w8 e (by omega) (by omega)) (rfl) (by rw [hq.1, e]; exact item_rel h _ hs (by omega))
          · omega
        · exact bOK.mk (f_item_index hI M J  s1 l1 hs hl i w8 (by omega) (by rw [hq.2.1]; exact hx) (by omega)) (r_item_index hI2 N K  w8 s1 l1 hs (by omega) i e hx (by omega)) rfl h
      · exact bOK.mk (f_item_cast hI M J  s1 l1 hs hl i w8 (by omega) (by omega)) (r_item_cast hI2 N K  w8 s1 l1 hs (by omega) i h2 e) rfl h
    · exact bOK.mk (f_item_null hI M J  s1 l1 hs hl i w8 (by omega)) (r_item_null hI2 N K  w8 s1 l1 hs (by omega) i h2) rfl h
  · exact bOK.mk (f_item_bad hI M J s ln i w8 hc) (r_item_bad hI2 N K s ln i w8 hc) rfl h
theorem o_film {l : Launch} {g : gE} {ad ad' : Nat → Nat} (hI : g_inj ad 55) (hI2 : g_inj ad' 14) {M N : gMem} {J K : gMeL} (h : RelA M N J K) (k : Int32) (s : Int32) (ln : Int32) (i : Int32) : bOK l g ad ad' yX5_film cX5_film 8 7 yX6_film cX6_film 7 3 [.int k, .int s, .int ln, .int i] M N J K := by
  have hw := rq_wf h.1.1 h.1.2.1
  have hr := h.1.2.1
  have hnc := hr.nc
  have hnf := hr.nf
  have ec := rq_nc h.1.1
  have ef := rq_nf h.1.1
  by_cases hk0 : inR k (N 1 73)
  · obtain ⟨k1, hk, rfl⟩ := inR_e hk0 (by omega)
    by_cases hc : inR s 4 ∧ inR ln 3
    · obtain ⟨s1, hs, rfl⟩ := inR_e hc.1 (by omega)
      obtain ⟨l1, hl, rfl⟩ := inR_e hc.2 (by omega)
      have hq := (h.2.2.1 s1 hs).1
      rcases hq.2.2.1 with h2 | h2
      · by_cases e : N 10 s1 = l1
        · by_cases hx : 0 ≤ i.toInt ∧ i.toInt + 12 ≤ N 11 s1
          · rcases n_int (x := i) (n := 25) (by omega) with ⟨i1, hi, rfl⟩ | hi
            · rw [tz (by omega)] at hx
              exact bOK.mk (f_film_ok hI M J hw k1 (by omega) s1 l1 hs hl i1 (by omega) (by omega) (by omega)) (r_film_ok hI2 N K hr k1 hk s1 l1 hs (by omega) i1 e (by omega) (by omega)) (rfl) (film_rel h (by omega) hs (by omega))
            · omega
          · exact bOK.mk (f_film_index hI M J hw k1 (by omega) s1 l1 hs hl i  (by omega) (by rw [hq.2.1]; exact hx) (by omega)) (r_film_index hI2 N K hr k1 hk  s1 l1 hs (by omega) i e hx (by omega)) rfl h
        · exact bOK.mk (f_film_cast hI M J hw k1 (by omega) s1 l1 hs hl i  (by omega) (by omega)) (r_film_cast hI2 N K hr k1 hk  s1 l1 hs (by omega) i h2 e) rfl h
      · exact bOK.mk (f_film_null hI M J hw k1 (by omega) s1 l1 hs hl i  (by omega)) (r_film_null hI2 N K hr k1 hk  s1 l1 hs (by omega) i h2) rfl h
    · exact bOK.mk (f_film_bad hI M J hw k1 (by omega) s ln i hc) (r_film_bad hI2 N K hr _ s ln i (fun x => hc x.2)) rfl h
  · exact bOK.mk (f_film_fig hI M J hw k s ln i (by rw [ef]; exact hk0)) (r_film_bad hI2 N K hr k s ln i (fun x => hk0 x.1)) rfl h
theorem o_worn {l : Launch} {g : gE} {ad ad' : Nat → Nat} (hI : g_inj ad 55) (hI2 : g_inj ad' 14) {M N : gMem} {J K : gMeL} (h : RelA M N J K) (w : Int32) (s : Int32) (ln : Int32) (i : Int32) : bOK l g ad ad' yX5_worn cX5_worn 9 8 yX6_worn cX6_worn 10 5 [.int w, .int s, .int ln, .int i] M N J K := by
  have hw := rq_wf h.1.1 h.1.2.1
  have hr := h.1.2.1
  have hnc := hr.nc
  have hnf := hr.nf
  have ec := rq_nc h.1.1
  have ef := rq_nf h.1.1
  by_cases hk0 : inR1 w 10
  · obtain ⟨w1, g1, hw1, rfl⟩ := inR1_e hk0 (by omega)
    by_cases hc : inR s 4 ∧ inR ln 3
    · obtain ⟨s1, hs, rfl⟩ := inR_e hc.1 (by omega)
      obtain ⟨l1, hl, rfl⟩ := inR_e hc.2 (by omega)
      have hq := (h.2.2.1 s1 hs).1
      rcases hq.2.2.1 with h2 | h2
      · by_cases e : N 10 s1 = l1
        · by_cases hx : 0 ≤ i.toInt ∧ i.toInt + N 1 73 ≤ N 11 s1
          · rcases n_int (x := i) (n := 25) (by omega) with ⟨i1, hi, rfl⟩ | hi
            · rw [tz (by omega)] at hx
              exact bOK.mk (f_worn_ok hI M J hw w1 g1 hw1 s1 l1 hs hl i1 (by omega) (by omega) (by omega)) (r_worn_ok hI2 N K hr w1 g1 hw1 s1 l1 hs (by omega) i1 e (by omega) (by omega)) (congrArg nI (worn_same h hs (by omega))) (worn_rel h w1 _ _)
            · omega
          · exact bOK.mk (f_worn_index hI M J hw w1 g1 hw1 s1 l1 hs hl i  (by omega) (by rw [hq.2.1, ef]; exact hx) (by omega)) (r_worn_index hI2 N K hr w1 g1 hw1  s1 l1 hs (by omega) i e hx (by omega)) rfl h
        · exact bOK.mk (f_worn_cast hI M J hw w1 g1 hw1 s1 l1 hs hl i  (by omega) (by omega)) (r_worn_cast hI2 N K hr w1 g1 hw1  s1 l1 hs (by omega) i h2 e) rfl h
      · exact bOK.mk (f_worn_null hI M J hw w1 g1 hw1 s1 l1 hs hl i  (by omega)) (r_worn_null hI2 N K hr w1 g1 hw1  s1 l1 hs (by omega) i h2) rfl h
    · exact bOK.mk (f_worn_bad hI M J hw w1 g1 hw1 s ln i hc) (r_worn_bad hI2 N K _ s ln i (fun x => hc x.2)) rfl h
  · exact bOK.mk (f_worn_w hI M J w s ln i hk0) (r_worn_bad hI2 N K w s ln i (fun x => hk0 x.1)) rfl h
theorem o_copy {l : Launch} {g : gE} {ad ad' : Nat → Nat} (hI : g_inj ad 55) (hI2 : g_inj ad' 14) {M N : gMem} {J K : gMeL} (h : RelA M N J K) (s : Int32) (i : Int32) (t : Int32) (j : Int32) (n : Int32) : bOK l g ad ad' yX5_copy cX5_copy 8 2 yX6_copy cX6_copy 8 2 [.int s, .int i, .int t, .int j, .int n] M N J K := by
  have hw := rq_wf h.1.1 h.1.2.1
  have hr := h.1.2.1
  have hnc := hr.nc
  have hnf := hr.nf
  have ec := rq_nc h.1.1
  have ef := rq_nf h.1.1
  by_cases hc : inR s 4 ∧ inR t 4
  · obtain ⟨s1, hs, rfl⟩ := inR_e hc.1 (by omega)
    obtain ⟨t1, ht, rfl⟩ := inR_e hc.2 (by omega)
    have hq := (h.2.2.1 s1 hs).1
    have hq2 := (h.2.2.1 t1 ht).1
    rcases hq.2.2.1 with h2 | h2
    · rcases hq2.2.2.1 with h3 | h3
      · by_cases e : N 10 s1 = N 10 t1
        · by_cases hx : (0 ≤ i.toInt ∧ 0 ≤ n.toInt ∧ i.toInt + n.toInt ≤ N 11 s1)
          · rcases n_int (x := i) (n := 25) (by omega) with ⟨i1, hi, rfl⟩ | hi
            · rcases n_int (x := n) (n := 25) (by omega) with ⟨n1, hn, rfl⟩ | hn
              · have hx2 := hx
                rw [tz (by omega), tz (by omega)] at hx2
                by_cases hy : 0 ≤ j.toInt ∧ j.toInt + n1 ≤ N 11 t1
                · rcases n_int (x := j) (n := 25) (by omega) with ⟨j1, hj, rfl⟩ | hj
                  · rw [tz (by omega)] at hy
                    exact bOK.mk (f_copy_ok hI M J s1 t1 hs ht i1 j1 n1 (by omega) (by omega) (by omega) (by omega) (by omega) (by omega)) (r_copy_ok hI2 N K s1 t1 hs ht i1 j1 n1 h2 e.symm (by omega) (by omega) (by omega) (by omega)) rfl (copy_rel h hs ht (by omega) (by omega))
                  · omega
                · exact bOK.mk (f_copy_index2 hI M J s1 t1 hs ht i1 n1 j (by omega) (by omega) (by omega) (by omega) (by omega) (by rw [hq2.2.1]; exact hy) (by omega)) (r_copy_index2 hI2 N K s1 t1 hs ht _ j _ h2 h3 e hx (by omega) (by rw [tz (show n1 < 2 ^ 31 by omega)]; omega) (by omega)) rfl h
              · omega
            · omega
          · exact bOK.mk (f_copy_index1 hI M J s1 t1 hs ht i j n (by omega) (by omega) (by omega) (by rw [hq.2.1]; exact hx) (by omega)) (r_copy_index1 hI2 N K s1 t1 hs ht i j n h2 h3 e hx (by omega)) rfl h
        · exact bOK.mk (f_copy_cast hI M J s1 t1 hs ht i j n (by omega) (by omega) (by omega)) (r_copy_cast hI2 N K s1 t1 hs ht i j n h2 h3 e) rfl h
      · exact bOK.mk (f_copy_null2 hI M J s1 t1 hs ht i j n (by omega) (by omega)) (r_copy_null2 hI2 N K s1 t1 hs ht i j n h2 h3) rfl h
    · exact bOK.mk (f_copy_null1 hI M J s1 t1 hs ht i j n (by omega)) (r_copy_null1 hI2 N K s1 t1 hs ht i j n h2) rfl h
  · exact bOK.mk (f_copy_bad hI M J s i t j n hc) (r_copy_bad hI2 N K s i t j n hc) rfl h
