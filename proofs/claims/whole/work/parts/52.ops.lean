/-! one call on both sides -/
def bOK (l : Launch) (g : gE) (ad ad' : Nat → Nat) (yX : MethodName) (cX : ByteArray) (mX lX : Nat) (yR : MethodName) (cR : ByteArray) (mR lR : Nat) (a : List Value) (M N : gMem) (J K : gMeL) : Prop := ∃ r M' J' N' K', CI l g ad dsX 55 yX cX mX (some .int) lX (.ref (ad 0) :: a) M J r M' J' ∧ CI l g ad' dsR 14 yR cR mR (some .int) lR (.ref (ad' 0) :: a) N K r N' K' ∧ RelA M' N' J' K'
theorem bOK.mk {l : Launch} {g : gE} {ad ad' : Nat → Nat} {yX : MethodName} {cX : ByteArray} {mX lX : Nat} {yR : MethodName} {cR : ByteArray} {mR lR : Nat} {a : List Value} {M N M' N' : gMem} {J K J' K' : gMeL} {r r' : Int32} (hx : CI l g ad dsX 55 yX cX mX (some .int) lX (.ref (ad 0) :: a) M J r M' J') (hr : CI l g ad' dsR 14 yR cR mR (some .int) lR (.ref (ad' 0) :: a) N K r' N' K') (e : r = r') (h : RelA M' N' J' K') : bOK l g ad ad' yX cX mX lX yR cR mR lR a M N J K := ⟨r, M', J', N', K', hx, e ▸ hr, h⟩
theorem inR_e {x : Int32} {n : Nat} (h : inR x n) (hn : n ≤ 2 ^ 31) : ∃ a, a < n ∧ x = nI a := by
  rcases n_int (x := x) hn with ⟨a, h1, e⟩ | h1
  · exact ⟨a, h1, e⟩
  · exact absurd h (inR_o h1)
theorem inR1_e {x : Int32} {n : Nat} (h : inR1 x n) (hn : n ≤ 2 ^ 31) : ∃ a, 1 ≤ a ∧ a < n ∧ x = nI a := by
  rcases n_int1 (x := x) hn with ⟨a, h1, h2, e⟩ | h1
  · exact ⟨a, h1, h2, e⟩
  · unfold inR1 at h; omega
theorem o_cut {l : Launch} {g : gE} {ad ad' : Nat → Nat} (hI : g_inj ad 55) (hI2 : g_inj ad' 14) {M N : gMem} {J K : gMeL} (h : RelA M N J K) (c : Int32) (a : Int32) (v : Int32) : bOK l g ad ad' yX5_cut cX5_cut 5 3 yX6_cut cX6_cut 6 3 [.int c, .int a, .int v] M N J K := by
  have hw := rq_wf h.1.1 h.1.2.1
  have hr := h.1.2.1
  have hnc := hr.nc
  have hnf := hr.nf
  have ec := rq_nc h.1.1
  have ef := rq_nf h.1.1
  by_cases hc : inR c (N 1 0) ∧ inR a 12 ∧ inR v 10
  · obtain ⟨c1, h1, rfl⟩ := inR_e hc.1 (by omega)
    obtain ⟨a1, h2, rfl⟩ := inR_e hc.2.1 (by omega)
    obtain ⟨v1, h3, rfl⟩ := inR_e hc.2.2 (by omega)
    exact bOK.mk (f_cut_ok hI M J hw c1 a1 v1 (by omega) h2 h3) (r_cut_ok hI2 N K hr c1 a1 v1 h1 h2 h3) (congrArg nI (rq_row h.1.1 (by omega) a1 h2)) (cut_rel h (by omega) h2 (by omega))
  · exact bOK.mk (f_cut_bad hI M J hw c a v (by rw [ec]; exact hc)) (r_cut_bad hI2 N K hr c a v hc) rfl h
theorem o_told {l : Launch} {g : gE} {ad ad' : Nat → Nat} (hI : g_inj ad 55) (hI2 : g_inj ad' 14) {M N : gMem} {J K : gMeL} (h : RelA M N J K) (c : Int32) (a : Int32) : bOK l g ad ad' yX5_told cX5_told 3 3 yX6_told cX6_told 3 3 [.int c, .int a] M N J K := by
  have hw := rq_wf h.1.1 h.1.2.1
  have hr := h.1.2.1
  have hnc := hr.nc
  have hnf := hr.nf
  have ec := rq_nc h.1.1
  have ef := rq_nf h.1.1
  by_cases hc : inR c (N 1 0) ∧ inR a 12
  · obtain ⟨c1, h1, rfl⟩ := inR_e hc.1 (by omega)
    obtain ⟨a1, h2, rfl⟩ := inR_e hc.2 (by omega)
    exact bOK.mk (f_told_ok hI M J hw c1 a1 (by omega) h2) (r_told_ok hI2 N K hr c1 a1 h1 h2) (congrArg nI (rq_row h.1.1 (by omega) a1 h2)) h
  · exact bOK.mk (f_told_bad hI M J hw c a (by rw [ec]; exact hc)) (r_told_bad hI2 N K hr c a hc) rfl h
theorem o_line {l : Launch} {g : gE} {ad ad' : Nat → Nat} (hI : g_inj ad 55) (hI2 : g_inj ad' 14) {M N : gMem} {J K : gMeL} (h : RelA M N J K) (v : Int32) : bOK l g ad ad' yX5_line cX5_line 3 1 yX6_line cX6_line 3 1 [.int v] M N J K := by
  have hw := rq_wf h.1.1 h.1.2.1
  have hr := h.1.2.1
  have hnc := hr.nc
  have hnf := hr.nf
  have ec := rq_nc h.1.1
  have ef := rq_nf h.1.1
  by_cases hc : inR1 v 10
  · obtain ⟨v1, h0, h1, rfl⟩ := inR1_e hc (by omega)
    exact bOK.mk (f_line_ok hI M J hw v1 (by omega) h1) (r_line_ok hI2 N K hr v1 (by omega) h1) (congrArg nI (rq_line h.1.1)) (one_rel h (by omega))
  · exact bOK.mk (f_line_bad hI M J hw v hc) (r_line_bad hI2 N K hr v hc) rfl h
theorem o_way {l : Launch} {g : gE} {ad ad' : Nat → Nat} (hI : g_inj ad 55) (hI2 : g_inj ad' 14) {M N : gMem} {J K : gMeL} (h : RelA M N J K) (v : Int32) : bOK l g ad ad' yX5_way cX5_way 3 1 yX6_way cX6_way 3 1 [.int v] M N J K := by
  have hw := rq_wf h.1.1 h.1.2.1
  have hr := h.1.2.1
  have hnc := hr.nc
  have hnf := hr.nf
  have ec := rq_nc h.1.1
  have ef := rq_nf h.1.1
  by_cases hc : inR v 2
  · obtain ⟨v1, h1, rfl⟩ := inR_e hc (by omega)
    exact bOK.mk (f_way_ok hI M J hw v1 (by omega) h1) (r_way_ok hI2 N K hr v1 (by omega) h1) (congrArg nI (rq_way h.1.1)) (one_rel h (by omega))
  · exact bOK.mk (f_way_bad hI M J hw v hc) (r_way_bad hI2 N K hr v hc) rfl h
