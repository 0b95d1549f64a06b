set_option maxHeartbeats 4000000 in
set_option maxRecDepth 100000 in
theorem c_isWithin_t {l : Launch} {g : gE} (v lo hi : Int32) (h : lo.toInt ≤ v.toInt ∧ v.toInt ≤ hi.toInt) : CP l g yX5_isWithin cX5_isWithin 3 (some .boolean) 0 [.int v, .int lo, .int hi] (nI 1) := by
  refine CP.of (plainFor_of_name (by decide)) (Nat.le_of_ble_eq_true rfl) (fun p9 e9 s9 m9 args9 below9 meth9 c9 CF hK hr9 hlk9 hS ls hl => ?_)
  have hx := CF.1
  have hb := CF.2.1
  have hl : lv_has ls 3 [(0, .int v), (1, .int lo), (2, .int hi)] := hl
  refine lv_iload_n hx hb dX5_isWithin_0 rfl (lv_at hl 0 rfl) ?_
  refine lv_iload_n hx hb dX5_isWithin_1 rfl (lv_at hl 1 rfl) ?_
  refine x_zlt (u := _) (v := _) (tgt := 14) hx hb (rfl) (rfl) dX5_isWithin_2 (by decide) (fun h_1 => (by omega : False).elim) (fun h_1 => ?_)
  refine lv_iload_n hx hb dX5_isWithin_5 rfl (lv_at hl 0 rfl) ?_
  refine lv_iload_n hx hb dX5_isWithin_6 rfl (lv_at hl 2 rfl) ?_
  refine x_zgt (u := _) (v := _) (tgt := 14) hx hb (rfl) (rfl) dX5_isWithin_7 (by decide) (fun h_2 => (by omega : False).elim) (fun h_2 => ?_)
  refine lv_iconst (v := nI 1) hx hb dX5_isWithin_10 (by decide) ?_
  refine lv_goto (tgt := 15) hx hb dX5_isWithin_11 (by decide) ?_
  exact x_retpz hx hb hr9 hlk9 hS (by first | rfl | (show nI 1 = nI 1; first | rfl | omega)) (rfl) dX5_isWithin_15
set_option maxHeartbeats 4000000 in
set_option maxRecDepth 100000 in
theorem c_isWithin_f {l : Launch} {g : gE} (v lo hi : Int32) (h : v.toInt < lo.toInt ∨ hi.toInt < v.toInt) : CP l g yX5_isWithin cX5_isWithin 3 (some .boolean) 0 [.int v, .int lo, .int hi] (nI 0) := by
  refine CP.of (plainFor_of_name (by decide)) (Nat.le_of_ble_eq_true rfl) (fun p9 e9 s9 m9 args9 below9 meth9 c9 CF hK hr9 hlk9 hS ls hl => ?_)
  have hx := CF.1
  have hb := CF.2.1
  have hl : lv_has ls 3 [(0, .int v), (1, .int lo), (2, .int hi)] := hl
  refine lv_iload_n hx hb dX5_isWithin_0 rfl (lv_at hl 0 rfl) ?_
  refine lv_iload_n hx hb dX5_isWithin_1 rfl (lv_at hl 1 rfl) ?_
  refine x_zlt (u := _) (v := _) (tgt := 14) hx hb (rfl) (rfl) dX5_isWithin_2 (by decide) (fun h_1 => ?_) (fun h_1 => ?_)
  · refine lv_iconst (v := nI 0) hx hb dX5_isWithin_14 (by decide) ?_
    exact x_retpz hx hb hr9 hlk9 hS (by first | rfl | (show nI 0 = nI 0; first | rfl | omega)) (rfl) dX5_isWithin_15
  · refine lv_iload_n hx hb dX5_isWithin_5 rfl (lv_at hl 0 rfl) ?_
    refine lv_iload_n hx hb dX5_isWithin_6 rfl (lv_at hl 2 rfl) ?_
    refine x_zgt (u := _) (v := _) (tgt := 14) hx hb (rfl) (rfl) dX5_isWithin_7 (by decide) (fun h_2 => ?_) (fun h_2 => ?_)
    · refine lv_iconst (v := nI 0) hx hb dX5_isWithin_14 (by decide) ?_
      exact x_retpz hx hb hr9 hlk9 hS (by first | rfl | (show nI 0 = nI 0; first | rfl | omega)) (rfl) dX5_isWithin_15
    · exact (by omega : False).elim
set_option maxHeartbeats 4000000 in
set_option maxRecDepth 100000 in
theorem c_floorMod {l : Launch} {g : gE} (x : Int32) (n : Nat) (h0 : 0 < n) (hn : n < 2 ^ 30) : CP l g yJ9_floorMod_7cf53 cJ9_floorMod_7cf53 3 (some .int) 0 [.int x, .int (nI n)] (nI (fmd x.toInt n)) := by
  refine CP.of (by decide +kernel) (Nat.le_of_ble_eq_true rfl) (fun p9 e9 s9 m9 args9 below9 meth9 c9 CF hK hr9 hlk9 hS ls hl => ?_)
  have hx := CF.1
  have hb := CF.2.1
  have hl : lv_has ls 3 [(0, .int x), (1, .int (nI n))] := hl
  refine lv_iload_n hx hb dJ9_floorMod_7cf53_0 rfl (lv_at hl 0 rfl) ?_
  refine lv_iload_n hx hb dJ9_floorMod_7cf53_1 rfl (lv_at hl 1 rfl) ?_
  refine lv_irem hx hb dJ9_floorMod_7cf53_2 (nI_ne0 h0 (by omega)) ?_
  refine lv_istore_n (lv' := [(2, .int (x - x / nI n * nI n)), (0, .int x), (1, .int (nI n))]) hx hb dJ9_floorMod_7cf53_3 rfl hl (by decide) rfl (fun ls hl => ?_)
  refine lv_iload_n hx hb dJ9_floorMod_7cf53_4 rfl (lv_at hl 1 rfl) ?_
  refine lv_iload_n hx hb dJ9_floorMod_7cf53_5 rfl (lv_at hl 2 rfl) ?_
  refine lv_ixor hx hb dJ9_floorMod_7cf53_6 ?_
  refine x_yge (u := _) (tgt := 18) hx hb (rfl) dJ9_floorMod_7cf53_7 (by decide) (fun h_1 => ?_) (fun h_1 => ?_)
  · refine lv_iload_n hx hb dJ9_floorMod_7cf53_18 rfl (lv_at hl 0 rfl) ?_
    exact x_retp hx hb hr9 hlk9 hS (fmd_a h0 hn (by have := n_xneg x (show n < 2 ^ 31 by omega); omega)) dJ9_floorMod_7cf53_19
  · refine lv_iload_n hx hb dJ9_floorMod_7cf53_10 rfl (lv_at hl 0 rfl) ?_
    refine x_yeq (u := _) (tgt := 18) hx hb (rfl) dJ9_floorMod_7cf53_11 (by decide) (fun h_2 => ?_) (fun h_2 => ?_)
    · refine lv_iload_n hx hb dJ9_floorMod_7cf53_18 rfl (lv_at hl 0 rfl) ?_
      exact x_retp hx hb hr9 hlk9 hS (fmd_b h0 hn ((n_xneg x (by omega)).mp h_1) h_2) dJ9_floorMod_7cf53_19
    · refine lv_iload_n hx hb dJ9_floorMod_7cf53_14 rfl (lv_at hl 0 rfl) ?_
      refine lv_iload_n hx hb dJ9_floorMod_7cf53_15 rfl (lv_at hl 2 rfl) ?_
      refine lv_iadd hx hb dJ9_floorMod_7cf53_16 ?_
      exact x_retp hx hb hr9 hlk9 hS (fmd_c h0 hn ((n_xneg x (by omega)).mp h_1) h_2) dJ9_floorMod_7cf53_17
set_option maxHeartbeats 4000000 in
set_option maxRecDepth 100000 in
theorem c_angleOf_n {l : Launch} {g : gE} (a : Nat) (ha : a < 2 ^ 31) : CP l g yX5_angleOf cX5_angleOf 1 (some .int) 1 [.int (nI a)] (nI (a % 12)) := by
  refine CP.of (plainFor_of_name (by decide)) (Nat.le_of_ble_eq_true rfl) (fun p9 e9 s9 m9 args9 below9 meth9 c9 CF hK hr9 hlk9 hS ls hl => ?_)
  have hx := CF.1
  have hb := CF.2.1
  have hl : lv_has ls 1 [(0, .int (nI a))] := hl
  refine lv_iload_n hx hb dX5_angleOf_0 rfl (lv_at hl 0 rfl) ?_
  refine lv_bipush (v := nI 12) hx hb dX5_angleOf_1 (by decide) ?_
  refine x_callPP CF hK hS hl (As := [.int (nI a), .int (nI 12)]) (rest := []) (c_floorMod (nI a) 12 (by omega) (by omega)) kw_J9_floorMod_7cf53 wd2_134 rfl ⟨Nat.le_of_ble_eq_true rfl, Nat.le_of_ble_eq_true rfl⟩ ⟨Nat.le_refl _, Nat.le_refl _⟩ (Nat.le_of_ble_eq_true rfl) dX5_angleOf_3 (fun H locs hS => ?_)
  exact x_retp hx hb hr9 hlk9 hS (by rw [fmd_n ha]) dX5_angleOf_6
set_option maxHeartbeats 4000000 in
set_option maxRecDepth 100000 in
theorem c_angleOf_s {l : Launch} {g : gE} (a n : Nat) (ha : a < 2 ^ 24) (hn : n < 2 ^ 24) : CP l g yX5_angleOf cX5_angleOf 1 (some .int) 1 [.int (nI a - nI n)] (nI ((a + 11 * n) % 12)) := by
  refine CP.of (plainFor_of_name (by decide)) (Nat.le_of_ble_eq_true rfl) (fun p9 e9 s9 m9 args9 below9 meth9 c9 CF hK hr9 hlk9 hS ls hl => ?_)
  have hx := CF.1
  have hb := CF.2.1
  have hl : lv_has ls 1 [(0, .int (nI a - nI n))] := hl
  refine lv_iload_n hx hb dX5_angleOf_0 rfl (lv_at hl 0 rfl) ?_
  refine lv_bipush (v := nI 12) hx hb dX5_angleOf_1 (by decide) ?_
  refine x_callPP CF hK hS hl (As := [.int (nI a - nI n), .int (nI 12)]) (rest := []) (c_floorMod (nI a - nI n) 12 (by omega) (by omega)) kw_J9_floorMod_7cf53 wd2_134 rfl ⟨Nat.le_of_ble_eq_true rfl, Nat.le_of_ble_eq_true rfl⟩ ⟨Nat.le_refl _, Nat.le_refl _⟩ (Nat.le_of_ble_eq_true rfl) dX5_angleOf_3 (fun H locs hS => ?_)
  exact x_retp hx hb hr9 hlk9 hS (by rw [fmd_s ha hn]) dX5_angleOf_6
