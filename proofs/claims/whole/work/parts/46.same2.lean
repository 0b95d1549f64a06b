/-! the two memories side by side: wear, pegs, beats -/
theorem w_bits {r : Nat → Nat} {t a : Nat} (ha : a < 12) : (lessN r t).testBit a = decide (wearI r t a < r a) := by
  induction t with
  | zero => simp [lessN, wearI]
  | succ t ih =>
    have hle : wearI r t a ≤ r a := wearI_le t
    have e1 : (wearS (wearI r t)).testBit a = wears (wearI r t) a := by unfold wearS; rw [setN_bit]; simp [ha]
    simp only [lessN]
    rw [Nat.testBit_or, ih, e1]
    have e2 : wearI r (t + 1) a = wearI r t a - b2n (wears (wearI r t) a) := rfl
    rw [e2]
    unfold wears
    by_cases h : wearI r t ((a + 1) % 12) + 2 < wearI r t a
    · rw [decide_eq_true h, show b2n true = 1 from rfl, decide_eq_true (show wearI r t a - 1 < r a by omega)]; simp
    · rw [decide_eq_false h, show b2n false = 0 from rfl, Nat.sub_zero]; simp
theorem cnt_sum (x n : Nat) : cntN x n = sumN (fun i => b2n (x.testBit i)) n := by
  induction n with
  | zero => rfl
  | succ n ih => simp only [cntN, sumN]; rw [ih, b2n_bit]
theorem pop_sum (x : Nat) : pop x = sumN (fun i => b2n (x.testBit i)) 12 := cnt_sum x 12
theorem sumN_add (f : Nat → Nat) (n k : Nat) : sumN f (n + k) = sumN f n + sumN (fun i => f (n + i)) k := by
  induction k with
  | zero => rfl
  | succ k ih => rw [← Nat.add_assoc]; simp only [sumN]; rw [ih, Nat.add_assoc]
theorem sumN_12 (f : Nat → Nat) (n : Nat) : sumN f (12 * n) = sumN (fun c => sumN (fun a => f (12 * c + a)) 12) n := by
  induction n with
  | zero => rfl
  | succ n ih =>
    rw [show 12 * (n + 1) = 12 * n + 12 by omega, sumN_add, ih]
    rfl
theorem wmT_s (M : gMem) (all t : Nat) : wmT M all (t + 1) = rowO (rowN (wmT M all t) 4 all (fun q => wmT M all t 1 (1 + q))) 1 1 all (w1F (fun q => wmT M all t 1 (1 + q))) := rfl
theorem wmT_no {M : gMem} {all t k : Nat} (h : k = 0 ∨ all < k) : wmT M all t 1 k = M 1 k := by
  induction t with
  | zero => simp only [wmT]; rw [rowN_out (by decide)]
  | succ t ih => rw [wmT_s, rowO_no (by omega), rowN_out (by decide), ih]
theorem wmT_dn {M : gMem} {all : Nat} (t k : Nat) : wmT M all t 1 k ≤ M 1 k := by
  induction t with
  | zero => simp only [wmT]; rw [rowN_out (by decide)]; exact Nat.le_refl _
  | succ t ih =>
    rw [wmT_s]
    by_cases h : 1 ≤ k ∧ k < 1 + all
    · rw [show k = 1 + (k - 1) by omega, rowO_in (by omega)]
      rw [show k = 1 + (k - 1) by omega] at ih
      exact Nat.le_trans (Nat.sub_le _ _) ih
    · rw [rowO_no (by omega), rowN_out (by decide)]; exact ih
theorem wmT_row {M : gMem} {nc c : Nat} (hc : c < nc) (t : Nat) : ∀ a, a < 12 → wmT M (12 * nc) t 1 (1 + (12 * c + a)) = wearI (fun q => M 1 (1 + (12 * c + q))) t a := by
  induction t with
  | zero => intro a ha; simp only [wmT, wearI]; rw [rowN_out (by decide)]
  | succ t ih =>
    intro a ha
    rw [wmT_s, rowO_in (by omega)]
    have e1 : (12 * c + a) / 12 * 12 + (12 * c + a + 1) % 12 = 12 * c + (a + 1) % 12 := by omega
    show wmT M (12 * nc) t 1 (1 + (12 * c + a)) - b2n (decide (wmT M (12 * nc) t 1 (1 + ((12 * c + a) / 12 * 12 + (12 * c + a + 1) % 12)) + 2 < wmT M (12 * nc) t 1 (1 + (12 * c + a)))) = _
    rw [e1, ih a ha, ih ((a + 1) % 12) (by omega)]
    rfl
theorem wear_same {M N : gMem} (h : relQ M N) (hw : wfR N) (n : Nat) : sumN (fun q => pop (lessN (M (25 + q)) n)) (M 23 1) = sumN (fun i => b2n (decide (wmT N (12 * N 1 0) n 1 (1 + i) < N 1 (1 + i)))) (12 * N 1 0) := by
  have hnc := hw.nc
  rw [sumN_12, rq_nc h]
  refine sumN_congr (fun c hc => ?_)
  have hrow := rq_row h (show c < 6 by omega)
  rw [lessN_congr hrow, pop_sum]
  refine sumN_congr (fun a ha => ?_)
  rw [w_bits ha]
  have e1 : ∀ q, rowR N c q = N 1 (1 + (12 * c + q)) := fun q => by show N 1 (1 + 12 * c + q) = _; rw [Nat.add_assoc]
  have e2 : rowR N c = fun q => N 1 (1 + (12 * c + q)) := funext e1
  show b2n (decide (wearI (rowR N c) n a < rowR N c a)) = b2n (decide (wmT N (12 * N 1 0) n 1 (1 + (12 * c + a)) < N 1 (1 + (12 * c + a))))
  rw [wmT_row hc n a ha, e2]
theorem wear_rel {M N : gMem} (h : relQ M N) (hw : wfR N) (n : Nat) : relQ (wearM M n (M 23 1)) (wmT N (12 * N 1 0) n) := by
  have hnc := hw.nc
  have hl : ∀ j, j < 25 ∨ 31 ≤ j → wearM M n (M 23 1) j = M j := fun j hj => wearM_out (by have := rq_nc h; omega)
  have hr : ∀ k, k = 0 ∨ 73 ≤ k → wmT N (12 * N 1 0) n 1 k = N 1 k := fun k hk => wmT_no (by omega)
  unfold relQ relP
  rw [hl 23 (by omega), hl (23 + 14) (by omega), hl (23 + 15) (by omega), hr 0 (by omega), hr (0 + 73) (by omega), hr (0 + 104) (by omega), hr (0 + 105) (by omega), hr (0 + 106) (by omega), hr (0 + 107) (by omega)]
  refine ⟨h.1, fun c hc a ha => ?_, fun k hk => ?_, h.2.2.2.1, fun a ha => by rw [hr _ (by omega)]; exact h.2.2.2.2.1 a ha, fun k hk => by rw [hr _ (by omega)]; exact h.2.2.2.2.2 k hk⟩
  · have hrow := rq_row h hc
    have e2 : rowR N c = fun q => N 1 (1 + (12 * c + q)) := funext (fun q => by show N 1 (1 + 12 * c + q) = _; rw [Nat.add_assoc])
    rw [show 23 + 2 + c = 25 + c by omega, show 0 + (1 + 12 * c + a) = 1 + (12 * c + a) by omega]
    by_cases hcn : c < N 1 0
    · rw [wmT_row hcn n a ha, ← e2]
      show (if 25 ≤ 25 + c ∧ 25 + c < 25 + M 23 1 ∧ a < 12 then wearI (M (25 + c)) n a else M (25 + c) a) = _
      rw [if_pos (by rw [rq_nc h]; omega)]
      exact wearI_congr hrow n a ha
    · rw [wmT_no (by omega)]
      show (if 25 ≤ 25 + c ∧ 25 + c < 25 + M 23 1 ∧ a < 12 then wearI (M (25 + c)) n a else M (25 + c) a) = _
      rw [if_neg (by rw [rq_nc h]; omega), hrow a ha, e2]
  · rw [hl (23 + 9 + k) (by omega), hr _ (by omega), hr _ (by omega), hr _ (by omega), hr _ (by omega), hr _ (by omega), hr _ (by omega)]
    exact h.2.2.1 k hk
theorem wear_wf {N : gMem} (hw : wfR N) (n : Nat) : wfR (wmT N (12 * N 1 0) n) := by
  have hnc := hw.nc
  exact wfF.less hw (wmT_dn n) (fun k hk => wmT_no (by omega))
/-! pegs -/
theorem eq12 {x y : Nat} (hx : x < 4096) (hy : y < 4096) (h : ∀ i, i < 12 → x.testBit i = y.testBit i) : x = y := by
  apply Nat.eq_of_testBit_eq
  intro i
  by_cases hi : i < 12
  · exact h i hi
  · rw [bit_hi hx (by omega), bit_hi hy (by omega)]
theorem rot_p1 : ∀ a, a < 64 → ∀ b, b < 64 → pop (rot (64 * a + b) 1) = pop (64 * a + b) := by decide +kernel
theorem rot_0 {x : Nat} (hx : x < 4096) : rot x 0 = x := eq12 (rot_lt _ _) hx (fun i hi => by rw [rot_bit hx (by omega) hi, show (i + 12 - 0) % 12 = i by omega])
theorem rot_s {x b : Nat} (hx : x < 4096) (hb : b + 1 < 12) : rot x (b + 1) = rot (rot x b) 1 := eq12 (rot_lt _ _) (rot_lt _ _) (fun i hi => by
  rw [rot_bit hx hb hi, rot_bit (rot_lt _ _) (by omega) hi, rot_bit hx (by omega) (by omega), show (i + 12 - (b + 1)) % 12 = ((i + 12 - 1) % 12 + 12 - b) % 12 by omega])
theorem rot_pop {x : Nat} (hx : x < 4096) : ∀ b, b < 12 → pop (rot x b) = pop x
  | 0, _ => by rw [rot_0 hx]
  | b + 1, hb => by rw [rot_s hx hb, by64 (P := fun y => pop (rot y 1) = pop y) rot_p1 (rot_lt x b), rot_pop hx b (by omega)]
theorem misd_bit {u d x i : Nat} (hi : i < 12) : (misd u d x).testBit i = (u.testBit i && !x.testBit i || d.testBit i && x.testBit i) := by
  unfold misd
  rw [Nat.testBit_or, Nat.testBit_and, Nat.testBit_and, xall_bit (by omega)]
theorem peg_same {M N : gMem} (h : relQ M N) (hw : wfR N) {k lag : Nat} (hk : k < 5) (hl : lag < 12) : pegX M k lag = pegR N k lag := by
  obtain ⟨h0, h1, h2, h3, h4, h5⟩ := rq_fig h hk
  have hf := hw.fig hk
  unfold pegX pegR
  rw [h1, h4, h5, rq_line h]
  have hS : ∀ S, misd (N 1 (94 + k)) (N 1 (99 + k)) S < 4096 := fun S => misd_lt _ hf.2.2.2.2.1 hf.2.2.2.2.2
  rw [← rot_pop (hS _) lag hl]
  refine congrArg pop (eq12 (rot_lt _ _) (misd_lt _ (rot_lt _ _) (rot_lt _ _)) (fun i hi => ?_))
  rw [rot_bit (hS _) hl hi, misd_bit (by omega), misd_bit hi, rot_bit hf.2.2.2.2.1 hl hi, rot_bit hf.2.2.2.2.2 hl hi, setN_bit, setN_bit]
  have e1 : ((i + 12 - lag) % 12 + lag) % 12 = i := by omega
  simp only [e1, rq_row h (show N 1 (79 + k) < 6 by omega) i hi, hi, show (i + 12 - lag) % 12 < 12 by omega, decide_true, Bool.true_and]
  rfl
theorem best_congr {p q : Nat → Nat} {n : Nat} (h : ∀ k, k < n → p k = q k) : best p n = best q n := by
  induction n with
  | zero => rfl
  | succ n ih => simp only [best, ih (fun k hk => h k (by omega)), h n (by omega)]
theorem pegs_same {M N : gMem} (h : relQ M N) (hw : wfR N) {k : Nat} (hk : k < 5) : best (pegX M k) 12 = best (pegR N k) 12 := best_congr (fun _ hl => peg_same h hw hk hl)
/-! beats -/
theorem bts_congr {r q : Nat → Nat} (h : ∀ a, a < 12 → r a = q a) {way t : Nat} : ∀ (k a : Nat), a < 12 → bts r way t a k = bts q way t a k
  | 0, _, _ => rfl
  | k + 1, a, ha => by simp only [bts]; rw [h a ha, bts_congr h k (bhd way a) (bhd_lt _ _)]
theorem aft_congr {r q : Nat → Nat} (h : ∀ a, a < 12 → r a = q a) {way : Nat} : ∀ (k left a : Nat), a < 12 → aft r way left a k = aft q way left a k
  | 0, _, _, _ => rfl
  | k + 1, left, a, ha => by simp only [aft]; rw [h a ha, aft_congr h k _ (bhd way a) (bhd_lt _ _)]
theorem when_same {M N : gMem} (h : relQ M N) (hw : wfR N) (t : Nat) : bts (M 37) (M 23 5) t (M 23 6) 12 = bts (btR N) (N 1 105) t (N 1 106) 12 := by
  have := hw.at
  rw [rq_way h, rq_at h]
  exact bts_congr (fun a ha => rq_beat h ha) 12 _ (by omega)
theorem at_same {M N : gMem} (h : relQ M N) (hw : wfR N) (b : Nat) : aftX M b = aft (btR N) (N 1 105) (b % sumN (btR N) 12) (N 1 106) 12 := by
  have := hw.at
  unfold aftX
  rw [rq_way h, rq_at h, sumN_congr (f := M 37) (q := btR N) (fun a ha => rq_beat h ha)]
  exact aft_congr (fun a ha => rq_beat h ha) 12 _ _ (by omega)
theorem whose_same {M N : gMem} (h : relQ M N) {c : Nat} (hc : c < 6) : whoS (stpS (M (25 + c)) 12) (M 38) = whoS (stpS (rowR N c) 12) (fun i => N 1 (120 + i)) := by
  rw [stpS_congr (rq_row h hc) (by omega)]
  unfold whoS
  exact setN_congr (fun k hk => by rw [rq_hand h hk])
theorem miss_same {M N : gMem} (h : relQ M N) (hw : wfR N) {k : Nat} (hk : k < 5) : misd (M (32 + k) 4) (M (32 + k) 5) (upsX M k) = misd (N 1 (94 + k)) (N 1 (99 + k)) (upsR N k) := by
  obtain ⟨h0, h1, h2, h3, h4, h5⟩ := rq_fig h hk
  rw [h4, h5, ups_same h hw hk]
theorem upnow_same {M N : gMem} (h : relQ M N) (hw : wfR N) : setN (fun q => decide (M 23 4 ≤ hgtX M q (M 23 6))) (M 23 3) = setN (fun q => decide (N 1 104 ≤ hgtR N q (N 1 106))) (N 1 73) := by
  have := hw.nf
  rw [rq_nf h]
  exact setN_congr (fun k hk => by rw [rq_line h, rq_at h, hgt_same h hw (by omega)])
