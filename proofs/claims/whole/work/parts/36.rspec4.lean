/-! the reference: sheets, worn -/
theorem nar_b2n (b : Bool) : narrow .boolean (.int (nI (b2n b))) = .int (nI (b2n b)) := by cases b <;> rfl
theorem l_add2 (x y : Int32) : (x.toInt64 + y.toInt64).toInt = x.toInt + y.toInt := by
  have h1 := x.toInt_lt
  have h2 := x.le_toInt
  have h3 := y.toInt_lt
  have h4 := y.le_toInt
  rw [Int64.toInt_add, Int32.toInt_toInt64, Int32.toInt_toInt64, Int.bmod_eq_of_le (by omega) (by omega)]
theorem l_sumc (x y : Int32) {n : Nat} (hn : n < 2 ^ 31) : 0 < (lg_cmp (x.toInt64 + y.toInt64) (lN n)).toInt ↔ (n : Int) < x.toInt + y.toInt := by
  rw [lgc_pos, l_add2, lN_toInt hn]
theorem wfF.less {P Q : Nat → Nat} (h : wfF P) (h1 : ∀ k, Q k ≤ P k) (h2 : ∀ k, k = 0 ∨ 73 ≤ k → Q k = P k) : wfF Q := by
  unfold wfF at *
  rw [h2 0 (by omega), h2 73 (by omega), h2 104 (by omega), h2 105 (by omega), h2 106 (by omega), h2 107 (by omega)]
  refine ⟨h.1, fun k hk => Nat.le_trans (h1 _) (h.2.1 k hk), fun f hf => ?_, h.2.2.2.1, h.2.2.2.2.1, h.2.2.2.2.2.1, h.2.2.2.2.2.2.1, fun a ha => by rw [h2 _ (by omega)]; exact h.2.2.2.2.2.2.2.1 a ha, fun k hk => by rw [h2 _ (by omega)]; exact h.2.2.2.2.2.2.2.2 k hk⟩
  rw [h2 _ (by omega), h2 _ (by omega), h2 _ (by omega), h2 _ (by omega), h2 _ (by omega), h2 _ (by omega)]
  exact h.2.2.1 f hf
theorem wnR_1 (M : gMem) (c : Nat) : wnR M c 1 = M 1 := wnR_out (by decide)
theorem wfR.wn {M : gMem} (h : wfR M) (w : Nat) {c : Nat} (hc : c < 6) : wfR (wnL M w c) := by
  refine h.less (fun k => ?_) (fun k hk => ?_)
  · unfold wnL rowO
    by_cases hk : 1 = 1 ∧ 1 + 12 * c ≤ k ∧ k < 1 + 12 * c + 12
    · rw [if_pos hk]
      simp only [lessR, rowR]
      rw [show 1 + 12 * c + (k - (1 + 12 * c)) = k by omega]
      exact Nat.sub_le _ _
    · rw [if_neg hk, rowN_out (by decide), wnR_1]
      exact Nat.le_refl _
  · unfold wnL
    rw [rowO_no (by omega), rowN_out (by decide), wnR_1]
theorem wfR.wr {M : gMem} (h : wfR M) (c : Nat) : wfR (wnR M c) := by
  show wfF (wnR M c 1)
  rw [wnR_1]; exact h
def wq (M : gMem) (w c q : Nat) : gMem := rowO (rowN (wnR M c) 4 q (rowR M c)) 1 (1 + 12 * c) q (lessR (rowR M c) w)
theorem wq_0 (M : gMem) (w c : Nat) : wq M w c 0 = wnR M c := by unfold wq; rw [rowO_0, rowN_0]
theorem wq_r {M : gMem} {w c q k : Nat} (h : q ≤ k) : wq M w c q 1 (1 + 12 * c + k) = M 1 (1 + 12 * c + k) := by
  unfold wq; rw [rowO_no (by omega), rowN_out (by decide), wnR_1]
theorem wq_1 {M : gMem} {w c q k : Nat} (h : k = 0 ∨ 73 ≤ k) (hc : c < 6) (hq : q ≤ 12) : wq M w c q 1 k = M 1 k := by
  unfold wq; rw [rowO_no (by omega), rowN_out (by decide), wnR_1]
theorem wq_s {M : gMem} {w c q x y : Nat} (hx : x = M 1 (1 + 12 * c + q)) (hy : y = x - w) : u2 (u2 (wq M w c q) 4 q x) 1 (1 + 12 * c + q) y = wq M w c (q + 1) := by
  subst hx
  subst hy
  funext a b
  simp only [u2, wq, rowO, rowN, lessR, rowR]
  by_cases h1 : a = 1
  · subst h1
    simp only [show ¬ (1 = 4) by decide, false_and, if_false, true_and]
    by_cases h2 : b = 1 + 12 * c + q
    · subst h2
      rw [if_pos rfl, if_pos (by omega)]
      congr 2; omega
    · rw [if_neg h2]
      by_cases h3 : 1 + 12 * c ≤ b ∧ b < 1 + 12 * c + q
      · rw [if_pos h3, if_pos (by omega)]
      · rw [if_neg h3, if_neg (by omega)]
  · simp only [h1, false_and, if_false]
    by_cases h2 : a = 4
    · subst h2
      simp only [true_and]
      by_cases h3 : b = q
      · subst h3; rw [if_pos rfl, if_pos (by omega)]
      · rw [if_neg h3]
        by_cases h4 : b < q
        · rw [if_pos h4, if_pos (by omega)]
        · rw [if_neg h4, if_neg (by omega)]
    · simp only [h2, false_and, if_false]
theorem wq_12 (M : gMem) (w c : Nat) : wq M w c 12 = wnL M w c := rfl
def cpR (J : gMeL) (s i t j n : Nat) : gMeL := rowLO (rowLO J 13 0 n (fun x => J 12 (24 * s + i + x))) 12 (24 * t + j) n (fun x => J 12 (24 * s + i + x))
theorem rowLO_out {J : gMeL} {i o n : Nat} {f : Nat → Int64} {j : Nat} (h : j ≠ i) : rowLO J i o n f j = J j := by funext b; simp [rowLO, h]
theorem rowLO_in {J : gMeL} {i o n k : Nat} {f : Nat → Int64} (h : k < n) : rowLO J i o n f i (o + k) = f k := by
  show (if i = i ∧ o ≤ o + k ∧ o + k < o + n then f (o + k - o) else J i (o + k)) = _
  rw [if_pos ⟨rfl, by omega, by omega⟩, show o + k - o = k by omega]
theorem rowLO_in0 {J : gMeL} {i n k : Nat} {f : Nat → Int64} (h : k < n) : rowLO J i 0 n f i k = f k := by
  have := rowLO_in (J := J) (i := i) (o := 0) (n := n) (k := k) (f := f) h
  rwa [Nat.zero_add] at this
