/-! the reference's writers: words -/
def flr : Option Nat → Nat
  | none => 4294967295
  | some p => p
theorem il_outn {a lo hi : Nat} (h : a < lo ∨ hi < a) (h3 : hi < 2 ^ 31) (h4 : lo < 2 ^ 31) (h5 : a < 2 ^ 31) : (lN a).toInt < (lN lo).toInt ∨ (lN hi).toInt < (lN a).toInt := by
  rw [lN_toInt h5, lN_toInt h4, lN_toInt h3]; omega
theorem n_bytL (w : Int64) {k : Nat} (hk : k < 8) : w >>> ((nI (8 * k)).toInt64 &&& 63) &&& (255 : Int64) = lN (byt w k) := by
  apply Int64.toBitVec_inj.mp
  rw [Int64.toBitVec_and, Int64.toBitVec_shiftRight, n_c8b k hk]
  apply BitVec.eq_of_toNat_eq
  have h8 : (BitVec.ofNat 64 (8 * k)).toNat = 8 * k := by rw [BitVec.toNat_ofNat]; omega
  have e255 : ((255 : Int64).toBitVec).toNat = 2 ^ 8 - 1 := rfl
  rw [BitVec.toNat_and, e255, Nat.and_two_pow_sub_one_eq_mod]
  have hl : (lN (byt w k)).toBitVec.toNat = byt w k := by
    have := byt_lt w k
    show (BitVec.ofNat 64 (byt w k)).toNat = _
    rw [BitVec.toNat_ofNat]; omega
  rw [hl]
  unfold byt
  rw [BitVec.sshiftRight_eq', h8] 
  apply Nat.eq_of_testBit_eq
  intro i
  rw [Nat.testBit_mod_two_pow, show 256 = 2 ^ 8 by rfl, Nat.testBit_mod_two_pow, Nat.testBit_shiftRight]
  by_cases hi : i < 8
  · simp only [hi, decide_true, Bool.true_and]
    rw [BitVec.testBit_toNat, BitVec.getLsbD_sshiftRight]
    simp [show ¬ 64 ≤ i by omega, show 8 * k + i < 64 by omega, BitVec.testBit_toNat]
  · simp [hi]
def apR (M : gMem) (w : Int64) (n j : Nat) : gMem := fun a b => if a = 0 ∧ b = 3 then M 0 3 + j else if a = 2 ∧ M 0 3 ≤ b ∧ b < M 0 3 + j then byt w (n - (b - M 0 3 + 1)) else M a b
theorem apR_0 (M : gMem) (w : Int64) (n : Nat) : apR M w n 0 = M := by
  funext a b
  simp only [apR, Nat.add_zero]
  split
  · rename_i h; rw [h.1, h.2]
  · rw [if_neg (by omega)]
theorem apR_s {M : gMem} {w : Int64} {n j : Nat} : u2 (u2 (apR M w n j) 2 (M 0 3 + j) (byt w (n - (j + 1)))) 0 3 (M 0 3 + j + 1) = apR M w n (j + 1) := by
  funext a b
  simp only [u2, apR]
  by_cases h1 : a = 0 ∧ b = 3
  · rw [if_pos h1, if_pos h1, Nat.add_assoc]
  · rw [if_neg h1, if_neg h1, if_neg h1]
    by_cases h2 : a = 2 ∧ b = M 0 3 + j
    · rw [if_pos h2, if_pos (by omega)]; congr 2; omega
    · rw [if_neg h2]
      by_cases h3 : a = 2 ∧ M 0 3 ≤ b ∧ b < M 0 3 + j
      · rw [if_pos h3, if_pos (by omega)]
      · rw [if_neg h3, if_neg (by omega)]
theorem apR_len (M : gMem) (w : Int64) (n j : Nat) : apR M w n j 0 3 = M 0 3 + j := by simp [apR]
/-- row i, places o .. o + n - 1, by a function -/
def rowO (M : gMem) (i o n : Nat) (f : Nat → Nat) : gMem := fun a b => if a = i ∧ o ≤ b ∧ b < o + n then f (b - o) else M a b
theorem rowO_0 (M : gMem) (i o : Nat) (f : Nat → Nat) : rowO M i o 0 f = M := by funext a b; simp only [rowO]; rw [if_neg (by omega)]
theorem rowO_s {M : gMem} {i o n j : Nat} {f : Nat → Nat} {x : Nat} (hj : j = o + n) (h : f n = x) : u2 (rowO M i o n f) i j x = rowO M i o (n + 1) f := by
  subst hj
  funext a b
  simp only [u2, rowO]
  by_cases h1 : a = i ∧ b = o + n
  · rw [if_pos h1, if_pos (by omega), h1.2, show o + n - o = n by omega, h]
  · rw [if_neg h1]
    by_cases h2 : a = i ∧ o ≤ b ∧ b < o + n
    · rw [if_pos h2, if_pos (by omega)]
    · rw [if_neg h2, if_neg (by omega)]
theorem rowO_out {M : gMem} {i o n : Nat} {f : Nat → Nat} {j : Nat} (h : j ≠ i) : rowO M i o n f j = M j := by funext b; simp [rowO, h]
theorem rowO_in {M : gMem} {i o n k : Nat} {f : Nat → Nat} (h : k < n) : rowO M i o n f i (o + k) = f k := by
  show (if i = i ∧ o ≤ o + k ∧ o + k < o + n then f (o + k - o) else M i (o + k)) = _
  rw [if_pos ⟨rfl, by omega, by omega⟩, show o + k - o = k by omega]
theorem rowO_no {M : gMem} {i o n k : Nat} {f : Nat → Nat} (h : k < o ∨ o + n ≤ k) : rowO M i o n f i k = M i k := by
  simp only [rowO]; rw [if_neg (by omega)]
theorem rowO_rr {M : gMem} {i o n : Nat} {f h : Nat → Nat} : rowO (rowO M i o n f) i o n h = rowO M i o n h := by
  funext a b
  simp only [rowO]
  by_cases h1 : a = i ∧ o ≤ b ∧ b < o + n
  · rw [if_pos h1, if_pos h1]
  · rw [if_neg h1, if_neg h1, if_neg h1]
def rowLO (J : gMeL) (i o n : Nat) (f : Nat → Int64) : gMeL := fun a b => if a = i ∧ o ≤ b ∧ b < o + n then f (b - o) else J a b
theorem rowLO_0 (J : gMeL) (i o : Nat) (f : Nat → Int64) : rowLO J i o 0 f = J := by funext a b; simp only [rowLO]; rw [if_neg (by omega)]
theorem rowLO_s {J : gMeL} {i o n j : Nat} {f : Nat → Int64} {x : Int64} (hj : j = o + n) (h : f n = x) : u2L (rowLO J i o n f) i j x = rowLO J i o (n + 1) f := by
  subst hj
  funext a b
  simp only [u2L, rowLO]
  by_cases h1 : a = i ∧ b = o + n
  · rw [if_pos h1, if_pos (by omega), h1.2, show o + n - o = n by omega, h]
  · rw [if_neg h1]
    by_cases h2 : a = i ∧ o ≤ b ∧ b < o + n
    · rw [if_pos h2, if_pos (by omega)]
    · rw [if_neg h2, if_neg (by omega)]
def camR (M : gMem) (c k : Nat) : gMem := rowO M 1 (1 + 12 * c) k (fun q => M 3 q - 48)
def adR (M : gMem) (f k c lg p : Nat) : gMem := u2 (u2 (u2 (u2 (u2 (u2 M 1 (74 + f) k) 1 (79 + f) c) 1 (84 + f) lg) 1 (89 + f) p) 1 (94 + f) 0) 1 (99 + f) 0
/-! wear, over the whole row -/
def wsF (r : Nat → Nat) (k : Nat) : Bool := decide (r (k / 12 * 12 + (k + 1) % 12) + 2 < r k)
def w1F (r : Nat → Nat) : Nat → Nat := fun k => r k - b2n (wsF r k)
def wIF (r : Nat → Nat) : Nat → (Nat → Nat)
  | 0 => r
  | t + 1 => w1F (wIF r t)
def wmT (M : gMem) (all : Nat) : Nat → gMem
  | 0 => rowN M 5 all (fun q => M 1 (1 + q))
  | t + 1 => rowO (rowN (wmT M all t) 4 all (fun q => wmT M all t 1 (1 + q))) 1 1 all (w1F (fun q => wmT M all t 1 (1 + q)))
theorem wsF_le (r : Nat → Nat) (k : Nat) : b2n (wsF r k) ≤ r k := by
  unfold b2n wsF
  by_cases h : r (k / 12 * 12 + (k + 1) % 12) + 2 < r k
  · rw [if_pos (decide_eq_true h)]; omega
  · rw [if_neg (by simpa using h)]; omega
theorem wmT_0 (M : gMem) (all t : Nat) : wmT M all t 1 0 = M 1 0 := by
  induction t with
  | zero => simp only [wmT]; rw [rowN_out (by decide)]
  | succ t ih => simp only [wmT]; rw [rowO_no (by omega), rowN_out (by decide), ih]
theorem wmT_le {M : gMem} {all : Nat} (t : Nat) {q : Nat} (h : M 1 (1 + q) ≤ 9) : wmT M all t 1 (1 + q) ≤ 9 := by
  induction t with
  | zero => simp only [wmT]; rw [rowN_out (by decide)]; exact h
  | succ t ih =>
    simp only [wmT]
    by_cases hq : q < all
    · rw [rowO_in hq]; simp only [w1F]; omega
    · rw [rowO_no (by omega), rowN_out (by decide)]; exact ih
theorem wmT_5 (M : gMem) (all t : Nat) : wmT M all t 5 = rowN M 5 all (fun q => M 1 (1 + q)) 5 := by
  induction t with
  | zero => rfl
  | succ t ih => simp only [wmT]; rw [rowO_out (by decide), rowN_out (by decide), ih]
theorem wmT_out {M : gMem} {all t j : Nat} (h : j ≠ 1) (h4 : j ≠ 4) (h5 : j ≠ 5) : wmT M all t j = M j := by
  induction t with
  | zero => simp only [wmT]; rw [rowN_out h5]
  | succ t ih => simp only [wmT]; rw [rowO_out h, rowN_out h4, ih]
def allP (p : Nat → Bool) : Nat → Bool
  | 0 => true
  | k + 1 => allP p k && p k
def wnR (M : gMem) : Nat → gMem
  | 0 => M
  | c + 1 => rowN M 4 12 (rowR M c)
theorem wnR_out {M : gMem} {c j : Nat} (h : j ≠ 4) : wnR M c j = M j := by
  cases c
  · rfl
  · exact rowN_out h
def wnL (M : gMem) (w c : Nat) : gMem := rowO (rowN (wnR M c) 4 12 (rowR M c)) 1 (1 + 12 * c) 12 (lessR (rowR M c) w)
theorem wnR_s (M : gMem) (w c : Nat) : rowO (wnL M w c) 1 (1 + 12 * c) 12 (rowR M c) = wnR M (c + 1) := by
  unfold wnL
  rw [rowO_rr]
  funext a b
  simp only [rowO, wnR]
  by_cases h : a = 1 ∧ 1 + 12 * c ≤ b ∧ b < 1 + 12 * c + 12
  · rw [if_pos h, rowN, if_neg (by omega), h.1]
    simp only [rowR]
    congr 1; omega
  · rw [if_neg h]
    cases c
    · rfl
    · simp only [rowN, wnR]
      by_cases h2 : a = 4 ∧ b < 12
      · rw [if_pos h2, if_pos h2]
      · rw [if_neg h2, if_neg h2, if_neg h2]
def flR (M : gMem) (J : gMeL) (k o n : Nat) : gMeL := rowLO J 12 o n (fun q => lN (hgtR M k q))
def soR (M : gMem) (J : gMeL) (o : Nat) : Bool := allP (fun f => decide (J 12 (o + f) = lN (upsR M f))) (M 1 73)
/-! beats: ways to go on -/
def dst (way t a : Nat) : Nat := if way = 0 then (t + 12 - a) % 12 else (a + 12 - t) % 12
theorem dst_s {way t a d : Nat} (ha : a < 12) (ht : t < 12) (h : dst way t a = d + 1) : dst way t (bhd way a) = d := by
  unfold dst bhd at *
  split at h
  · rename_i hw; rw [if_pos hw, if_pos hw]; omega
  · rename_i hw; rw [if_neg hw, if_neg hw]; omega
theorem dst_0 {way t a : Nat} (ha : a < 12) (ht : t < 12) (h : dst way t a = 0) : a = t := by
  unfold dst at h
  split at h <;> omega
theorem dst_ne {way t a d : Nat} (ha : a < 12) (ht : t < 12) (h : dst way t a = d + 1) : a ≠ t := by
  unfold dst at h
  split at h <;> omega
theorem dst_lt (way t a : Nat) : dst way t a < 12 := by unfold dst; split <;> omega
theorem bts_fuel {row : Nat → Nat} {way t : Nat} (ht : t < 12) : ∀ (d k a : Nat), a < 12 → dst way t a = d → d ≤ k → bts row way t a k = bts row way t a d
  | 0, 0, _, _, _, _ => rfl
  | 0, k + 1, a, ha, h, _ => by simp only [bts]; rw [if_pos (dst_0 ha ht h)]
  | d + 1, 0, _, _, _, hk => absurd hk (by omega)
  | d + 1, k + 1, a, ha, h, hk => by
    simp only [bts]
    rw [if_neg (dst_ne ha ht h), if_neg (dst_ne ha ht h), bts_fuel ht d k (bhd way a) (bhd_lt _ _) (dst_s ha ht h) (by omega)]
def rsm (row : Nat → Nat) (way : Nat) : Nat → Nat → Nat
  | _, 0 => 0
  | a, k + 1 => row a + rsm row way (bhd way a) k
theorem rsm_all0 (row : Nat → Nat) {a : Nat} (ha : a < 12) : rsm row 0 a 12 = sumN row 12 := by
  rcases (show a = 0 ∨ a = 1 ∨ a = 2 ∨ a = 3 ∨ a = 4 ∨ a = 5 ∨ a = 6 ∨ a = 7 ∨ a = 8 ∨ a = 9 ∨ a = 10 ∨ a = 11 by omega) with rfl | rfl | rfl | rfl | rfl | rfl | rfl | rfl | rfl | rfl | rfl | rfl <;> simp [rsm, bhd, sumN] <;> omega
theorem rsm_all1 (row : Nat → Nat) {way a : Nat} (hw : way ≠ 0) (ha : a < 12) : rsm row way a 12 = sumN row 12 := by
  rcases (show a = 0 ∨ a = 1 ∨ a = 2 ∨ a = 3 ∨ a = 4 ∨ a = 5 ∨ a = 6 ∨ a = 7 ∨ a = 8 ∨ a = 9 ∨ a = 10 ∨ a = 11 by omega) with rfl | rfl | rfl | rfl | rfl | rfl | rfl | rfl | rfl | rfl | rfl | rfl <;> simp [rsm, bhd, sumN, hw] <;> omega
theorem rsm_all (row : Nat → Nat) {way a : Nat} (ha : a < 12) : rsm row way a 12 = sumN row 12 := by
  by_cases hw : way = 0
  · subst hw; exact rsm_all0 row ha
  · exact rsm_all1 row hw ha
def btR (M : gMem) : Nat → Nat := fun q => M 1 (108 + q)
