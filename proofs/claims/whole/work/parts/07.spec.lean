/-! pure words: bits, sets, counts -/
theorem tz {n : Nat} (h : n < 2 ^ 31) : (nI n).toInt = (n : Int) := nI_toInt h
theorem w_in {v lo hi : Nat} (h1 : lo ≤ v) (h2 : v ≤ hi) (h3 : hi < 2 ^ 31) : (nI lo).toInt ≤ (nI v).toInt ∧ (nI v).toInt ≤ (nI hi).toInt := by
  rw [tz (by omega), tz (by omega), tz (by omega)]; omega
theorem w_out {v : Int32} {lo hi : Nat} (h : v.toInt < lo ∨ (hi : Int) < v.toInt) (h3 : hi < 2 ^ 31) (h4 : lo < 2 ^ 31) : v.toInt < (nI lo).toInt ∨ (nI hi).toInt < v.toInt := by
  rw [tz (by omega), tz (by omega)]; omega
def inR (x : Int32) (n : Nat) : Prop := 0 ≤ x.toInt ∧ x.toInt < n
theorem inR_n {a n : Nat} (h : a < n) (hn : n ≤ 2 ^ 31) : inR (nI a) n := by
  unfold inR; rw [tz (by omega)]; omega
theorem inR_o {x : Int32} {n : Nat} (h : x.toInt < 0 ∨ (n : Int) ≤ x.toInt) : ¬ inR x n := by
  unfold inR; omega
theorem n_rem {x y : Int32} (hy : 0 < y.toInt) : (x - x / y * y).toInt = x.toInt.tmod y.toInt := by
  have h1 := x.toInt_lt
  have h2 := x.le_toInt
  have h3 := y.toInt_lt
  rw [Int32.toInt_sub, Int32.toInt_mul, Int32.toInt_div]
  simp only [Int.bmod_mul_bmod, Int.sub_bmod_bmod]
  have e : x.toInt - x.toInt.tdiv y.toInt * y.toInt = x.toInt.tmod y.toInt := by
    have := Int.tmod_add_tdiv_mul x.toInt y.toInt
    omega
  rw [e]
  have b := tmod_bounds (a := x.toInt) hy
  rw [Int.bmod_eq_of_le (by omega) (by omega)]
theorem n_xneg (x : Int32) {n : Nat} (hn : n < 2 ^ 31) : (x ^^^ nI n).toInt < 0 ↔ x.toInt < 0 := by
  have key : ∀ v : Int32, v.toInt < 0 ↔ v.toBitVec.msb = true := fun v => by
    rw [BitVec.msb_eq_toInt]; simp
  have h0 : (nI n).toBitVec.msb = false := by
    rw [BitVec.msb_eq_toInt]
    have := tz hn
    simp only [decide_eq_false_iff_not, Int.not_lt]
    show 0 ≤ (nI n).toInt
    omega
  rw [key, key, Int32.toBitVec_xor, BitVec.msb_xor, h0]
  simp
/-- floorMod's answer, for a divisor above 0 -/
def fmd (z : Int) (n : Nat) : Nat := (z % n).toNat
theorem fmd_a {x : Int32} {n : Nat} (h0 : 0 < n) (hn : n < 2 ^ 30) (h : 0 ≤ x.toInt) : x - x / nI n * nI n = nI (fmd x.toInt n) := by
  apply Int32.toInt_inj.mp
  have h1 := tz (n := n) (by omega)
  rw [n_rem (by omega), h1]
  have h2 := Int.emod_nonneg x.toInt (b := (n : Int)) (by omega)
  have h3 := Int.emod_lt_of_pos x.toInt (b := (n : Int)) (by omega)
  unfold fmd
  rw [tz (by omega), Int.tmod_eq_emod_of_nonneg h]
  omega
theorem fmd_t {z : Int} {n : Nat} (hz : z < 0) (h0 : 0 < n) : z % n = if z.tmod n = 0 then 0 else z.tmod n + n := by
  have e0 : z.tmod n + z.tdiv n * n = z := Int.tmod_add_tdiv_mul z n
  have e : z % n = z.tmod n % n := by
    have h := Int.add_mul_emod_self_right (z.tmod n) (z.tdiv n) n
    rw [e0] at h
    exact h
  have hb := tmod_bounds (a := z) (M := (n : Int)) (by omega)
  have hs : z.tmod n ≤ 0 := by
    have e1 : z.tmod n = -((-z).tmod n) := by rw [Int.neg_tmod, Int.neg_neg]
    have := Int.tmod_nonneg (n : Int) (a := -z) (by omega)
    omega
  rw [e]
  split
  · rename_i h
    rw [h]; simp
  · rename_i h
    have h2 : (z.tmod n + n) % (n : Int) = z.tmod n % n := by
      have := Int.add_mul_emod_self_right (z.tmod n) 1 n
      rwa [Int.one_mul] at this
    rw [← h2, Int.emod_eq_of_lt (by omega) (by omega)]
theorem fmd_b {x : Int32} {n : Nat} (h0 : 0 < n) (hn : n < 2 ^ 30) (h : x.toInt < 0) (hz : (x - x / nI n * nI n).toInt = 0) : x - x / nI n * nI n = nI (fmd x.toInt n) := by
  apply Int32.toInt_inj.mp
  rw [hz]
  rw [n_rem (by rw [tz (by omega)]; omega), tz (by omega)] at hz
  unfold fmd
  rw [fmd_t h h0, if_pos hz]
  rfl
theorem fmd_c {x : Int32} {n : Nat} (h0 : 0 < n) (hn : n < 2 ^ 30) (h : x.toInt < 0) (hz : ¬ (x - x / nI n * nI n).toInt = 0) : x - x / nI n * nI n + nI n = nI (fmd x.toInt n) := by
  apply Int32.toInt_inj.mp
  have h1 := tz (n := n) (by omega)
  have hr := n_rem (x := x) (y := nI n) (by omega)
  rw [h1] at hr
  rw [hr] at hz
  have h2 := Int.emod_nonneg x.toInt (b := (n : Int)) (by omega)
  have h3 := Int.emod_lt_of_pos x.toInt (b := (n : Int)) (by omega)
  have h4 := fmd_t h h0
  rw [if_neg hz] at h4
  unfold fmd
  rw [tz (by omega), Int32.toInt_add, hr, h1, Int.bmod_eq_of_le (by omega) (by omega)]
  omega
theorem fmd_n {a n : Nat} (ha : a < 2 ^ 31) : fmd (nI a).toInt n = a % n := by
  unfold fmd; rw [tz ha]; omega
theorem fmd_s {a n : Nat} (ha : a < 2 ^ 24) (hn : n < 2 ^ 24) : fmd (nI a - nI n).toInt 12 = (a + 11 * n) % 12 := by
  unfold fmd
  rw [pk_sub_toInt (by omega) (by omega)]
  omega
