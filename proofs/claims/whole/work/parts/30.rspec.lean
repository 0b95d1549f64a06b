/-! the reference: words over its memory (row 1 is w) -/
theorem lgc_neg (x y : Int64) : (lg_cmp x y).toInt < 0 ↔ x.toInt < y.toInt := by
  unfold lg_cmp
  rw [← Int64.lt_iff_toInt_lt]
  by_cases h : x = y
  · subst h; simp [Int64.lt_irrefl]
  · by_cases h2 : y < x
    · have : ¬ x < y := by rw [Int64.lt_iff_toInt_lt] at *; omega
      simp [h, h2, this]
    · have h3 : ¬ x.toInt = y.toInt := fun e => h (Int64.toInt_inj.mp e)
      have : x < y := by rw [Int64.lt_iff_toInt_lt] at *; omega
      simp [h, h2, this]
theorem lgc_pos (x y : Int64) : 0 < (lg_cmp x y).toInt ↔ y.toInt < x.toInt := by
  unfold lg_cmp
  rw [← Int64.lt_iff_toInt_lt]
  by_cases h : x = y
  · subst h; simp [Int64.lt_irrefl]
  · by_cases h2 : y < x
    · simp [h2]
    · simp [h, h2]
theorem il_in {a lo hi : Nat} (h1 : lo ≤ a) (h2 : a ≤ hi) (h3 : hi < 2 ^ 31) : (lN lo).toInt ≤ (lN a).toInt ∧ (lN a).toInt ≤ (lN hi).toInt := by
  rw [lN_toInt (by omega), lN_toInt (by omega), lN_toInt (by omega)]; omega
theorem il_out {x : Int32} {lo hi : Nat} (h : x.toInt < lo ∨ (hi : Int) < x.toInt) (h3 : hi < 2 ^ 31) (h4 : lo < 2 ^ 31) : x.toInt64.toInt < (lN lo).toInt ∨ (lN hi).toInt < x.toInt64.toInt := by
  rw [lN_toInt (by omega), lN_toInt (by omega), Int32.toInt_toInt64]; omega
def rowR (M : gMem) (c : Nat) : Nat → Nat := fun q => M 1 (1 + 12 * c + q)
def hgtR (M : gMem) (f a : Nat) : Nat := hgt (rowR M (M 1 (79 + f))) (M 1 (84 + f)) (M 1 105) (M 1 (74 + f)) a
def upsR (M : gMem) (f : Nat) : Nat := ups (rowR M (M 1 (79 + f))) (M 1 (84 + f)) (M 1 105) (M 1 (74 + f)) (M 1 104)
theorem upsR_lt (M : gMem) (f : Nat) : upsR M f < 4096 := ups_lt _ _ _ _ _
theorem ahd_0 {way a : Nat} (h : a < 12) : ahd way a 0 = a := by unfold ahd; split <;> omega
theorem ahd_1 (way a j : Nat) : ahd way (ahd way a j) 1 = ahd way a (j + 1) := by unfold ahd; split <;> omega
theorem slw_1 {row : Nat → Nat} {lag way a : Nat} (h : a < 12) : slw row lag way a 1 = hr row lag a := by
  simp only [slw, ahd_0 h]; omega
def bitR (x way k : Nat) : Bool := decide (x >>> k &&& 1 = 1 ∧ ¬ x >>> ahd way k 1 &&& 1 = 1)
def strR (M : gMem) (a b : Nat) : Nat := if M 1 (89 + a) = M 1 (89 + b) then setN (bitR (upsR M a &&& upsR M b) (M 1 105)) 12 else 0
theorem strR_lt (M : gMem) (a b : Nat) : strR M a b < 4096 := by
  unfold strR
  split
  · exact setN_12 _
  · omega
def pthN (x way at0 : Nat) : Nat → Nat := fun i => x >>> itb way at0 (i + 1) &&& 1
def sitU (M : gMem) (n a b : Nat) : Nat := n / 12 * pop (strR M a b) + sumN (pthN (strR M a b) (M 1 105) (M 1 106)) (n % 12)
def sitR (M : gMem) (n : Nat) : Nat := sumN (fun a => sumN (fun j => sitU M n a (a + 1 + j)) (M 1 73 - (a + 1))) (M 1 73)
def goR (M : gMem) (n : Nat) : gMem := u2 (u2 M 1 106 (itb (M 1 105) (M 1 106) (n % 12))) 1 107 (min (M 1 107 + n) 1000000000)
/-- the reference's row w is as told, from o on -/
def wfF (P : Nat → Nat) : Prop := (P 0 ≤ 6 ∧ P 73 ≤ 5) ∧ (∀ k, k < 72 → P (1 + k) ≤ 9) ∧ (∀ f, f < 5 → P (74 + f) ≤ 3 ∧ P (79 + f) ≤ 5 ∧ P (84 + f) ≤ 11 ∧ P (89 + f) ≤ 3 ∧ P (94 + f) < 4096 ∧ P (99 + f) < 4096) ∧ (1 ≤ P 104 ∧ P 104 ≤ 9) ∧ P 105 ≤ 1 ∧ P 106 ≤ 11 ∧ P 107 ≤ 1000000000 ∧ (∀ a, a < 12 → 1 ≤ P (108 + a) ∧ P (108 + a) ≤ 99) ∧ (∀ k, k < 4 → P (120 + k) ≤ 1023)
abbrev wfR (M : gMem) : Prop := wfF (M 1)
theorem wfF.nc {M : Nat → Nat} (h : wfF M) : M 0 ≤ 6 := h.1.1
theorem wfF.nf {M : Nat → Nat} (h : wfF M) : M 73 ≤ 5 := h.1.2
theorem wfF.hair {M : Nat → Nat} (h : wfF M) {k : Nat} (hk : k < 72) : M (1 + k) ≤ 9 := h.2.1 k hk
theorem wfF.row {M : gMem} (h : wfF (M 1)) {c a : Nat} (hc : c < 6) (ha : a < 12) : M 1 (1 + 12 * c + a) ≤ 9 := by
  have := h.2.1 (12 * c + a) (by omega)
  rwa [show 1 + (12 * c + a) = 1 + 12 * c + a by omega] at this
theorem wfF.fig {M : Nat → Nat} (h : wfF M) {k : Nat} (hk : k < 5) : M (74 + k) ≤ 3 ∧ M (79 + k) ≤ 5 ∧ M (84 + k) ≤ 11 ∧ M (89 + k) ≤ 3 ∧ M (94 + k) < 4096 ∧ M (99 + k) < 4096 := h.2.2.1 k hk
theorem wfF.line {M : Nat → Nat} (h : wfF M) : 1 ≤ M 104 ∧ M 104 ≤ 9 := h.2.2.2.1
theorem wfF.way {M : Nat → Nat} (h : wfF M) : M 105 ≤ 1 := h.2.2.2.2.1
theorem wfF.at {M : Nat → Nat} (h : wfF M) : M 106 ≤ 11 := h.2.2.2.2.2.1
theorem wfF.passed {M : Nat → Nat} (h : wfF M) : M 107 ≤ 1000000000 := h.2.2.2.2.2.2.1
theorem wfF.beat {M : Nat → Nat} (h : wfF M) {a : Nat} (ha : a < 12) : 1 ≤ M (108 + a) ∧ M (108 + a) ≤ 99 := h.2.2.2.2.2.2.2.1 a ha
theorem wfF.hand {M : Nat → Nat} (h : wfF M) {k : Nat} (hk : k < 4) : M (120 + k) ≤ 1023 := h.2.2.2.2.2.2.2.2 k hk
