/-! what the class and the reference both compute: words over rows of naturals -/
def setN (p : Nat → Bool) : Nat → Nat
  | 0 => 0
  | k + 1 => if p k then setN p k ||| 1 <<< k else setN p k
theorem setN_t {p : Nat → Bool} {k : Nat} (h : p k = true) : setN p (k + 1) = setN p k ||| 1 <<< k := by simp [setN, h]
theorem setN_f {p : Nat → Bool} {k : Nat} (h : p k = false) : setN p (k + 1) = setN p k := by simp [setN, h]
theorem one_shl_bit (k j : Nat) : (1 <<< k).testBit j = decide (k = j) := by
  rw [Nat.shiftLeft_eq, Nat.one_mul, Nat.testBit_two_pow]
theorem setN_bit (p : Nat → Bool) (k j : Nat) : (setN p k).testBit j = (decide (j < k) && p j) := by
  induction k with
  | zero => simp [setN]
  | succ k ih =>
    by_cases h : p k = true
    · rw [setN_t h, Nat.testBit_or, ih, one_shl_bit]
      by_cases e : k = j
      · subst e; simp [h]
      · have : (j < k + 1) = (j < k) := by apply propext; omega
        simp [e, this]
    · rw [setN_f (by simpa using h), ih]
      by_cases e : k = j
      · subst e; simp [h]
      · have : (j < k + 1) = (j < k) := by apply propext; omega
        simp [this]
theorem setN_lt (p : Nat → Bool) (k : Nat) : setN p k < 2 ^ k := by
  apply Nat.lt_pow_two_of_testBit
  intro i hi
  rw [setN_bit]
  simp [show ¬ i < k by omega]
theorem setN_congr {p q : Nat → Bool} {k : Nat} (h : ∀ j, j < k → p j = q j) : setN p k = setN q k := by
  induction k with
  | zero => rfl
  | succ k ih => simp only [setN]; rw [ih (fun j hj => h j (by omega)), h k (by omega)]
theorem setN_12 (p : Nat → Bool) : setN p 12 < 4096 := setN_lt p 12
theorem eq_setN {x k : Nat} (hx : x < 2 ^ k) {p : Nat → Bool} (h : ∀ j, j < k → x.testBit j = p j) : x = setN p k := by
  apply Nat.eq_of_testBit_eq
  intro i
  rw [setN_bit]
  by_cases hi : i < k
  · simp [hi, h i hi]
  · rw [Nat.testBit_lt_two_pow (Nat.lt_of_lt_of_le hx (Nat.pow_le_pow_right (by omega) (by omega)))]
    simp [hi]
def cntN (x : Nat) : Nat → Nat
  | 0 => 0
  | k + 1 => cntN x k + (x >>> k &&& 1)
def pop (x : Nat) : Nat := cntN x 12
theorem and1_lt (a : Nat) : a &&& 1 ≤ 1 := Nat.and_le_right
theorem cntN_le (x k : Nat) : cntN x k ≤ k := by
  induction k with
  | zero => simp [cntN]
  | succ k ih => have := and1_lt (x >>> k); simp only [cntN]; omega
/-- the hair of a figure at an angle, on a row of hairs -/
def hr (row : Nat → Nat) (lag a : Nat) : Nat := row ((a + lag) % 12)
def ahd (way a n : Nat) : Nat := if way = 0 then (a + 11 * n) % 12 else (a + n) % 12
def bhd (way a : Nat) : Nat := if way = 0 then (a + 1) % 12 else (a + 11 * 1) % 12
theorem ahd_lt (way a n : Nat) : ahd way a n < 12 := by unfold ahd; split <;> omega
theorem bhd_lt (way a : Nat) : bhd way a < 12 := by unfold bhd; split <;> omega
def slw (row : Nat → Nat) (lag way a : Nat) : Nat → Nat
  | 0 => 0
  | n + 1 => max (slw row lag way a n) (hr row lag (ahd way a n) - n)
def hgt (row : Nat → Nat) (lag way kind a : Nat) : Nat :=
  if kind = 1 then 2 * hr row lag a
  else if kind = 2 then slw row lag way a 12
  else if kind = 3 then (if hr row lag (ahd way a 1) < hr row lag a then 2 * hr row lag a + 1 else 2 * hr row lag a)
  else hr row lag a
def ups (row : Nat → Nat) (lag way kind line : Nat) : Nat := setN (fun a => decide (line ≤ hgt row lag way kind a)) 12
theorem hr_congr {r q : Nat → Nat} (h : ∀ a, a < 12 → r a = q a) (lag a : Nat) : hr r lag a = hr q lag a := h _ (by omega)
theorem slw_congr {r q : Nat → Nat} (h : ∀ a, a < 12 → r a = q a) (lag way a n : Nat) : slw r lag way a n = slw q lag way a n := by
  induction n with
  | zero => rfl
  | succ n ih => simp only [slw, ih, hr_congr h]
theorem hgt_congr {r q : Nat → Nat} (h : ∀ a, a < 12 → r a = q a) (lag way kind a : Nat) : hgt r lag way kind a = hgt q lag way kind a := by
  simp only [hgt, hr_congr h, slw_congr h]
theorem ups_congr {r q : Nat → Nat} (h : ∀ a, a < 12 → r a = q a) (lag way kind line : Nat) : ups r lag way kind line = ups q lag way kind line := by
  simp only [ups, hgt_congr h]
theorem hr_le {r : Nat → Nat} {B : Nat} (h : ∀ a, a < 12 → r a ≤ B) (lag a : Nat) : hr r lag a ≤ B := h _ (by omega)
theorem slw_le {r : Nat → Nat} {B : Nat} (h : ∀ a, a < 12 → r a ≤ B) (lag way a n : Nat) : slw r lag way a n ≤ B := by
  induction n with
  | zero => simp [slw]
  | succ n ih => have := hr_le h lag (ahd way a n); simp only [slw]; omega
theorem hgt_le {r : Nat → Nat} (h : ∀ a, a < 12 → r a ≤ 9) (lag way kind a : Nat) : hgt r lag way kind a ≤ 19 := by
  have h1 := hr_le h lag a
  have h2 := slw_le h lag way a 12
  unfold hgt
  split
  · omega
  · split
    · omega
    · split
      · split <;> omega
      · omega
theorem ups_lt (row : Nat → Nat) (lag way kind line : Nat) : ups row lag way kind line < 4096 := setN_12 _
theorem n_max {h a n : Nat} (h1 : h < 2 ^ 24) (h2 : a < 2 ^ 24) (h3 : n < 2 ^ 24) : (if (nI h).toInt < (nI a - nI n).toInt then nI a - nI n else nI h) = nI (max h (a - n)) := by
  rw [tz (by omega), pk_sub_toInt (by omega) (by omega)]
  split
  · rw [pk_sub (by omega)]; congr 1; omega
  · congr 1; omega
/-- a set of angles moved on -/
def rot (x b : Nat) : Nat := (x <<< b ||| x >>> (12 - b)) &&& 4095
theorem rot_lt (x b : Nat) : rot x b < 4096 := Nat.lt_of_le_of_lt Nat.and_le_right (by decide)
def bc1 (x : Nat) : Nat := x - (x >>> 1 &&& 1431655765)
def bc2 (x : Nat) : Nat := (bc1 x &&& 858993459) + (bc1 x >>> 2 &&& 858993459)
def bc3 (x : Nat) : Nat := bc2 x + bc2 x >>> 4 &&& 252645135
def bc4 (x : Nat) : Nat := bc3 x + bc3 x >>> 8
def bc5 (x : Nat) : Nat := bc4 x + bc4 x >>> 16
theorem by64 {P : Nat → Prop} (h : ∀ a, a < 64 → ∀ b, b < 64 → P (64 * a + b)) {x : Nat} (hx : x < 4096) : P x := by
  have := h (x / 64) (by omega) (x % 64) (by omega)
  rwa [show 64 * (x / 64) + x % 64 = x by omega] at this
theorem bc_ok0 : ∀ a, a < 64 → ∀ b, b < 64 → bc1 (64 * a + b) < 4096 ∧ bc2 (64 * a + b) < 4096 ∧ bc3 (64 * a + b) < 4096 ∧ bc4 (64 * a + b) < 4096 ∧ bc5 (64 * a + b) &&& 63 = pop (64 * a + b) := by decide +kernel
theorem bc_ok {x : Nat} (hx : x < 4096) : bc1 x < 4096 ∧ bc2 x < 4096 ∧ bc3 x < 4096 ∧ bc4 x < 4096 ∧ bc5 x &&& 63 = pop x := by64 (P := fun x => bc1 x < 4096 ∧ bc2 x < 4096 ∧ bc3 x < 4096 ∧ bc4 x < 4096 ∧ bc5 x &&& 63 = pop x) bc_ok0 hx
def andn (a u : Nat) : Nat := a &&& (u ^^^ 4294967295)
/-! the play's rows are as told -/
def wfX (M : gMem) : Prop := (M 23 1 ≤ 6 ∧ M 23 3 ≤ 5) ∧ (∀ c, c < 6 → ∀ a, a < 12 → M (25 + c) a ≤ 9) ∧ (∀ k, k < 5 → M (32 + k) 0 ≤ 3 ∧ M (32 + k) 1 ≤ 5 ∧ M (32 + k) 2 ≤ 11 ∧ M (32 + k) 3 ≤ 3 ∧ M (32 + k) 4 < 4096 ∧ M (32 + k) 5 < 4096) ∧ (1 ≤ M 23 4 ∧ M 23 4 ≤ 9) ∧ M 23 5 ≤ 1 ∧ M 23 6 ≤ 11 ∧ M 23 7 ≤ 1000000000 ∧ (∀ a, a < 12 → 1 ≤ M 37 a ∧ M 37 a ≤ 99) ∧ (∀ k, k < 4 → M 38 k ≤ 1023)
theorem wfX.nc {M : gMem} (h : wfX M) : M 23 1 ≤ 6 := h.1.1
theorem wfX.nf {M : gMem} (h : wfX M) : M 23 3 ≤ 5 := h.1.2
theorem wfX.hair {M : gMem} (h : wfX M) {c a : Nat} (hc : c < 6) (ha : a < 12) : M (25 + c) a ≤ 9 := h.2.1 c hc a ha
theorem wfX.fig {M : gMem} (h : wfX M) {k : Nat} (hk : k < 5) : M (32 + k) 0 ≤ 3 ∧ M (32 + k) 1 ≤ 5 ∧ M (32 + k) 2 ≤ 11 ∧ M (32 + k) 3 ≤ 3 ∧ M (32 + k) 4 < 4096 ∧ M (32 + k) 5 < 4096 := h.2.2.1 k hk
theorem wfX.line {M : gMem} (h : wfX M) : 1 ≤ M 23 4 ∧ M 23 4 ≤ 9 := h.2.2.2.1
theorem wfX.way {M : gMem} (h : wfX M) : M 23 5 ≤ 1 := h.2.2.2.2.1
theorem wfX.at {M : gMem} (h : wfX M) : M 23 6 ≤ 11 := h.2.2.2.2.2.1
theorem wfX.passed {M : gMem} (h : wfX M) : M 23 7 ≤ 1000000000 := h.2.2.2.2.2.2.1
theorem wfX.beat {M : gMem} (h : wfX M) {a : Nat} (ha : a < 12) : 1 ≤ M 37 a ∧ M 37 a ≤ 99 := h.2.2.2.2.2.2.2.1 a ha
theorem wfX.hand {M : gMem} (h : wfX M) {k : Nat} (hk : k < 4) : M 38 k ≤ 1023 := h.2.2.2.2.2.2.2.2 k hk
