/-! words of the play, over the memory of the class -/
def sumN (f : Nat → Nat) : Nat → Nat
  | 0 => 0
  | k + 1 => sumN f k + f k
theorem sumN_congr {f q : Nat → Nat} {n : Nat} (h : ∀ k, k < n → f k = q k) : sumN f n = sumN q n := by
  induction n with
  | zero => rfl
  | succ n ih => simp only [sumN]; rw [ih (fun k hk => h k (by omega)), h n (by omega)]
theorem sumN_ge {f : Nat → Nat} {n : Nat} (h : ∀ k, k < n → 1 ≤ f k) : n ≤ sumN f n := by
  induction n with
  | zero => simp
  | succ n ih => have := ih (fun k hk => h k (by omega)); have := h n (by omega); simp only [sumN]; omega
theorem sumN_le {f : Nat → Nat} {n B : Nat} (h : ∀ k, k < n → f k ≤ B) : sumN f n ≤ n * B := by
  induction n with
  | zero => simp [sumN]
  | succ n ih => have := ih (fun k hk => h k (by omega)); have := h n (by omega); simp only [sumN, Nat.succ_mul]; omega
def itb (way a : Nat) : Nat → Nat
  | 0 => a
  | k + 1 => bhd way (itb way a k)
theorem itb_lt {way a : Nat} (h : a < 12) (k : Nat) : itb way a k < 12 := by
  cases k with
  | zero => exact h
  | succ k => exact bhd_lt _ _
def acs (way a : Nat) : Nat → Nat
  | 0 => 0
  | k + 1 => acs way a k ||| 1 <<< itb way a (k + 1)
theorem or_lt {a b : Nat} (h1 : a < 4096) (h2 : b < 4096) : a ||| b < 4096 := Nat.or_lt_two_pow (n := 12) h1 h2
theorem and_lt {a : Nat} (b : Nat) (h1 : a < 4096) : a &&& b < 4096 := Nat.lt_of_le_of_lt Nat.and_le_left h1
theorem shl_lt {a : Nat} (h1 : a < 12) : 1 <<< a < 4096 := by
  rw [Nat.shiftLeft_eq, Nat.one_mul]
  exact Nat.pow_lt_pow_right (by omega) h1
theorem acs_lt {way a : Nat} (k : Nat) : acs way a k < 4096 := by
  induction k with
  | zero => simp [acs]
  | succ k ih => exact or_lt ih (shl_lt (bhd_lt _ _))
def misd (u d x : Nat) : Nat := (u &&& (x ^^^ 4294967295)) ||| (d &&& x)
theorem misd_lt {u d : Nat} (x : Nat) (hu : u < 4096) (hd : d < 4096) : misd u d x < 4096 := or_lt (and_lt _ hu) (and_lt _ hd)
def bts (row : Nat → Nat) (way t : Nat) : Nat → Nat → Nat
  | _, 0 => 0
  | a, k + 1 => if a = t then 0 else row a + bts row way t (bhd way a) k
def aft (row : Nat → Nat) (way : Nat) : Nat → Nat → Nat → Nat
  | _, a, 0 => a
  | left, a, k + 1 => if left < row a then a else aft row way (left - row a) (bhd way a) k
def upsX (M : gMem) (k : Nat) : Nat := ups (M (25 + M (32 + k) 1)) (M (32 + k) 2) (M 23 5) (M (32 + k) 0) (M 23 4)
def hgtX (M : gMem) (k a : Nat) : Nat := hgt (M (25 + M (32 + k) 1)) (M (32 + k) 2) (M 23 5) (M (32 + k) 0) a
theorem upsX_lt (M : gMem) (k : Nat) : upsX M k < 4096 := ups_lt _ _ _ _ _
def strX (M : gMem) (a b : Nat) : Nat := if M (32 + a) 3 = M (32 + b) 3 then andn (upsX M a &&& upsX M b) (rot (upsX M a &&& upsX M b) (if M 23 5 = 0 then 1 else 11)) else 0
theorem strX_lt (M : gMem) (a b : Nat) : strX M a b < 4096 := by
  unfold strX
  split
  · exact and_lt _ (and_lt _ (upsX_lt _ _))
  · omega
def sitT (M : gMem) (n a b : Nat) : Nat := n / 12 * pop (strX M a b) + pop (strX M a b &&& acs (M 23 5) (M 23 6) (n % 12))
def sitX (M : gMem) (n : Nat) : Nat := sumN (fun a => sumN (fun j => sitT M n a (a + 1 + j)) (M 23 3 - (a + 1))) (M 23 3)
def adv (way a n : Nat) : Nat := if way = 0 then (a + n) % 12 else (a + 11 * n) % 12
def goX (M : gMem) (n : Nat) : gMem := u2 (u2 M 23 6 (adv (M 23 5) (M 23 6) n)) 23 7 (min (M 23 7 + n) 1000000000)
def pegX (M : gMem) (k lag : Nat) : Nat := pop (misd (M (32 + k) 4) (M (32 + k) 5) (setN (fun a => decide (M 23 4 ≤ M (25 + M (32 + k) 1) ((a + lag) % 12))) 12))
def aftX (M : gMem) (b : Nat) : Nat := aft (M 37) (M 23 5) (b % sumN (M 37) 12) (M 23 6) 12
