/-! bytes of a long, the tape, reading signs -/
def byt (w : Int64) (k : Nat) : Nat := (w.toBitVec.toNat >>> (8 * k)) % 256
theorem byt_lt (w : Int64) (k : Nat) : byt w k < 256 := Nat.mod_lt _ (by decide)
theorem n_c8 : ∀ k, k < 8 → ((nI (8 * k)).toInt64.toUInt64 &&& Int64.toUInt64 63) = UInt64.ofNat (8 * k) := by decide +kernel
theorem n_c8b : ∀ k, k < 8 → (((nI (8 * k)).toInt64 &&& 63).toBitVec.smod 64) = BitVec.ofNat 64 (8 * k) := by decide +kernel
theorem n_byt (w : Int64) {k : Nat} (hk : k < 8) : (w.toUInt64 >>> ((nI (8 * k)).toInt64.toUInt64 &&& Int64.toUInt64 63)).toInt64.toInt32 &&& nI 255 = nI (byt w k) := by
  rw [n_c8 k hk]
  apply n_eqv
  rw [Int32.toBitVec_and, BitVec.toNat_and]
  have e1 : ((w.toUInt64 >>> UInt64.ofNat (8 * k)).toInt64.toInt32).toBitVec.toNat = (w.toBitVec.toNat >>> (8 * k)) % 2 ^ 32 := by
    have h8 : (UInt64.ofNat (8 * k)).toNat = 8 * k := by rw [UInt64.toNat_ofNat']; omega
    rw [Int64.toBitVec_toInt32, BitVec.signExtend_eq_setWidth_of_le _ (by decide), BitVec.toNat_setWidth]
    congr 1
    show (w.toUInt64 >>> UInt64.ofNat (8 * k)).toBitVec.toNat = _
    have : (w.toUInt64 >>> UInt64.ofNat (8 * k)).toNat = w.toUInt64.toNat >>> ((UInt64.ofNat (8 * k)).toNat % 64) := UInt64.toNat_shiftRight ..
    rw [h8, Nat.mod_eq_of_lt (by omega : 8 * k < 64)] at this
    exact this
  rw [e1, n_tn]
  unfold byt
  rw [show 255 % 2 ^ 32 = 2 ^ 8 - 1 by decide, Nat.and_two_pow_sub_one_eq_mod]
  omega
theorem n_dec (n k : Nat) : nI n - nI k + Int32.ofInt (-1) = nI n - nI (k + 1) := by
  have e : Int32.ofInt (-1) = -(nI 1) := by decide
  rw [e, ← n_add]
  rw [Int32.sub_eq_add_neg, Int32.sub_eq_add_neg, Int32.neg_add, Int32.sub_eq_add_neg, Int32.add_assoc]
theorem z_sub {a n : Nat} (ha : a < 2 ^ 30) (hn : n < 2 ^ 30) : (nI a - nI n).toInt = (a : Int) - n := pk_sub_toInt ha hn
/-- j bytes of n typed, the highest first, behind those that are there -/
def apM (M : gMem) (w : Int64) (n j : Nat) : gMem := fun a b => if a = 1 ∧ b = 2 then M 1 2 + j else if a = 2 ∧ M 1 2 ≤ b ∧ b < M 1 2 + j then byt w (n - (b - M 1 2 + 1)) else M a b
theorem apM_0 (M : gMem) (w : Int64) (n : Nat) : apM M w n 0 = M := by
  funext a b
  simp only [apM, Nat.add_zero]
  split
  · rename_i h; rw [h.1, h.2]
  · rw [if_neg (by omega)]
theorem apM_s {M : gMem} {w : Int64} {n j : Nat} : u2 (u2 (apM M w n j) 2 (M 1 2 + j) (byt w (n - (j + 1)))) 1 2 (M 1 2 + j + 1) = apM M w n (j + 1) := by
  funext a b
  simp only [u2, apM]
  by_cases h1 : a = 1 ∧ b = 2
  · rw [if_pos h1, if_pos h1, Nat.add_assoc]
  · rw [if_neg h1, if_neg h1, if_neg h1]
    by_cases h2 : a = 2 ∧ b = M 1 2 + j
    · rw [if_pos h2, if_pos (by omega)]; congr 2; omega
    · rw [if_neg h2]
      by_cases h3 : a = 2 ∧ M 1 2 ≤ b ∧ b < M 1 2 + j
      · rw [if_pos h3, if_pos (by omega)]
      · rw [if_neg h3, if_neg (by omega)]
def okd (b : Nat) : Bool := decide (48 ≤ b ∧ b ≤ 57)
def okw (b : Nat) : Bool := decide (b = 46 ∨ b = 100 ∨ b = 117)
/-- reading: the place of the fault, if there is one -/
def rdF (b : Nat → Nat) (ok : Nat → Bool) (len : Nat) : Nat → Nat → Nat → Option Nat
  | _, found, 0 => if found < 12 then some len else none
  | place, found, d + 1 => if b place = 32 then rdF b ok len (place + 1) found d else if ok (b place) = true ∧ found < 12 then rdF b ok len (place + 1) (found + 1) d else some place
def rdS (b : Nat → Nat) (ok : Nat → Bool) (sg : Nat → Nat) : Nat → Nat → Nat → (Nat → Nat) → (Nat → Nat)
  | _, _, 0, f => f
  | place, found, d + 1, f => if b place = 32 then rdS b ok sg (place + 1) found d f else if ok (b place) = true ∧ found < 12 then rdS b ok sg (place + 1) (found + 1) d (fun q => if q = found then sg (b place) else f q) else f
theorem rowN_self (M : gMem) (i n : Nat) : rowN M i n (M i) = M := by funext a b; simp only [rowN]; split; (· rename_i h; rw [h.1]); rfl
theorem rowN_u {M : gMem} {i n k x : Nat} {f : Nat → Nat} (hk : k < n) : u2 (rowN M i n f) i k x = rowN M i n (fun q => if q = k then x else f q) := by
  funext a b
  simp only [u2, rowN]
  by_cases h1 : a = i
  · by_cases h2 : b = k
    · simp [h1, h2, hk]
    · simp [h1, h2]
  · simp [h1]
def flt : Option Nat → Nat
  | none => 0
  | some p => 4294967276 - p
def cutv (lane : Nat) (v : Int64) : Int64 := if lane = 0 then v.toInt32.toInt16.toInt32.toInt64 else if lane = 1 then v.toInt32.toInt64 else v
/-- the lags by which two wishes may stand on one cam -/
def lgO (eu ed lu ld q : Nat) : Nat := (eu &&& rot ld q) ||| (ed &&& rot lu q)
def lgs (eu ed lu ld : Nat) : Nat := setN (fun q => decide (lgO eu ed lu ld q = 0)) 12
theorem lgs_lt (eu ed lu ld : Nat) : lgs eu ed lu ld < 4096 := setN_12 _
def lgX (M : gMem) (i j : Nat) : Nat := lgs (M (32 + i) 4) (M (32 + i) 5) (M (32 + j) 4) (M (32 + j) 5)
/-- lagsOn's answer, of the first n figures -/
def lon (M : gMem) (cam fig : Nat) : Nat → Nat
  | 0 => 4095
  | n + 1 => if M 14 n = cam then lon M cam fig n &&& rot (M (17 + n) fig) (M 15 n) else lon M cam fig n
theorem lon_lt (M : gMem) (cam fig n : Nat) : lon M cam fig n < 4096 := by
  induction n with
  | zero => simp [lon]
  | succ n ih =>
    simp only [lon]
    split
    · exact and_lt _ ih
    · exact ih
