/-! words of the face -/
theorem n_int1 {x : Int32} {n : Nat} (hn : n ≤ 2 ^ 31) : (∃ a, 1 ≤ a ∧ a < n ∧ x = nI a) ∨ (x.toInt < 1 ∨ (n : Int) ≤ x.toInt) := by
  rcases n_int (x := x) hn with ⟨a, h, e⟩ | h
  · by_cases h1 : 1 ≤ a
    · exact Or.inl ⟨a, h1, h, e⟩
    · refine Or.inr (Or.inl ?_)
      rw [e, tz (by omega)]; omega
  · exact Or.inr (by omega)
def inR1 (x : Int32) (n : Nat) : Prop := 1 ≤ x.toInt ∧ x.toInt < n
theorem inR1_n {a n : Nat} (h1 : 1 ≤ a) (h : a < n) (hn : n ≤ 2 ^ 31) : inR1 (nI a) n := by
  unfold inR1; rw [tz (by omega)]; omega
def wfL (M : gMem) : Prop := ∀ a b, 17 ≤ a → a < 22 → b < 5 → a < 17 + b → M a b < 4096
theorem seatOk0 {M : gMem} (hn : M 23 3 ≤ 5) (h : wfL M) : seatOk 0 (cmpM M (M 23 3)) := by
  refine ⟨fun e he => absurd he (by omega), fun a b h1 h2 h3 h4 => ?_⟩
  by_cases hb : b < M 23 3
  · exact seatOk_cmp hn a b h1 h2 hb h4
  · simp only [cmpM]
    rw [if_neg (by omega)]
    exact h a b h1 h2 h3 h4
theorem c_shareCams {l : Launch} {g : gE} {ad : Nat → Nat} (hI : g_inj ad 55) (M : gMem) (J : gMeL) (hw : wfX M) (hL : wfL M) : CI l g ad dsX 55 yX5_shareCams cX5_shareCams 2 (some .int) 12 [.ref (ad 0)] M J (nI (shX M).1) (shX M).2 J := by
  have hn := hw.nf
  have hu : ∀ k, k < 5 → M (32 + k) 4 < 4096 ∧ M (32 + k) 5 < 4096 := fun k hk => ⟨(hw.fig hk).2.2.2.2.1, (hw.fig hk).2.2.2.2.2⟩
  rcases (show M 23 3 = 0 ∨ M 23 3 = 1 ∨ M 23 3 = 2 ∨ M 23 3 = 3 ∨ M 23 3 = 4 ∨ M 23 3 = 5 by omega) with h | h | h | h | h | h
  · exact c_shareCams_0 hI M J h (seatOk0 hn hL) hu
  · exact c_shareCams_1 hI M J h (seatOk0 hn hL) hu
  · exact c_shareCams_2 hI M J h (seatOk0 hn hL) hu
  · exact c_shareCams_3 hI M J h (seatOk0 hn hL) hu
  · exact c_shareCams_4 hI M J h (seatOk0 hn hL) hu
  · exact c_shareCams_5 hI M J h (seatOk0 hn hL) hu
/-- the first angle in a set, from k on -/
def fst1 (x : Nat) : Nat → Nat → Nat
  | _, 0 => 4294967292
  | k, d + 1 => if x >>> k &&& 1 = 1 then k else fst1 x (k + 1) d
/-- the least of twelve: how many, at which lag -/
def best (p : Nat → Nat) : Nat → Nat × Nat
  | 0 => (13, 0)
  | k + 1 => if p k < (best p k).1 then (p k, k) else best p k
theorem best_le (p : Nat → Nat) (k : Nat) : (best p k).1 ≤ 13 := by
  induction k with
  | zero => simp [best]
  | succ k ih => simp only [best]; split <;> omega
theorem best_t {p : Nat → Nat} {k : Nat} (h : p k < (best p k).1) : best p (k + 1) = (p k, k) := by simp only [best]; rw [if_pos h]
theorem best_f {p : Nat → Nat} {k : Nat} (h : ¬ p k < (best p k).1) : best p (k + 1) = best p k := by simp only [best]; rw [if_neg h]
theorem best_2 (p : Nat → Nat) (k : Nat) : (best p k).2 ≤ k := by
  induction k with
  | zero => simp [best]
  | succ k ih => simp only [best]; split <;> omega
/-- hands that can cut the steps x -/
def whoS (x : Nat) (hand : Nat → Nat) : Nat := setN (fun k => decide (x &&& (hand k ^^^ 4294967295) = 0)) 4
def wnM (M : gMem) (w : Nat) : Nat → gMem
  | 0 => M
  | c + 1 => rowN M 22 12 (lessR (M (25 + c)) w)
theorem wnM_out {M : gMem} {w c j : Nat} (h : j ≠ 22) : wnM M w c j = M j := by
  cases c
  · rfl
  · exact rowN_out h
theorem wnM_s (M : gMem) (w c : Nat) : rowN (wnM M w c) 22 12 (lessR (wnM M w c (25 + c)) w) = wnM M w (c + 1) := by
  rw [wnM_out (by omega)]
  cases c
  · rfl
  · exact rowN_rr (fun _ _ => rfl)
def upsV (M : gMem) (w c k : Nat) : Nat := if M (32 + k) 1 = c then ups (lessR (M (25 + c)) w) (M (32 + k) 2) (M 23 5) (M (32 + k) 0) (M 23 4) else upsX M k
def soW (M : gMem) (J : gMeL) (s i w c : Nat) : Bool := allF (fun k => decide (J (9 + s) (i + k) = lN (upsV M w c k))) 0 (M 23 3)
def soN (M : gMem) (J : gMeL) (s i : Nat) : Bool := allF (fun k => decide (J (9 + s) (i + k) = lN (upsX M k))) 0 (M 23 3)
theorem allF_congr {p q : Nat → Bool} {n : Nat} : ∀ (d k : Nat), k + d ≤ n → (∀ j, j < n → p j = q j) → allF p k d = allF q k d
  | 0, _, _, _ => rfl
  | d + 1, k, h, e => by
    simp only [allF, e k (by omega)]
    split
    · exact allF_congr d (k + 1) (by omega) e
    · rfl
theorem upsX_same {M M' : gMem} (h : ∀ j, j ≠ 22 → M' j = M j) (k : Nat) (hc : M (32 + k) 1 ≤ 5) : upsX M' k = upsX M k := by
  simp only [upsX, h (32 + k) (by omega), h 23 (by omega)]
  rw [h (25 + M (32 + k) 1) (by omega)]
theorem soW_ok {M : gMem} {J : gMeL} {s i w c : Nat} (hw : wfX M) : allF (fun k => decide (J (9 + s) (i + k) = lN (upsW (wnM M w (c + 1)) c k))) 0 (wnM M w (c + 1) 23 3) = soW M J s i w c := by
  have h : ∀ j, j ≠ 22 → wnM M w (c + 1) j = M j := fun j hj => wnM_out hj
  unfold soW
  rw [h 23 (by omega)]
  have hn := hw.nf
  refine allF_congr (n := M 23 3) (M 23 3) 0 (by omega) (fun k hk => ?_)
  have e : upsW (wnM M w (c + 1)) c k = upsV M w c k := by
    unfold upsW upsV
    rw [h (32 + k) (by omega), h 23 (by omega)]
    by_cases hc : M (32 + k) 1 = c
    · rw [if_pos hc, if_pos hc]
      exact ups_congr (fun a ha => rowN_in ha) _ _ _ _
    · rw [if_neg hc, if_neg hc]
      exact upsX_same h k (hw.fig (by omega)).2.1
  rw [e]
theorem soN_ok {M : gMem} {J : gMeL} {s i : Nat} (hw : wfX M) : allF (fun k => decide (J (9 + s) (i + k) = lN (upsW M 4294967295 k))) 0 (M 23 3) = soN M J s i := by
  have hn := hw.nf
  unfold soN
  refine allF_congr (n := M 23 3) (M 23 3) 0 (by omega) (fun k hk => ?_)
  have hf := (hw.fig (show k < 5 by omega)).2.1
  have e : upsW M 4294967295 k = upsX M k := by
    unfold upsW; rw [if_neg (by omega)]
  rw [e]
def fnd (base : Nat) (p : Nat → Bool) : Nat → Nat
  | 0 => base
  | c + 1 => if p c = true then fnd base p c ||| 1 <<< c else fnd base p c
theorem wfX.wn {M : gMem} (h : wfX M) (w c : Nat) : wfX (wnM M w c) := by
  have e : ∀ j, j ≠ 22 → wnM M w c j = M j := fun j hj => wnM_out hj
  unfold wfX at *
  rw [e 23 (by omega), e 37 (by omega), e 38 (by omega)]
  refine ⟨h.1, fun q hq a ha => ?_, fun k hk => ?_, h.2.2.2⟩
  · rw [e (25 + q) (by omega)]; exact h.2.1 q hq a ha
  · rw [e (32 + k) (by omega)]; exact h.2.2.1 k hk
/-- the heights of a figure come to a sheet, from place i on -/
def flm (M : gMem) (J : gMeL) (k s i n : Nat) : gMeL := fun a b => if a = 9 + s ∧ i ≤ b ∧ b < i + n then cutv (M (5 + s) 1) (lN (hgtX M k (b - i))) else J a b
theorem flm_0 (M : gMem) (J : gMeL) (k s i : Nat) : flm M J k s i 0 = J := by funext a b; simp only [flm]; rw [if_neg (by omega)]
theorem flm_s (M : gMem) (J : gMeL) (k s i n : Nat) : u2L (flm M J k s i n) (9 + s) (i + n) (cutv (M (5 + s) 1) (lN (hgtX M k n))) = flm M J k s i (n + 1) := by
  funext a b
  simp only [u2L, flm]
  by_cases h : a = 9 + s ∧ b = i + n
  · rw [if_pos h, if_pos (by omega), h.2, show i + n - i = n by omega]
  · rw [if_neg h]
    by_cases h2 : a = 9 + s ∧ i ≤ b ∧ b < i + n
    · rw [if_pos h2, if_pos (by omega)]
    · rw [if_neg h2, if_neg (by omega)]
