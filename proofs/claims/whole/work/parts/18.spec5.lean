/-! wear, sharing, worn: words over the class's memory -/
def b2n (b : Bool) : Nat := if b = true then 1 else 0
theorem setN_shr {p : Nat → Bool} {n a : Nat} (h : a < n) : setN p n >>> a &&& 1 = b2n (p a) := by
  have e : (setN p n >>> a &&& 1) = (setN p n >>> a) % 2 := Nat.and_one_is_mod _
  rw [e]
  have h2 := setN_bit p n a
  rw [Nat.testBit, Nat.shiftRight_eq_div_pow] at *
  simp only [h, decide_true, Bool.true_and, bne_iff_ne, ne_eq, Nat.and_one_is_mod, Nat.one_and_eq_mod_two] at h2
  unfold b2n
  cases hp : p a
  · rw [hp] at h2
    simp at h2
    simp
    omega
  · rw [hp] at h2
    simp at h2
    simp
    omega
def wears (r : Nat → Nat) (q : Nat) : Bool := decide (r ((q + 1) % 12) + 2 < r q)
def wear1 (r : Nat → Nat) : Nat → Nat := fun q => r q - b2n (wears r q)
def wearS (r : Nat → Nat) : Nat := setN (wears r) 12
theorem wears_congr {r q : Nat → Nat} (h : ∀ a, a < 12 → r a = q a) {a : Nat} (ha : a < 12) : wears r a = wears q a := by
  simp only [wears, h _ (Nat.mod_lt _ (by decide)), h _ ha]
theorem wear1_congr {r q : Nat → Nat} (h : ∀ a, a < 12 → r a = q a) {a : Nat} (ha : a < 12) : wear1 r a = wear1 q a := by
  simp only [wear1, wears_congr h ha, h _ ha]
theorem wearS_congr {r q : Nat → Nat} (h : ∀ a, a < 12 → r a = q a) : wearS r = wearS q := setN_congr (fun _ hj => wears_congr h hj)
def wearI (r : Nat → Nat) : Nat → (Nat → Nat)
  | 0 => r
  | t + 1 => wear1 (wearI r t)
theorem wearI_le {r : Nat → Nat} {a : Nat} (t : Nat) : wearI r t a ≤ r a := by
  induction t with
  | zero => exact Nat.le_refl _
  | succ t ih => simp only [wearI, wear1]; omega
theorem wearI_congr {r q : Nat → Nat} (h : ∀ a, a < 12 → r a = q a) (t : Nat) : ∀ a, a < 12 → wearI r t a = wearI q t a := by
  induction t with
  | zero => exact h
  | succ t ih => intro a ha; exact wear1_congr ih ha
def lessN (r : Nat → Nat) : Nat → Nat
  | 0 => 0
  | t + 1 => lessN r t ||| wearS (wearI r t)
theorem lessN_lt (r : Nat → Nat) (t : Nat) : lessN r t < 4096 := by
  induction t with
  | zero => simp [lessN]
  | succ t ih => exact or_lt ih (setN_12 _)
theorem lessN_congr {r q : Nat → Nat} (h : ∀ a, a < 12 → r a = q a) (t : Nat) : lessN r t = lessN q t := by
  induction t with
  | zero => rfl
  | succ t ih => simp only [lessN, ih, wearS_congr (wearI_congr h t)]
theorem rowN_rr {M : gMem} {i n : Nat} {f h h2 : Nat → Nat} (e : ∀ q, q < n → h q = h2 q) : rowN (rowN M i n f) i n h = rowN M i n h2 := by
  funext a b
  simp only [rowN]
  by_cases h1 : a = i ∧ b < n
  · rw [if_pos h1, if_pos h1, e b h1.2]
  · rw [if_neg h1, if_neg h1, if_neg h1]
theorem rowN_rI {M : gMem} {i : Nat} (r : Nat → Nat) (t : Nat) (a : Nat) (ha : a < 12) : rowN M i 12 (wearI r t) i a = wearI r t a := rowN_in ha
def wearM (M : gMem) (n c : Nat) : gMem := fun a b => if 25 ≤ a ∧ a < 25 + c ∧ b < 12 then wearI (M a) n b else M a b
theorem wearM_0 (M : gMem) (n : Nat) : wearM M n 0 = M := by funext a b; simp only [wearM]; rw [if_neg (by omega)]
theorem wearM_s (M : gMem) (n c : Nat) : rowN (wearM M n c) (25 + c) 12 (wearI (wearM M n c (25 + c)) n) = wearM M n (c + 1) := by
  have e : wearM M n c (25 + c) = M (25 + c) := by funext b; simp only [wearM]; rw [if_neg (by omega)]
  rw [e]
  funext a b
  simp only [rowN, wearM]
  by_cases h1 : a = 25 + c ∧ b < 12
  · rw [if_pos h1, if_pos (by omega), h1.1]
  · rw [if_neg h1]
    by_cases h2 : 25 ≤ a ∧ a < 25 + c ∧ b < 12
    · rw [if_pos h2, if_pos (by omega)]
    · rw [if_neg h2, if_neg (by omega)]
theorem wearM_row {M : gMem} {n c : Nat} : wearM M n c (25 + c) = M (25 + c) := by funext b; simp only [wearM]; rw [if_neg (by omega)]
theorem wearM_out {M : gMem} {n c j : Nat} (h : j < 25 ∨ 25 + c ≤ j) : wearM M n c j = M j := by funext b; simp only [wearM]; rw [if_neg (by omega)]
def lessR (r : Nat → Nat) (w : Nat) : Nat → Nat := fun q => r q - w
/-- the pairs compared: row 17 + i, place j, for i < j < n -/
def cmpM (M : gMem) (n : Nat) : gMem := fun a b => if 17 ≤ a ∧ a < 17 + b ∧ b < n then lgX M (a - 17) b else M a b
def cmp2 (M : gMem) (j i : Nat) : gMem := fun a b => if 17 ≤ a ∧ a < 17 + b ∧ b < j ∨ 17 ≤ a ∧ a < 17 + i ∧ b = j then lgX M (a - 17) b else M a b
theorem cmp2_0 (M : gMem) (j : Nat) : cmp2 M j 0 = cmpM M j := by
  funext a b
  simp only [cmp2, cmpM]
  by_cases h : 17 ≤ a ∧ a < 17 + b ∧ b < j
  · rw [if_pos h, if_pos (Or.inl h)]
  · rw [if_neg h, if_neg (by omega)]
theorem cmp2_s (M : gMem) (j i : Nat) : u2 (cmp2 M j i) (17 + i) j (lgX M i j) = cmp2 M j (i + 1) := by
  funext a b
  simp only [u2, cmp2]
  by_cases h1 : a = 17 + i ∧ b = j
  · rw [if_pos h1, if_pos (by omega), h1.1, h1.2, show 17 + i - 17 = i by omega]
  · rw [if_neg h1]
    by_cases h2 : 17 ≤ a ∧ a < 17 + b ∧ b < j ∨ 17 ≤ a ∧ a < 17 + i ∧ b = j
    · rw [if_pos h2, if_pos (by omega)]
    · rw [if_neg h2, if_neg (by omega)]
theorem cmp2_e (M : gMem) (j : Nat) : cmp2 M j j = cmpM M (j + 1) := by
  funext a b
  simp only [cmp2, cmpM]
  by_cases h : 17 ≤ a ∧ a < 17 + b ∧ b < j + 1
  · rw [if_pos h, if_pos (by omega)]
  · rw [if_neg h, if_neg (by omega)]
theorem cmpM_0 (M : gMem) : cmpM M 0 = M := by funext a b; simp only [cmpM]; rw [if_neg (by omega)]
theorem cmp2_out {M : gMem} {j i a : Nat} (hij : i ≤ 5) (hj : j ≤ 5) (h : a < 17 ∨ 22 ≤ a) : cmp2 M j i a = M a := by
  funext b; simp only [cmp2]; rw [if_neg (by omega)]
theorem cmpM_out {M : gMem} {n a : Nat} (hn : n ≤ 5) (h : a < 17 ∨ 22 ≤ a) : cmpM M n a = M a := by
  funext b; simp only [cmpM]; rw [if_neg (by omega)]
theorem lgX_cmp2 {M : gMem} {j i p q : Nat} (hi : i ≤ 5) (hj : j ≤ 5) : lgX (cmp2 M j i) p q = lgX M p q := by
  simp only [lgX, cmp2_out hi hj (show 32 + p < 17 ∨ 22 ≤ 32 + p by omega), cmp2_out hi hj (show 32 + q < 17 ∨ 22 ≤ 32 + q by omega)]
/-! seating -/
def lagL (rec : gMem → Bool × gMem) (lags f cam : Nat) : Nat → Nat → gMem → Bool × gMem
  | 0, _, M => (false, M)
  | k + 1, lag, M => if lags >>> lag &&& 1 = 1 then (if (rec (u2 (u2 M 14 f cam) 15 f lag)).1 = true then rec (u2 (u2 M 14 f cam) 15 f lag) else lagL rec lags f cam k (lag + 1) (rec (u2 (u2 M 14 f cam) 15 f lag)).2) else lagL rec lags f cam k (lag + 1) M
def lgA (M : gMem) (cam cams f : Nat) : Nat := if cam < cams then lon M cam f f else 1
def camL (rec : Nat → gMem → Bool × gMem) (cams f : Nat) : Nat → Nat → gMem → Bool × gMem
  | 0, _, M => (false, M)
  | k + 1, cam, M => if (lagL (rec cam) (lgA M cam cams f) f cam 12 0 M).1 = true then lagL (rec cam) (lgA M cam cams f) f cam 12 0 M else camL rec cams f k (cam + 1) (lagL (rec cam) (lgA M cam cams f) f cam 12 0 M).2
def seat (most : Nat) : Nat → Nat → Nat → gMem → Bool × gMem
  | 0, _, _, M => (true, M)
  | d + 1, f, cams, M => camL (fun cam m => seat most d (f + 1) (max cams (cam + 1)) m) cams f (min (cams + 1) most) 0 M
/-- what a seating leaves: all but the rows 14 and 15 from f on -/
def keeps (f : Nat) (M M' : gMem) : Prop := ∀ a b, ¬ ((a = 14 ∨ a = 15) ∧ f ≤ b) → M' a b = M a b
theorem keeps.rf {f : Nat} {M : gMem} : keeps f M M := fun _ _ _ => rfl
theorem keeps.tr {f : Nat} {M M' M'' : gMem} (h : keeps f M M') (h2 : keeps f M' M'') : keeps f M M'' := fun a b q => (h2 a b q).trans (h a b q)
theorem keeps.up {f : Nat} {M M' : gMem} (h : keeps (f + 1) M M') : keeps f M M' := fun a b q => h a b (by omega)
theorem keeps.st {f cam lag : Nat} {M : gMem} : keeps f M (u2 (u2 M 14 f cam) 15 f lag) := fun a b q => by
  simp only [u2]; rw [if_neg (by omega), if_neg (by omega)]
theorem lagL_keeps {rec : gMem → Bool × gMem} {f : Nat} (h : ∀ M, keeps f M (rec M).2) (lags cam k lag : Nat) (M : gMem) : keeps f M (lagL rec lags f cam k lag M).2 := by
  induction k generalizing lag M with
  | zero => exact keeps.rf
  | succ k ih =>
    simp only [lagL]
    split
    · split
      · exact keeps.st.tr (h _)
      · exact (keeps.st.tr (h _)).tr (ih _ _)
    · exact ih _ _
theorem camL_keeps {rec : Nat → gMem → Bool × gMem} {f : Nat} (h : ∀ c M, keeps f M (rec c M).2) (cams k cam : Nat) (M : gMem) : keeps f M (camL rec cams f k cam M).2 := by
  induction k generalizing cam M with
  | zero => exact keeps.rf
  | succ k ih =>
    simp only [camL]
    split
    · exact lagL_keeps (h _) _ _ _ _ _
    · exact (lagL_keeps (h _) _ _ _ _ _).tr (ih _ _)
theorem seat_keeps (most d f cams : Nat) (M : gMem) : keeps f M (seat most d f cams M).2 := by
  induction d generalizing f cams M with
  | zero => exact keeps.rf
  | succ d ih => exact camL_keeps (fun c m => (ih _ _ _).up) _ _ _ _
/-- what isSeated needs of the rows -/
def seatOk (f : Nat) (M : gMem) : Prop := (∀ e, e < f → M 14 e < 6 ∧ M 15 e < 12) ∧ ∀ a b, 17 ≤ a → a < 22 → b < 5 → a < 17 + b → M a b < 4096
theorem seatOk.keep {f : Nat} {M M' : gMem} (h : seatOk f M) (hk : keeps f M M') : seatOk f M' :=
  ⟨fun e he => by rw [hk 14 e (by omega), hk 15 e (by omega)]; exact h.1 e he, fun a b h1 h2 h3 h4 => by rw [hk a b (by omega)]; exact h.2 a b h1 h2 h3 h4⟩
theorem seatOk.st {f cam lag : Nat} {M : gMem} (h : seatOk f M) (hc : cam < 6) (hl : lag < 12) : seatOk (f + 1) (u2 (u2 M 14 f cam) 15 f lag) := by
  refine ⟨fun e he => ?_, fun a b h1 h2 h3 h4 => ?_⟩
  · simp only [u2]
    by_cases e1 : e = f
    · subst e1; simp [hc, hl]
    · have := h.1 e (by omega); simpa [e1] using this
  · rw [keeps.st a b (by omega)]; exact h.2 a b h1 h2 h3 h4
def shL (nf : Nat) : Nat → Nat → gMem → Nat × gMem
  | 0, _, M => (nf, (seat nf nf 0 0 M).2)
  | k + 1, most, M => if (seat most nf 0 0 M).1 = true then (most, (seat most nf 0 0 M).2) else shL nf k (most + 1) (seat most nf 0 0 M).2
def shX (M : gMem) : Nat × gMem := shL (M 23 3) (M 23 3) 0 (cmpM M (M 23 3))
theorem seatOk_cmp {M : gMem} {n : Nat} (hn : n ≤ 5) : ∀ a b, 17 ≤ a → a < 22 → b < n → a < 17 + b → cmpM M n a b < 4096 := by
  intro a b h1 h2 h3 h4
  simp only [cmpM]
  rw [if_pos (by omega)]
  exact lgs_lt _ _ _ _
def allF (p : Nat → Bool) : Nat → Nat → Bool
  | _, 0 => true
  | k, d + 1 => if p k = true then allF p (k + 1) d else false
def upsW (M : gMem) (wc k : Nat) : Nat := if M (32 + k) 1 = wc then ups (M 22) (M (32 + k) 2) (M 23 5) (M (32 + k) 0) (M 23 4) else upsX M k
def soX (M : gMem) (J : gMeL) (s i wc : Nat) : Bool := allF (fun k => decide (J (9 + s) (i + k) = lN (upsW M wc k))) 0 (M 23 3)
theorem lg_cmp0 {x y : Int64} : (lg_cmp x y).toInt = 0 ↔ x = y := by
  unfold lg_cmp
  by_cases h : x = y
  · subst h; simp [Int64.lt_irrefl]
  · by_cases h2 : y < x
    · simp [h, h2]
    · simp [h, h2]
theorem lgA_lt (M : gMem) (cam cams f : Nat) : lgA M cam cams f < 4096 := by
  unfold lgA
  split
  · exact lon_lt _ _ _ _
  · omega
theorem lagL_s (rec : gMem → Bool × gMem) (lags f cam k lag : Nat) (M : gMem) : lagL rec lags f cam (k + 1) lag M = if lags >>> lag &&& 1 = 1 then (if (rec (u2 (u2 M 14 f cam) 15 f lag)).1 = true then rec (u2 (u2 M 14 f cam) 15 f lag) else lagL rec lags f cam k (lag + 1) (rec (u2 (u2 M 14 f cam) 15 f lag)).2) else lagL rec lags f cam k (lag + 1) M := rfl
theorem camL_s (rec : Nat → gMem → Bool × gMem) (cams f k cam : Nat) (M : gMem) : camL rec cams f (k + 1) cam M = if (lagL (rec cam) (lgA M cam cams f) f cam 12 0 M).1 = true then lagL (rec cam) (lgA M cam cams f) f cam 12 0 M else camL rec cams f k (cam + 1) (lagL (rec cam) (lgA M cam cams f) f cam 12 0 M).2 := rfl
theorem b2n_le (b : Bool) : b2n b ≤ 1 := by unfold b2n; split <;> omega
theorem b2n_0 {b : Bool} (h : ((b2n b : Nat) : Int) = 0) : b = false := by
  cases b
  · rfl
  · exact absurd h (by decide)
theorem b2n_1 {b : Bool} (h : ¬ ((b2n b : Nat) : Int) = 0) : b = true := by
  cases b
  · exact absurd rfl h
  · rfl
theorem seat_s (most d f cams : Nat) (M : gMem) : seat most (d + 1) f cams M = camL (fun q9 z9 => seat most d (f + 1) (max cams (q9 + 1)) z9) cams f (min (cams + 1) most) 0 M := rfl
theorem n_maxN {a b : Nat} (ha : a < 2 ^ 31) (hb : b < 2 ^ 31) : (if (nI a).toInt < (nI b).toInt then nI b else nI a) = nI (max a b) := by
  rw [tz ha, tz hb]
  split <;> (congr 1; omega)
theorem n_less {a b : Nat} (ha : a < 2 ^ 24) (hb : b < 2 ^ 24) : (if (nI a - nI b).toInt < (nI 0).toInt then nI 0 else nI a - nI b) = nI (a - b) := by
  rw [pk_sub_toInt (by omega) (by omega), tz (by omega)]
  split
  · congr 1; omega
  · rw [pk_sub (by omega)]
