/-! the reference: sharing, step by step -/
def usedN (r : Nat → Nat) : Nat → Nat
  | 0 => 0
  | k + 1 => if r k < usedN r k then usedN r k else r k + 1
theorem usedN_le {r : Nat → Nat} {n B : Nat} (h : ∀ e, e < n → r e ≤ B) : usedN r n ≤ B + 1 := by
  induction n with
  | zero => simp [usedN]
  | succ n ih =>
    have h1 := ih (fun e he => h e (by omega))
    have h2 := h n (by omega)
    simp only [usedN]
    split <;> omega
theorem usedN_congr {r q : Nat → Nat} {n : Nat} (h : ∀ e, e < n → r e = q e) : usedN r n = usedN q n := by
  induction n with
  | zero => rfl
  | succ n ih => simp only [usedN, ih (fun e he => h e (by omega)), h n (by omega)]
theorem n_mod32 (x : Nat) : nI x = nI (x % 4294967296) := by
  apply n_eqv
  simp only [n_tn]
  omega
theorem n_dec0 (n : Nat) : nI n + Int32.ofInt (-1) = nI n - nI 1 := by
  have e : Int32.ofInt (-1) = -(nI 1) := by decide
  rw [e, Int32.sub_eq_add_neg]
def stL (m : gMem) (f : Nat) : Nat := (m 7 f + 1) % 4294967296
abbrev stC (m : gMem) (f : Nat) : Prop := stL m f = 12 ∨ (m 6 f = usedN (m 6) f ∧ 0 < stL m f)
def stN (m : gMem) (f : Nat) : gMem := if stC m f then u2 (u2 (u2 m 7 f (stL m f)) 6 f (m 6 f + 1)) 7 f 0 else u2 m 7 f (stL m f)
def cpA (m : gMem) (f n : Nat) : gMem := fun a b => if (a = 8 ∨ a = 9) ∧ 6 * (f + 1) ≤ b ∧ b < 6 * (f + 1) + n then m a (b - 6) else m a b
theorem cpA_0 (m : gMem) (f : Nat) : cpA m f 0 = m := by funext a b; simp only [cpA]; rw [if_neg (by omega)]
theorem cpA_no {m : gMem} {f n a b : Nat} (h : b < 6 * (f + 1) ∨ 6 * (f + 1) + n ≤ b) : cpA m f n a b = m a b := by simp only [cpA]; rw [if_neg (by omega)]
theorem cpA_in {m : gMem} {f n a k : Nat} (ha : a = 8 ∨ a = 9) (h : k < n) : cpA m f n a (6 * (f + 1) + k) = m a (6 * f + k) := by
  simp only [cpA]; rw [if_pos ⟨ha, by omega⟩]; congr 1; omega
theorem cpA_row {m : gMem} {f n a : Nat} (h : a ≠ 8 ∧ a ≠ 9) : cpA m f n a = m a := by funext b; simp only [cpA]; rw [if_neg (by omega)]
theorem cpA_s {m : gMem} {f n : Nat} : u2 (u2 (cpA m f n) 8 (6 * (f + 1) + n) (m 8 (6 * f + n))) 9 (6 * (f + 1) + n) (m 9 (6 * f + n)) = cpA m f (n + 1) := by
  funext a b
  simp only [u2, cpA]
  by_cases h1 : a = 9 ∧ b = 6 * (f + 1) + n
  · rw [if_pos h1, if_pos (by omega), h1.1, h1.2]; congr 1; omega
  · rw [if_neg h1]
    by_cases h2 : a = 8 ∧ b = 6 * (f + 1) + n
    · rw [if_pos h2, if_pos (by omega), h2.1, h2.2]; congr 1; omega
    · rw [if_neg h2]
      by_cases h3 : (a = 8 ∨ a = 9) ∧ 6 * (f + 1) ≤ b ∧ b < 6 * (f + 1) + n
      · rw [if_pos h3, if_pos (by omega)]
      · rw [if_neg h3, if_neg (by omega)]
def pu (m : gMem) (f : Nat) : Nat := m 8 (6 * f + m 6 f) ||| rot (m 1 (94 + f)) (m 7 f)
def pd (m : gMem) (f : Nat) : Nat := m 9 (6 * f + m 6 f) ||| rot (m 1 (99 + f)) (m 7 f)
def putM (m : gMem) (f : Nat) : gMem := u2 (u2 (cpA m f 6) 8 (6 * (f + 1) + m 6 f) (pu m f)) 9 (6 * (f + 1) + m 6 f) (pd m f)
def putB (m : gMem) (f : Nat) : Bool := decide (pu m f &&& pd m f = 0)
def nxM (m : gMem) (f : Nat) : gMem := u2 (u2 (putM m f) 6 (f + 1) 0) 7 (f + 1) 4294967295
abbrev stO (most : Nat) (m : gMem) (f : Nat) : Prop := usedN (m 6) f < stN m f 6 f ∨ most ≤ stN m f 6 f
def itR (most nf : Nat) : Nat → Nat → gMem → Option (Bool × gMem)
  | 0, _, _ => none
  | _ + 1, 0, m => some (false, m)
  | n + 1, f + 1, m => if nf ≤ f then some (true, m) else if stO most m f then itR most nf n f (stN m f) else if putB (stN m f) f = true then itR most nf n (f + 2) (nxM (stN m f) f) else itR most nf n (f + 1) (putM (stN m f) f)
theorem itR_s (most nf n f : Nat) (m : gMem) : itR most nf (n + 1) (f + 1) m = if nf ≤ f then some (true, m) else if stO most m f then itR most nf n f (stN m f) else if putB (stN m f) f = true then itR most nf n (f + 2) (nxM (stN m f) f) else itR most nf n (f + 1) (putM (stN m f) f) := rfl
def shI (y : Nat) (m : gMem) : Prop := (∀ e, e < y → m 6 e ≤ 5 ∧ (m 7 e ≤ 11 ∨ m 7 e = 4294967295)) ∧ ∀ b, m 8 b < 4096 ∧ m 9 b < 4096
theorem stL_le {y f : Nat} {m : gMem} (h : shI y m) (hf : f < y) : stL m f ≤ 12 := by
  have := (h.1 f hf).2
  unfold stL; omega
theorem stN_row {m : gMem} {f a : Nat} (h6 : a ≠ 6) (h7 : a ≠ 7) : stN m f a = m a := by
  unfold stN
  split
  · rw [u2_row h7, u2_row h6, u2_row h7]
  · rw [u2_row h7]
theorem stN_no {m : gMem} {f a b : Nat} (h : b ≠ f) : stN m f a b = m a b := by
  unfold stN
  split <;> simp [u2, h]
theorem stN_6 {y f : Nat} {m : gMem} (h : shI y m) (hf : f < y) : stN m f 6 f ≤ 6 := by
  have := (h.1 f hf).1
  unfold stN
  split
  · simp [u2]; omega
  · simp [u2]; omega
theorem stN_7 {y f : Nat} {m : gMem} (h : shI y m) (hf : f < y) : stN m f 7 f ≤ 11 := by
  have h1 := stL_le h hf
  unfold stN
  by_cases hc : stC m f
  · rw [if_pos hc]; simp [u2]
  · rw [if_neg hc]
    unfold stC at hc
    simp [u2]; omega
theorem shI.lo {y z : Nat} {m : gMem} (h : shI y m) (hz : z ≤ y) : shI z m := ⟨fun e he => h.1 e (by omega), h.2⟩
theorem shI.st {f : Nat} {m : gMem} (h : shI (f + 1) m) : shI f (stN m f) := by
  refine ⟨fun e he => ?_, fun b => ?_⟩
  · rw [stN_no (by omega), stN_no (by omega)]; exact h.1 e (by omega)
  · rw [stN_row (by decide) (by decide), stN_row (by decide) (by decide)]; exact h.2 b
theorem shI.st1 {f : Nat} {m : gMem} (h : shI (f + 1) m) (h5 : stN m f 6 f ≤ 5) : shI (f + 1) (stN m f) := by
  refine ⟨fun e he => ?_, h.st.2⟩
  by_cases e1 : e = f
  · subst e1; exact ⟨h5, Or.inl (stN_7 h he)⟩
  · exact h.st.1 e (by omega)
theorem putM_row {m : gMem} {f a : Nat} (h : a ≠ 8 ∧ a ≠ 9) : putM m f a = m a := by
  unfold putM; rw [u2_row h.2, u2_row h.1, cpA_row h]
theorem cpA_lt {m : gMem} {f n : Nat} (h : ∀ b, m 8 b < 4096 ∧ m 9 b < 4096) : ∀ b, cpA m f n 8 b < 4096 ∧ cpA m f n 9 b < 4096 := by
  intro b
  simp only [cpA]
  refine ⟨?_, ?_⟩
  · split
    · exact (h _).1
    · exact (h _).1
  · split
    · exact (h _).2
    · exact (h _).2
theorem pu_lt {m : gMem} {f : Nat} (h : ∀ b, m 8 b < 4096 ∧ m 9 b < 4096) : pu m f < 4096 := or_lt (h _).1 (rot_lt _ _)
theorem pd_lt {m : gMem} {f : Nat} (h : ∀ b, m 8 b < 4096 ∧ m 9 b < 4096) : pd m f < 4096 := or_lt (h _).2 (rot_lt _ _)
theorem shI.put {f y : Nat} {m : gMem} (h : shI y m) : shI y (putM m f) := by
  refine ⟨fun e he => ?_, fun b => ?_⟩
  · rw [putM_row (by decide), putM_row (by decide)]; exact h.1 e he
  · have h1 := cpA_lt (f := f) (n := 6) h.2 b
    have h2 := pu_lt (f := f) h.2
    have h3 := pd_lt (f := f) h.2
    unfold putM
    simp only [u2]
    refine ⟨?_, ?_⟩
    · rw [if_neg (by omega)]
      split
      · exact h2
      · exact h1.1
    · split
      · exact h3
      · rw [if_neg (by omega)]; exact h1.2
theorem shI.nx {f : Nat} {m : gMem} (h : shI (f + 1) m) : shI (f + 2) (nxM m f) := by
  have h1 := h.put (f := f)
  refine ⟨fun e he => ?_, fun b => ?_⟩
  · unfold nxM
    simp only [u2]
    by_cases e1 : e = f + 1
    · subst e1; simp
    · have := h1.1 e (by omega)
      simp [e1]; exact this
  · unfold nxM
    simp only [u2]
    simp; exact h1.2 b
theorem nxM_1 (m : gMem) (f : Nat) : nxM m f 1 = m 1 := by unfold nxM; rw [u2_row (by decide), u2_row (by decide), putM_row (by decide)]
theorem wfR.of {M m : gMem} (h : wfR M) (e : m 1 = M 1) : wfR m := by show wfF (m 1); rw [e]; exact h
