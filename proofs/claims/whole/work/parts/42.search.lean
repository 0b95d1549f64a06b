/-! sharing: both sides are one search -/
theorem rot_bit {x b i : Nat} (hx : x < 4096) (hb : b < 12) (hi : i < 12) : (rot x b).testBit i = x.testBit ((i + 12 - b) % 12) := by
  unfold rot
  rw [show 4095 = 2 ^ 12 - 1 by decide, Nat.and_two_pow_sub_one_eq_mod, Nat.testBit_mod_two_pow, Nat.testBit_or, Nat.testBit_shiftLeft, Nat.testBit_shiftRight]
  by_cases h : b ≤ i
  · have h2 : x.testBit (12 - b + i) = false := Nat.testBit_lt_two_pow (Nat.lt_of_lt_of_le hx (Nat.pow_le_pow_right (n := 2) (by omega) (show 12 ≤ 12 - b + i by omega)))
    rw [h2, show (i + 12 - b) % 12 = i - b by omega]; simp [hi, h]
  · rw [show (i + 12 - b) % 12 = 12 - b + i by omega]; simp [hi, h]
theorem bit_hi {x i : Nat} (hx : x < 4096) (hi : 12 ≤ i) : x.testBit i = false := Nat.testBit_lt_two_pow (Nat.lt_of_lt_of_le hx (Nat.pow_le_pow_right (n := 2) (by omega) hi))
theorem and0 {x y : Nat} (hx : x < 4096) : x &&& y = 0 ↔ ∀ i, i < 12 → ¬ (x.testBit i = true ∧ y.testBit i = true) := by
  constructor
  · intro h i _ hh
    have : (x &&& y).testBit i = true := by rw [Nat.testBit_and, hh.1, hh.2]; rfl
    rw [h] at this
    simp at this
  · intro h
    apply Nat.eq_of_testBit_eq
    intro i
    rw [Nat.testBit_and]
    by_cases hi : i < 12
    · have := h i hi
      cases hxi : x.testBit i
      · simp
      · cases hyi : y.testBit i
        · simp
        · exact absurd ⟨hxi, hyi⟩ this
    · rw [bit_hi hx (by omega)]; simp
theorem shift_dis {x y p q : Nat} (hx : x < 4096) (hy : y < 4096) (hp : p < 12) (hq : q < 12) : (x &&& rot y ((q + 12 - p) % 12) = 0) ↔ (rot x p &&& rot y q = 0) := by
  rw [and0 hx, and0 (rot_lt _ _)]
  constructor
  · intro h i hi hh
    refine h ((i + 12 - p) % 12) (by omega) ⟨?_, ?_⟩
    · rw [← rot_bit hx hp hi]; exact hh.1
    · rw [rot_bit hy (by omega) (by omega), show ((i + 12 - p) % 12 + 12 - (q + 12 - p) % 12) % 12 = (i + 12 - q) % 12 by omega, ← rot_bit hy hq hi]; exact hh.2
  · intro h i hi hh
    refine h ((i + p) % 12) (by omega) ⟨?_, ?_⟩
    · rw [rot_bit hx hp (by omega), show ((i + p) % 12 + 12 - p) % 12 = i by omega]; exact hh.1
    · have := hh.2
      rw [rot_bit hy (by omega) hi] at this
      rw [rot_bit hy hq (by omega), show ((i + p) % 12 + 12 - q) % 12 = (i + 12 - (q + 12 - p) % 12) % 12 by omega]; exact this
theorem or0 {x y : Nat} : x ||| y = 0 ↔ x = 0 ∧ y = 0 := Nat.or_eq_zero_iff
/-- two wishes on one cam, at two lags, never at odds -/
def cmp2S (U D : Nat → Nat) (e f p q : Nat) : Prop := rot (U e) p &&& rot (D f) q = 0 ∧ rot (D e) p &&& rot (U f) q = 0
theorem lgs_bit {U D : Nat → Nat} {e f p q : Nat} (hU : ∀ k, U k < 4096 ∧ D k < 4096) (hp : p < 12) (hq : q < 12) : (rot (lgs (U e) (D e) (U f) (D f)) p).testBit q = true ↔ cmp2S U D e f p q := by
  rw [rot_bit (lgs_lt _ _ _ _) hp hq]
  unfold lgs
  rw [setN_bit]
  simp only [show (q + 12 - p) % 12 < 12 by omega, decide_true, Bool.true_and, decide_eq_true_eq]
  unfold lgO cmp2S
  rw [or0, shift_dis (hU e).1 (hU f).2 hp hq, shift_dis (hU e).2 (hU f).1 hp hq]
def fsl (p : Nat → Option (Nat → Nat)) : Nat → Nat → Option (Nat → Nat)
  | 0, _ => none
  | k + 1, c => match p c with
    | some x => some x
    | none => fsl p k (c + 1)
theorem fsl_t {p : Nat → Option (Nat → Nat)} {k c : Nat} {x : Nat → Nat} (h : p c = some x) : fsl p (k + 1) c = some x := by simp only [fsl, h]
theorem fsl_f {p : Nat → Option (Nat → Nat)} {k c : Nat} (h : p c = none) : fsl p (k + 1) c = fsl p k (c + 1) := by simp only [fsl, h]
theorem fsl_none {p : Nat → Option (Nat → Nat)} {k c : Nat} (h : ∀ i, c ≤ i → i < c + k → p i = none) : fsl p k c = none := by
  induction k generalizing c with
  | zero => rfl
  | succ k ih => rw [fsl_f (h c (by omega) (by omega))]; exact ih (fun i h1 h2 => h i (by omega) (by omega))
theorem fsl_add {p : Nat → Option (Nat → Nat)} (a b c : Nat) : fsl p (a + b) c = match fsl p a c with | some x => some x | none => fsl p b (c + a) := by
  induction a generalizing c with
  | zero => rw [Nat.zero_add]; rfl
  | succ a ih =>
    rw [show a + 1 + b = (a + b) + 1 by omega]
    cases hp : p c with
    | some x => rw [fsl_t hp, fsl_t hp]
    | none => rw [fsl_f hp, fsl_f hp, ih, show c + 1 + a = c + (a + 1) by omega]
theorem fsl_add_t {p : Nat → Option (Nat → Nat)} {a b c : Nat} {x : Nat → Nat} (h : fsl p a c = some x) : fsl p (a + b) c = some x := by rw [fsl_add, h]
theorem fsl_add_f {p : Nat → Option (Nat → Nat)} {a b c : Nat} (h : fsl p a c = none) : fsl p (a + b) c = fsl p b (c + a) := by rw [fsl_add, h]
def useS (A : Nat → Nat) (f : Nat) : Nat := usedN (fun e => A e / 12) f
theorem usedN_gt {r : Nat → Nat} {n e : Nat} (h : e < n) : r e < usedN r n := by
  induction n with
  | zero => exact absurd h (Nat.not_lt_zero _)
  | succ n ih =>
    simp only [usedN]
    by_cases he : e = n
    · subst he; split <;> omega
    · have := ih (by omega)
      split <;> omega
abbrev okD (U D A : Nat → Nat) (f c : Nat) : Prop := (c / 12 < useS A f ∨ c % 12 = 0) ∧ ∀ e, e < f → A e / 12 = c / 12 → (rot (U e) (A e % 12) &&& rot (D f) (c % 12) = 0 ∧ rot (D e) (A e % 12) &&& rot (U f) (c % 12) = 0)
def updS (A : Nat → Nat) (f c : Nat) : Nat → Nat := fun q => if q = f then c else A q
def srch (U D : Nat → Nat) (most : Nat) : Nat → Nat → (Nat → Nat) → Option (Nat → Nat)
  | 0, _, A => some A
  | d + 1, f, A => fsl (fun c => if okD U D A f c then srch U D most d (f + 1) (updS A f c) else none) (12 * min (useS A f + 1) most) 0
theorem srch_s (U D : Nat → Nat) (most d f : Nat) (A : Nat → Nat) : srch U D most (d + 1) f A = fsl (fun c => if okD U D A f c then srch U D most d (f + 1) (updS A f c) else none) (12 * min (useS A f + 1) most) 0 := rfl
/-- a search and what is left in the rows i and j -/
def relS (nf i j : Nat) (o : Option (Nat → Nat)) (r : Bool × gMem) : Prop := match o with
  | none => r.1 = false
  | some A => r.1 = true ∧ ∀ e, e < nf → A e = 12 * r.2 i e + r.2 j e ∧ r.2 j e < 12
theorem useS_upd {A : Nat → Nat} {f c : Nat} (h : c / 12 ≤ useS A f) : useS (updS A f c) (f + 1) = max (useS A f) (c / 12 + 1) := by
  have e : usedN (fun e => updS A f c e / 12) f = usedN (fun e => A e / 12) f := usedN_congr (fun e he => by simp only [updS]; rw [if_neg (by omega)])
  unfold useS at *
  simp only [usedN, e]
  simp only [updS, if_true]
  split <;> omega
/-! the class's side -/
def invX (nf : Nat) (U D A : Nat → Nat) (f : Nat) (m : gMem) : Prop := (∀ e, e < f → A e = 12 * m 14 e + m 15 e ∧ m 15 e < 12) ∧ ∀ a b, a < b → b < nf → m (17 + a) b = lgs (U a) (D a) (U b) (D b)
theorem invX.kp {nf : Nat} {U D A : Nat → Nat} {f : Nat} {m m' : gMem} (h : invX nf U D A f m) (hk : keeps f m m') : invX nf U D A f m' :=
  ⟨fun e he => by rw [hk 14 e (by omega), hk 15 e (by omega)]; exact h.1 e he, fun a b h1 h2 => by rw [hk (17 + a) b (by omega)]; exact h.2 a b h1 h2⟩
theorem invX.up {nf : Nat} {U D A : Nat → Nat} {f cam lag : Nat} {m : gMem} (h : invX nf U D A f m) (hl : lag < 12) : invX nf U D (updS A f (12 * cam + lag)) (f + 1) (u2 (u2 m 14 f cam) 15 f lag) := by
  refine ⟨fun e he => ?_, fun a b h1 h2 => by rw [keeps.st (f := f) (17 + a) b (by omega)]; exact h.2 a b h1 h2⟩
  simp only [updS, u2]
  by_cases e1 : e = f
  · subst e1; simp [hl]
  · have := h.1 e (by omega)
    simp [e1]; exact this
theorem lon_bit {m : gMem} {cam f n q : Nat} (hq : q < 12) : (lon m cam f n).testBit q = true ↔ ∀ e, e < n → m 14 e = cam → (rot (m (17 + e) f) (m 15 e)).testBit q = true := by
  induction n with
  | zero =>
    refine ⟨fun _ e he => absurd he (Nat.not_lt_zero _), fun _ => ?_⟩
    simp only [lon]
    rw [show 4095 = 2 ^ 12 - 1 by decide, Nat.testBit_two_pow_sub_one]; simp [hq]
  | succ n ih =>
    simp only [lon]
    by_cases h : m 14 n = cam
    · rw [if_pos h, Nat.testBit_and, Bool.and_eq_true, ih]
      refine ⟨fun hh e he hc => ?_, fun hh => ⟨fun e he hc => hh e (by omega) hc, hh n (by omega) h⟩⟩
      by_cases e1 : e = n
      · subst e1; exact hh.2
      · exact hh.1 e (by omega) hc
    · rw [if_neg h, ih]
      refine ⟨fun hh e he hc => ?_, fun hh e he hc => hh e (by omega) hc⟩
      by_cases e1 : e = n
      · subst e1; exact absurd hc h
      · exact hh e (by omega) hc
theorem bit1 {x q : Nat} : x >>> q &&& 1 = 1 ↔ x.testBit q = true := by
  rw [Nat.testBit, Nat.and_comm 1]
  simp
theorem lgA_ok {nf : Nat} {U D A : Nat → Nat} {f cam lag : Nat} {m : gMem} (hU : ∀ k, U k < 4096 ∧ D k < 4096) (h : invX nf U D A f m) (hf : f < nf) (hc : cam ≤ useS A f) (hl : lag < 12) : lgA m cam (useS A f) f >>> lag &&& 1 = 1 ↔ okD U D A f (12 * cam + lag) := by
  rw [bit1]
  unfold okD lgA
  rw [show (12 * cam + lag) / 12 = cam by omega, show (12 * cam + lag) % 12 = lag by omega]
  by_cases hcam : cam < useS A f
  · rw [if_pos hcam, lon_bit hl]
    refine ⟨fun hh => ⟨Or.inl hcam, fun e he hc => ?_⟩, fun hh e he hc => ?_⟩
    · have h1 := h.1 e he
      have h2 := hh e he (by omega)
      rw [h.2 e f he hf, show m 15 e = A e % 12 by omega] at h2
      exact (lgs_bit hU (by omega) hl).mp h2
    · have h1 := h.1 e he
      rw [h.2 e f he hf, show m 15 e = A e % 12 by omega]
      exact (lgs_bit hU (by omega) hl).mpr (hh.2 e he (by omega))
  · rw [if_neg hcam]
    have h1 : (1 : Nat).testBit lag = true ↔ lag = 0 := by
      rw [← bit1]
      have : ∀ k, k < 12 → ((1 : Nat) >>> k &&& 1 = 1 ↔ k = 0) := by decide
      exact this lag hl
    rw [h1]
    refine ⟨fun hh => ⟨Or.inr hh, fun e he hc => ?_⟩, fun hh => hh.1.elim (fun x => absurd x hcam) id⟩
    have h3 : A e / 12 < useS A f := usedN_gt (r := fun e => A e / 12) he
    omega
theorem seat_srch {nf most : Nat} {U D : Nat → Nat} (hU : ∀ k, U k < 4096 ∧ D k < 4096) : ∀ (d f : Nat) (A : Nat → Nat) (m : gMem), f + d = nf → invX nf U D A f m → relS nf 14 15 (srch U D most d f A) (seat most d f (useS A f) m) := by
  intro d
  induction d with
  | zero =>
    intro f A m hf hi
    exact ⟨rfl, fun e he => hi.1 e (by omega)⟩
  | succ d ih =>
    intro f A m hf hi
    rw [srch_s, seat_s]
    have hlag : ∀ (cam : Nat), cam ≤ useS A f → ∀ (k lag : Nat) (m0 m : gMem), lag + k = 12 → invX nf U D A f m0 → invX nf U D A f m → relS nf 14 15 (fsl (fun c => if okD U D A f c then srch U D most d (f + 1) (updS A f c) else none) k (12 * cam + lag)) (lagL (fun z9 => seat most d (f + 1) (max (useS A f) (cam + 1)) z9) (lgA m0 cam (useS A f) f) f cam k lag m) := by
      intro cam hcam k
      induction k with
      | zero => intro lag m0 m _ _ _; rfl
      | succ k ihk =>
        intro lag m0 m hk h0 hm
        have hok := lgA_ok hU h0 (show f < nf by omega) hcam (show lag < 12 by omega)
        rw [lagL_s]
        by_cases hb : okD U D A f (12 * cam + lag)
        · rw [if_pos (hok.mpr hb)]
          have hup := hm.up (cam := cam) (show lag < 12 by omega)
          have hrec := ih (f + 1) _ _ (by omega) hup
          rw [useS_upd (by omega), show (12 * cam + lag) / 12 = cam by omega] at hrec
          cases hs : srch U D most d (f + 1) (updS A f (12 * cam + lag)) with
          | some A' =>
            rw [hs] at hrec
            rw [fsl_t (x := A') (by rw [if_pos hb, hs]), if_pos hrec.1]
            exact hrec
          | none =>
            rw [hs] at hrec
            have hf : (seat most d (f + 1) (max (useS A f) (cam + 1)) (u2 (u2 m 14 f cam) 15 f lag)).1 = false := hrec
            rw [fsl_f (by rw [if_pos hb, hs]), if_neg (by rw [hf]; decide)]
            exact ihk (lag + 1) m0 _ (by omega) h0 (hm.kp (keeps.st.tr (seat_keeps _ _ _ _ _).up))
        · rw [if_neg (fun q => hb (hok.mp q)), fsl_f (by rw [if_neg hb])]
          exact ihk (lag + 1) m0 m (by omega) h0 hm
    have hcam : ∀ (k cam : Nat) (m : gMem), cam + k = min (useS A f + 1) most → invX nf U D A f m → relS nf 14 15 (fsl (fun c => if okD U D A f c then srch U D most d (f + 1) (updS A f c) else none) (12 * k) (12 * cam)) (camL (fun q9 z9 => seat most d (f + 1) (max (useS A f) (q9 + 1)) z9) (useS A f) f k cam m) := by
      intro k
      induction k with
      | zero => intro cam m _ _; rfl
      | succ k ihk =>
        intro cam m hk hm
        have h1 := hlag cam (by omega) 12 0 m m (by omega) hm hm
        rw [camL_s, show 12 * (k + 1) = 12 + 12 * k by omega]
        rw [Nat.add_zero (12 * cam)] at h1
        cases hs : fsl (fun c => if okD U D A f c then srch U D most d (f + 1) (updS A f c) else none) 12 (12 * cam) with
        | some A' =>
          rw [hs] at h1
          rw [fsl_add_t hs, if_pos h1.1]
          exact h1
        | none =>
          rw [hs] at h1
          have hf : (lagL (fun z9 => seat most d (f + 1) (max (useS A f) (cam + 1)) z9) (lgA m cam (useS A f) f) f cam 12 0 m).1 = false := h1
          rw [fsl_add_f hs, if_neg (by rw [hf]; decide), show 12 * cam + 12 = 12 * (cam + 1) by omega]
          exact ihk (cam + 1) _ (by omega) (hm.kp (lagL_keeps (fun M => (seat_keeps _ _ _ _ _).up) _ _ _ _ _))
    have := hcam (min (useS A f + 1) most) 0 m (by omega) hi
    exact this
