/-! the two memories side by side: the play -/
def relP (b o : Nat) (M N : gMem) : Prop := (M b 1 = N 1 o ∧ M b 3 = N 1 (o + 73)) ∧ (∀ c, c < 6 → ∀ a, a < 12 → M (b + 2 + c) a = N 1 (o + (1 + 12 * c + a))) ∧ (∀ k, k < 5 → M (b + 9 + k) 0 = N 1 (o + (74 + k)) ∧ M (b + 9 + k) 1 = N 1 (o + (79 + k)) ∧ M (b + 9 + k) 2 = N 1 (o + (84 + k)) ∧ M (b + 9 + k) 3 = N 1 (o + (89 + k)) ∧ M (b + 9 + k) 4 = N 1 (o + (94 + k)) ∧ M (b + 9 + k) 5 = N 1 (o + (99 + k))) ∧ (M b 4 = N 1 (o + 104) ∧ M b 5 = N 1 (o + 105) ∧ M b 6 = N 1 (o + 106) ∧ M b 7 = N 1 (o + 107)) ∧ (∀ a, a < 12 → M (b + 14) a = N 1 (o + (108 + a))) ∧ ∀ k, k < 4 → M (b + 15) k = N 1 (o + (120 + k))
abbrev relQ (M N : gMem) : Prop := relP 23 0 M N
theorem rq_nc {M N : gMem} (h : relQ M N) : M 23 1 = N 1 0 := h.1.1
theorem rq_nf {M N : gMem} (h : relQ M N) : M 23 3 = N 1 73 := by have := h.1.2; rwa [Nat.zero_add] at this
theorem rq_row {M N : gMem} (h : relQ M N) {c : Nat} (hc : c < 6) : ∀ a, a < 12 → M (25 + c) a = rowR N c a := fun a ha => by
  have := h.2.1 c hc a ha
  rwa [Nat.zero_add] at this
theorem rq_fig {M N : gMem} (h : relQ M N) {k : Nat} (hk : k < 5) : M (32 + k) 0 = N 1 (74 + k) ∧ M (32 + k) 1 = N 1 (79 + k) ∧ M (32 + k) 2 = N 1 (84 + k) ∧ M (32 + k) 3 = N 1 (89 + k) ∧ M (32 + k) 4 = N 1 (94 + k) ∧ M (32 + k) 5 = N 1 (99 + k) := by
  have := h.2.2.1 k hk
  simp only [Nat.zero_add] at this
  exact this
theorem rq_line {M N : gMem} (h : relQ M N) : M 23 4 = N 1 104 := by have := h.2.2.2.1.1; rwa [Nat.zero_add] at this
theorem rq_way {M N : gMem} (h : relQ M N) : M 23 5 = N 1 105 := by have := h.2.2.2.1.2.1; rwa [Nat.zero_add] at this
theorem rq_at {M N : gMem} (h : relQ M N) : M 23 6 = N 1 106 := by have := h.2.2.2.1.2.2.1; rwa [Nat.zero_add] at this
theorem rq_psd {M N : gMem} (h : relQ M N) : M 23 7 = N 1 107 := by have := h.2.2.2.1.2.2.2; rwa [Nat.zero_add] at this
theorem rq_beat {M N : gMem} (h : relQ M N) {a : Nat} (ha : a < 12) : M 37 a = N 1 (108 + a) := by have := h.2.2.2.2.1 a ha; rwa [Nat.zero_add] at this
theorem rq_hand {M N : gMem} (h : relQ M N) {k : Nat} (hk : k < 4) : M 38 k = N 1 (120 + k) := by have := h.2.2.2.2.2 k hk; rwa [Nat.zero_add] at this
theorem rq_wf {M N : gMem} (h : relQ M N) (hw : wfR N) : wfX M := by
  unfold wfX
  rw [rq_nc h, rq_nf h, rq_line h, rq_way h, rq_at h, rq_psd h]
  refine ⟨hw.1, fun c hc a ha => ?_, fun k hk => ?_, hw.line, hw.way, hw.at, hw.passed, fun a ha => ?_, fun k hk => ?_⟩
  · rw [rq_row h hc a ha]; exact hw.row hc ha
  · obtain ⟨h0, h1, h2, h3, h4, h5⟩ := rq_fig h hk
    rw [h0, h1, h2, h3, h4, h5]; exact hw.fig hk
  · rw [rq_beat h ha]; exact hw.beat ha
  · rw [rq_hand h hk]; exact hw.hand hk
theorem hgt_same {M N : gMem} (h : relQ M N) (hw : wfR N) {k : Nat} (hk : k < 5) (a : Nat) : hgtX M k a = hgtR N k a := by
  obtain ⟨h0, h1, h2, h3, h4, h5⟩ := rq_fig h hk
  have hc := (hw.fig hk).2.1
  unfold hgtX hgtR
  rw [h0, h1, h2, rq_way h]
  exact hgt_congr (rq_row h (by omega)) _ _ _ _
theorem ups_same {M N : gMem} (h : relQ M N) (hw : wfR N) {k : Nat} (hk : k < 5) : upsX M k = upsR N k := by
  obtain ⟨h0, h1, h2, h3, h4, h5⟩ := rq_fig h hk
  have hc := (hw.fig hk).2.1
  unfold upsX upsR
  rw [h0, h1, h2, rq_way h, rq_line h]
  exact ups_congr (rq_row h (by omega)) _ _ _ _
theorem xall_bit {x i : Nat} (hi : i < 32) : (x ^^^ 4294967295).testBit i = !x.testBit i := by
  rw [Nat.testBit_xor, show 4294967295 = 2 ^ 32 - 1 by decide, Nat.testBit_two_pow_sub_one]
  simp [hi]
theorem bit1n {x q : Nat} : (¬ x >>> q &&& 1 = 1) ↔ x.testBit q = false := by
  rw [bit1]; simp
theorem andn_same {x way : Nat} (hx : x < 4096) (hw : way ≤ 1) : andn x (rot x (if way = 0 then 1 else 11)) = setN (bitR x way) 12 := by
  refine eq_setN (k := 12) (and_lt _ hx) (fun j hj => ?_)
  rw [Nat.testBit_and, xall_bit (by omega)]
  have hr : (rot x (if way = 0 then 1 else 11)).testBit j = x.testBit (ahd way j 1) := by
    unfold ahd
    by_cases h : way = 0
    · rw [if_pos h, if_pos h, rot_bit hx (by omega) hj, show (j + 12 - 1) % 12 = (j + 11 * 1) % 12 by omega]
    · rw [if_neg h, if_neg h, rot_bit hx (by omega) hj, show (j + 12 - 11) % 12 = (j + 1) % 12 by omega]
  rw [hr]
  unfold bitR
  have e1 := bit1 (x := x) (q := j)
  have e2 := bit1 (x := x) (q := ahd way j 1)
  cases h1 : x.testBit j
  · rw [decide_eq_false (fun q => by rw [e1.mp q.1] at h1; cases h1)]; rfl
  · cases h2 : x.testBit (ahd way j 1)
    · rw [decide_eq_true ⟨e1.mpr h1, fun q => by rw [e2.mp q] at h2; cases h2⟩]; rfl
    · rw [decide_eq_false (fun q => q.2 (e2.mpr h2))]; rfl
theorem str_same {M N : gMem} (h : relQ M N) (hw : wfR N) {a b : Nat} (ha : a < 5) (hb : b < 5) : strX M a b = strR N a b := by
  have fa := (rq_fig h ha).2.2.2.1
  have fb := (rq_fig h hb).2.2.2.1
  unfold strX strR
  rw [fa, fb, ups_same h hw ha, ups_same h hw hb, rq_way h]
  split
  · exact andn_same (and_lt _ (upsR_lt N a)) hw.way
  · rfl
theorem itb_eq {way a : Nat} (ha : a < 12) (k : Nat) : itb way a k = if way = 0 then (a + k) % 12 else (a + 11 * k) % 12 := by
  induction k with
  | zero => simp only [itb]; split <;> omega
  | succ k ih =>
    simp only [itb, bhd, ih]
    split <;> omega
theorem adv_same {way a n : Nat} (ha : a < 12) : adv way a n = itb way a (n % 12) := by
  rw [itb_eq ha]
  unfold adv
  split <;> omega
theorem acs_bit {way a n i : Nat} (ha : a < 12) : (acs way a n).testBit i = true ↔ ∃ j, j < n ∧ itb way a (j + 1) = i := by
  induction n with
  | zero =>
    simp only [acs]
    refine ⟨fun h => by simp at h, fun ⟨j, hj, _⟩ => absurd hj (Nat.not_lt_zero _)⟩
  | succ n ih =>
    simp only [acs, Nat.testBit_or, Bool.or_eq_true, ih, one_shl_bit, decide_eq_true_eq]
    constructor
    · rintro (⟨j, hj, h⟩ | h)
      · exact ⟨j, by omega, h⟩
      · exact ⟨n, by omega, h⟩
    · rintro ⟨j, hj, h⟩
      by_cases e : j = n
      · subst e; exact Or.inr h
      · exact Or.inl ⟨j, by omega, h⟩
theorem b2n_bit (x k : Nat) : x >>> k &&& 1 = b2n (x.testBit k) := by
  cases h : x.testBit k
  · have h1 : ¬ (x >>> k &&& 1 = 1) := fun e => by rw [bit1.mp e] at h; cases h
    have := and1_lt (x >>> k)
    show x >>> k &&& 1 = 0
    omega
  · exact bit1.mpr h
theorem cnt_same {x y n : Nat} (h : ∀ i, i < n → x.testBit i = y.testBit i) : cntN x n = cntN y n := by
  induction n with
  | zero => rfl
  | succ n ih => simp only [cntN]; rw [ih (fun i hi => h i (by omega)), b2n_bit, b2n_bit, h n (by omega)]
theorem cnt_add {x y p n : Nat} (hp : y.testBit p = false) (h : ∀ i, x.testBit i = (y.testBit i || decide (i = p))) : cntN x n = cntN y n + (if p < n then 1 else 0) := by
  induction n with
  | zero => simp [cntN]
  | succ n ih =>
    simp only [cntN, ih, b2n_bit, h n]
    by_cases e : n = p
    · subst e
      rw [hp, if_neg (by omega), if_pos (by omega)]; simp [b2n]
    · have e1 : (if p < n + 1 then 1 else 0) = (if p < n then (1 : Nat) else 0) := by
        by_cases h2 : p < n
        · rw [if_pos h2, if_pos (by omega)]
        · rw [if_neg h2, if_neg (by omega)]
      rw [e1]
      simp [e]; omega
theorem pop_same {x y : Nat} (h : ∀ i, i < 12 → x.testBit i = y.testBit i) : pop x = pop y := cnt_same h
theorem pop_add {x y p : Nat} (hp : y.testBit p = false) (hq : p < 12) (h : ∀ i, x.testBit i = (y.testBit i || decide (i = p))) : pop x = pop y + 1 := by
  have := cnt_add (n := 12) hp h
  rw [if_pos hq] at this
  exact this
theorem pth_1 {x y p : Nat} (hp : p < 12) (hno : y.testBit p = false) : pop (x &&& (y ||| 1 <<< p)) = pop (x &&& y) + b2n (x.testBit p) := by
  cases hx : x.testBit p
  · rw [show b2n false = 0 from rfl, Nat.add_zero]
    refine pop_same (fun i _ => ?_)
    rw [Nat.testBit_and, Nat.testBit_and, Nat.testBit_or, one_shl_bit]
    by_cases e : p = i
    · rw [← e, hx]; rfl
    · simp [e]
  · rw [show b2n true = 1 from rfl]
    refine pop_add (p := p) (by rw [Nat.testBit_and, hno]; simp) hp (fun i => ?_)
    rw [Nat.testBit_and, Nat.testBit_and, Nat.testBit_or, one_shl_bit]
    by_cases e : p = i
    · subst e; simp [hx]
    · simp [e, Ne.symm e]
theorem acs_s (way a n : Nat) : acs way a (n + 1) = acs way a n ||| 1 <<< itb way a (n + 1) := rfl
theorem pth_same {x way a n : Nat} (ha : a < 12) (hn : n ≤ 12) : pop (x &&& acs way a n) = sumN (pthN x way a) n := by
  induction n with
  | zero =>
    rw [show acs way a 0 = 0 from rfl, Nat.and_zero]
    rfl
  | succ n ih =>
    have hi := ih (by omega)
    have hlt : itb way a (n + 1) < 12 := bhd_lt _ _
    have hno : (acs way a n).testBit (itb way a (n + 1)) = false := by
      cases hq : (acs way a n).testBit (itb way a (n + 1))
      · rfl
      · obtain ⟨j, hj, he⟩ := (acs_bit ha).mp hq
        rw [itb_eq ha, itb_eq ha] at he
        exfalso
        split at he <;> omega
    rw [acs_s, pth_1 hlt hno, hi, ← b2n_bit]
    rfl
theorem sit_same {M N : gMem} (h : relQ M N) (hw : wfR N) (n : Nat) : sitX M n = sitR N n := by
  have hnf := hw.nf
  have hat := hw.at
  unfold sitX sitR
  rw [rq_nf h]
  refine sumN_congr (fun a ha => sumN_congr (fun j hj => ?_))
  unfold sitT sitU
  rw [str_same h hw (by omega) (by omega), rq_way h, rq_at h, pth_same (by omega) (by omega)]
