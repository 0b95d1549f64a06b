/-! sharing: both sides give one answer -/
theorem fsl_some {p : Nat → Option (Nat → Nat)} {k c i : Nat} {x : Nat → Nat} (h1 : c ≤ i) (h2 : i < c + k) (h : p i = some x) : ∃ y, fsl p k c = some y := by
  induction k generalizing c with
  | zero => omega
  | succ k ih =>
    cases hp : p c with
    | some y => exact ⟨y, fsl_t hp⟩
    | none =>
      rw [fsl_f hp]
      refine ih ?_ (by omega)
      rcases Nat.eq_or_lt_of_le h1 with e | e
      · rw [e, h] at hp; cases hp
      · omega
theorem srch_full {nf most : Nat} {U D : Nat → Nat} (hm : nf ≤ most) : ∀ (d f : Nat) (A : Nat → Nat), f + d = nf → useS A f ≤ f → ∃ A', srch U D most d f A = some A' := by
  intro d
  induction d with
  | zero => intro f A _ _; exact ⟨A, rfl⟩
  | succ d ih =>
    intro f A hf hu
    rw [srch_s]
    have e1 : 12 * useS A f / 12 = useS A f := by omega
    have e2 : 12 * useS A f % 12 = 0 := by omega
    obtain ⟨x, hx⟩ := ih (f + 1) (updS A f (12 * useS A f)) (by omega) (by rw [useS_upd (by omega)]; omega)
    refine fsl_some (i := 12 * useS A f) (x := x) (Nat.zero_le _) (by omega) ?_
    have hok : okD U D A f (12 * useS A f) := by
      refine ⟨Or.inr e2, fun e he hc => ?_⟩
      have h3 : A e / 12 < useS A f := usedN_gt (r := fun e => A e / 12) he
      omega
    show (if okD U D A f (12 * useS A f) then _ else _) = some x
    rw [if_pos hok, hx]
def A0 : Nat → Nat := fun _ => 0
theorem srch_0 (U D : Nat → Nat) (d : Nat) : srch U D 0 (d + 1) 0 A0 = none := by
  rw [srch_s, show 12 * min (useS A0 0 + 1) 0 = 0 by omega]
  rfl
/-- the reference's memory between its searches -/
def ivR (nf : Nat) (U D : Nat → Nat) (m : gMem) : Prop := m 1 73 = nf ∧ lt8 m ∧ (∀ b, b < 6 → m 8 b = 0 ∧ m 9 b = 0) ∧ ∀ e, e < nf → m 1 (94 + e) = U e ∧ m 1 (99 + e) = D e
theorem ivR.sh {nf : Nat} {U D : Nat → Nat} {m : gMem} (h : ivR nf U D m) (most : Nat) : ivR nf U D (shB m most).2 := by
  refine ⟨by rw [shB_1]; exact h.1, shB_lt8 h.2.1 most, fun b hb => ?_, fun e he => by rw [shB_1]; exact h.2.2.2 e he⟩
  rw [shB_kp m most 8 b (by omega), shB_kp m most 9 b (by omega)]
  exact h.2.2.1 b hb
theorem bits_0 (V A : Nat → Nat) (cam : Nat) : bitsS V A 0 cam 0 := fun i _ => by
  constructor
  · intro h; simp at h
  · rintro ⟨e, he, _⟩; exact absurd he (Nat.not_lt_zero _)
theorem shB_srch {nf most : Nat} {U D : Nat → Nat} {m : gMem} (h : ivR nf U D m) (hms : most ≤ 6) (hU : ∀ k, U k < 4096 ∧ D k < 4096) (hd : ∀ k, U k &&& D k = 0) : relS nf 6 7 (srch U D most nf 0 A0) (shB m most) := by
  unfold shB
  rw [h.1]
  refine tryR_srch hms hU hd nf 0 A0 (iniR m) (by omega) ⟨fun e he => absurd he (Nat.not_lt_zero _), fun e he => ?_, fun cam hc => ?_⟩ (shI_ini h.2.1) ?_
  · unfold iniR; simp only [u2]; simp; exact h.2.2.2 e he
  · have := h.2.2.1 cam hc
    have e8 : iniR m 8 (6 * 0 + cam) = 0 := by unfold iniR; simp [u2]; exact this.1
    have e9 : iniR m 9 (6 * 0 + cam) = 0 := by unfold iniR; simp [u2]; exact this.2
    rw [e8, e9]
    exact ⟨bits_0 _ _ _, bits_0 _ _ _, rfl⟩
  · unfold psn stL iniR; simp [u2]
def ivX (nf : Nat) (U D : Nat → Nat) (m : gMem) : Prop := ∀ a b, a < b → b < nf → m (17 + a) b = lgs (U a) (D a) (U b) (D b)
theorem ivX.kp {nf : Nat} {U D : Nat → Nat} {m m' : gMem} (h : ivX nf U D m) (hk : keeps 0 m m') : ivX nf U D m' := fun a b h1 h2 => by rw [hk (17 + a) b (by omega)]; exact h a b h1 h2
theorem seat_srch0 {nf most : Nat} {U D : Nat → Nat} {m : gMem} (h : ivX nf U D m) (hU : ∀ k, U k < 4096 ∧ D k < 4096) : relS nf 14 15 (srch U D most nf 0 A0) (seat most nf 0 0 m) := seat_srch hU nf 0 A0 m (by omega) ⟨fun e he => absurd he (Nat.not_lt_zero _), h⟩
theorem few_both {nf : Nat} {U D : Nat → Nat} (hU : ∀ k, U k < 4096 ∧ D k < 4096) (hd : ∀ k, U k &&& D k = 0) (hnf : nf ≤ 5) : ∀ (k most : Nat) (m m' : gMem), most + k = nf → ivX nf U D m → ivR nf U D m' → (shL nf k most m).1 = (fwR nf k most m').1 := by
  intro k
  induction k with
  | zero => intro most m m' _ _ _; rfl
  | succ k ih =>
    intro most m m' hm hx hr
    have h1 := seat_srch0 (most := most) hx hU
    have h2 := shB_srch (most := most) hr (by omega) hU hd
    rw [shL, fwR_s]
    cases hs : srch U D most nf 0 A0 with
    | some A' =>
      rw [hs] at h1 h2
      rw [if_pos h1.1, if_pos h2.1]
    | none =>
      rw [hs] at h1 h2
      have e1 : (seat most nf 0 0 m).1 = false := h1
      have e2 : (shB m' most).1 = false := h2
      rw [if_neg (by rw [e1]; decide), if_neg (by rw [e2]; decide)]
      exact ih (most + 1) _ _ (by omega) (hx.kp (seat_keeps _ _ _ _ _)) (hr.sh most)
theorem both_agree {nf : Nat} {A : Nat → Nat} {r r' : Bool × gMem} (h1 : relS nf 14 15 (some A) r) (h2 : relS nf 6 7 (some A) r') : ∀ e, e < nf → r'.2 6 e = r.2 14 e ∧ r'.2 7 e = r.2 15 e := by
  intro e he
  have := h1.2 e he
  have := h2.2 e he
  omega
theorem share_both {nf : Nat} {U D : Nat → Nat} (hU : ∀ k, U k < 4096 ∧ D k < 4096) (hd : ∀ k, U k &&& D k = 0) (hnf : nf ≤ 5) : ∀ (k most : Nat) (m m' : gMem), most + k = nf → ivX nf U D m → ivR nf U D m' → ∀ x, ∃ r, skR (x + (k + 1)) most m' = some r ∧ ivR nf U D r ∧ kpR 0 m' r ∧ ∀ e, e < nf → r 6 e = (shL nf k most m).2 14 e ∧ r 7 e = (shL nf k most m).2 15 e := by
  intro k
  induction k with
  | zero =>
    intro most m m' hm hx hr x
    have h1 := seat_srch0 (most := nf) hx hU
    have h2 := shB_srch (most := nf) hr (by omega) hU hd
    obtain ⟨A', hs⟩ := srch_full (nf := nf) (most := nf) (U := U) (D := D) (Nat.le_refl _) nf 0 A0 (by omega) (Nat.le_refl _)
    rw [hs] at h1 h2
    obtain rfl : most = nf := by omega
    refine ⟨(shB m' most).2, ?_, hr.sh most, shB_kp m' most, both_agree h1 h2⟩
    show skR (x + 1) most m' = _
    rw [skR_s, if_pos h2.1]
  | succ k ih =>
    intro most m m' hm hx hr x
    have h1 := seat_srch0 (most := most) hx hU
    have h2 := shB_srch (most := most) hr (by omega) hU hd
    rw [show x + (k + 1 + 1) = (x + (k + 1)) + 1 by omega, skR_s, shL]
    cases hs : srch U D most nf 0 A0 with
    | some A' =>
      rw [hs] at h1 h2
      rw [if_pos h1.1, if_pos h2.1]
      exact ⟨_, rfl, hr.sh most, shB_kp m' most, both_agree h1 h2⟩
    | none =>
      rw [hs] at h1 h2
      have e1 : (seat most nf 0 0 m).1 = false := h1
      have e2 : (shB m' most).1 = false := h2
      rw [if_neg (by rw [e2]; decide), if_neg (by rw [e1]; decide)]
      obtain ⟨r, hr1, hr2, hr3, hr4⟩ := ih (most + 1) _ _ (by omega) (hx.kp (seat_keeps most nf 0 0 m)) (hr.sh most) x
      exact ⟨r, hr1, hr2, (shB_kp m' most).tr hr3, hr4⟩
theorem fwR_iv {nf : Nat} {U D : Nat → Nat} : ∀ (k most : Nat) (m : gMem), ivR nf U D m → ivR nf U D (fwR nf k most m).2 ∧ kpR 0 m (fwR nf k most m).2 := by
  intro k
  induction k with
  | zero => intro most m h; exact ⟨h, kpR.rf⟩
  | succ k ih =>
    intro most m h
    rw [fwR_s]
    split
    · exact ⟨h.sh most, shB_kp m most⟩
    · have := ih (most + 1) _ (h.sh most)
      exact ⟨this.1, (shB_kp m most).tr this.2⟩
theorem shL_kp {nf : Nat} : ∀ (k most : Nat) (m : gMem), keeps 0 m (shL nf k most m).2 := by
  intro k
  induction k with
  | zero => intro most m; exact seat_keeps _ _ _ _ _
  | succ k ih =>
    intro most m
    rw [shL]
    split
    · exact seat_keeps _ _ _ _ _
    · exact (seat_keeps _ _ _ _ _).tr (ih _ _)
theorem ivX_cmp {M : gMem} {nf : Nat} {U D : Nat → Nat} (h : ∀ e, e < nf → M (32 + e) 4 = U e ∧ M (32 + e) 5 = D e) : ivX nf U D (cmpM M nf) := by
  intro a b h1 h2
  simp only [cmpM]
  rw [if_pos (by omega), show 17 + a - 17 = a by omega]
  unfold lgX
  rw [(h a (by omega)).1, (h a (by omega)).2, (h b h2).1, (h b h2).2]
