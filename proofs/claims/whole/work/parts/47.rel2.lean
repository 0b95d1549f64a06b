/-! where a cell of the play lies in the reference's row -/
def dm (r c p : Nat) : Prop := (r = 23 ∧ (c = 1 ∧ p = 0 ∨ c = 3 ∧ p = 73 ∨ c = 4 ∧ p = 104 ∨ c = 5 ∧ p = 105 ∨ c = 6 ∧ p = 106 ∨ c = 7 ∧ p = 107)) ∨ (25 ≤ r ∧ r ≤ 30 ∧ c < 12 ∧ p = 1 + 12 * (r - 25) + c) ∨ (32 ≤ r ∧ r ≤ 36 ∧ c < 6 ∧ p = 74 + 5 * c + (r - 32)) ∨ (r = 37 ∧ c < 12 ∧ p = 108 + c) ∨ (r = 38 ∧ c < 4 ∧ p = 120 + c)
theorem dm_lt {r c p : Nat} (h : dm r c p) : p < 124 ∧ 23 ≤ r ∧ r ≤ 38 := by unfold dm at h; omega
theorem dm_inj {r c p r' c' p' : Nat} (h : dm r c p) (h' : dm r' c' p') : (r' = r ∧ c' = c) ↔ p' = p := by
  unfold dm at h h'
  constructor
  · rintro ⟨rfl, rfl⟩
    omega
  · intro e
    subst e
    rcases h with h | h | h | h | h <;> rcases h' with h' | h' | h' | h' | h' <;> omega
theorem relP_iff {b o : Nat} {M N : gMem} : relP b o M N ↔ ∀ r c p, dm r c p → M (b + (r - 23)) c = N 1 (o + p) := by
  constructor
  · intro h r c p hd
    unfold dm at hd
    rcases hd with ⟨rfl, hd⟩ | ⟨h1, h2, h3, rfl⟩ | ⟨h1, h2, h3, rfl⟩ | ⟨rfl, h3, rfl⟩ | ⟨rfl, h3, rfl⟩
    · rcases hd with ⟨rfl, rfl⟩ | ⟨rfl, rfl⟩ | ⟨rfl, rfl⟩ | ⟨rfl, rfl⟩ | ⟨rfl, rfl⟩ | ⟨rfl, rfl⟩
      · exact h.1.1
      · exact h.1.2
      · exact h.2.2.2.1.1
      · exact h.2.2.2.1.2.1
      · exact h.2.2.2.1.2.2.1
      · exact h.2.2.2.1.2.2.2
    · have := h.2.1 (r - 25) (by omega) c h3
      rwa [show b + 2 + (r - 25) = b + (r - 23) by omega] at this
    · have := h.2.2.1 (r - 32) (by omega)
      rw [show b + 9 + (r - 32) = b + (r - 23) by omega] at this
      rcases (show c = 0 ∨ c = 1 ∨ c = 2 ∨ c = 3 ∨ c = 4 ∨ c = 5 by omega) with rfl | rfl | rfl | rfl | rfl | rfl
      · exact this.1
      · exact this.2.1
      · exact this.2.2.1
      · exact this.2.2.2.1
      · exact this.2.2.2.2.1
      · exact this.2.2.2.2.2
    · exact h.2.2.2.2.1 c h3
    · exact h.2.2.2.2.2 c h3
  · intro h
    refine ⟨⟨h 23 1 0 (by unfold dm; omega), h 23 3 73 (by unfold dm; omega)⟩, fun c hc a ha => ?_, fun k hk => ?_, ⟨h 23 4 104 (by unfold dm; omega), h 23 5 105 (by unfold dm; omega), h 23 6 106 (by unfold dm; omega), h 23 7 107 (by unfold dm; omega)⟩, fun a ha => h 37 a (108 + a) (by unfold dm; omega), fun k hk => h 38 k (120 + k) (by unfold dm; omega)⟩
    · have := h (25 + c) a (1 + 12 * c + a) (by unfold dm; omega)
      rwa [show b + (25 + c - 23) = b + 2 + c by omega] at this
    · have e : b + (32 + k - 23) = b + 9 + k := by omega
      have h0 := h (32 + k) 0 (74 + k) (by unfold dm; omega)
      have h1 := h (32 + k) 1 (79 + k) (by unfold dm; omega)
      have h2 := h (32 + k) 2 (84 + k) (by unfold dm; omega)
      have h3 := h (32 + k) 3 (89 + k) (by unfold dm; omega)
      have h4 := h (32 + k) 4 (94 + k) (by unfold dm; omega)
      have h5 := h (32 + k) 5 (99 + k) (by unfold dm; omega)
      rw [e] at h0 h1 h2 h3 h4 h5
      exact ⟨h0, h1, h2, h3, h4, h5⟩
theorem relQ_iff {M N : gMem} : relQ M N ↔ ∀ r c p, dm r c p → M r c = N 1 p := by
  refine (relP_iff (b := 23) (o := 0)).trans ⟨fun h r c p hd => ?_, fun h r c p hd => ?_⟩
  · have := h r c p hd
    have := dm_lt hd
    rwa [show 23 + (r - 23) = r by omega, Nat.zero_add] at *
  · have h1 := dm_lt hd
    rw [show 23 + (r - 23) = r by omega, Nat.zero_add]
    exact h r c p hd
theorem rq_upd {M N : gMem} (h : relQ M N) {r c p : Nat} (hd : dm r c p) (v : Nat) : relQ (u2 M r c v) (u2 N 1 p v) := by
  rw [relQ_iff] at *
  intro r' c' p' hd'
  have hi := dm_inj hd hd'
  simp only [u2, true_and]
  by_cases hp : p' = p
  · rw [if_pos (hi.mpr hp), if_pos hp]
  · rw [if_neg (fun q => hp (hi.mp q)), if_neg hp]; exact h r' c' p' hd'
theorem rq_keep {M N M' N' : gMem} (h : relQ M N) (hM : ∀ r, 23 ≤ r → r ≤ 38 → M' r = M r) (hN : N' 1 = N 1) : relQ M' N' := by
  rw [relQ_iff] at *
  intro r c p hd
  have := dm_lt hd
  rw [hM r (by omega) (by omega), hN]
  exact h r c p hd
/-! the bounds, place by place -/
def hiW (p : Nat) : Nat := if p = 0 then 6 else if p < 73 then 9 else if p = 73 then 5 else if p < 79 then 3 else if p < 84 then 5 else if p < 89 then 11 else if p < 94 then 3 else if p < 104 then 4095 else if p = 104 then 9 else if p = 105 then 1 else if p = 106 then 11 else if p = 107 then 1000000000 else if p < 120 then 99 else 1023
def loW (p : Nat) : Nat := if p = 104 ∨ (108 ≤ p ∧ p < 120) then 1 else 0
theorem wf_iff {P : Nat → Nat} : wfF P ↔ ∀ p, p < 124 → loW p ≤ P p ∧ P p ≤ hiW p := by
  constructor
  · intro h p hp
    have hn := h.nc
    have hf := h.nf
    have hl := h.line
    have hw := h.way
    have ha := h.at
    have hs := h.passed
    unfold loW hiW
    rcases (show p = 0 ∨ (1 ≤ p ∧ p < 73) ∨ p = 73 ∨ (74 ≤ p ∧ p < 104) ∨ p = 104 ∨ p = 105 ∨ p = 106 ∨ p = 107 ∨ (108 ≤ p ∧ p < 120) ∨ (120 ≤ p ∧ p < 124) by omega) with e | e | e | e | e | e | e | e | e | e
    · subst e; simp; omega
    · have := h.hair (k := p - 1) (by omega)
      rw [show 1 + (p - 1) = p by omega] at this
      rw [if_neg (by omega), if_neg (by omega), if_pos (by omega)]; omega
    · subst e; simp; omega
    · have hq := h.fig (k := (p - 74) % 5) (by omega)
      rcases (show p = 74 + (p - 74) % 5 ∨ p = 79 + (p - 74) % 5 ∨ p = 84 + (p - 74) % 5 ∨ p = 89 + (p - 74) % 5 ∨ p = 94 + (p - 74) % 5 ∨ p = 99 + (p - 74) % 5 by omega) with e1 | e1 | e1 | e1 | e1 | e1
      · rw [← e1] at hq; rw [if_neg (by omega), if_neg (by omega), if_neg (by omega), if_neg (by omega), if_pos (by omega)]; omega
      · rw [← e1] at hq; rw [if_neg (by omega), if_neg (by omega), if_neg (by omega), if_neg (by omega), if_neg (by omega), if_pos (by omega)]; omega
      · rw [← e1] at hq; rw [if_neg (by omega), if_neg (by omega), if_neg (by omega), if_neg (by omega), if_neg (by omega), if_neg (by omega), if_pos (by omega)]; omega
      · rw [← e1] at hq; rw [if_neg (by omega), if_neg (by omega), if_neg (by omega), if_neg (by omega), if_neg (by omega), if_neg (by omega), if_neg (by omega), if_pos (by omega)]; omega
      · rw [← e1] at hq; rw [if_neg (by omega), if_neg (by omega), if_neg (by omega), if_neg (by omega), if_neg (by omega), if_neg (by omega), if_neg (by omega), if_neg (by omega), if_pos (by omega)]; omega
      · rw [← e1] at hq; rw [if_neg (by omega), if_neg (by omega), if_neg (by omega), if_neg (by omega), if_neg (by omega), if_neg (by omega), if_neg (by omega), if_neg (by omega), if_pos (by omega)]; omega
    · subst e; simp; omega
    · subst e; simp; omega
    · subst e; simp; omega
    · subst e; simp; omega
    · have := h.beat (a := p - 108) (by omega)
      rw [show 108 + (p - 108) = p by omega] at this
      rw [if_pos (by omega), if_neg (by omega), if_neg (by omega), if_neg (by omega), if_neg (by omega), if_neg (by omega), if_neg (by omega), if_neg (by omega), if_neg (by omega), if_neg (by omega), if_neg (by omega), if_neg (by omega), if_neg (by omega), if_pos (by omega)]; omega
    · have := h.hand (k := p - 120) (by omega)
      rw [show 120 + (p - 120) = p by omega] at this
      rw [if_neg (by omega), if_neg (by omega), if_neg (by omega), if_neg (by omega), if_neg (by omega), if_neg (by omega), if_neg (by omega), if_neg (by omega), if_neg (by omega), if_neg (by omega), if_neg (by omega), if_neg (by omega), if_neg (by omega), if_neg (by omega)]; omega
  · intro h
    refine ⟨⟨(h 0 (by omega)).2, (h 73 (by omega)).2⟩, fun k hk => ?_, fun f hf => ?_, ⟨(h 104 (by omega)).1, (h 104 (by omega)).2⟩, (h 105 (by omega)).2, (h 106 (by omega)).2, (h 107 (by omega)).2, fun a ha => ?_, fun k hk => ?_⟩
    · have := (h (1 + k) (by omega)).2
      unfold hiW at this
      rwa [if_neg (by omega), if_pos (by omega)] at this
    · have h0 := (h (74 + f) (by omega)).2
      have h1 := (h (79 + f) (by omega)).2
      have h2 := (h (84 + f) (by omega)).2
      have h3 := (h (89 + f) (by omega)).2
      have h4 := (h (94 + f) (by omega)).2
      have h5 := (h (99 + f) (by omega)).2
      unfold hiW at h0 h1 h2 h3 h4 h5
      rw [if_neg (by omega), if_neg (by omega), if_neg (by omega), if_pos (by omega)] at h0
      rw [if_neg (by omega), if_neg (by omega), if_neg (by omega), if_neg (by omega), if_pos (by omega)] at h1
      rw [if_neg (by omega), if_neg (by omega), if_neg (by omega), if_neg (by omega), if_neg (by omega), if_pos (by omega)] at h2
      rw [if_neg (by omega), if_neg (by omega), if_neg (by omega), if_neg (by omega), if_neg (by omega), if_neg (by omega), if_pos (by omega)] at h3
      rw [if_neg (by omega), if_neg (by omega), if_neg (by omega), if_neg (by omega), if_neg (by omega), if_neg (by omega), if_neg (by omega), if_pos (by omega)] at h4
      rw [if_neg (by omega), if_neg (by omega), if_neg (by omega), if_neg (by omega), if_neg (by omega), if_neg (by omega), if_neg (by omega), if_pos (by omega)] at h5
      omega
    · have := h (108 + a) (by omega)
      unfold hiW loW at this
      rw [if_pos (by omega), if_neg (by omega), if_neg (by omega), if_neg (by omega), if_neg (by omega), if_neg (by omega), if_neg (by omega), if_neg (by omega), if_neg (by omega), if_neg (by omega), if_neg (by omega), if_neg (by omega), if_neg (by omega), if_pos (by omega)] at this
      exact this
    · have := (h (120 + k) (by omega)).2
      unfold hiW at this
      rwa [if_neg (by omega), if_neg (by omega), if_neg (by omega), if_neg (by omega), if_neg (by omega), if_neg (by omega), if_neg (by omega), if_neg (by omega), if_neg (by omega), if_neg (by omega), if_neg (by omega), if_neg (by omega), if_neg (by omega)] at this
theorem wf_upd {N : gMem} (h : wfR N) {p v : Nat} (h1 : loW p ≤ v) (h2 : v ≤ hiW p) : wfR (u2 N 1 p v) := by
  show wfF (u2 N 1 p v 1)
  have h' : ∀ p, p < 124 → loW p ≤ N 1 p ∧ N 1 p ≤ hiW p := wf_iff.mp h
  rw [wf_iff]
  intro q hq
  simp only [u2, true_and]
  by_cases e : q = p
  · rw [if_pos e, e]; exact ⟨h1, h2⟩
  · rw [if_neg e]; exact h' q hq
