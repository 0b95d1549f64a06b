/-! the first memories stand in the law's relation -/
theorem mr_hi {k : Nat} (h : 124 ≤ k) : MR0 1 k = 0 := by
  show rf1 k = 0
  simp [rf1, upN, zQ, show k ≠ 104 by omega, show k ≠ 108 by omega, show k ≠ 109 by omega, show k ≠ 110 by omega, show k ≠ 111 by omega, show k ≠ 112 by omega, show k ≠ 113 by omega, show k ≠ 114 by omega, show k ≠ 115 by omega, show k ≠ 116 by omega, show k ≠ 117 by omega, show k ≠ 118 by omega, show k ≠ 119 by omega, show k ≠ 120 by omega, show k ≠ 121 by omega, show k ≠ 122 by omega, show k ≠ 123 by omega]
theorem mr_q : relQ MX0 MR0 := by
  refine ⟨⟨rfl, rfl⟩, by decide +kernel, by decide +kernel, ⟨rfl, rfl, rfl, rfl⟩, by decide +kernel, by decide +kernel⟩
theorem mr_j : dsj 0 MR0 := by
  unfold dsj
  decide +kernel
theorem mr_t : relT MX0 MR0 := ⟨rfl, by decide, rfl, fun k => by show zQ k < 256; exact Nat.zero_lt_succ _⟩
theorem mr_h : relH MX0 MR0 JZ JZ := by
  intro s hs
  refine ⟨?_, fun k _ => rfl⟩
  rcases (show s = 0 ∨ s = 1 ∨ s = 2 ∨ s = 3 by omega) with rfl | rfl | rfl | rfl <;> exact ⟨rfl, rfl, Or.inr rfl, Nat.zero_le _⟩
theorem mr_m : relM MX0 MR0 := Or.inl ⟨rfl, rfl⟩
theorem mr_w : wfR MR0 := by
  refine ⟨by decide +kernel, by decide +kernel, by decide +kernel, by decide +kernel, by decide +kernel, by decide +kernel, by decide +kernel, by decide +kernel, by decide +kernel⟩
theorem mr_g : relG MX0 MR0 := by
  refine ⟨fun a b h1 h2 _ _ => ?_, fun b => ⟨Nat.zero_lt_succ _, Nat.zero_lt_succ _⟩, fun b _ => ⟨rfl, rfl⟩⟩
  rcases (show a = 17 ∨ a = 18 ∨ a = 19 ∨ a = 20 ∨ a = 21 by omega) with rfl | rfl | rfl | rfl | rfl <;> exact Nat.zero_lt_succ _
theorem mr_all : RelA MX0 MR0 JZ JZ := ⟨⟨mr_q, mr_w, mr_j⟩, mr_t, mr_h, mr_m, mr_g⟩
