/-! the relation kept: signs read -/
theorem twX {M : gMem} {f : Nat → Nat} {q : Nat} (hq : q < 12) : u2 (rowN M 3 12 f) 1 2 0 3 q = f q := by rw [u2_row (by decide), rowN_in hq]
theorem twR {N : gMem} {f : Nat → Nat} {q : Nat} (hq : q < 12) : rowN (u2 N 0 3 0) 3 12 f 3 q = f q := rowN_in hq
def sgX (M : gMem) (ok : Nat → Bool) (sg : Nat → Nat) : gMem := u2 (rowN M 3 12 (rdS (M 2) ok sg 0 0 (M 1 2) (M 3))) 1 2 0
def sgR (N : gMem) (ok : Nat → Bool) : gMem := rowN (u2 N 0 3 0) 3 12 (rdS (N 2) ok (fun b => b) 0 0 (N 0 3) (N 3))
theorem rd_same {M N : gMem} {J K : gMeL} (h : RelA M N J K) (ok : Nat → Bool) : rdF (M 2) ok (M 1 2) 0 0 (M 1 2) = rdF (N 2) ok (N 0 3) 0 0 (N 0 3) := by
  rw [h.2.1.1, h.2.1.2.2.1]
theorem rd_le {M N : gMem} {J K : gMeL} (h : RelA M N J K) {ok : Nat → Bool} {p : Nat} (hp : rdF (N 2) ok (N 0 3) 0 0 (N 0 3) = some p) : p ≤ 40 :=
  Nat.le_trans (rdF_le _ _ _ _ (by omega) hp) h.2.1.2.1
theorem sg_rel {M N : gMem} {J K : gMeL} (h : RelA M N J K) (ok : Nat → Bool) (sg : Nat → Nat) : RelA (sgX M ok sg) (sgR N ok) J K := h.tape _ _
theorem sg_d {M N : gMem} {J K : gMeL} (h : RelA M N J K) (hn : rdF (N 2) okd (N 0 3) 0 0 (N 0 3) = none) : ∀ q, q < 12 → sgX M okd (fun b => b - 48) 3 q = sgR N okd 3 q - 48 ∧ 48 ≤ sgR N okd 3 q ∧ sgR N okd 3 q ≤ 57 := fun q hq => by
  unfold sgX sgR
  rw [twX hq, twR hq, h.2.1.1, h.2.1.2.2.1]
  exact rdS_d _ _ _ _ _ (fun q hq => absurd hq (Nat.not_lt_zero _)) hn q hq
theorem sg_w {M N : gMem} {J K : gMeL} (h : RelA M N J K) (hn : rdF (N 2) okw (N 0 3) 0 0 (N 0 3) = none) : ∀ q, q < 12 → sgX M okw (fun b => b) 3 q = sgR N okw 3 q ∧ sgR N okw 3 q < 256 := fun q hq => by
  unfold sgX sgR
  rw [twX hq, twR hq, h.2.1.1, h.2.1.2.2.1]
  exact rdS_w _ _ _ _ _ (fun q hq => absurd hq (Nat.not_lt_zero _)) hn q hq
theorem cam_both {M N : gMem} {J K : gMeL} (h : RelA M N J K) (hn : rdF (N 2) okd (N 0 3) 0 0 (N 0 3) = none) (hc : N 1 0 < 6) : RelA (u2 (gcpy (sgX M okd (fun b => b - 48)) 3 0 (25 + M 23 1) 0 12) 23 1 (M 23 1 + 1)) (u2 (camR (sgR N okd) (N 1 0) 12) 1 0 (N 1 0 + 1)) J K := by
  have h1 := sg_rel h okd (fun b => b - 48)
  have e1 : sgX M okd (fun b => b - 48) 23 1 = M 23 1 := by unfold sgX; rw [u2_row (by decide), rowN_out (by decide)]
  have e2 : sgR N okd 1 0 = N 1 0 := by unfold sgR; rw [rowN_out (by decide), u2_row (by decide)]
  have := cam_rel h1 (by rw [e2]; exact hc) (sg_d h hn)
  rwa [e1, e2] at this
def pU (m : gMem) : Nat := setN (fun q => decide (m 3 q = 117)) 12
def pD (m : gMem) : Nat := setN (fun q => decide (m 3 q = 100)) 12
def pDX (m : gMem) : Nat := setN (fun q => decide (¬ m 3 q = 117 ∧ m 3 q = 100)) 12
theorem pU_same {M N : gMem} {J K : gMeL} (h : RelA M N J K) (hn : rdF (N 2) okw (N 0 3) 0 0 (N 0 3) = none) : pU (sgX M okw (fun b => b)) = pU (sgR N okw) := setN_congr (fun q hq => by rw [(sg_w h hn q hq).1])
theorem pD_same {M N : gMem} {J K : gMeL} (h : RelA M N J K) (hn : rdF (N 2) okw (N 0 3) 0 0 (N 0 3) = none) : pDX (sgX M okw (fun b => b)) = pD (sgR N okw) := setN_congr (fun q hq => by
  rw [(sg_w h hn q hq).1]
  by_cases e : sgR N okw 3 q = 100
  · rw [decide_eq_true e, decide_eq_true ⟨by omega, e⟩]
  · rw [decide_eq_false e, decide_eq_false (fun x => e x.2)])
theorem pUD (m : gMem) : pU m &&& pD m = 0 := by
  unfold pU pD
  rw [and0 (setN_12 _)]
  intro i hi hh
  rw [setN_bit, setN_bit] at hh
  simp at hh
  omega
theorem wish_both {M N : gMem} {J K : gMeL} (h : RelA M N J K) {k : Nat} (hk : k < 5) (hn : rdF (N 2) okw (N 0 3) 0 0 (N 0 3) = none) : RelA (w45 (sgX M okw (fun b => b)) (32 + k) (pU (sgX M okw (fun b => b))) (pDX (sgX M okw (fun b => b)))) (u2 (u2 (sgR N okw) 1 (94 + k) (pU (sgR N okw))) 1 (99 + k) (pD (sgR N okw))) J K := by
  rw [pU_same h hn, pD_same h hn]
  exact wish_rel (sg_rel h okw _) hk (setN_12 _) (setN_12 _) (pUD _)
/-! typing -/
theorem type_rel {M N : gMem} {J K : gMeL} (h : RelA M N J K) (w : Int64) {n : Nat} (hn : M 1 2 + n ≤ 40) : RelA (apM M w n n) (apR N w n n) J K := by
  have hl := h.2.1.1
  have eM : ∀ r, r ≠ 1 → r ≠ 2 → apM M w n n r = M r := fun r h1 h2 => by funext b; simp only [apM]; rw [if_neg (by omega), if_neg (by omega)]
  have eN : ∀ r, r ≠ 0 → r ≠ 2 → apR N w n n r = N r := fun r h1 h2 => by funext b; simp only [apR]; rw [if_neg (by omega), if_neg (by omega)]
  have e1 := eN 1 (by decide) (by decide)
  refine ⟨⟨rq_keep h.1.1 (fun r _ _ => eM r (by omega) (by omega)) e1, by show wfF _; rw [e1]; exact h.1.2.1, by unfold dsj; rw [e1]; exact h.1.2.2⟩, ⟨?_, ?_, ?_, fun k => ?_⟩, h.2.2.1.keep (fun r _ _ => eM r (by omega) (by omega)) (eN 10 (by decide) (by decide)) (eN 11 (by decide) (by decide)) (fun _ _ _ => rfl) rfl, h.2.2.2.1.keep (by rw [eM 0 (by decide) (by decide)]) (fun r _ _ => eM r (by omega) (by omega)) ?_ (fun k _ => by rw [e1]), h.2.2.2.2.keep (fun r _ _ => eM r (by omega) (by omega)) (eN 8 (by decide) (by decide)) (eN 9 (by decide) (by decide))⟩
  · have a1 : apM M w n n 1 2 = M 1 2 + n := by simp [apM]
    have a2 : apR N w n n 0 3 = N 0 3 + n := by simp [apR]
    rw [a1, a2, hl]
  · have a2 : apR N w n n 0 3 = N 0 3 + n := by simp [apR]
    rw [a2]; omega
  · funext b
    show (if 2 = 1 ∧ b = 2 then M 1 2 + n else if 2 = 2 ∧ M 1 2 ≤ b ∧ b < M 1 2 + n then byt w (n - (b - M 1 2 + 1)) else M 2 b) = (if 2 = 0 ∧ b = 3 then N 0 3 + n else if 2 = 2 ∧ N 0 3 ≤ b ∧ b < N 0 3 + n then byt w (n - (b - N 0 3 + 1)) else N 2 b)
    rw [if_neg (show ¬ (2 = 1 ∧ b = 2) by omega), if_neg (show ¬ (2 = 0 ∧ b = 3) by omega), hl, h.2.1.2.2.1]
  · show (if 2 = 0 ∧ k = 3 then N 0 3 + n else if 2 = 2 ∧ N 0 3 ≤ k ∧ k < N 0 3 + n then byt w (n - (k - N 0 3 + 1)) else N 2 k) < 256
    rw [if_neg (by omega)]
    split
    · exact byt_lt _ _
    · exact h.2.1.2.2.2 k
  · show (if 0 = 0 ∧ 1 = 3 then N 0 3 + n else if 0 = 2 ∧ N 0 3 ≤ 1 ∧ 1 < N 0 3 + n then byt w (n - (1 - N 0 3 + 1)) else N 0 1) = N 0 1
    rw [if_neg (by omega), if_neg (by omega)]
