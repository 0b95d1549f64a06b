/-! the relation kept: worn, sharing; wear -/
theorem allF_iff {p : Nat → Bool} : ∀ d k, allF p k d = true ↔ ∀ j, k ≤ j → j < k + d → p j = true
  | 0, k => ⟨fun _ j h1 h2 => absurd h2 (by omega), fun _ => rfl⟩
  | d + 1, k => by
    simp only [allF]
    by_cases h : p k = true
    · rw [if_pos h, allF_iff d (k + 1)]
      refine ⟨fun hh j h1 h2 => ?_, fun hh j h1 h2 => hh j (by omega) (by omega)⟩
      by_cases e : j = k
      · rw [e]; exact h
      · exact hh j (by omega) (by omega)
    · rw [if_neg h]
      refine ⟨fun hh => (by cases hh), fun hh => absurd (hh k (Nat.le_refl _) (by omega)) h⟩
theorem allP_iff {p : Nat → Bool} : ∀ n, allP p n = true ↔ ∀ j, j < n → p j = true
  | 0 => ⟨fun _ j h => absurd h (Nat.not_lt_zero _), fun _ => rfl⟩
  | n + 1 => by
    show (allP p n && p n) = true ↔ _
    rw [Bool.and_eq_true, allP_iff n]
    refine ⟨fun hh j h => ?_, fun hh => ⟨fun j h => hh j (by omega), hh n (by omega)⟩⟩
    by_cases e : j = n
    · rw [e]; exact hh.2
    · exact hh.1 j (by omega)
theorem all_same {p q : Nat → Bool} {n : Nat} (h : ∀ j, j < n → p j = q j) : allF p 0 n = allP q n := by
  rw [Bool.eq_iff_iff, allF_iff, allP_iff]
  refine ⟨fun hh j hj => by rw [← h j hj]; exact hh j (Nat.zero_le _) (by omega), fun hh j _ hj => by rw [h j (by omega)]; exact hh j (by omega)⟩
theorem soN_same {M N : gMem} {J K : gMeL} (h : RelA M N J K) {s i : Nat} (hs : s < 4) (hi : i + M 23 3 ≤ 24) : soN M J s i = soR N K (24 * s + i) := by
  have hnf := h.1.2.1.nf
  have e := rq_nf h.1.1
  unfold soN soR
  rw [← e]
  refine all_same (fun k hk => ?_)
  rw [(h.2.2.1 s hs).2 (i + k) (by omega), ups_same h.1.1 h.1.2.1 (by omega), Nat.add_assoc]
theorem wnL_1 {N : gMem} {w c p : Nat} (h : p = 0 ∨ 73 ≤ p) (hc : c < 6) : wnL N w c 1 p = N 1 p := wq_1 (q := 12) h hc (by omega)
theorem wnL_row {N : gMem} {w c d : Nat} {a : Nat} (ha : a < 12) : rowR (wnL N w c) d a = if d = c then N 1 (1 + 12 * c + a) - w else N 1 (1 + 12 * d + a) := by
  show wnL N w c 1 (1 + 12 * d + a) = _
  unfold wnL
  by_cases e : d = c
  · subst e
    rw [if_pos rfl, rowO_in ha]; rfl
  · rw [if_neg e, rowO_no (by omega), rowN_out (by decide), wnR_1]
theorem soW_same {M N : gMem} {J K : gMeL} (h : RelA M N J K) {s i w c : Nat} (hs : s < 4) (hi : i + M 23 3 ≤ 24) (hc : c < 6) : soW M J s i w c = soR (wnL N w c) K (24 * s + i) := by
  have hnf := h.1.2.1.nf
  have e := rq_nf h.1.1
  unfold soW soR
  rw [wnL_1 (by omega) hc, ← e]
  refine all_same (fun k hk => ?_)
  have hk5 : k < 5 := by omega
  rw [(h.2.2.1 s hs).2 (i + k) (by omega), Nat.add_assoc]
  obtain ⟨h0, h1, h2, h3, h4, h5⟩ := rq_fig h.1.1 hk5
  have hcam := (h.1.2.1.fig hk5).2.1
  have eu : upsV M w c k = upsR (wnL N w c) k := by
    unfold upsV upsX upsR
    rw [wnL_1 (p := 79 + k) (by omega) hc, wnL_1 (p := 84 + k) (by omega) hc, wnL_1 (p := 105) (by omega) hc, wnL_1 (p := 74 + k) (by omega) hc, wnL_1 (p := 104) (by omega) hc, h1, h2, h0, rq_way h.1.1, rq_line h.1.1]
    by_cases ec : N 1 (79 + k) = c
    · rw [if_pos ec]
      refine ups_congr (fun a ha => ?_) _ _ _ _
      rw [wnL_row ha, if_pos ec]
      show M (25 + c) a - w = _
      rw [rq_row h.1.1 hc a ha]; rfl
    · rw [if_neg ec]
      refine ups_congr (fun a ha => ?_) _ _ _ _
      rw [wnL_row ha, if_neg ec, rq_row h.1.1 (by omega) a ha]; rfl
  rw [eu]
theorem fnd_congr {b : Nat} {p q : Nat → Bool} : ∀ n, (∀ c, c < n → p c = q c) → fnd b p n = fnd b q n
  | 0, _ => rfl
  | n + 1, h => by simp only [fnd]; rw [fnd_congr n (fun c hc => h c (by omega)), h n (by omega)]
theorem worn_same {M N : gMem} {J K : gMeL} (h : RelA M N J K) {s i w : Nat} (hs : s < 4) (hi : i + M 23 3 ≤ 24) : fnd (if soN M J s i = true then 64 else 0) (fun q => soW M J s i w q) (M 23 1) = fnd (if soR N K (24 * s + i) = true then 64 else 0) (fun x7 => soR (wnL N w x7) K (24 * s + i)) (N 1 0) := by
  have hnc := h.1.2.1.nc
  rw [soN_same h hs hi, rq_nc h.1.1]
  exact fnd_congr _ (fun c hc => soW_same h hs hi (by omega))
theorem worn_rel {M N : gMem} {J K : gMeL} (h : RelA M N J K) (w n n' : Nat) : RelA (wnM M w n) (wnR N n') J K := by
  have e1 := wnR_1 N n'
  refine h.play (rq_keep h.1.1 (fun r _ _ => wnM_out (by omega)) e1) (by show wfF _; rw [e1]; exact h.1.2.1) (by unfold dsj; rw [e1]; exact h.1.2.2) (fun r hr => wnM_out (by omega)) (fun r _ h4 _ => wnR_out h4) (fun k _ => by rw [e1])
theorem wear_relA {M N : gMem} {J K : gMeL} (h : RelA M N J K) (n : Nat) : RelA (wearM M n (M 23 1)) (wmT N (12 * N 1 0) n) J K := by
  have hnc := h.1.2.1.nc
  have e := rq_nc h.1.1
  refine h.play (wear_rel h.1.1 h.1.2.1 n) (wear_wf h.1.2.1 n) (fun k hk => ?_) (fun r hr => wearM_out (by omega)) (fun r h1 h4 h5 => wmT_out h1 h4 h5) (fun k hk => wmT_no (by omega))
  rw [wmT_no (by omega), wmT_no (by omega)]
  exact h.1.2.2 k hk
/-! sharing -/
def UU (N : gMem) (b : Nat) : Nat → Nat := fun k => if k < 5 then N 1 (b + k) else 0
theorem UU_lt {N : gMem} (hw : wfR N) (k : Nat) : UU N 94 k < 4096 ∧ UU N 99 k < 4096 := by
  unfold UU
  by_cases hk : k < 5
  · rw [if_pos hk, if_pos hk]; exact ⟨(hw.fig hk).2.2.2.2.1, (hw.fig hk).2.2.2.2.2⟩
  · rw [if_neg hk, if_neg hk]; omega
theorem UU_dis {N : gMem} (hd : dsj 0 N) (k : Nat) : UU N 94 k &&& UU N 99 k = 0 := by
  unfold UU
  by_cases hk : k < 5
  · rw [if_pos hk, if_pos hk]
    have := hd k hk
    rwa [Nat.zero_add, Nat.zero_add] at this
  · rw [if_neg hk, if_neg hk]; rfl
theorem RelA.ivR {M N : gMem} {J K : gMeL} (h : RelA M N J K) : ivR (N 1 73) (UU N 94) (UU N 99) N := by
  have hnf := h.1.2.1.nf
  refine ⟨rfl, h.2.2.2.2.2.1, h.2.2.2.2.2.2, fun e he => ?_⟩
  unfold UU
  rw [if_pos (by omega), if_pos (by omega)]; exact ⟨rfl, rfl⟩
theorem RelA.ivX {M N : gMem} {J K : gMeL} (h : RelA M N J K) : ivX (N 1 73) (UU N 94) (UU N 99) (cmpM M (N 1 73)) := by
  have hnf := h.1.2.1.nf
  refine ivX_cmp (fun e he => ?_)
  have := rq_fig h.1.1 (show e < 5 by omega)
  unfold UU
  rw [if_pos (by omega), if_pos (by omega)]; exact ⟨this.2.2.2.2.1, this.2.2.2.2.2⟩
theorem RelA.share {M N M' N' : gMem} {J K : gMeL} (h : RelA M N J K) (hM : ∀ r, r < 14 ∨ 22 ≤ r → M' r = M r) (hL : wfL M') (hk : kpR 0 N N') (h8 : lt8 N') (hz : ∀ b, b < 6 → N' 8 b = 0 ∧ N' 9 b = 0) : RelA M' N' J K := by
  have eN : ∀ r, r < 6 ∨ 10 ≤ r → N' r = N r := fun r hr => by funext b; exact hk r b (by omega)
  have e1 := eN 1 (by omega)
  refine ⟨⟨rq_keep h.1.1 (fun r _ _ => hM r (by omega)) e1, by show wfF _; rw [e1]; exact h.1.2.1, by unfold dsj; rw [e1]; exact h.1.2.2⟩, ?_, h.2.2.1.keep (fun r _ _ => hM r (by omega)) (eN 10 (by omega)) (eN 11 (by omega)) (fun _ _ _ => rfl) rfl, h.2.2.2.1.keep (by rw [hM 0 (by omega)]) (fun r _ _ => hM r (by omega)) (by rw [eN 0 (by omega)]) (fun k _ => by rw [e1]), hL, h8, hz⟩
  unfold relT
  rw [hM 1 (by omega), hM 2 (by omega), eN 0 (by omega), eN 2 (by omega)]
  exact h.2.1
theorem shX_out {M : gMem} (hn : M 23 3 ≤ 5) {r : Nat} (hr : r < 14 ∨ 22 ≤ r) : (shX M).2 r = M r := by
  funext b
  unfold shX
  rw [shL_kp _ _ _ r b (by omega), cmpM_out hn (by omega)]
theorem shX_wfL {M : gMem} (hn : M 23 3 ≤ 5) (h : wfL M) : wfL (shX M).2 := fun a b h1 h2 h3 h4 => by
  unfold shX
  rw [shL_kp _ _ _ a b (by omega)]
  exact (seatOk0 hn h).2 a b h1 h2 h3 h4
theorem few_rel {M N : gMem} {J K : gMeL} (h : RelA M N J K) : (shX M).1 = (feR N).1 ∧ RelA (shX M).2 (feR N).2 J K := by
  have hnf := h.1.2.1.nf
  have e := rq_nf h.1.1
  have hX := h.ivX
  have hR := h.ivR
  have hf := fwR_iv (nf := N 1 73) (N 1 73) 0 N hR
  refine ⟨?_, h.share (fun r hr => shX_out (by omega) hr) (shX_wfL (by omega) h.2.2.2.2.1) hf.2 hf.1.2.1 hf.1.2.2.1⟩
  unfold shX feR
  rw [e]
  exact few_both (UU_lt h.1.2.1) (UU_dis h.1.2.2) hnf (N 1 73) 0 _ _ (by omega) hX hR
theorem share_rel {M N : gMem} {J K : gMeL} (h : RelA M N J K) (h1 : 1 ≤ N 1 73) : ∃ r, skR 5 1 N = some r ∧ RelA (shX M).2 r J K ∧ ∀ e, e < N 1 73 → r 6 e = (shX M).2 14 e ∧ r 7 e = (shX M).2 15 e := by
  have hnf := h.1.2.1.nf
  have e := rq_nf h.1.1
  have hX := h.ivX
  have hR := h.ivR
  obtain ⟨n, hn⟩ : ∃ n, N 1 73 = n + 1 := ⟨N 1 73 - 1, by omega⟩
  have h0 := seat_srch0 (most := 0) hX (UU_lt h.1.2.1)
  have es : srch (UU N 94) (UU N 99) 0 (N 1 73) 0 A0 = none := by rw [hn]; exact srch_0 _ _ _
  rw [es] at h0
  have ef : (seat 0 (N 1 73) 0 0 (cmpM M (N 1 73))).1 = false := h0
  have eS : shX M = shL (N 1 73) n 1 (seat 0 (N 1 73) 0 0 (cmpM M (N 1 73))).2 := by
    have : shX M = shL (N 1 73) (n + 1) 0 (cmpM M (N 1 73)) := by unfold shX; rw [e, hn]
    rw [this, shL, if_neg (by rw [ef]; decide)]
  obtain ⟨r, hr1, hr2, hr3, hr4⟩ := share_both (UU_lt h.1.2.1) (UU_dis h.1.2.2) hnf n 1 _ N (by omega) (hX.kp (seat_keeps 0 (N 1 73) 0 0 _)) hR (5 - (n + 1))
  rw [show 5 - (n + 1) + (n + 1) = 5 by omega] at hr1
  refine ⟨r, hr1, h.share (fun q hq => shX_out (by omega) hq) (shX_wfL (by omega) h.2.2.2.2.1) hr3 hr2.2.1 hr2.2.2.1, fun k hk => ?_⟩
  rw [eS]
  exact hr4 k hk
