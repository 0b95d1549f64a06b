/-! the two memories side by side: everything -/
def relT (M N : gMem) : Prop := M 1 2 = N 0 3 ∧ N 0 3 ≤ 40 ∧ M 2 = N 2 ∧ ∀ k, N 2 k < 256
def relH (M N : gMem) (J K : gMeL) : Prop := ∀ s, s < 4 → (M (5 + s) 1 = N 10 s ∧ M (5 + s) 2 = N 11 s ∧ (N 10 s ≤ 2 ∨ N 10 s = 4294967295) ∧ N 11 s ≤ 24) ∧ ∀ k, k < 24 → J (9 + s) k = K 12 (24 * s + k)
def dsj (o : Nat) (N : gMem) : Prop := ∀ k, k < 5 → N 1 (o + (94 + k)) &&& N 1 (o + (99 + k)) = 0
def relM (M N : gMem) : Prop := (M 0 2 = 0 ∧ N 0 1 = 0) ∨ (M 0 2 = 1 ∧ N 0 1 = 1 ∧ relP 39 124 M N ∧ wfF (fun k => N 1 (124 + k)) ∧ dsj 124 N)
def relG (M N : gMem) : Prop := wfL M ∧ lt8 N ∧ ∀ b, b < 6 → N 8 b = 0 ∧ N 9 b = 0
def RelA (M N : gMem) (J K : gMeL) : Prop := (relQ M N ∧ wfR N ∧ dsj 0 N) ∧ relT M N ∧ relH M N J K ∧ relM M N ∧ relG M N
theorem rq_keep2 {M N M' N' : gMem} (h : relQ M N) (hM : ∀ r, 23 ≤ r → r ≤ 38 → M' r = M r) (hN : ∀ p, p < 124 → N' 1 p = N 1 p) : relQ M' N' := by
  rw [relQ_iff] at *
  intro r c p hd
  have := dm_lt hd
  rw [hM r (by omega) (by omega), hN p (by omega)]
  exact h r c p hd
theorem relM.keep {M N M' N' : gMem} (h : relM M N) (h0 : M' 0 2 = M 0 2) (hM : ∀ r, 39 ≤ r → r ≤ 54 → M' r = M r) (h1 : N' 0 1 = N 0 1) (hN : ∀ k, 124 ≤ k → N' 1 k = N 1 k) : relM M' N' := by
  rcases h with h | ⟨h2, h3, h4, h5, h6⟩
  · left; rw [h0, h1]; exact h
  · right
    refine ⟨by rw [h0]; exact h2, by rw [h1]; exact h3, ?_, ?_, fun k hk => by rw [hN _ (by omega), hN _ (by omega)]; exact h6 k hk⟩
    · rw [relP_iff] at *
      intro r c p hd
      have := dm_lt hd
      rw [hM _ (by omega) (by omega), hN _ (by omega)]
      exact h4 r c p hd
    · rw [show (fun k => N' 1 (124 + k)) = fun k => N 1 (124 + k) from funext (fun k => hN _ (by omega))]; exact h5
theorem relH.keep {M N M' N' : gMem} {J K J' K' : gMeL} (h : relH M N J K) (hM : ∀ r, 5 ≤ r → r ≤ 8 → M' r = M r) (h10 : N' 10 = N 10) (h11 : N' 11 = N 11) (hJ : ∀ r, 9 ≤ r → r ≤ 12 → J' r = J r) (hK : K' 12 = K 12) : relH M' N' J' K' := fun s hs => by
  rw [hM (5 + s) (by omega) (by omega), h10, h11, hJ (9 + s) (by omega) (by omega), hK]
  exact h s hs
theorem relG.keep {M N M' N' : gMem} (h : relG M N) (hM : ∀ r, 17 ≤ r → r ≤ 21 → M' r = M r) (h8 : N' 8 = N 8) (h9 : N' 9 = N 9) : relG M' N' := by
  refine ⟨fun a b h1 h2 h3 h4 => by rw [hM a h1 (by omega)]; exact h.1 a b h1 h2 h3 h4, fun b => by rw [h8, h9]; exact h.2.1 b, fun b hb => by rw [h8, h9]; exact h.2.2 b hb⟩
theorem RelA.play {M N M' N' : gMem} {J K : gMeL} (h : RelA M N J K) (hq : relQ M' N') (hw : wfR N') (hd : dsj 0 N') (hM : ∀ r, r < 22 ∨ 39 ≤ r → M' r = M r) (hN : ∀ r, r ≠ 1 → r ≠ 4 → r ≠ 5 → N' r = N r) (hN1 : ∀ k, 124 ≤ k → N' 1 k = N 1 k) : RelA M' N' J K := by
  refine ⟨⟨hq, hw, hd⟩, ?_, h.2.2.1.keep (fun r _ _ => hM r (by omega)) (hN 10 (by decide) (by decide) (by decide)) (hN 11 (by decide) (by decide) (by decide)) (fun _ _ _ => rfl) rfl, h.2.2.2.1.keep (by rw [hM 0 (by omega)]) (fun r _ _ => hM r (by omega)) (by rw [hN 0 (by decide) (by decide) (by decide)]) hN1, h.2.2.2.2.keep (fun r _ _ => hM r (by omega)) (hN 8 (by decide) (by decide) (by decide)) (hN 9 (by decide) (by decide) (by decide))⟩
  unfold relT
  rw [hM 1 (by omega), hM 2 (by omega), hN 0 (by decide) (by decide) (by decide), hN 2 (by decide) (by decide) (by decide)]
  exact h.2.1
theorem RelA.tape {M N : gMem} {J K : gMeL} (h : RelA M N J K) (f f' : Nat → Nat) : RelA (u2 (rowN M 3 12 f) 1 2 0) (rowN (u2 N 0 3 0) 3 12 f') J K := by
  have eM : ∀ r, r ≠ 1 → r ≠ 3 → u2 (rowN M 3 12 f) 1 2 0 r = M r := fun r h1 h3 => by rw [u2_row h1, rowN_out h3]
  have eN : ∀ r, r ≠ 0 → r ≠ 3 → rowN (u2 N 0 3 0) 3 12 f' r = N r := fun r h1 h3 => by rw [rowN_out h3, u2_row h1]
  have e1 := eN 1 (by decide) (by decide)
  refine ⟨⟨rq_keep h.1.1 (fun r _ _ => eM r (by omega) (by omega)) e1, by show wfF _; rw [e1]; exact h.1.2.1, by unfold dsj; rw [e1]; exact h.1.2.2⟩, ⟨?_, ?_, ?_, ?_⟩, h.2.2.1.keep (fun r _ _ => eM r (by omega) (by omega)) (eN 10 (by decide) (by decide)) (eN 11 (by decide) (by decide)) (fun _ _ _ => rfl) rfl, h.2.2.2.1.keep (by rw [eM 0 (by decide) (by decide)]) (fun r _ _ => eM r (by omega) (by omega)) ?_ (fun k _ => by rw [e1]), h.2.2.2.2.keep (fun r _ _ => eM r (by omega) (by omega)) (eN 8 (by decide) (by decide)) (eN 9 (by decide) (by decide))⟩
  · rw [rowN_out (by decide)]; simp [u2]
  · rw [rowN_out (by decide)]; simp [u2]
  · rw [eM 2 (by decide) (by decide), eN 2 (by decide) (by decide)]; exact h.2.1.2.2.1
  · rw [eN 2 (by decide) (by decide)]; exact h.2.1.2.2.2
  · rw [rowN_out (by decide)]; simp [u2]
/-! reading signs -/
theorem rdF_le {b : Nat → Nat} {ok : Nat → Bool} {len : Nat} : ∀ (d place found p : Nat), place + d ≤ len → rdF b ok len place found d = some p → p ≤ len
  | 0, place, found, p, _, h => by
    simp only [rdF] at h
    split at h
    · exact Nat.le_of_eq (Option.some.inj h).symm
    · cases h
  | d + 1, place, found, p, hd, h => by
    simp only [rdF] at h
    split at h
    · exact rdF_le d _ _ p (by omega) h
    · split at h
      · exact rdF_le d _ _ p (by omega) h
      · have := Option.some.inj h; omega
theorem rdS_d {b : Nat → Nat} {len : Nat} : ∀ (d place found : Nat) (F G : Nat → Nat), (∀ q, q < found → F q = G q - 48 ∧ 48 ≤ G q ∧ G q ≤ 57) → rdF b okd len place found d = none → ∀ q, q < 12 → rdS b okd (fun b => b - 48) place found d F q = rdS b okd (fun b => b) place found d G q - 48 ∧ 48 ≤ rdS b okd (fun b => b) place found d G q ∧ rdS b okd (fun b => b) place found d G q ≤ 57
  | 0, place, found, F, G, hi, h => by
    simp only [rdF] at h
    split at h
    · cases h
    · intro q hq
      simp only [rdS]
      exact hi q (by omega)
  | d + 1, place, found, F, G, hi, h => by
    simp only [rdF] at h
    simp only [rdS]
    split at h
    · rename_i h1
      rw [if_pos h1, if_pos h1]
      exact rdS_d d _ _ _ _ hi h
    · rename_i h1
      rw [if_neg h1, if_neg h1]
      split at h
      · rename_i h2
        rw [if_pos h2, if_pos h2]
        refine rdS_d d _ _ _ _ (fun q hq => ?_) h
        by_cases e : q = found
        · have := of_decide_eq_true h2.1
          simp [e]; omega
        · simp only [e, if_false]; exact hi q (by omega)
      · cases h
theorem rdS_w {b : Nat → Nat} {len : Nat} : ∀ (d place found : Nat) (F G : Nat → Nat), (∀ q, q < found → F q = G q ∧ G q < 256) → rdF b okw len place found d = none → ∀ q, q < 12 → rdS b okw (fun b => b) place found d F q = rdS b okw (fun b => b) place found d G q ∧ rdS b okw (fun b => b) place found d G q < 256
  | 0, place, found, F, G, hi, h => by
    simp only [rdF] at h
    split at h
    · cases h
    · intro q hq
      simp only [rdS]
      exact hi q (by omega)
  | d + 1, place, found, F, G, hi, h => by
    simp only [rdF] at h
    simp only [rdS]
    split at h
    · rename_i h1
      rw [if_pos h1, if_pos h1]
      exact rdS_w d _ _ _ _ hi h
    · rename_i h1
      rw [if_neg h1, if_neg h1]
      split at h
      · rename_i h2
        rw [if_pos h2, if_pos h2]
        refine rdS_w d _ _ _ _ (fun q hq => ?_) h
        by_cases e : q = found
        · have := of_decide_eq_true h2.1
          simp [e]; omega
        · simp only [e, if_false]; exact hi q (by omega)
      · cases h
/-! sheets -/
theorem cut_small : ∀ v, v < 20 → (lN v).toInt32.toInt16.toInt32.toInt64 = lN v ∧ (lN v).toInt32.toInt64 = lN v := by decide
theorem cutv_small {lane v : Nat} (h : v < 20) : cutv lane (lN v) = lN v := by
  unfold cutv
  split
  · exact (cut_small v h).1
  · split
    · exact (cut_small v h).2
    · rfl
theorem RelA.sheet {M N M' N' : gMem} {J K J' K' : gMeL} (h : RelA M N J K) (hh : relH M' N' J' K') (hM : ∀ r, r < 5 ∨ 13 ≤ r → M' r = M r) (hN : ∀ r, r ≠ 10 → r ≠ 11 → N' r = N r) : RelA M' N' J' K' := by
  have e1 := hN 1 (by decide) (by decide)
  refine ⟨⟨rq_keep h.1.1 (fun r _ _ => hM r (by omega)) e1, by show wfF _; rw [e1]; exact h.1.2.1, by unfold dsj; rw [e1]; exact h.1.2.2⟩, ?_, hh, h.2.2.2.1.keep (by rw [hM 0 (by omega)]) (fun r _ _ => hM r (by omega)) (by rw [hN 0 (by decide) (by decide)]) (fun k _ => by rw [e1]), h.2.2.2.2.keep (fun r _ _ => hM r (by omega)) (hN 8 (by decide) (by decide)) (hN 9 (by decide) (by decide))⟩
  unfold relT
  rw [hM 1 (by omega), hM 2 (by omega), hN 0 (by decide) (by decide), hN 2 (by decide) (by decide)]
  exact h.2.1
theorem film_rel {M N : gMem} {J K : gMeL} (h : RelA M N J K) {k s i : Nat} (hk : k < 5) (hs : s < 4) (hi : i + 12 ≤ 24) : RelA M N (flm M J k s i 12) (flR N K k (24 * s + i) 12) := by
  refine h.sheet (fun s' hs' => ⟨(h.2.2.1 s' hs').1, fun q hq => ?_⟩) (fun _ _ => rfl) (fun _ _ _ => rfl)
  show (if 9 + s' = 9 + s ∧ i ≤ q ∧ q < i + 12 then cutv (M (5 + s) 1) (lN (hgtX M k (q - i))) else J (9 + s') q) = (if 12 = 12 ∧ 24 * s + i ≤ 24 * s' + q ∧ 24 * s' + q < 24 * s + i + 12 then lN (hgtR N k (24 * s' + q - (24 * s + i))) else K 12 (24 * s' + q))
  by_cases hc : 9 + s' = 9 + s ∧ i ≤ q ∧ q < i + 12
  · rw [if_pos hc, if_pos ⟨rfl, by omega⟩, hgt_same h.1.1 h.1.2.1 hk, show 24 * s' + q - (24 * s + i) = q - i by omega]
    exact cutv_small (Nat.lt_succ_of_le (hgtR_le h.1.2.1 hk _))
  · rw [if_neg hc, if_neg (by omega)]; exact (h.2.2.1 s' hs').2 q hq
theorem item_rel {M N : gMem} {J K : gMeL} (h : RelA M N J K) {s i : Nat} (v : Int64) (hs : s < 4) (hi : i < 24) : RelA M N (u2L J (9 + s) i v) (u2L K 12 (24 * s + i) v) := by
  refine h.sheet (fun s' hs' => ⟨(h.2.2.1 s' hs').1, fun q hq => ?_⟩) (fun _ _ => rfl) (fun _ _ _ => rfl)
  show (if 9 + s' = 9 + s ∧ q = i then v else J (9 + s') q) = (if 12 = 12 ∧ 24 * s' + q = 24 * s + i then v else K 12 (24 * s' + q))
  by_cases hc : 9 + s' = 9 + s ∧ q = i
  · rw [if_pos hc, if_pos ⟨rfl, by omega⟩]
  · rw [if_neg hc, if_neg (by omega)]; exact (h.2.2.1 s' hs').2 q hq
theorem copy_rel {M N : gMem} {J K : gMeL} (h : RelA M N J K) {s i t j n : Nat} (hs : s < 4) (ht : t < 4) (hi : i + n ≤ 24) (hj : j + n ≤ 24) : RelA M N (gcpL J (9 + s) i (9 + t) j n) (cpR K s i t j n) := by
  refine h.sheet (fun s' hs' => ⟨(h.2.2.1 s' hs').1, fun q hq => ?_⟩) (fun _ _ => rfl) (fun _ _ _ => rfl)
  show (if 9 + s' = 9 + t ∧ j ≤ q ∧ q < j + n then J (9 + s) (i + (q - j)) else J (9 + s') q) = (if 12 = 12 ∧ 24 * t + j ≤ 24 * s' + q ∧ 24 * s' + q < 24 * t + j + n then K 12 (24 * s + i + (24 * s' + q - (24 * t + j))) else rowLO K 13 0 n (fun x => K 12 (24 * s + i + x)) 12 (24 * s' + q))
  by_cases hc : 9 + s' = 9 + t ∧ j ≤ q ∧ q < j + n
  · rw [if_pos hc, if_pos ⟨rfl, by omega⟩, (h.2.2.1 s hs).2 (i + (q - j)) (by omega)]
    congr 1; omega
  · rw [if_neg hc, if_neg (by omega), rowLO_out (by decide)]; exact (h.2.2.1 s' hs').2 q hq
theorem sheet_rel {M N : gMem} {J K : gMeL} (h : RelA M N J K) {s ln n : Nat} (hs : s < 4) (hl : ln ≤ 2) (hn : n ≤ 24) : RelA (u2 (u2 M (5 + s) 1 ln) (5 + s) 2 n) (u2 (u2 N 10 s ln) 11 s n) (rowL J (9 + s) 24 (fun _ => (0 : Int64))) (rowLO K 12 (24 * s) 24 (fun _ => (0 : Int64))) := by
  refine h.sheet (fun s' hs' => ⟨?_, fun q hq => ?_⟩) (fun r hr => by rw [u2_row (by omega), u2_row (by omega)]) (fun r h1 h2 => by rw [u2_row h2, u2_row h1])
  · have := (h.2.2.1 s' hs').1
    simp only [u2]
    by_cases e : s' = s
    · subst e; simp; omega
    · simp [e]; exact this
  · show (if 9 + s' = 9 + s ∧ q < 24 then (0 : Int64) else J (9 + s') q) = (if 12 = 12 ∧ 24 * s ≤ 24 * s' + q ∧ 24 * s' + q < 24 * s + 24 then (0 : Int64) else K 12 (24 * s' + q))
    by_cases e : s' = s
    · rw [if_pos (by omega), if_pos ⟨rfl, by omega⟩]
    · rw [if_neg (by omega), if_neg (by omega)]; exact (h.2.2.1 s' hs').2 q hq
theorem drop_rel {M N : gMem} {J K : gMeL} (h : RelA M N J K) {s : Nat} (hs : s < 4) : RelA (u2 M (5 + s) 1 4294967295) (u2 N 10 s 4294967295) J K := by
  refine h.sheet (fun s' hs' => ⟨?_, (h.2.2.1 s' hs').2⟩) (fun r hr => by rw [u2_row (by omega)]) (fun r h1 h2 => by rw [u2_row h1])
  have := (h.2.2.1 s' hs').1
  simp only [u2]
  by_cases e : s' = s
  · subst e; simp; omega
  · simp [e]; exact this
