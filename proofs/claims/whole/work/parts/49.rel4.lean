/-! the relation kept: single cells, cams, wishes, figures -/
theorem RelA.upd {M N : gMem} {J K : gMeL} (h : RelA M N J K) {r c p : Nat} (hd : dm r c p) {v : Nat} (h1 : loW p ≤ v) (h2 : v ≤ hiW p) (hp : p < 94 ∨ 104 ≤ p) : RelA (u2 M r c v) (u2 N 1 p v) J K := by
  have hr := dm_lt hd
  refine h.play (rq_upd h.1.1 hd v) (wf_upd h.1.2.1 h1 h2) (fun k hk => ?_) (fun q hq => u2_row (by omega)) (fun q h1 _ _ => u2_row h1) (fun k hk => ?_)
  · have := h.1.2.2 k hk
    simp only [u2]
    rw [if_neg (by omega), if_neg (by omega)]; exact this
  · simp only [u2]; rw [if_neg (by omega)]
theorem dsj_upd2 {N : gMem} (h : dsj 0 N) {k x y : Nat} (hk : k < 5) (hxy : x &&& y = 0) : dsj 0 (u2 (u2 N 1 (94 + k) x) 1 (99 + k) y) := fun q hq => by
  have := h q hq
  simp only [u2]
  by_cases e : q = k
  · subst e
    rw [if_neg (by omega), if_pos ⟨trivial, by omega⟩, if_pos ⟨trivial, by omega⟩]; exact hxy
  · by_cases e2 : q = k + 5 ∨ k = q + 5
    · omega
    · rw [if_neg (by omega), if_neg (by omega), if_neg (by omega), if_neg (by omega)]; exact this
theorem wish_rel {M N : gMem} {J K : gMeL} (h : RelA M N J K) {k x y : Nat} (hk : k < 5) (hx : x < 4096) (hy : y < 4096) (hxy : x &&& y = 0) : RelA (w45 M (32 + k) x y) (u2 (u2 N 1 (94 + k) x) 1 (99 + k) y) J K := by
  unfold w45
  refine h.play (rq_upd (rq_upd h.1.1 (by unfold dm; omega) x) (by unfold dm; omega) y) (wf_upd (wf_upd h.1.2.1 ?_ ?_) ?_ ?_) (dsj_upd2 h.1.2.2 hk hxy) (fun q hq => by rw [u2_row (by omega), u2_row (by omega)]) (fun q h1 _ _ => by rw [u2_row h1, u2_row h1]) (fun q hq => ?_)
  · unfold loW; rw [if_neg (by omega)]; omega
  · unfold hiW; repeat rw [if_neg (by omega)]
    rw [if_pos (by omega)]; omega
  · unfold loW; rw [if_neg (by omega)]; omega
  · unfold hiW; repeat rw [if_neg (by omega)]
    rw [if_pos (by omega)]; omega
  · simp only [u2]; rw [if_neg (by omega), if_neg (by omega)]
theorem hi_hair {p v : Nat} (h1 : 1 ≤ p) (h : p < 73) (hv : v ≤ 9) : loW p ≤ v ∧ v ≤ hiW p := by
  unfold loW hiW
  rw [if_neg (by omega), if_neg (by omega), if_pos h]; omega
theorem hi_fig {q p v : Nat} (hq : q < 4) (h1 : 74 + 5 * q ≤ p) (h2 : p < 79 + 5 * q) (hv : v ≤ if q = 0 then 3 else if q = 1 then 5 else if q = 2 then 11 else 3) : loW p ≤ v ∧ v ≤ hiW p := by
  unfold loW hiW
  rw [if_neg (by omega), if_neg (by omega), if_neg (by omega), if_neg (by omega)]
  rcases (show q = 0 ∨ q = 1 ∨ q = 2 ∨ q = 3 by omega) with e | e | e | e
  · subst e; rw [if_pos (by omega)]; simp at hv; omega
  · subst e; rw [if_neg (by omega), if_pos (by omega)]; simp at hv; omega
  · subst e; rw [if_neg (by omega), if_neg (by omega), if_pos (by omega)]; simp at hv; omega
  · subst e; rw [if_neg (by omega), if_neg (by omega), if_neg (by omega), if_pos (by omega)]; simp at hv; omega
theorem hi_beat {a v : Nat} (ha : a < 12) (h1 : 1 ≤ v) (h2 : v ≤ 99) : loW (108 + a) ≤ v ∧ v ≤ hiW (108 + a) := by
  unfold loW hiW
  rw [if_pos (by omega)]
  repeat rw [if_neg (by omega)]
  rw [if_pos (by omega)]; omega
theorem hi_hand {k v : Nat} (hk : k < 4) (h2 : v ≤ 1023) : loW (120 + k) ≤ v ∧ v ≤ hiW (120 + k) := by
  unfold loW hiW
  repeat rw [if_neg (by omega)]
  omega
theorem cut_rel {M N : gMem} {J K : gMeL} (h : RelA M N J K) {c a v : Nat} (hc : c < 6) (ha : a < 12) (hv : v ≤ 9) : RelA (u2 M (25 + c) a v) (u2 N 1 (1 + 12 * c + a) v) J K :=
  h.upd (by unfold dm; omega) (hi_hair (by omega) (by omega) hv).1 (hi_hair (by omega) (by omega) hv).2 (by omega)
theorem set_rel {M N : gMem} {J K : gMeL} (h : RelA M N J K) {k q v : Nat} (hk : k < 5) (hq : q < 4) (hv : v ≤ if q = 0 then 3 else if q = 1 then 5 else if q = 2 then 11 else 3) : RelA (u2 M (32 + k) q v) (u2 N 1 (74 + 5 * q + k) v) J K :=
  h.upd (by unfold dm; omega) (hi_fig hq (by omega) (by omega) hv).1 (hi_fig hq (by omega) (by omega) hv).2 (by omega)
theorem beat_rel {M N : gMem} {J K : gMeL} (h : RelA M N J K) {a v : Nat} (ha : a < 12) (h1 : 1 ≤ v) (h2 : v ≤ 99) : RelA (u2 M 37 a v) (u2 N 1 (108 + a) v) J K :=
  h.upd (by unfold dm; omega) (hi_beat ha h1 h2).1 (hi_beat ha h1 h2).2 (by omega)
theorem hand_rel {M N : gMem} {J K : gMeL} (h : RelA M N J K) {k v : Nat} (hk : k < 4) (h2 : v ≤ 1023) : RelA (u2 M 38 k v) (u2 N 1 (120 + k) v) J K :=
  h.upd (by unfold dm; omega) (hi_hand hk h2).1 (hi_hand hk h2).2 (by omega)
theorem one_rel {M N : gMem} {J K : gMeL} (h : RelA M N J K) {c p v : Nat} (hd : (c = 1 ∧ p = 0 ∧ v ≤ 6) ∨ (c = 3 ∧ p = 73 ∧ v ≤ 5) ∨ (c = 4 ∧ p = 104 ∧ 1 ≤ v ∧ v ≤ 9) ∨ (c = 5 ∧ p = 105 ∧ v ≤ 1) ∨ (c = 6 ∧ p = 106 ∧ v ≤ 11) ∨ (c = 7 ∧ p = 107 ∧ v ≤ 1000000000)) : RelA (u2 M 23 c v) (u2 N 1 p v) J K := by
  rcases hd with ⟨rfl, rfl, h1⟩ | ⟨rfl, rfl, h1⟩ | ⟨rfl, rfl, h1, h2⟩ | ⟨rfl, rfl, h1⟩ | ⟨rfl, rfl, h1⟩ | ⟨rfl, rfl, h1⟩
  · exact h.upd (by unfold dm; omega) (by simp [loW]) (by simpa [hiW] using h1) (by omega)
  · exact h.upd (by unfold dm; omega) (by simp [loW]) (by simpa [hiW] using h1) (by omega)
  · exact h.upd (by unfold dm; omega) (by simpa [loW] using h1) (by simpa [hiW] using h2) (by omega)
  · exact h.upd (by unfold dm; omega) (by simp [loW]) (by simpa [hiW] using h1) (by omega)
  · exact h.upd (by unfold dm; omega) (by simp [loW]) (by simpa [hiW] using h1) (by omega)
  · exact h.upd (by unfold dm; omega) (by simp [loW]) (by simpa [hiW] using h1) (by omega)
theorem turn_rel {M N : gMem} {J K : gMeL} (h : RelA M N J K) (n : Nat) : RelA (goX M n) (goR N n) J K := by
  have hat := h.1.2.1.at
  have hps := h.1.2.1.passed
  unfold goX goR
  rw [rq_way h.1.1, rq_at h.1.1, rq_psd h.1.1, adv_same (by omega)]
  have := itb_lt (way := N 1 105) (a := N 1 106) (by omega) (n % 12)
  exact one_rel (one_rel h (c := 6) (p := 106) (by omega)) (c := 7) (p := 107) (by omega)
theorem fig_rel {M N : gMem} {J K : gMeL} (h : RelA M N J K) {k c lg p : Nat} (hn : N 1 73 < 5) (hk : k ≤ 3) (hc : c ≤ 5) (hl : lg ≤ 11) (hp : p ≤ 3) : RelA (u2 (adF M (M 23 3) k c lg p) 23 3 (M 23 3 + 1)) (u2 (adR N (N 1 73) k c lg p) 1 73 (N 1 73 + 1)) J K := by
  rw [rq_nf h.1.1]
  unfold adF adR
  refine one_rel ?_ (by omega)
  have a0 := set_rel h (k := N 1 73) (q := 0) (v := k) hn (by omega) (by simpa using hk)
  have a1 := set_rel a0 (k := N 1 73) (q := 1) (v := c) hn (by omega) (by simpa using hc)
  have a2 := set_rel a1 (k := N 1 73) (q := 2) (v := lg) hn (by omega) (by simpa using hl)
  have a3 := set_rel a2 (k := N 1 73) (q := 3) (v := p) hn (by omega) (by simpa using hp)
  exact wish_rel a3 (x := 0) (y := 0) hn (by omega) (by omega) rfl
theorem cam_rel {M N : gMem} {J K : gMeL} (h : RelA M N J K) (hn : N 1 0 < 6) (hr : ∀ a, a < 12 → M 3 a = N 3 a - 48 ∧ 48 ≤ N 3 a ∧ N 3 a ≤ 57) : RelA (u2 (gcpy M 3 0 (25 + M 23 1) 0 12) 23 1 (M 23 1 + 1)) (u2 (camR N (N 1 0) 12) 1 0 (N 1 0 + 1)) J K := by
  have hnc := rq_nc h.1.1
  rw [hnc]
  have hw : ∀ p, p < 124 → loW p ≤ N 1 p ∧ N 1 p ≤ hiW p := wf_iff.mp h.1.2.1
  have hq := relQ_iff.mp h.1.1
  refine one_rel ?_ (by omega)
  have eM : ∀ r, r ≠ 25 + N 1 0 → gcpy M 3 0 (25 + N 1 0) 0 12 r = M r := fun r hr => by funext b; simp only [gcpy]; rw [if_neg (by omega)]
  refine h.play ?_ ?_ ?_ (fun r hr => eM r (by omega)) (fun r h1 _ _ => rowO_out h1) (fun k hk => rowO_no (by omega))
  · rw [relQ_iff]
    intro r c p hd
    have h1 := hq r c p hd
    unfold camR
    simp only [gcpy, rowO]
    by_cases hx : r = 25 + N 1 0 ∧ c < 12
    · have hp : p = 1 + 12 * N 1 0 + c := by unfold dm at hd; omega
      rw [if_pos (by omega), if_pos ⟨trivial, by omega⟩, show 0 + (c - 0) = c by omega, (hr c hx.2).1, show p - (1 + 12 * N 1 0) = c by omega]
    · have hp : ¬ (1 + 12 * N 1 0 ≤ p ∧ p < 1 + 12 * N 1 0 + 12) := by unfold dm at hd; omega
      rw [if_neg (by omega), if_neg (by omega)]; exact h1
  · show wfF _
    rw [wf_iff]
    intro p hp
    unfold camR
    simp only [rowO]
    by_cases hx : 1 + 12 * N 1 0 ≤ p ∧ p < 1 + 12 * N 1 0 + 12
    · have := hr (p - (1 + 12 * N 1 0)) (by omega)
      rw [if_pos ⟨trivial, hx⟩]
      exact hi_hair (by omega) (by omega) (by omega)
    · rw [if_neg (by omega)]; exact hw p hp
  · intro k hk
    unfold camR
    rw [rowO_no (by omega), rowO_no (by omega)]
    exact h.1.2.2 k hk
/-! image and restore -/
theorem bl_out {B S a : Nat} {M : gMem} (h : a < B ∨ B + 16 ≤ a) : bl B S M a = M a := by
  funext b
  unfold bl
  rw [if_neg (by omega), if_neg (by omega), if_neg (by omega), if_neg (by omega), if_neg (by omega)]
theorem bl_in {B S r c p : Nat} {M : gMem} (hd : dm r c p) : bl B S M (B + (r - 23)) c = M (S + (r - 23)) c := by
  unfold bl
  unfold dm at hd
  rcases hd with ⟨rfl, hd⟩ | ⟨h1, h2, h3, hp⟩ | ⟨h1, h2, h3, hp⟩ | ⟨rfl, h3, hp⟩ | ⟨rfl, h3, hp⟩
  · rw [if_pos (by omega)]; rfl
  · rw [if_neg (by omega), if_pos (by omega)]; congr 1; omega
  · rw [if_neg (by omega), if_neg (by omega), if_pos (by omega)]; congr 1; omega
  · rw [if_neg (by omega), if_neg (by omega), if_neg (by omega), if_pos (by omega)]
  · rw [if_neg (by omega), if_neg (by omega), if_neg (by omega), if_neg (by omega), if_pos (by omega)]
theorem imR_1 {N : gMem} {p : Nat} (h : p < 124) : imR N 1 (124 + p) = N 1 p := rowO_in h
theorem image_rel {M N : gMem} {J K : gMeL} (h : RelA M N J K) : RelA (u2 (bl 39 23 M) 0 2 1) (u2 (imR N) 0 1 1) J K := by
  have eM : ∀ r, 1 ≤ r → r < 39 ∨ 55 ≤ r → u2 (bl 39 23 M) 0 2 1 r = M r := fun r h1 h2 => by rw [u2_row (by omega), bl_out (by omega)]
  have eN : ∀ r, r ≠ 0 → r ≠ 1 → u2 (imR N) 0 1 1 r = N r := fun r h0 h1 => by rw [u2_row h0]; exact rowO_out h1
  have e1 : u2 (imR N) 0 1 1 1 = imR N 1 := u2_row (by decide)
  have e0 : imR N 0 = N 0 := rowO_out (by decide)
  have hp : ∀ p, p < 124 → imR N 1 p = N 1 p := fun p hp => rowO_no (by omega)
  have hw : ∀ p, p < 124 → loW p ≤ N 1 p ∧ N 1 p ≤ hiW p := wf_iff.mp h.1.2.1
  refine ⟨⟨rq_keep2 h.1.1 (fun r _ _ => eM r (by omega) (by omega)) (fun p hp' => by rw [e1]; exact hp p hp'), ?_, fun k hk => by rw [e1, hp _ (by omega), hp _ (by omega)]; exact h.1.2.2 k hk⟩, ?_, h.2.2.1.keep (fun r _ _ => eM r (by omega) (by omega)) (eN 10 (by decide) (by decide)) (eN 11 (by decide) (by decide)) (fun _ _ _ => rfl) rfl, Or.inr ⟨by simp [u2], by simp [u2], ?_, ?_, fun k hk => ?_⟩, h.2.2.2.2.keep (fun r _ _ => eM r (by omega) (by omega)) (eN 8 (by decide) (by decide)) (eN 9 (by decide) (by decide))⟩
  · show wfF _
    rw [e1, wf_iff]
    intro p hp'
    rw [hp p hp']; exact hw p hp'
  · unfold relT
    rw [eM 1 (by omega) (by omega), eM 2 (by omega) (by omega), eN 2 (by decide) (by decide)]
    have : u2 (imR N) 0 1 1 0 3 = N 0 3 := by simp only [u2]; rw [if_neg (by omega), e0]
    rw [this]
    exact h.2.1
  · rw [relP_iff]
    intro r c p hd
    have h1 := dm_lt hd
    rw [u2_row (by omega), bl_in hd, e1, imR_1 h1.1]
    have := relQ_iff.mp h.1.1 r c p hd
    rw [show 23 + (r - 23) = r by omega]; exact this
  · rw [wf_iff]
    intro p hp'
    rw [e1, imR_1 hp']; exact hw p hp'
  · rw [e1, imR_1 (by omega), imR_1 (by omega)]
    have := h.1.2.2 k hk
    rwa [Nat.zero_add, Nat.zero_add] at this
theorem restore_rel {M N : gMem} {J K : gMeL} (h : RelA M N J K) (h1 : N 0 1 = 1) : RelA (bl 23 39 M) (reR N) J K := by
  rcases h.2.2.2.1 with h2 | ⟨h2, h3, h4, h5, h6⟩
  · omega
  have hw := wf_iff.mp h5
  have hN : ∀ p, p < 124 → reR N 1 p = N 1 (124 + p) := fun p hp => by
    have := rowO_in (M := N) (i := 1) (o := 0) (f := fun i => N 1 (124 + i)) hp
    rwa [Nat.zero_add] at this
  refine h.play ?_ ?_ (fun k hk => ?_) (fun r hr => bl_out (by omega)) (fun r h1 _ _ => rowO_out h1) (fun k hk => rowO_no (by omega))
  · rw [relQ_iff]
    intro r c p hd
    have h7 := dm_lt hd
    have h8 := bl_in (B := 23) (S := 39) (M := M) hd
    rw [show 23 + (r - 23) = r by omega] at h8
    rw [h8, hN p h7.1]
    exact relP_iff.mp h4 r c p hd
  · show wfF _
    rw [wf_iff]
    intro p hp
    rw [hN p hp]; exact hw p hp
  · rw [hN _ (by omega), hN _ (by omega)]
    have := h6 k hk
    rwa [Nat.zero_add, Nat.zero_add]
