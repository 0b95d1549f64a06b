/-! the reference's side of the search -/
def bitsS (V A : Nat → Nat) (f cam : Nat) (x : Nat) : Prop := ∀ i, i < 12 → (x.testBit i = true ↔ ∃ e, e < f ∧ A e / 12 = cam ∧ (rot (V e) (A e % 12)).testBit i = true)
def invR (nf : Nat) (U D A : Nat → Nat) (f : Nat) (m : gMem) : Prop := (∀ e, e < f → A e = 12 * m 6 e + m 7 e ∧ m 7 e < 12) ∧ (∀ e, e < nf → m 1 (94 + e) = U e ∧ m 1 (99 + e) = D e) ∧ ∀ cam, cam < 6 → bitsS U A f cam (m 8 (6 * f + cam)) ∧ bitsS D A f cam (m 9 (6 * f + cam)) ∧ m 8 (6 * f + cam) &&& m 9 (6 * f + cam) = 0
theorem invR.kp {nf : Nat} {U D A : Nat → Nat} {f : Nat} {m m' : gMem} (h : invR nf U D A f m) (hk : kpR f m m') : invR nf U D A f m' := by
  refine ⟨fun e he => by rw [hk 6 e (by omega), hk 7 e (by omega)]; exact h.1 e he, fun e he => by rw [hk 1 _ (by omega), hk 1 _ (by omega)]; exact h.2.1 e he, fun cam hc => ?_⟩
  rw [hk 8 _ (by omega), hk 9 _ (by omega)]
  exact h.2.2 cam hc
theorem stN_A {f : Nat} {m : gMem} (hi : shI (f + 1) m) (h1 : psn m f / 12 = usedN (m 6) f) (h2 : psn m f % 12 ≠ 0) : usedN (m 6) f < stN m f 6 f := by
  have hl := stL_le hi (Nat.lt_succ_self f)
  unfold psn at h1 h2
  have hc : stC m f := by unfold stC; omega
  unfold stN
  rw [if_pos hc]
  simp only [u2]
  simp
  omega
theorem stN_B {f : Nat} {m : gMem} (hi : shI (f + 1) m) (h : ¬ (psn m f / 12 = usedN (m 6) f ∧ psn m f % 12 ≠ 0)) : stN m f 6 f = psn m f / 12 ∧ stN m f 7 f = psn m f % 12 := by
  have hl := stL_le hi (Nat.lt_succ_self f)
  unfold psn at *
  by_cases hc : stC m f
  · unfold stN
    rw [if_pos hc]
    unfold stC at hc
    simp only [u2]
    simp
    omega
  · unfold stN
    rw [if_neg hc]
    unfold stC at hc
    simp only [u2]
    simp
    omega
theorem dis4 {x a y b : Nat} (hx : x < 4096) (ha : a < 4096) (hxy : x &&& y = 0) (hab : a &&& b = 0) : (x ||| a) &&& (y ||| b) = 0 ↔ x &&& b = 0 ∧ a &&& y = 0 := by
  rw [and0 (or_lt hx ha), and0 hx, and0 ha]
  rw [and0 hx] at hxy
  rw [and0 ha] at hab
  simp only [Nat.testBit_or, Bool.or_eq_true]
  refine ⟨fun h => ⟨fun i hi hh => h i hi ⟨Or.inl hh.1, Or.inr hh.2⟩, fun i hi hh => h i hi ⟨Or.inr hh.1, Or.inl hh.2⟩⟩, fun h i hi hh => ?_⟩
  rcases hh with ⟨h1 | h1, h2 | h2⟩
  · exact hxy i hi ⟨h1, h2⟩
  · exact h.1 i hi ⟨h1, h2⟩
  · exact h.2 i hi ⟨h1, h2⟩
  · exact hab i hi ⟨h1, h2⟩
theorem rot_dis {u d q : Nat} (hu : u < 4096) (hd : d < 4096) (h : u &&& d = 0) (hq : q < 12) : rot u q &&& rot d q = 0 := by
  rw [and0 (rot_lt _ _)]
  rw [and0 hu] at h
  intro i hi hh
  rw [rot_bit hu hq hi, rot_bit hd hq hi] at hh
  exact h _ (by omega) hh
theorem bits_dis {V A : Nat → Nat} {f cam x b : Nat} (hx : x < 4096) (h : bitsS V A f cam x) : x &&& b = 0 ↔ ∀ e, e < f → A e / 12 = cam → rot (V e) (A e % 12) &&& b = 0 := by
  rw [and0 hx]
  refine ⟨fun hh e he hc => ?_, fun hh i hi hb => ?_⟩
  · rw [and0 (rot_lt _ _)]
    intro i hi hb
    exact hh i hi ⟨(h i hi).mpr ⟨e, he, hc, hb.1⟩, hb.2⟩
  · obtain ⟨e, he, hc, h1⟩ := (h i hi).mp hb.1
    have := hh e he hc
    rw [and0 (rot_lt _ _)] at this
    exact this i hi ⟨h1, hb.2⟩
theorem useS_6 {nf : Nat} {U D A : Nat → Nat} {f : Nat} {m : gMem} (h : invR nf U D A f m) : useS A f = usedN (m 6) f := usedN_congr (fun e he => by have := h.1 e he; omega)
theorem putB_ok {nf : Nat} {U D A : Nat → Nat} {f c : Nat} {m : gMem} (hU : ∀ k, U k < 4096 ∧ D k < 4096) (hd : ∀ k, U k &&& D k = 0) (h : invR nf U D A f m) (h8 : lt8 m) (hf : f < nf) (h6 : m 6 f = c / 12) (h7 : m 7 f = c % 12) (hc : c / 12 < 6) (hg : c / 12 < useS A f ∨ c % 12 = 0) : putB m f = true ↔ okD U D A f c := by
  have hb := h.2.2 (c / 12) hc
  have hw := h.2.1 f hf
  unfold putB pu pd okD
  rw [decide_eq_true_eq, h6, h7, hw.1, hw.2]
  rw [dis4 (h8 _).1 (rot_lt _ _) hb.2.2 (rot_dis (hU f).1 (hU f).2 (hd f) (by omega)), bits_dis (h8 _).1 hb.1, Nat.and_comm (rot (U f) _), bits_dis (h8 _).2 hb.2.1]
  refine ⟨fun hh => ⟨hg, fun e he hc => ⟨hh.1 e he hc, hh.2 e he hc⟩⟩, fun hh => ⟨fun e he hc => (hh.2 e he hc).1, fun e he hc => (hh.2 e he hc).2⟩⟩
theorem bits_up {V A : Nat → Nat} {f cam c x : Nat} (h : bitsS V A f cam x) : bitsS V (updS A f c) (f + 1) cam (if cam = c / 12 then x ||| rot (V f) (c % 12) else x) := by
  intro i hi
  have h1 := h i hi
  have key : (∃ e, e < f + 1 ∧ updS A f c e / 12 = cam ∧ (rot (V e) (updS A f c e % 12)).testBit i = true) ↔ (x.testBit i = true ∨ (c / 12 = cam ∧ (rot (V f) (c % 12)).testBit i = true)) := by
    rw [h1]
    constructor
    · rintro ⟨e, he, h2, h3⟩
      by_cases e1 : e = f
      · subst e1
        simp only [updS, if_true] at h2 h3
        exact Or.inr ⟨h2, h3⟩
      · simp only [updS, if_neg e1] at h2 h3
        exact Or.inl ⟨e, by omega, h2, h3⟩
    · rintro (⟨e, he, h2, h3⟩ | ⟨h2, h3⟩)
      · refine ⟨e, by omega, ?_, ?_⟩
        · simp only [updS, if_neg (show ¬ e = f by omega)]; exact h2
        · simp only [updS, if_neg (show ¬ e = f by omega)]; exact h3
      · exact ⟨f, by omega, by simp only [updS, if_true]; exact h2, by simp only [updS, if_true]; exact h3⟩
  rw [key]
  by_cases hc : cam = c / 12
  · rw [if_pos hc, Nat.testBit_or, Bool.or_eq_true]
    refine ⟨fun hh => hh.imp id (fun q => ⟨hc.symm, q⟩), fun hh => hh.imp id (fun q => q.2)⟩
  · rw [if_neg hc]
    refine ⟨fun hh => Or.inl hh, fun hh => hh.elim id (fun q => absurd q.1.symm hc)⟩
theorem nxM_8 {m : gMem} {f cam : Nat} (hc : cam < 6) : nxM m f 8 (6 * (f + 1) + cam) = if cam = m 6 f then pu m f else m 8 (6 * f + cam) := by
  unfold nxM putM
  simp only [u2]
  rw [if_neg (by omega), if_neg (by omega), if_neg (by omega)]
  by_cases h : cam = m 6 f
  · rw [if_pos h, if_pos ⟨trivial, by omega⟩]
  · rw [if_neg h, if_neg (by omega)]; exact cpA_in (Or.inl rfl) hc
theorem nxM_9 {m : gMem} {f cam : Nat} (hc : cam < 6) : nxM m f 9 (6 * (f + 1) + cam) = if cam = m 6 f then pd m f else m 9 (6 * f + cam) := by
  unfold nxM putM
  simp only [u2]
  rw [if_neg (by omega), if_neg (by omega)]
  by_cases h : cam = m 6 f
  · rw [if_pos h, if_pos ⟨trivial, by omega⟩]
  · rw [if_neg h, if_neg (by omega), if_neg (by omega)]; exact cpA_in (Or.inr rfl) hc
theorem invR.nx {nf : Nat} {U D A : Nat → Nat} {f c : Nat} {m : gMem} (h : invR nf U D A f m) (hf : f < nf) (h6 : m 6 f = c / 12) (h7 : m 7 f = c % 12) (hb : putB m f = true) : invR nf U D (updS A f c) (f + 1) (nxM m f) := by
  refine ⟨fun e he => ?_, fun e he => by rw [nxM_1]; exact h.2.1 e he, fun cam hc => ?_⟩
  · rw [nxM_no (Or.inl rfl) (by omega), nxM_no (Or.inr rfl) (by omega)]
    simp only [updS]
    by_cases e1 : e = f
    · subst e1; rw [if_pos rfl]; omega
    · rw [if_neg e1]; exact h.1 e (by omega)
  · have hq := h.2.2 cam hc
    have hw := h.2.1 f hf
    have b1 := bits_up (c := c) hq.1
    have b2 := bits_up (c := c) hq.2.1
    rw [nxM_8 hc, nxM_9 hc]
    have e1 : (if cam = m 6 f then pu m f else m 8 (6 * f + cam)) = (if cam = c / 12 then m 8 (6 * f + cam) ||| rot (U f) (c % 12) else m 8 (6 * f + cam)) := by
      rw [h6]
      by_cases hx : cam = c / 12
      · rw [if_pos hx, if_pos hx]; unfold pu; rw [h6, h7, hw.1, hx]
      · rw [if_neg hx, if_neg hx]
    have e2 : (if cam = m 6 f then pd m f else m 9 (6 * f + cam)) = (if cam = c / 12 then m 9 (6 * f + cam) ||| rot (D f) (c % 12) else m 9 (6 * f + cam)) := by
      rw [h6]
      by_cases hx : cam = c / 12
      · rw [if_pos hx, if_pos hx]; unfold pd; rw [h6, h7, hw.2, hx]
      · rw [if_neg hx, if_neg hx]
    refine ⟨by rw [e1]; exact b1, by rw [e2]; exact b2, ?_⟩
    by_cases hx : cam = m 6 f
    · rw [if_pos hx, if_pos hx]
      exact of_decide_eq_true hb
    · rw [if_neg hx, if_neg hx]; exact hq.2.2
theorem psn_nx (m : gMem) (f : Nat) : psn (nxM m f) (f + 1) = 0 := by
  unfold psn stL nxM
  simp only [u2]
  simp
theorem invR.st {nf : Nat} {U D A : Nat → Nat} {f : Nat} {m : gMem} (h : invR nf U D A f m) : invR nf U D A f (stN m f) := h.kp (kpR.st f m)
theorem tryR_srch {nf most : Nat} {U D : Nat → Nat} (hms : most ≤ 6) (hU : ∀ k, U k < 4096 ∧ D k < 4096) (hd : ∀ k, U k &&& D k = 0) : ∀ (d f : Nat) (A : Nat → Nat) (m : gMem), f + d = nf → invR nf U D A f m → shI (f + 1) m → psn m f = 0 → relS nf 6 7 (srch U D most d f A) (tryR most d f m) := by
  intro d
  induction d with
  | zero =>
    intro f A m hf hi _ _
    exact ⟨rfl, fun e he => hi.1 e (by omega)⟩
  | succ d ih =>
    intro f A m hf hi hs hp
    rw [srch_s, tryR_s]
    have key : ∀ (k : Nat) (m : gMem), invR nf U D A f m → shI (f + 1) m → 80 ≤ psn m f + k → relS nf 6 7 (fsl (fun c => if okD U D A f c then srch U D most d (f + 1) (updS A f c) else none) (12 * min (useS A f + 1) most - psn m f) (psn m f)) (cndR (fun q9 => tryR most d (f + 1) q9) most f k m) := by
      intro k
      induction k with
      | zero =>
        intro m _ hs hp
        have h1 := stL_le hs (Nat.lt_succ_self f)
        have h2 := (hs.1 f (Nat.lt_succ_self f)).1
        unfold psn at hp
        omega
      | succ k ihk =>
        intro m hi hs hp
        have hu := useS_6 hi
        have h1 := stL_le hs (Nat.lt_succ_self f)
        have hst := psn_st h1
        by_cases hsp : psn m f / 12 = usedN (m 6) f ∧ psn m f % 12 ≠ 0
        · have ho : stO most m f := Or.inl (stN_A hs hsp.1 hsp.2)
          rw [cndR_s, if_pos ho, fsl_none (fun i h1 h2 => by rw [if_neg (fun q => by have := q.1; omega)])]
          exact rfl
        · obtain ⟨h6, h7⟩ := stN_B hs hsp
          by_cases ho : stO most m f
          · rw [cndR_s, if_pos ho]
            unfold stO at ho
            rw [show 12 * min (useS A f + 1) most - psn m f = 0 by omega]
            exact rfl
          · have h5 : stN m f 6 f ≤ 5 := by unfold stO at ho; omega
            have hs1 := hs.st1 h5
            have hi1 := hi.st
            have ho2 : psn m f < 12 * min (useS A f + 1) most := by unfold stO at ho; omega
            have hpb := putB_ok hU hd hi1 hs1.2 (show f < nf by omega) h6 h7 (by omega) (by unfold stO at ho; omega)
            have hp1 : psn (stN m f) f = psn m f + 1 := by
              show 12 * stN m f 6 f + (stN m f 7 f + 1) % 4294967296 = _
              omega
            rw [cndR_s, if_neg ho, show 12 * min (useS A f + 1) most - psn m f = (12 * min (useS A f + 1) most - (psn m f + 1)) + 1 by omega]
            by_cases hb : putB (stN m f) f = true
            · have hok := hpb.mp hb
              have hi2 := hi1.nx (show f < nf by omega) h6 h7 hb
              have hrec := ih (f + 1) _ _ (by omega) hi2 hs1.nx (psn_nx _ _)
              have hk := tryR_kp most d (f + 1) (nxM (stN m f) f)
              have h8 := tryR_lt8 most d (f + 1) (nxM (stN m f) f) (lt8.nx (m := stN m f) hs1.2 f)
              rw [if_pos hb]
              cases hq : srch U D most d (f + 1) (updS A f (psn m f)) with
              | some A' =>
                rw [hq] at hrec
                rw [fsl_t (x := A') (by rw [if_pos hok, hq]), if_pos hrec.1]
                exact hrec
              | none =>
                rw [hq] at hrec
                have hf : (tryR most d (f + 1) (nxM (stN m f) f)).1 = false := hrec
                have hp3 : psn (tryR most d (f + 1) (nxM (stN m f) f)).2 f = psn m f + 1 := by
                  rw [← hp1]; exact psn_same (by rw [hk 6 f (by omega), nxM_no (Or.inl rfl) (by omega)]) (by rw [hk 7 f (by omega), nxM_no (Or.inr rfl) (by omega)])
                rw [fsl_f (by rw [if_pos hok, hq]), if_neg (by rw [hf]; decide), ← hp3]
                exact ihk _ (hi1.kp ((kpR.nx f _).tr hk.up)) ((hs1.nx.lo (z := f + 1) (by omega)).kp hk h8) (by omega)
            · rw [if_neg hb, fsl_f (by rw [if_neg (fun q => hb (hpb.mpr q))])]
              have hp3 : psn (putM (stN m f) f) f = psn m f + 1 := by
                rw [← hp1]; exact psn_same (by rw [putM_row (by decide)]) (by rw [putM_row (by decide)])
              rw [← hp3]
              exact ihk _ (hi1.kp (kpR.put f _)) hs1.put (by omega)
    have := key 80 m hi hs (by omega)
    rw [hp] at this
    exact this
