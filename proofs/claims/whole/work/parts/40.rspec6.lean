/-! the reference: sharing, as a search -/
def cndR (rec : gMem → Bool × gMem) (most f : Nat) : Nat → gMem → Bool × gMem
  | 0, m => (false, m)
  | k + 1, m => if stO most m f then (false, stN m f) else if putB (stN m f) f = true then (if (rec (nxM (stN m f) f)).1 = true then rec (nxM (stN m f) f) else cndR rec most f k (rec (nxM (stN m f) f)).2) else cndR rec most f k (putM (stN m f) f)
theorem cndR_s (rec : gMem → Bool × gMem) (most f k : Nat) (m : gMem) : cndR rec most f (k + 1) m = if stO most m f then (false, stN m f) else if putB (stN m f) f = true then (if (rec (nxM (stN m f) f)).1 = true then rec (nxM (stN m f) f) else cndR rec most f k (rec (nxM (stN m f) f)).2) else cndR rec most f k (putM (stN m f) f) := rfl
def tryR (most : Nat) : Nat → Nat → gMem → Bool × gMem
  | 0, _, m => (true, m)
  | d + 1, f, m => cndR (fun q9 => tryR most d (f + 1) q9) most f 80 m
theorem tryR_s (most d f : Nat) (m : gMem) : tryR most (d + 1) f m = cndR (fun q9 => tryR most d (f + 1) q9) most f 80 m := rfl
/-- what a search from f leaves as it was -/
def kpR (f : Nat) (m m' : gMem) : Prop := ∀ a b, ¬ (((a = 6 ∨ a = 7) ∧ f ≤ b) ∨ ((a = 8 ∨ a = 9) ∧ 6 * (f + 1) ≤ b)) → m' a b = m a b
theorem kpR.rf {f : Nat} {m : gMem} : kpR f m m := fun _ _ _ => rfl
theorem kpR.tr {f : Nat} {m m' m2 : gMem} (h : kpR f m m') (h2 : kpR f m' m2) : kpR f m m2 := fun a b q => (h2 a b q).trans (h a b q)
theorem kpR.up {f : Nat} {m m' : gMem} (h : kpR (f + 1) m m') : kpR f m m' := fun a b q => h a b (by omega)
theorem kpR.st (f : Nat) (m : gMem) : kpR f m (stN m f) := fun a b q => by
  unfold stN
  split
  · simp only [u2]; rw [if_neg (by omega), if_neg (by omega), if_neg (by omega)]
  · simp only [u2]; rw [if_neg (by omega)]
theorem kpR.put (f : Nat) (m : gMem) : kpR f m (putM m f) := fun a b q => by
  unfold putM
  simp only [u2, cpA]
  rw [if_neg (by omega), if_neg (by omega), if_neg (by omega)]
theorem kpR.nx (f : Nat) (m : gMem) : kpR f m (nxM m f) := fun a b q => by
  have h := kpR.put f m a b q
  unfold nxM
  simp only [u2]
  rw [if_neg (by omega), if_neg (by omega)]
  exact h
def lt8 (m : gMem) : Prop := ∀ b, m 8 b < 4096 ∧ m 9 b < 4096
theorem lt8.st {m : gMem} (h : lt8 m) (f : Nat) : lt8 (stN m f) := fun b => by
  rw [stN_row (by decide) (by decide), stN_row (by decide) (by decide)]; exact h b
theorem lt8.put {m : gMem} (h : lt8 m) (f : Nat) : lt8 (putM m f) := (shI.put (y := 0) (f := f) ⟨fun _ he => absurd he (Nat.not_lt_zero _), h⟩).2
theorem lt8.nx {m : gMem} (h : lt8 m) (f : Nat) : lt8 (nxM m f) := fun b => by
  unfold nxM
  have := h.put f b
  simp only [u2]
  simp; exact this
theorem cndR_lt8 {rec : gMem → Bool × gMem} (hr : ∀ m, lt8 m → lt8 (rec m).2) (most f k : Nat) (m : gMem) (h : lt8 m) : lt8 (cndR rec most f k m).2 := by
  induction k generalizing m with
  | zero => exact h
  | succ k ih =>
    rw [cndR_s]
    split
    · exact h.st f
    · split
      · split
        · exact hr _ ((h.st f).nx f)
        · exact ih _ (hr _ ((h.st f).nx f))
      · exact ih _ ((h.st f).put f)
theorem tryR_lt8 (most d f : Nat) (m : gMem) (h : lt8 m) : lt8 (tryR most d f m).2 := by
  induction d generalizing f m with
  | zero => exact h
  | succ d ih => exact cndR_lt8 (fun m hm => ih _ m hm) _ _ _ _ h
theorem cndR_kp {rec : gMem → Bool × gMem} {f : Nat} (hr : ∀ m, kpR f m (rec m).2) (most k : Nat) (m : gMem) : kpR f m (cndR rec most f k m).2 := by
  induction k generalizing m with
  | zero => exact kpR.rf
  | succ k ih =>
    rw [cndR_s]
    split
    · exact kpR.st f m
    · split
      · split
        · exact ((kpR.st f m).tr (kpR.nx f _)).tr (hr _)
        · exact (((kpR.st f m).tr (kpR.nx f _)).tr (hr _)).tr (ih _)
      · exact ((kpR.st f m).tr (kpR.put f _)).tr (ih _)
theorem tryR_kp (most d f : Nat) (m : gMem) : kpR f m (tryR most d f m).2 := by
  induction d generalizing f m with
  | zero => exact kpR.rf
  | succ d ih => exact cndR_kp (fun m => (ih _ m).up) _ _ _
/-- the number of the next choice -/
def psn (m : gMem) (f : Nat) : Nat := 12 * m 6 f + stL m f
theorem psn_st {m : gMem} {f : Nat} (h : stL m f ≤ 12) : psn m f < psn (stN m f) f := by
  unfold psn
  by_cases hc : stC m f
  · unfold stN
    rw [if_pos hc]
    simp only [stL, u2] at *
    simp
    omega
  · unfold stN
    rw [if_neg hc]
    unfold stC at hc
    simp only [stL, u2] at *
    simp
    omega
theorem psn_same {m m' : gMem} {f : Nat} (h6 : m' 6 f = m 6 f) (h7 : m' 7 f = m 7 f) : psn m' f = psn m f := by
  unfold psn stL; rw [h6, h7]
theorem shI.kp {f : Nat} {m m' : gMem} (h : shI (f + 1) m) (hk : kpR (f + 1) m m') (h8 : lt8 m') : shI (f + 1) m' :=
  ⟨fun e he => by rw [hk 6 e (by omega), hk 7 e (by omega)]; exact h.1 e he, h8⟩
theorem nxM_no {m : gMem} {f a b : Nat} (ha : a = 6 ∨ a = 7) (h : b ≠ f + 1) : nxM m f a b = m a b := by
  unfold nxM
  simp only [u2]
  rw [if_neg (by omega), if_neg (by omega), putM_row (by omega)]
theorem itR_try (most nf : Nat) (hms : most ≤ 6) : ∀ (d f : Nat) (m : gMem), f + d = nf → shI (f + 1) m → ∃ n0, ∀ n, itR most nf (n + n0) (f + 1) m = if (tryR most d f m).1 = true then some (true, (tryR most d f m).2) else itR most nf n f (tryR most d f m).2 := by
  intro d
  induction d with
  | zero =>
    intro f m hf hi
    refine ⟨1, fun n => ?_⟩
    rw [itR_s, if_pos (by omega)]
    rfl
  | succ d ih =>
    intro f m hf hi
    rw [tryR_s]
    have key : ∀ (k : Nat) (m : gMem), shI (f + 1) m → 80 ≤ psn m f + k → ∃ n0, ∀ n, itR most nf (n + n0) (f + 1) m = if (cndR (fun q9 => tryR most d (f + 1) q9) most f k m).1 = true then some (true, (cndR (fun q9 => tryR most d (f + 1) q9) most f k m).2) else itR most nf n f (cndR (fun q9 => tryR most d (f + 1) q9) most f k m).2 := by
      intro k
      induction k with
      | zero =>
        intro m hi hp
        have h1 := stL_le hi (Nat.lt_succ_self f)
        have h2 := (hi.1 f (Nat.lt_succ_self f)).1
        unfold psn at hp
        omega
      | succ k ihk =>
        intro m hi hp
        have h1 := stL_le hi (Nat.lt_succ_self f)
        have h2 := psn_st h1
        by_cases ho : stO most m f
        · refine ⟨1, fun n => ?_⟩
          rw [itR_s, if_neg (by omega), if_pos ho, cndR_s, if_pos ho]
          rfl
        · have h5 : stN m f 6 f ≤ 5 := by unfold stO at ho; omega
          have hs := hi.st1 h5
          by_cases hb : putB (stN m f) f = true
          · obtain ⟨n1, hn1⟩ := ih (f + 1) (nxM (stN m f) f) (by omega) hs.nx
            have hk := tryR_kp most d (f + 1) (nxM (stN m f) f)
            have h8 := tryR_lt8 most d (f + 1) (nxM (stN m f) f) (lt8.nx (m := stN m f) hs.2 f)
            have hi3 := (hs.nx.lo (z := f + 1) (by omega)).kp hk h8
            have hp3 : psn (tryR most d (f + 1) (nxM (stN m f) f)).2 f = psn (stN m f) f := psn_same (by rw [hk 6 f (by omega), nxM_no (Or.inl rfl) (by omega)]) (by rw [hk 7 f (by omega), nxM_no (Or.inr rfl) (by omega)])
            obtain ⟨n2, hn2⟩ := ihk _ hi3 (by rw [hp3]; omega)
            refine ⟨n2 + n1 + 1, fun n => ?_⟩
            rw [show n + (n2 + n1 + 1) = (n + n2 + n1) + 1 by omega, itR_s, if_neg (by omega), if_neg ho, if_pos hb, hn1, cndR_s, if_neg ho, if_pos hb]
            by_cases hr : (tryR most d (f + 1) (nxM (stN m f) f)).1 = true
            · rw [if_pos hr, if_pos hr, if_pos hr]
            · rw [if_neg hr, if_neg hr]; exact hn2 n
          · have hi3 := hs.put (f := f)
            have hp3 : psn (putM (stN m f) f) f = psn (stN m f) f := psn_same (by rw [putM_row (by decide)]) (by rw [putM_row (by decide)])
            obtain ⟨n2, hn2⟩ := ihk _ hi3 (by rw [hp3]; omega)
            refine ⟨n2 + 1, fun n => ?_⟩
            rw [show n + (n2 + 1) = (n + n2) + 1 by omega, itR_s, if_neg (by omega), if_neg ho, if_neg hb, cndR_s, if_neg ho, if_neg hb]
            exact hn2 n
    exact key 80 m hi (by omega)
def iniR (M : gMem) : gMem := u2 (u2 M 6 0 0) 7 0 4294967295
def shB (M : gMem) (most : Nat) : Bool × gMem := tryR most (M 1 73) 0 (iniR M)
theorem shI_ini {M : gMem} (h : lt8 M) : shI 1 (iniR M) := by
  refine ⟨fun e he => ?_, fun b => ?_⟩
  · obtain rfl : e = 0 := by omega
    unfold iniR; simp [u2]
  · have := h b
    unfold iniR; simp [u2]; exact this
theorem itR_shB {M : gMem} (h : lt8 M) {most : Nat} (hms : most ≤ 6) : ∃ n0, itR most (M 1 73) n0 1 (u2 (u2 M 6 0 0) 7 0 4294967295) = some (shB M most) := by
  obtain ⟨n0, hn⟩ := itR_try most (M 1 73) hms (M 1 73) 0 (iniR M) (by omega) (shI_ini h)
  refine ⟨1 + n0, ?_⟩
  refine (hn 1).trans ?_
  show (if (shB M most).1 = true then some (true, (shB M most).2) else some (false, (shB M most).2)) = some (shB M most)
  cases hb : (shB M most).1
  · rw [if_neg (by decide)]; rw [← hb]
  · rw [if_pos rfl]; rw [← hb]
theorem shB_kp (M : gMem) (most : Nat) : kpR 0 M (shB M most).2 := by
  refine kpR.tr (fun a b q => ?_) (tryR_kp most (M 1 73) 0 (iniR M))
  unfold iniR
  simp only [u2]
  rw [if_neg (by omega), if_neg (by omega)]
theorem shB_lt8 {M : gMem} (h : lt8 M) (most : Nat) : lt8 (shB M most).2 := tryR_lt8 _ _ _ _ (shI_ini h).2
theorem shB_1 (M : gMem) (most : Nat) : (shB M most).2 1 = M 1 := by funext b; exact shB_kp M most 1 b (by omega)
/-- fewest: the first that goes, from most on -/
def fwR (nf : Nat) : Nat → Nat → gMem → Nat × gMem
  | 0, _, m => (nf, m)
  | k + 1, most, m => if (shB m most).1 = true then (most, (shB m most).2) else fwR nf k (most + 1) (shB m most).2
theorem fwR_s (nf k most : Nat) (m : gMem) : fwR nf (k + 1) most m = if (shB m most).1 = true then (most, (shB m most).2) else fwR nf k (most + 1) (shB m most).2 := rfl
def feR (M : gMem) : Nat × gMem := fwR (M 1 73) (M 1 73) 0 M
def skR : Nat → Nat → gMem → Option gMem
  | 0, _, _ => none
  | k + 1, most, m => if (shB m most).1 = true then some (shB m most).2 else skR k (most + 1) (shB m most).2
theorem skR_s (k most : Nat) (m : gMem) : skR (k + 1) most m = if (shB m most).1 = true then some (shB m most).2 else skR k (most + 1) (shB m most).2 := rfl
