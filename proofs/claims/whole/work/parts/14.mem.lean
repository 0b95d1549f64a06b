/-! array copies, lengths, and the algebra of memory -/
def gcpy (M : gMem) (i sp j dp n : Nat) : gMem := fun a b => if a = j ∧ dp ≤ b ∧ b < dp + n then M i (sp + (b - dp)) else M a b
def gcpL (J : gMeL) (i sp j dp n : Nat) : gMeL := fun a b => if a = j ∧ dp ≤ b ∧ b < dp + n then J i (sp + (b - dp)) else J a b
section XM
variable {p : Program} {l : Launch} {e : Env} {R : Room} {s : State} {m : MethodId} {args : Array Value} {below : List Frame} {meth : Method} {c : Code} {H : Heap} {locs : List Loc} {cells slots : Nat} {Q : State → Prop}
variable {cc : ByteArray} {pc nL : Nat} {ls : Array Slot} {rest : List Value} {g : gE} {ad : Nat → Nat} {ds : gDs} {n : Nat} {M M' : gMem} {J J' : gMeL} {A : Nat → Prop} {H0 : Heap}
variable {y0 : MethodName} {b0 : ByteArray} {mL0 : Nat} {r0 : Option FieldType} {own : String} {index : Nat} {lv : List (Nat × Value)}
theorem x_acpyi (CF : CallFix p m c cc nL s args (g_ws y0 b0 mL0 r0) own) (hK : g_K g s) (hI : g_inj ad n) (hA : ∀ q, g_A ad n q → A q) (hP : g_P g ad ds n M J H) (hS : va_S A H0 H locs) (hl : lv_has ls nL lv) (i : Nat) (hi : i < n) {N : Nat} {fl : List (Option Nat)} (hd : ds i = (1, N, fl)) (j : Nat) (hj : j < n) {N' : Nat} {fl' : List (Option Nat)} (hd' : ds j = (1, N', fl')) (sp dp k : Nat) (hlink : Cond.methodLink own index arraycopyName ∈ Al) (h4 : sp + k ≤ N) (h5 : dp + k ≤ N') (hN : N < 2 ^ 31) (hN' : N' < 2 ^ 31) (hfr : 1 ≤ R.frames) (hlo : (rest.map fun v => v.category).sum + (nativeFrameWords "java/lang/System" "arraycopy" 5 + 11) ≤ R.locals) (hdg : decode cc pc = .ok (.invokestatic index, 3))
    (kk : ∀ (H1 : Heap) (locs1 : List Loc), g_P g ad ds n (gcpy M i sp j dp k) J H1 → va_S A H0 H1 locs1 → W p l e R s m args below meth c H1 locs1 cells slots Q (F0 m (pc + 3) ls rest)) : W p l e R s m args below meth c H locs cells slots Q (F0 m pc ls (.int (nI k) :: .int (nI dp) :: .ref (ad j) :: .int (nI sp) :: .ref (ad i) :: rest)) := by
  obtain ⟨hx, hb, hml, hown, hts⟩ := CF
  have ok : ∀ w ∈ Al, w.before args s = true := fun w h => hts w (List.mem_cons_of_mem _ h)
  have hE : g_E g ad ds M J i = .inl (g.2 0, N, .inl (fun k => nI (M i k))) := by simp [g_E, g_cell, hd]
  have hE' : g_E g ad ds M J j = .inl (g.2 0, N', .inl (fun k => nI (M j k))) := by simp [g_E, g_cell, hd']
  refine va_copyi hx hb (hml.trans hl.1.symm) hown (ok _ hlink) (ok _ wd1_233) (ok _ wd1_232) (ok _ wd1_9) hK.1 hP ((g_wl_D _ hI).weaken (fun _ q _ h => hA q.1 h)) hS i j 0 0 (g_wl_at hi hE) (g_wl_at hj hE') rfl rfl rfl (nI_pos (by omega)) (nI_pos (by omega)) (nI_pos (by omega)) (by rw [nI_clamp (by omega), nI_clamp (by omega)]; exact h4) (by rw [nI_clamp (by omega), nI_clamp (by omega)]; exact h5) (fun _ _ => rfl) hfr hlo hdg (fun H1 locs1 hP1 _ hS1 => kk H1 locs1 ?_ hS1)
  rw [nI_clamp (by omega), nI_clamp (by omega), nI_clamp (by omega)] at hP1
  rw [g_wl_set (E' := g_E g ad ds (gcpy M i sp j dp k) J) (i := j)] at hP1
  · exact hP1
  · simp only [g_E, g_cell, hd']
    congr 4
    funext q
    simp only [va_cpy, gcpy]
    by_cases hq : dp ≤ q ∧ q < dp + k <;> simp [hq]
  · intro x hne
    simp only [g_E]
    congr 1
    funext b
    simp [gcpy, hne]
theorem x_acpyl (CF : CallFix p m c cc nL s args (g_ws y0 b0 mL0 r0) own) (hK : g_K g s) (hI : g_inj ad n) (hA : ∀ q, g_A ad n q → A q) (hP : g_P g ad ds n M J H) (hS : va_S A H0 H locs) (hl : lv_has ls nL lv) (i : Nat) (hi : i < n) {N : Nat} {fl : List (Option Nat)} (hd : ds i = (2, N, fl)) (j : Nat) (hj : j < n) {N' : Nat} {fl' : List (Option Nat)} (hd' : ds j = (2, N', fl')) (sp dp k : Nat) (hlink : Cond.methodLink own index arraycopyName ∈ Al) (h4 : sp + k ≤ N) (h5 : dp + k ≤ N') (hN : N < 2 ^ 31) (hN' : N' < 2 ^ 31) (hfr : 1 ≤ R.frames) (hlo : (rest.map fun v => v.category).sum + (nativeFrameWords "java/lang/System" "arraycopy" 5 + 11) ≤ R.locals) (hdg : decode cc pc = .ok (.invokestatic index, 3))
    (kk : ∀ (H1 : Heap) (locs1 : List Loc), g_P g ad ds n M (gcpL J i sp j dp k) H1 → va_S A H0 H1 locs1 → W p l e R s m args below meth c H1 locs1 cells slots Q (F0 m (pc + 3) ls rest)) : W p l e R s m args below meth c H locs cells slots Q (F0 m pc ls (.int (nI k) :: .int (nI dp) :: .ref (ad j) :: .int (nI sp) :: .ref (ad i) :: rest)) := by
  obtain ⟨hx, hb, hml, hown, hts⟩ := CF
  have ok : ∀ w ∈ Al, w.before args s = true := fun w h => hts w (List.mem_cons_of_mem _ h)
  have hE : g_E g ad ds M J i = .inl (g.2 1, N, .inr (.inl (J i))) := by simp [g_E, g_cell, hd]
  have hE' : g_E g ad ds M J j = .inl (g.2 1, N', .inr (.inl (J j))) := by simp [g_E, g_cell, hd']
  refine va_copyl hx hb (hml.trans hl.1.symm) hown (ok _ hlink) (ok _ wd1_233) (ok _ wd1_232) (ok _ wd1_9) hK.1 hP ((g_wl_D _ hI).weaken (fun _ q _ h => hA q.1 h)) hS i j 1 1 (g_wl_at hi hE) (g_wl_at hj hE') rfl rfl rfl (nI_pos (by omega)) (nI_pos (by omega)) (nI_pos (by omega)) (by rw [nI_clamp (by omega), nI_clamp (by omega)]; exact h4) (by rw [nI_clamp (by omega), nI_clamp (by omega)]; exact h5) (fun _ _ => rfl) hfr hlo hdg (fun H1 locs1 hP1 _ hS1 => kk H1 locs1 ?_ hS1)
  rw [nI_clamp (by omega), nI_clamp (by omega), nI_clamp (by omega)] at hP1
  rw [g_wl_set (E' := g_E g ad ds M (gcpL J i sp j dp k)) (i := j)] at hP1
  · exact hP1
  · simp only [g_E, g_cell, hd']
    congr 5
    funext q
    simp only [va_cpy, gcpL]
    by_cases hq : dp ≤ q ∧ q < dp + k <;> simp [hq]
  · intro x hne
    simp only [g_E]
    congr 1
    funext b
    simp [gcpL, hne]
theorem x_aleni (CF : CallFix p m c cc nL s args (g_ws y0 b0 mL0 r0) own) (hK : g_K g s) (hP : g_P g ad ds n M J H) (i : Nat) (hi : i < n) {N : Nat} {fl : List (Option Nat)} (hd : ds i = (1, N, fl)) (hdg : decode cc pc = .ok (.arraylength, 1))
    (kk : W p l e R s m args below meth c H locs cells slots Q (F0 m (pc + 1) ls (.int (nI N) :: rest))) : W p l e R s m args below meth c H locs cells slots Q (F0 m pc ls (.ref (ad i) :: rest)) := by
  have hE : g_E g ad ds M J i = .inl (g.2 0, N, .inl (fun k => nI (M i k))) := by simp [g_E, g_cell, hd]
  exact va_alen CF.1 CF.2.1 hK.1 hP i 0 (g_wl_at hi hE) rfl rfl hdg kk
theorem x_alenl (CF : CallFix p m c cc nL s args (g_ws y0 b0 mL0 r0) own) (hK : g_K g s) (hP : g_P g ad ds n M J H) (i : Nat) (hi : i < n) {N : Nat} {fl : List (Option Nat)} (hd : ds i = (2, N, fl)) (hdg : decode cc pc = .ok (.arraylength, 1))
    (kk : W p l e R s m args below meth c H locs cells slots Q (F0 m (pc + 1) ls (.int (nI N) :: rest))) : W p l e R s m args below meth c H locs cells slots Q (F0 m pc ls (.ref (ad i) :: rest)) := by
  have hE : g_E g ad ds M J i = .inl (g.2 1, N, .inr (.inl (J i))) := by simp [g_E, g_cell, hd]
  exact va_alen CF.1 CF.2.1 hK.1 hP i 1 (g_wl_at hi hE) rfl rfl hdg kk
end XM
theorem u2_eq (M : gMem) (i k v a b : Nat) : u2 M i k v a b = if a = i ∧ b = k then v else M a b := rfl
theorem u2_tw (M : gMem) (i k x y : Nat) : u2 (u2 M i k x) i k y = u2 M i k y := by funext a b; simp only [u2]; split <;> simp_all
theorem u2_sw (M : gMem) {i k j q : Nat} (h : ¬ (i = j ∧ k = q)) (x y : Nat) : u2 (u2 M i k x) j q y = u2 (u2 M j q y) i k x := by
  funext a b
  simp only [u2]
  by_cases h1 : a = i ∧ b = k <;> by_cases h2 : a = j ∧ b = q
  · exact absurd ⟨h1.1.symm.trans h2.1, h1.2.symm.trans h2.2⟩ h
  · rw [if_neg h2, if_pos h1, if_pos h1]
  · rw [if_pos h2, if_neg h1, if_pos h2]
  · rw [if_neg h2, if_neg h1, if_neg h1, if_neg h2]
theorem u2_id {M : gMem} {i k x : Nat} (h : M i k = x) : u2 M i k x = M := by
  funext a b; simp only [u2]; split
  · rename_i e; rw [e.1, e.2, h]
  · rfl
/-- the row i, set by a function on its first n places -/
def rowN (M : gMem) (i n : Nat) (f : Nat → Nat) : gMem := fun a b => if a = i ∧ b < n then f b else M a b
theorem rowN_0 (M : gMem) (i : Nat) (f : Nat → Nat) : rowN M i 0 f = M := by funext a b; simp [rowN]
theorem rowN_s {M : gMem} {i n : Nat} {f : Nat → Nat} {x : Nat} (h : f n = x) : u2 (rowN M i n f) i n x = rowN M i (n + 1) f := by
  funext a b
  simp only [u2, rowN]
  by_cases h1 : a = i
  · by_cases h2 : b = n
    · simp [h1, h2, h]
    · simp only [h1, h2, true_and, and_false, if_false]
      by_cases h3 : b < n
      · simp [h3, Nat.lt_succ_of_lt h3]
      · simp [h3, show ¬ b < n + 1 by omega]
  · simp [h1]
theorem rowN_out {M : gMem} {i n : Nat} {f : Nat → Nat} {j : Nat} (h : j ≠ i) : rowN M i n f j = M j := by funext b; simp [rowN, h]
theorem rowN_in {M : gMem} {i n : Nat} {f : Nat → Nat} {k : Nat} (h : k < n) : rowN M i n f i k = f k := by simp [rowN, h]
theorem rowN_hi {M : gMem} {i n : Nat} {f : Nat → Nat} {k : Nat} (h : n ≤ k) : rowN M i n f i k = M i k := by simp [rowN, show ¬ k < n by omega]
def rowL (J : gMeL) (i n : Nat) (f : Nat → Int64) : gMeL := fun a b => if a = i ∧ b < n then f b else J a b
theorem rowL_0 (J : gMeL) (i : Nat) (f : Nat → Int64) : rowL J i 0 f = J := by funext a b; simp [rowL]
theorem rowL_s {J : gMeL} {i n : Nat} {f : Nat → Int64} {x : Int64} (h : f n = x) : u2L (rowL J i n f) i n x = rowL J i (n + 1) f := by
  funext a b
  simp only [u2L, rowL]
  by_cases h1 : a = i
  · by_cases h2 : b = n
    · simp [h1, h2, h]
    · simp only [h1, h2, true_and, and_false, if_false]
      by_cases h3 : b < n
      · simp [h3, Nat.lt_succ_of_lt h3]
      · simp [h3, show ¬ b < n + 1 by omega]
  · simp [h1]
def w45 (M : gMem) (i x y : Nat) : gMem := u2 (u2 M i 4 x) i 5 y
theorem w45_4 (M : gMem) (i x y z : Nat) : u2 (w45 M i x y) i 4 z = w45 M i z y := by
  unfold w45; rw [u2_sw _ (by omega), u2_tw]
theorem w45_5 (M : gMem) (i x y z : Nat) : u2 (w45 M i x y) i 5 z = w45 M i x z := by
  unfold w45; rw [u2_tw]
theorem w45_r4 (M : gMem) (i x y : Nat) : w45 M i x y i 4 = x := by simp [w45, u2]
theorem w45_r5 (M : gMem) (i x y : Nat) : w45 M i x y i 5 = y := by simp [w45, u2]
theorem w45_row {M : gMem} {i x y j : Nat} (h : j ≠ i) : w45 M i x y j = M j := by unfold w45; rw [u2_row h, u2_row h]
/-- six fields of one figure become another's -/
def cpf (M : gMem) (i j : Nat) : gMem := fun a b => if a = i ∧ b < 6 then M j b else M a b
theorem cpf_ok {M : gMem} {i j : Nat} (h : j ≠ i) : u2 (u2 (u2 (u2 (u2 (u2 M i 0 (M j 0)) i 1 (M j 1)) i 2 (M j 2)) i 3 (M j 3)) i 4 (M j 4)) i 5 (M j 5) = cpf M i j := by
  funext a b
  simp only [u2, cpf]
  by_cases h1 : a = i
  · subst h1
    rcases (show b = 0 ∨ b = 1 ∨ b = 2 ∨ b = 3 ∨ b = 4 ∨ b = 5 ∨ 6 ≤ b by omega) with rfl | rfl | rfl | rfl | rfl | rfl | hb <;> first | (simp; done) | (repeat rw [if_neg (by omega)])
  · simp [h1]
