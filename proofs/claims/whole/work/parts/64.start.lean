/-! the law, from its entry -/
theorem ar_of {s : State} {cA comp : ClassId} {k : Class} {ty : FieldType} (h1 : s.vm.classes[cA]? = some k) (h2 : k.kind = .array comp ty) : ArrOfT s cA ty := fun _ _ => ⟨fun _ h => (by cases h), k, h1, comp, h2⟩
theorem g_start {s : State} {b : Nat} (hts : ∀ w ∈ lw_tbl, w.before #[Value.ref b] s = true) : ∃ g : gE, g_K g s ∧ g_B s := by
  have hAl : ∀ w ∈ Al, w.before #[Value.ref b] s = true := fun w hw => hts w (Al_tbl hw)
  obtain ⟨c0, i0, h0⟩ := u_known (C := RX0) (T := TX0) (N := 6) (n := 6) (ws := Al) hAl uX0 (hAl _ wd1_30)
  obtain ⟨c1, i1, h1⟩ := u_known (C := RX1) (T := TX1) (N := 10) (n := 10) (ws := Al) hAl uX1 (hAl _ wd1_21)
  obtain ⟨c2, i2, h2⟩ := u_known (C := RX2) (T := TX2) (N := 3) (n := 3) (ws := Al) hAl uX2 (hAl _ wd1_146)
  obtain ⟨c3, i3, h3⟩ := u_known (C := RX3) (T := TX3) (N := 3) (n := 3) (ws := Al) hAl uX3 (hAl _ wd1_127)
  obtain ⟨c4, i4, h4⟩ := u_known (C := RX4) (T := TX4) (N := 3) (n := 3) (ws := Al) hAl uX4 (hAl _ wd1_109)
  obtain ⟨c5, i5, h5⟩ := u_known (C := RX5) (T := TX5) (N := 7) (n := 7) (ws := Al) hAl uX5 (hAl _ wd1_13)
  obtain ⟨c6, i6, h6⟩ := u_known (C := RX6) (T := TX6) (N := 15) (n := 15) (ws := Al) hAl uX6 (hAl _ wd3_91)
  obtain ⟨a0, k0, p0, f0, f1, f2⟩ := Cond.arrayClass_spec (hAl _ wd1_63)
  obtain ⟨a1, k1, p1, l0, l1, l2⟩ := Cond.arrayClass_spec (hAl _ wd1_144)
  obtain ⟨p2, a2, k2, q0, -, q1, q2, q3⟩ := Cond.arrayOver_spec (hts _ wd1_29)
  obtain ⟨p3, a3, k3, r0, -, r1, r2, r3⟩ := Cond.arrayOver_spec (hts _ wd1_126)
  obtain ⟨p4, a4, k4, t0, -, t1, t2, t3⟩ := arrayOverA_spec (hts _ wd1_27)
  refine ⟨((fun k => ([c0, c1, c2, c3, c4, c5, c6] : List ClassId).getD k c0, fun k => ([i0, i1, i2, i3, i4, i5, i6] : List (Nat → Nat)).getD k i0), fun k => ([a0, a1, a2, a3, a4] : List ClassId).getD k a0), ⟨⟨fun k q hq => ?_, fun k q hq => ?_⟩, va_Nw.of rfl (hts _ wd2_131), va_Nw.of rfl (hts _ wd2_139), va_Nw.of rfl (hts _ wd2_191), va_Nw.of rfl (hts _ wd1_203), va_Nw.of rfl (hts _ wd1_222)⟩, hts _ wd1_29, hts _ wd1_126, hts _ wd1_27, va_Nw.of rfl (hts _ wd1_31)⟩
  · match k, hq with
    | 0, hq => cases hq; exact h0
    | 1, hq => cases hq; exact h1
    | 2, hq => cases hq; exact h2
    | 3, hq => cases hq; exact h3
    | 4, hq => cases hq; exact h4
    | 5, hq => cases hq; exact h5
    | 6, hq => cases hq; exact h6
    | k + 7, hq => simp at hq
  · match k, hq with
    | 0, hq => cases hq; exact ⟨ar_of f1 f2, f0⟩
    | 1, hq => cases hq; exact ⟨ar_of l1 l2, l0⟩
    | 2, hq => cases hq; exact ⟨ar_of q1 q2, k2, p2, q1, q2, q0, q3⟩
    | 3, hq => cases hq; exact ⟨ar_of r1 r2, k3, p3, r1, r2, r0, r3⟩
    | 4, hq => cases hq; exact ⟨ar_of t1 t2, t3⟩
    | k + 5, hq => simp [g_tys] at hq
set_option maxHeartbeats 4000000 in
set_option maxRecDepth 100000 in
theorem whole_start {p : Program} {e : Env} {s : State} {m : MethodId} {below : List Frame} {meth : Method} {c : Code} (l : Launch) (hflags : l.flags = flags0) {b L : Nat} {xs : Nat → Int32} (hL : L ≤ 3072) (C0 : lw_At p s m meth c b L xs) : W p l e room_1 s m #[Value.ref b] below meth c s.heap [] 0 0 (lw_Z below #[Value.ref b] s) (entryFrame m ([Value.ref b] : List Value).toArray 4) := by
  obtain ⟨hx, hb, hr, hml, hown, hts, hX, hbl, hlocks, hgv⟩ := id C0
  have hAl : ∀ w ∈ Al, w.before #[Value.ref b] s = true := fun w hw => hts w (Al_tbl hw)
  have CF : CallFix p m c code 4 s #[Value.ref b] (g_ws yX5_cut cX5_cut 5 (some .int)) R_law := ⟨hx, hb, hml, hown, fun w hw => (List.mem_cons.mp hw).elim (fun q => by rw [q]; exact hAl _ kw_X5_cut.1.1) (hAl w)⟩
  obtain ⟨g, hK, hB⟩ := g_start hts
  have hA : ∀ q : Nat, s.heap.size ≤ q → (fun q : Nat => s.heap.size ≤ q) q := fun _ h => h
  have hS : va_S (fun q : Nat => s.heap.size ≤ q) s.heap s.heap [] := va_S.rf
  have hP : va_P g.1 vwCl [] s.heap := fun k q h => by simp at h
  have hD : va_D (fun q : Nat => s.heap.size ≤ q) [] := ⟨fun i j p q h => by simp at h, fun k q h => by simp at h⟩
  have hl := lv_entry ([.ref b]) (n := 4) (Nat.le_of_ble_eq_true rfl)
  rw [lg_entry_eq]
  generalize (lg_sl ([.ref b]) ++ List.replicate (4 - (lg_sl ([.ref b])).length) Slot.unset).toArray = ls at hl ⊢
  have hl : lv_has ls 4 [(0, .ref b)] := hl
  refine x_mk (ci := 5) (fs := fsX5) CF hK hB hP hD hS hA hl rfl uX5 tyX5 tyX5_ok fsX5_ok wd1_12 wd1_13 wd1_1 (k_X5 (l := l) (g := g)) (by decide +kernel) wd1_16 wd1_15 wd1_14 (Nat.le_of_ble_eq_true rfl) (Nat.le_of_ble_eq_true rfl) ⟨(Nat.le_of_ble_eq_true rfl), (Nat.le_of_ble_eq_true rfl)⟩ (Nat.le_of_ble_eq_true rfl) dL_law_0 dL_law_3 dL_law_4 (fun a1 H locs hP hD hS => ?_)
  refine lv_astore_n (lv' := [(1, .ref (a1 0)), (0, .ref b)]) hx hb dL_law_7 rfl hl (by decide) rfl (fun ls hl => ?_)
  refine x_mk (ci := 6) (fs := fsX6) CF hK hB hP hD hS hA hl rfl uX6 tyX6 tyX6_ok fsX6_ok wd3_90 wd3_91 wd1_8 (k_X6 (l := l) (g := g)) (by decide +kernel) wd3_94 wd3_93 wd3_92 (Nat.le_of_ble_eq_true rfl) (Nat.le_of_ble_eq_true rfl) ⟨(Nat.le_of_ble_eq_true rfl), (Nat.le_of_ble_eq_true rfl)⟩ (Nat.le_of_ble_eq_true rfl) dL_law_8 dL_law_11 dL_law_12 (fun a2 H locs hP hD hS => ?_)
  refine lv_astore_n (lv' := [(2, .ref (a2 0)), (1, .ref (a1 0)), (0, .ref b)]) hx hb dL_law_15 rfl hl (by decide) rfl (fun ls hl => ?_)
  refine lv_iconst (v := nI 0) hx hb dL_law_16 (by decide) ?_
  refine lv_istore_n (lv' := [(3, .int (nI 0)), (2, .ref (a2 0)), (1, .ref (a1 0)), (0, .ref b)]) hx hb dL_law_17 rfl hl (by decide) rfl (fun ls hl => ?_)
  have z1 : ([] ++ g_wl a1 55 (g_E g a1 dsX MX0 JZ)).length = 55 := by simp [g_wl]
  have w1 : ∀ i, i < 55 → (([] ++ g_wl a1 55 (g_E g a1 dsX MX0 JZ)) ++ g_wl a2 14 (g_E g a2 dsR MR0 JZ))[i]? = some (a1 i, g_E g a1 dsX MX0 JZ i) := fun i hi => by rw [List.getElem?_append_left (by rw [z1]; exact hi), List.nil_append]; exact g_wl_at hi rfl
  have w2 : ∀ i, i < 14 → (([] ++ g_wl a1 55 (g_E g a1 dsX MX0 JZ)) ++ g_wl a2 14 (g_E g a2 dsR MR0 JZ))[55 + i]? = some (a2 i, g_E g a2 dsR MR0 JZ i) := fun i hi => by rw [List.getElem?_append_right (by rw [z1]; omega), z1, Nat.add_sub_cancel_left]; exact g_wl_at hi rfl
  obtain ⟨hPX, hIX, hAX⟩ := g_of (fun i => i) (fun i _ j _ h => h) w1 hP hD
  obtain ⟨hPR, hIR, hAR⟩ := g_of (fun i => 55 + i) (fun i _ j _ h => by have h : 55 + i = 55 + j := h; omega) w2 hP hD
  have hap : g_ap a1 a2 := fun i j hi hj h => by have h9 := hD.1 i (55 + j) _ _ (w1 i hi) (w2 j hj) h; omega
  exact lw_loop C0 hIX hIR hap hAX hAR hK ⟨(Nat.le_of_ble_eq_true rfl), (Nat.le_of_ble_eq_true rfl)⟩ hL L 0 MX0 MR0 JZ JZ H locs ls (by omega) (by omega) mr_all hPX hPR hS hl
