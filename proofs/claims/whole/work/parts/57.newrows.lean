/-! cells come: rows for worlds that are lists, with the classes of g -/
/-- what the tables say of arrays of references and of a nest link, as a state has it -/
def g_B (s : State) : Prop := va_AO "ShaftPlay$Figure" s ∧ va_AO "ShaftPlay$Sheet" s ∧ va_Nw (.arrayOver (.array .int)) s ∧ va_Nw (.methodLinkNest "ShaftPlay$Play" 22 yX0_init "ShaftPlay") s
theorem va_AOI.moved {u U : State} (hvm : u.vm.Alike U.vm) (h : va_Nw (.arrayOver (.array .int)) u) : va_Nw (.arrayOver (.array .int)) U := by
  obtain ⟨comp, c, k, h1, h2, h3, h4, h5⟩ := arrayOverA_spec h
  obtain ⟨k', hk', he⟩ := hvm.2.2 _ _ h3
  have hi : (U.vm.classes.findIdx? fun (x : Class) => match x.kind with | .array component _ => component == comp | _ => false) = some c := by
    rw [hvm.findIdx?_eqK _ (fun _ => rfl)]
    exact h2
  have hkind : k'.kind = .array comp (.array .int) := by rw [he]; exact h4
  have f1 : U.vm.findClass (FieldType.array .int).toString = some comp := by rw [hvm.findClass]; exact h1
  have f2 : U.vm.findClass ("[" ++ (FieldType.array .int).toString) = some c := by rw [hvm.findClass]; exact h5
  unfold va_Nw Cond.before Cond.holds
  simp only [Cond.value]
  rw [f1, Option.bind_some]
  refine (congrArg (fun o : Option Nat => (o.bind (fun c => (U.vm.classes[c]?).map fun (k : Class) => match k.kind with | .array _ ty => decide (ty = FieldType.array .int) && decide (U.vm.findClass ("[" ++ (FieldType.array .int).toString) = some c) | _ => false) == some true)) hi).trans ?_
  simp [hk', hkind, f2]
theorem g_B.warm {s U : State} (h : g_B s) (hW : s.WarmedH U.vm) : g_B U := ⟨h.1.moved hW.alike, h.2.1.moved hW.alike, va_AOI.moved hW.alike h.2.2.1, va_Nw.warmM hW h.2.2.2⟩
theorem g_B.calling {a : Array Value} {U : State} {f : JFrame} {mk : MethodId} (h : g_B U) : g_B (U.calling f mk a) :=
  ⟨va_AO.moved (u := U) (U := U.calling f mk a) (Vm.Alike.refl U.vm) h.1, va_AO.moved (u := U) (U := U.calling f mk a) (Vm.Alike.refl U.vm) h.2.1, va_AOI.moved (u := U) (U := U.calling f mk a) (Vm.Alike.refl U.vm) h.2.2.1, va_Nw.same rfl rfl h.2.2.2⟩
def JZ : gMeL := fun _ _ => 0
/-- a constructor: of the new cell at h0 it makes n cells, the first of them at h0 -/
def CN (l : Launch) (g : gE) (y : MethodName) (b : ByteArray) (maxL k mc ms ci : Nat) (fs : List Value) (n : Nat) (ds : gDs) (M : gMem) : Prop := ∀ h0 sz : Nat,
  Met l y (g_ws y b maxL none) { frames := k, cells := mc, slots := ms, locals := 40 * k } (va_Pc [.ref h0] (fun U => U.heap.size = sz ∧ va_P g.1 vwCl [(h0, .inr (ci, fs))] U.heap ∧ g_K g U ∧ g_B U)) (va_Qv (fun a : Nat → Nat => a 0 = h0 ∧ g_inj a n ∧ ∀ i, i < n → va_A [(h0, .inr (ci, fs))] sz (a i)) (fun a t => g_P g a ds n M JZ t.heap) (va_A [(h0, .inr (ci, fs))] sz)) mc ms (va_A [(h0, .inr (ci, fs))] sz)
/-- the cells of a world, of a list of cells -/
theorem g_of {g : gE} {ad : Nat → Nat} {ds : gDs} {n : Nat} {M : gMem} {J : gMeL} {H : Heap} {ws : va_W} {A : Nat → Prop} (f : Nat → Nat) (hf : ∀ i, i < n → ∀ j, j < n → f i = f j → i = j) (h : ∀ i, i < n → ws[f i]? = some (ad i, g_E g ad ds M J i)) (hP : va_P g.1 vwCl ws H) (hD : va_D A ws) : g_P g ad ds n M J H ∧ g_inj ad n ∧ ∀ i, i < n → A (ad i) := by
  refine ⟨fun k q hq => ?_, fun i j hi hj he => hf i hi j hj (hD.1 _ _ _ _ (h i hi) (h j hj) he), fun i hi => hD.2 _ _ (h i hi)⟩
  by_cases hk : k < n
  · have h2 := hq
    unfold g_wl at h2
    rw [List.getElem?_map, List.getElem?_range hk] at h2
    cases h2
    exact hP _ _ (h k hk)
  · rw [List.getElem?_eq_none (by simp [g_wl]; omega)] at hq
    cases hq
section XN
variable {p : Program} {l : Launch} {e : Env} {R : Room} {s : State} {m : MethodId} {args : Array Value} {below : List Frame} {meth : Method} {c : Code} {H : Heap} {locs : List Loc} {cells slots : Nat} {Q : State → Prop}
variable {cc : ByteArray} {pc nL : Nat} {ls : Array Slot} {rest : List Value} {g : gE} {ws : va_W} {A : Nat → Prop} {H0 : Heap} {lv : List (Nat × Value)}
variable {y0 : MethodName} {b0 : ByteArray} {mL0 : Nat} {r0 : Option FieldType} {own : String} {y : MethodName} {b : ByteArray} {maxL k index : Nat} {ret : Option FieldType}
theorem x_newi (CF : CallFix p m c cc nL s args (g_ws y0 b0 mL0 r0) own) (hK : g_K g s) (hP : va_P g.1 vwCl ws H) (hD : va_D A ws) (hS : va_S A H0 H locs) (hA : ∀ q, H0.size ≤ q → A q) (N : Nat) (hN : N ≤ 1000) (hcells : cells + 1 ≤ R.cells) (hslots : slots + N ≤ R.slots) (hdg : decode cc pc = .ok (.newarray .int, 2))
    (kk : ∀ (q : Nat) (H1 : Heap), va_P g.1 vwCl (ws ++ [(q, .inl (g.2 0, N, .inl (fun _ => nI 0)))]) H1 → va_D A (ws ++ [(q, .inl (g.2 0, N, .inl (fun _ => nI 0)))]) → va_S A H0 H1 locs → W p l e R s m args below meth c H1 locs (cells + 1) (slots + N) Q (F0 m (pc + 2) ls (.ref q :: rest))) : W p l e R s m args below meth c H locs cells slots Q (F0 m pc ls (.int (nI N) :: rest)) := by
  obtain ⟨hx, hb, hml, hown, hts⟩ := CF
  refine va_newa (atype := .int) hx hb (hts _ (List.mem_cons_of_mem _ wd1_63)) rfl hK.1 hP hD hS hA (a0 := (N, .inl (fun _ => nI 0))) (fun _ => rfl) (nI_pos (by omega)) (nI_clamp (by omega)) (by show N * 4 ≤ _; omega) hcells hslots hdg (fun q cA H1 hK1 hP1 hD1 hS1 => ?_)
  have e1 := va_nm_int (hK1.2 5 _ rfl).2
  have e2 := va_nm_int (hK.1.2 0 _ rfl).2
  cases Option.some.inj (e1.symm.trans e2)
  exact kk q H1 hP1 hD1 hS1
theorem x_newl (CF : CallFix p m c cc nL s args (g_ws y0 b0 mL0 r0) own) (hK : g_K g s) (hP : va_P g.1 vwCl ws H) (hD : va_D A ws) (hS : va_S A H0 H locs) (hA : ∀ q, H0.size ≤ q → A q) (N : Nat) (hN : N ≤ 1000) (hcells : cells + 1 ≤ R.cells) (hslots : slots + N ≤ R.slots) (hdg : decode cc pc = .ok (.newarray .long, 2))
    (kk : ∀ (q : Nat) (H1 : Heap), va_P g.1 vwCl (ws ++ [(q, .inl (g.2 1, N, .inr (.inl (fun _ => 0))))]) H1 → va_D A (ws ++ [(q, .inl (g.2 1, N, .inr (.inl (fun _ => 0))))]) → va_S A H0 H1 locs → W p l e R s m args below meth c H1 locs (cells + 1) (slots + N) Q (F0 m (pc + 2) ls (.ref q :: rest))) : W p l e R s m args below meth c H locs cells slots Q (F0 m pc ls (.int (nI N) :: rest)) := by
  obtain ⟨hx, hb, hml, hown, hts⟩ := CF
  refine va_newa (atype := .long) hx hb (hts _ (List.mem_cons_of_mem _ wd1_144)) rfl hK.1 hP hD hS hA (a0 := (N, .inr (.inl (fun _ => 0)))) (fun _ => rfl) (nI_pos (by omega)) (nI_clamp (by omega)) (by show N * 8 ≤ _; omega) hcells hslots hdg (fun q cA H1 hK1 hP1 hD1 hS1 => ?_)
  have e1 := va_nm_long (hK1.2 5 _ rfl).2
  have e2 := va_nm_long (hK.1.2 1 _ rfl).2
  cases Option.some.inj (e1.symm.trans e2)
  exact kk q H1 hP1 hD1 hS1
theorem x_newq (CF : CallFix p m c cc nL s args (g_ws y0 b0 mL0 r0) own) (hK : g_K g s) (hP : va_P g.1 vwCl ws H) (hD : va_D A ws) (hS : va_S A H0 H locs) (hA : ∀ q, H0.size ≤ q → A q) {C : String} (t : Nat) {cx : ClassId} (hov : va_AO C s) (htt : (g_tys g)[t]? = some (cx, .object C)) (hlk : Cond.classLink own index C ∈ Al) (N : Nat) (hN : N ≤ 1000) (hcells : cells + 1 ≤ R.cells) (hslots : slots + N ≤ R.slots) (hdg : decode cc pc = .ok (.anewarray index, 3))
    (kk : ∀ (q : Nat) (H1 : Heap), va_P g.1 vwCl (ws ++ [(q, .inl (cx, N, .inr (.inr (.inr (.inr (fun _ => none))))))]) H1 → va_D A (ws ++ [(q, .inl (cx, N, .inr (.inr (.inr (.inr (fun _ => none))))))]) → va_S A H0 H1 locs → W p l e R s m args below meth c H1 locs (cells + 1) (slots + N) Q (F0 m (pc + 3) ls (.ref q :: rest))) : W p l e R s m args below meth c H locs cells slots Q (F0 m pc ls (.int (nI N) :: rest)) := by
  obtain ⟨hx, hb, hml, hown, hts⟩ := CF
  refine va_newq hx hb hown (hts _ (List.mem_cons_of_mem _ hlk)) hov hK.1 hP hD hS hA (nI_pos (by omega)) (nI_clamp (by omega)) (by omega) hcells hslots hdg (fun q cA H1 hK1 hP1 hD1 hS1 => ?_)
  obtain ⟨-, -, -, -, -, e1⟩ := (hK1.2 5 _ rfl).2
  obtain ⟨-, -, -, -, -, e2⟩ := (hK.1.2 t _ htt).2
  cases Option.some.inj (e1.symm.trans e2)
  exact kk q H1 hP1 hD1 hS1
/-- an int into a row -/
def upN (f : Nat → Nat) (i v : Nat) : Nat → Nat := fun k => if k = i then v else f k
theorem x_iastL (CF : CallFix p m c cc nL s args (g_ws y0 b0 mL0 r0) own) (hK : g_K g s) (hP : va_P g.1 vwCl ws H) (hD : va_D A ws) (hS : va_S A H0 H locs) (q0 : Nat) {a N : Nat} {f : Nat → Nat} (ha : ws[q0]? = some (a, .inl (g.2 0, N, .inl (fun k => nI (f k))))) (i v : Nat) (hi : i < N) (hN : N ≤ 1000) (hdg : decode cc pc = .ok (.iastore, 1))
    (kk : ∀ (H1 : Heap) (locs1 : List Loc), va_P g.1 vwCl (ws.set q0 (a, .inl (g.2 0, N, .inl (fun k => nI (upN f i v k))))) H1 → va_D A (ws.set q0 (a, .inl (g.2 0, N, .inl (fun k => nI (upN f i v k))))) → va_S A H0 H1 locs1 → W p l e R s m args below meth c H1 locs1 cells slots Q (F0 m (pc + 1) ls rest)) : W p l e R s m args below meth c H locs cells slots Q (F0 m pc ls (.int (nI v) :: .int (nI i) :: .ref a :: rest)) := by
  obtain ⟨hx, hb, hml, hown, hts⟩ := CF
  have e1 : upd (fun k => nI (f k)) i (nI v) = fun k => nI (upN f i v k) := by
    funext k
    unfold upd upN
    by_cases h : k = i
    · rw [if_pos h, if_pos h]
    · rw [if_neg h, if_neg h]
  refine va_iast hx hb hK.1 hP hD hS q0 0 ha rfl (vp_in_nI hi (by omega)) hdg (fun H1 locs1 hP1 hD1 hS1 => ?_)
  rw [nI_clamp (by omega), e1] at hP1 hD1
  exact kk H1 locs1 hP1 hD1 hS1
theorem x_astqL (CF : CallFix p m c cc nL s args (g_ws y0 b0 mL0 r0) own) (hK : g_K g s) (hP : va_P g.1 vwCl ws H) (hD : va_D A ws) (hS : va_S A H0 H locs) (q0 t0 qk ci : Nat) {cA : ClassId} {r : vw_C} {a n v : Nat} {vs : List Value} {f : Nat → Option Nat} (ha : ws[q0]? = some (a, .inl (cA, n, .inr (.inr (.inr (.inr f)))))) (ht : (g_tys g)[t0]? = some (cA, .object r.1)) (hv : ws[qk]? = some (v, .inr (ci, vs))) (hc : vwCl[ci]? = some r) (i : Nat) (hi : i < n) (hn : n ≤ 1000) (hdg : decode cc pc = .ok (.aastore, 1))
    (kk : ∀ (H1 : Heap) (locs1 : List Loc), va_P g.1 vwCl (ws.set q0 (a, .inl (cA, n, .inr (.inr (.inr (.inr (va_up f i (some v)))))))) H1 → va_D A (ws.set q0 (a, .inl (cA, n, .inr (.inr (.inr (.inr (va_up f i (some v)))))))) → va_S A H0 H1 locs1 → W p l e R s m args below meth c H1 locs1 cells slots Q (F0 m (pc + 1) ls rest)) : W p l e R s m args below meth c H locs cells slots Q (F0 m pc ls (.ref v :: .int (nI i) :: .ref a :: rest)) := by
  refine va_astq CF.1 CF.2.1 hK.1 hP hD hS q0 t0 qk ci ha ht hv hc (vp_in_nI hi (by omega)) hdg (fun H1 locs1 hP1 hD1 hS1 => ?_)
  rw [nI_clamp (by omega)] at hP1 hD1
  exact kk H1 locs1 hP1 hD1 hS1
end XN
