/-! cells come: constructors called, rows of rows, rows filled -/
theorem g_wl_get {ad : Nat → Nat} {n : Nat} {E : Nat → va_E} {k : Nat} {x : Nat × va_E} (h : (g_wl ad n E)[k]? = some x) : k < n ∧ x = (ad k, E k) := by
  by_cases hk : k < n
  · unfold g_wl at h
    rw [List.getElem?_map, List.getElem?_range hk] at h
    cases h
    exact ⟨hk, rfl⟩
  · rw [List.getElem?_eq_none (by simp [g_wl]; omega)] at h
    cases h
def filN (f : Nat → Nat) (N v : Nat) : Nat → Nat := fun k => if k < N then v else f k
def ds1 (N : Nat) : gDs := fun _ => (1, N, [])
set_option maxHeartbeats 4000000 in
set_option maxRecDepth 100000 in
theorem c_fillI {l : Launch} {g : gE} (a N : Nat) (hN : N ≤ 1000) (f : Nat → Nat) (v : Nat) : CV l g (fun _ => a) (ds1 N) 1 yJ7_fill_53178 cJ7_fill_53178 4 0 [.ref a, .int (nI v)] (fun _ => f) JZ (rowN (fun _ => f) 0 N (fun _ => v)) JZ := by
  refine CV.of (by decide +kernel) (Nat.le_of_ble_eq_true rfl) (fun p9 e9 s9 m9 args9 below9 meth9 c9 CF hK hr9 hlk9 hP hS ls hl => ?_)
  have hx := CF.1
  have hb := CF.2.1
  have hI : g_inj (fun _ => a) 1 := fun i j hi hj _ => by omega
  have hA : ∀ q, g_A (fun _ => a) 1 q → g_A (fun _ => a) 1 q := fun _ h => h
  have hl : lv_has ls 4 [(0, .ref a), (1, .int (nI v))] := hl
  refine lv_iconst (v := nI 0) hx hb dJ7_fill_53178_0 (by decide) ?_
  refine lv_istore_n (lv' := [(2, .int (nI 0)), (0, .ref a), (1, .int (nI v))]) hx hb dJ7_fill_53178_1 rfl hl (by decide) rfl (fun ls hl => ?_)
  refine lv_aload_n hx hb dJ7_fill_53178_2 rfl (lv_at hl 1 rfl) ?_
  refine x_aleni (ad := fun _ => a) CF hK hP 0 (by omega) (ds := ds1 N) (N := N) (fl := []) rfl dJ7_fill_53178_3 ?_
  refine lv_istore_n (lv' := [(3, .int (nI N)), (2, .int (nI 0)), (0, .ref a), (1, .int (nI v))]) hx hb dJ7_fill_53178_4 rfl hl (by decide) rfl (fun ls hl => ?_)
  have L5 : ∀ (d5 : Nat) (i : Nat), (i + d5 = N) → (∀ (H : Heap) (locs : List Loc) (ls : Array Slot), g_P g (fun _ => a) (ds1 N) 1 (rowN (fun _ => f) 0 i (fun _ => v)) JZ H → va_S (g_A (fun _ => a) 1) s9.heap H locs → lv_has ls 4 [(3, .int (nI N)), (2, .int (nI i)), (0, .ref a), (1, .int (nI v))] → W p9 l e9 (g_rm 0) s9 m9 args9 below9 meth9 c9 H locs 0 0 (MQ below9 (va_Qv (fun (_ : Unit) => True) (fun _ t => g_P g (fun _ => a) (ds1 N) 1 (rowN (fun _ => f) 0 N (fun _ => v)) JZ t.heap) (g_A (fun _ => a) 1)) args9 s9 0 0 (g_A (fun _ => a) 1)) (F0 m9 5 ls [])) := by
    intro d5
    induction d5 with
    | zero =>
      intro i h_i H locs ls hP hS hl
      refine lv_iload_n hx hb dJ7_fill_53178_5 rfl (lv_at hl 1 rfl) ?_
      refine lv_iload_n hx hb dJ7_fill_53178_6 rfl (lv_at hl 0 rfl) ?_
      refine x_zge (u := (i : Nat)) (v := (N : Int)) (tgt := 20) hx hb (nI_toInt (by omega)) (nI_toInt (by omega)) dJ7_fill_53178_7 (by decide) (fun h_1 => ?_) (fun h_1 => (by omega : False).elim)
      exact x_retv hx hb hr9 hlk9 hS (by rw [show N = i by omega]; exact (show N = i by omega) ▸ hP) dJ7_fill_53178_20
    | succ d5 ih5 =>
      intro i h_i H locs ls hP hS hl
      refine lv_iload_n hx hb dJ7_fill_53178_5 rfl (lv_at hl 1 rfl) ?_
      refine lv_iload_n hx hb dJ7_fill_53178_6 rfl (lv_at hl 0 rfl) ?_
      refine x_zge (u := (i : Nat)) (v := (N : Int)) (tgt := 20) hx hb (nI_toInt (by omega)) (nI_toInt (by omega)) dJ7_fill_53178_7 (by decide) (fun h_2 => (by omega : False).elim) (fun h_2 => ?_)
      refine lv_aload_n hx hb dJ7_fill_53178_10 rfl (lv_at hl 2 rfl) ?_
      refine lv_iload_n hx hb dJ7_fill_53178_11 rfl (lv_at hl 1 rfl) ?_
      refine lv_iload_n hx hb dJ7_fill_53178_12 rfl (lv_at hl 3 rfl) ?_
      refine x_iast (ad := fun _ => a) CF hK hI hA hP hS 0 (by omega) (N := N) (fl := []) rfl i (by omega) (by omega) v dJ7_fill_53178_13 (fun H locs hP hS => ?_)
      refine lv_iinc (v := nI (i + 1)) (lv' := [(2, .int (nI (i + 1))), (3, .int (nI N)), (0, .ref a), (1, .int (nI v))]) hx hb dJ7_fill_53178_14 hl (k := 1) rfl (n_inc i 1) (by decide) rfl (fun ls hl => ?_)
      refine lv_goto (tgt := 5) hx hb dJ7_fill_53178_17 (by decide) ?_
      have hl0 : lv_has ls 4 [(3, .int (nI N)), (2, .int (nI (i + 1))), (0, .ref a), (1, .int (nI v))] := lv_sub hl [1, 0, 2, 3] rfl
      exact ih5 (i + 1) (by omega) _ _ _ (by rw [← rowN_s (f := fun _ => v) (x := v) rfl]; exact hP) hS hl0
  exact L5 N 0 (by omega) _ _ _ (by rw [rowN_0]; exact hP) hS hl
theorem kw_fillI : kwS yJ7_fill_53178 cJ7_fill_53178 4 none 2 := ⟨⟨wd1_66, wd1_65, wd1_4⟩, by decide +kernel⟩
section XNC
variable {p : Program} {l : Launch} {e : Env} {R : Room} {s : State} {m : MethodId} {args : Array Value} {below : List Frame} {meth : Method} {c : Code} {H : Heap} {locs : List Loc} {cells slots : Nat} {Q : State → Prop}
variable {cc : ByteArray} {pc nL : Nat} {ls : Array Slot} {rest : List Value} {g : gE} {ws : va_W} {A : Nat → Prop} {H0 : Heap} {lv : List (Nat × Value)}
variable {y0 : MethodName} {b0 : ByteArray} {mL0 : Nat} {r0 : Option FieldType} {own : String} {y : MethodName} {b : ByteArray} {maxL k index : Nat} {ret : Option FieldType}
/-- Arrays.fill on a row of the world -/
theorem x_fillL (CF : CallFix p m c cc nL s args (g_ws y0 b0 mL0 r0) own) (hK : g_K g s) (hP : va_P g.1 vwCl ws H) (hD : va_D A ws) (hS : va_S A H0 H locs) (hl : lv_has ls nL lv) (q0 : Nat) {a N : Nat} {f : Nat → Nat} (ha : ws[q0]? = some (a, .inl (g.2 0, N, .inl (fun k => nI (f k))))) (v : Nat) (hN : N ≤ 1000) (hlink : Cond.methodLink own index yJ7_fill_53178 ∈ Al) (hR : 1 ≤ R.frames ∧ 23 ≤ R.locals) (hfit : cells ≤ R.cells ∧ slots ≤ R.slots) (hr : (rest.map fun v => v.category).sum ≤ 8) (hdg : decode cc pc = .ok (.invokestatic index, 3))
    (kk : ∀ (H1 : Heap) (locs1 : List Loc), va_P g.1 vwCl (ws.set q0 (a, .inl (g.2 0, N, .inl (fun k => nI (filN f N v k))))) H1 → va_D A (ws.set q0 (a, .inl (g.2 0, N, .inl (fun k => nI (filN f N v k))))) → va_S A H0 H1 locs1 → W p l e R s m args below meth c H1 locs1 cells slots Q (F0 m (pc + 3) ls rest)) : W p l e R s m args below meth c H locs cells slots Q (F0 m pc ls (.int (nI v) :: .ref a :: rest)) := by
  have hP1 : g_P g (fun _ => a) (ds1 N) 1 (fun _ => f) JZ H := fun k x hx => by
    obtain ⟨hk, rfl⟩ := g_wl_get hx
    exact hP q0 _ ha
  have hA1 : ∀ q, g_A (fun _ => a) 1 q → A q := fun q ⟨i, hi, e⟩ => by rw [e]; exact hD.2 q0 _ ha
  refine va_callv (va_runS (As := [.ref a, .int (nI v)]) (rest := rest) CF (c_fillI a N hN f v) (g_cwS CF.2.2.2.2 kw_fillI hlink ⟨hR.1, by omega⟩) ⟨fun a U f mk q => ⟨q.1, q.2.1, q.2.2.calling⟩, fun U h1 h2 => ⟨rfl, by rw [h1]; exact hP1, hK.warm h2⟩⟩ rfl rfl hl.1 rfl (lv_room hr) hdg hfit) hS (fun q _ h => hA1 q h) hA1 (fun _ t H1 locs1 ht _ hq hB _ hk1 hS1 => ?_)
  refine kk H1 locs1 (fun k x hx => ?_) (hD.set ha) hS1
  rw [List.getElem?_set] at hx
  by_cases hk : q0 = k
  · subst hk
    rw [if_pos rfl, if_pos (List.getElem?_eq_some_iff.mp ha).1] at hx
    cases hx
    have h9 := hB 0 _ (g_wl_at (by omega) rfl)
    rw [ht] at h9
    have e1 : (fun k => nI (rowN (fun _ => f) 0 N (fun _ => v) 0 k)) = fun k => nI (filN f N v k) := by
      funext k
      simp [rowN, filN]
    have e2 : g_E g (fun _ => a) (ds1 N) (rowN (fun _ => f) 0 N (fun _ => v)) JZ 0 = .inl (g.2 0, N, .inl (fun k => nI (filN f N v k))) := by
      rw [← e1]
      rfl
    rw [e2] at h9
    exact h9
  · rw [if_neg hk] at hx
    refine (hP k x hx).kept (hk1 x.1 (hP k x hx).lt (fun ⟨i, _, e9⟩ => hk (hD.1 q0 k _ x ha hx e9.symm)))
/-- new C() -/
theorem x_mk0 {T : u_T} {N ci n mc ms index2 : Nat} {fs : List Value} {ds : gDs} {M : gMem} (CF : CallFix p m c cc nL s args (g_ws y0 b0 mL0 r0) own) (hP : va_P g.1 vwCl ws H) (hD : va_D A ws) {q : Nat} {H2 : Heap}
    (hP1 : va_P g.1 vwCl (ws ++ [(q, .inr (ci, fs))]) H) (hD1 : va_D A (ws ++ [(q, .inr (ci, fs))])) (hFc : ∀ x, va_A [(q, .inr (ci, fs))] H.size x → A x) {a : Nat → Nat} (hq : a 0 = q ∧ g_inj a n ∧ ∀ i, i < n → va_A [(q, .inr (ci, fs))] H.size (a i)) (hB1 : g_P g a ds n M JZ H2) (hk1 : ∀ x : Nat, x < H.size → ¬ va_A [(q, .inr (ci, fs))] H.size x → H2[x]? = H[x]?) :
    va_P g.1 vwCl (ws ++ g_wl a n (g_E g a ds M JZ)) H2 ∧ va_D A (ws ++ g_wl a n (g_E g a ds M JZ)) := by
  have hno : ∀ (k : Nat) (x : Nat × va_E), ws[k]? = some x → ¬ va_A [(q, .inr (ci, fs))] H.size x.1 := fun k x hx h => by
    have hlt := (hP k x hx).lt
    have hk : k < ws.length := (List.getElem?_eq_some_iff.mp hx).1
    rcases h with ⟨k2, e2, h2⟩ | h
    · have h0 : k2 < 1 := (List.getElem?_eq_some_iff.mp h2).1
      rw [show k2 = 0 by omega] at h2
      have h3 : x.1 = q := (congrArg Prod.fst (Option.some.inj h2)).symm
      have h4 := hD1.1 k ws.length x (q, .inr (ci, fs)) (by rw [List.getElem?_append_left hk]; exact hx) (by simp) h3
      omega
    · omega
  refine ⟨va_P.app (hP.kept (fun k x hx => hk1 x.1 (hP k x hx).lt (hno k x hx))) hB1, va_D.app hD ((g_wl_D _ hq.2.1).weaken (fun k x _ h => ?_)) (fun i j x z hx hz hxz => ?_)⟩
  · obtain ⟨i, hi, e⟩ := h
    rw [e]
    exact hFc _ (hq.2.2 i hi)
  · obtain ⟨hj, rfl⟩ := g_wl_get hz
    have hxz : x.1 = a j := hxz
    exact hno i x hx (by rw [hxz]; exact hq.2.2 j hj)
theorem x_mk {C : String} {T : u_T} {N ci n mc ms index2 : Nat} {fs : List Value} {ds : gDs} {M : gMem} (CF : CallFix p m c cc nL s args (g_ws y0 b0 mL0 r0) own) (hK : g_K g s) (hB : g_B s) (hP : va_P g.1 vwCl ws H) (hD : va_D A ws) (hS : va_S A H0 H locs) (hA : ∀ q, H0.size ≤ q → A q) (hl : lv_has ls nL lv) (hcl : vwCl[ci]? = some (C, T, N)) (hin : ∀ w ∈ u_ws C T N, w ∈ Al) (ty : Nat → FieldType) (hty : ∀ k, k < N → parseFieldDescriptor (T k).2.2.1 = some (ty k)) (hfs : ∀ j, j < N → defaultValue (ty j) = vp_V fs j) (hclk : Cond.classLink own index C ∈ Al) (hinst : Cond.instantiable C N ∈ Al) (hini : Cond.initialized C ∈ Al)
    (hc : CN l g y b maxL k mc ms ci fs n ds M) (hy : y.cls = C ∧ y.name = "<init>" ∧ y.cls ≠ "java/lang/invoke/MethodHandle" ∧ y.cls ≠ "java/lang/invoke/VarHandle" ∧ (parseMethodDescriptor y.desc).map (fun d => d.parameters.length) = some 0) (hcode : Cond.code y b maxL none ∈ Al) (him : Cond.instanceMethod y ∈ Al) (hlink : Cond.methodLink own index2 y ∈ Al) (hcells : cells + 1 + mc ≤ R.cells) (hslots : slots + N + ms ≤ R.slots) (hR : k + 1 ≤ R.frames ∧ 8 + (maxL + 11) + 40 * k ≤ R.locals) (hr : (rest.map fun v => v.category).sum ≤ 7) (hd1 : decode cc pc = .ok (.new index, 3)) (hd2 : decode cc (pc + 3) = .ok (.dup, 1)) (hd3 : decode cc (pc + 4) = .ok (.invokespecial index2, 3))
    (kk : ∀ (a : Nat → Nat) (H1 : Heap) (locs1 : List Loc), va_P g.1 vwCl (ws ++ g_wl a n (g_E g a ds M JZ)) H1 → va_D A (ws ++ g_wl a n (g_E g a ds M JZ)) → va_S A H0 H1 locs1 → W p l e R s m args below meth c H1 locs1 (cells + 1 + mc) (slots + N + ms) Q (F0 m (pc + 7) ls (.ref (a 0) :: rest))) : W p l e R s m args below meth c H locs cells slots Q (F0 m pc ls rest) := by
  have hx := CF.1
  have hb := CF.2.1
  have hts := CF.2.2.2.2
  have ok : ∀ w ∈ Al, w.before args s = true := fun w h => hts w (List.mem_cons_of_mem _ h)
  refine va_new (ci := ci) (fs := fs) hx hb hts (fun w h => List.mem_cons_of_mem _ (hin w h)) ty hty CF.2.2.2.1 (ok _ hclk) (ok _ hinst) (ok _ hini) hK.1 hP hD hS hA hcl hfs (by omega) (by omega) hd1 (fun q H9 hP1 hD1 hS1 => ?_)
  refine lv_dup hx hb hd2 rfl ?_
  have hPc : va_P g.1 vwCl [(q, .inr (ci, fs))] H9 := hP1.sub [ws.length] (by simp)
  have hFc : ∀ x, va_A [(q, .inr (ci, fs))] H9.size x → A x := va_free (wc := [(q, .inr (ci, fs))]) hD1 hS1 hA [ws.length] (by simp)
  have hP9 : va_P g.1 vwCl ws H9 := fun k x hx => hP1 k x (by rw [List.getElem?_append_left (List.getElem?_eq_some_iff.mp hx).1]; exact hx)
  refine va_callv (va_runI (As := []) (rest := .ref q :: rest) CF (hc q H9.size) (cwI 0 hts (g_good hcode) rfl rfl rfl (by rw [hy.1]; exact ok _ hini) (ok _ hlink) (ok _ him) hy.2.1 hy.2.2 hR) ⟨fun a U f mk z => ⟨z.1, z.2.1, z.2.2.1, z.2.2.2.1.calling, z.2.2.2.2.calling⟩, fun U hU hW => ⟨rfl, by rw [hU], by rw [hU]; exact hPc, hK.warm hW, hB.warm hW⟩⟩ rfl rfl hl.1 rfl (lv_room (by simp [Value.category] at hr ⊢; omega)) hd3 ⟨by omega, by omega⟩) hS1 (fun x _ h => hFc x h) hFc (fun a t H1 locs1 ht _ hq hB1 hz hk1 hS2 => ?_)
  rw [ht] at hB1
  obtain ⟨w1, w2⟩ := x_mk0 (T := T) (N := N) (mc := mc) (ms := ms) (index2 := index2) CF hP9 hD hP1 hD1 hFc hq hB1 hk1
  rw [← hq.1]
  exact kk a H1 locs1 w1 w2 hS2
theorem x_mkN {C : String} {T : u_T} {N ci n mc ms index2 : Nat} {fs : List Value} {ds : gDs} {M : gMem} (CF : CallFix p m c cc nL s args (g_ws y0 b0 mL0 r0) own) (hK : g_K g s) (hB : g_B s) (hP : va_P g.1 vwCl ws H) (hD : va_D A ws) (hS : va_S A H0 H locs) (hA : ∀ q, H0.size ≤ q → A q) (hl : lv_has ls nL lv) (hcl : vwCl[ci]? = some (C, T, N)) (hin : ∀ w ∈ u_ws C T N, w ∈ Al) (ty : Nat → FieldType) (hty : ∀ k, k < N → parseFieldDescriptor (T k).2.2.1 = some (ty k)) (hfs : ∀ j, j < N → defaultValue (ty j) = vp_V fs j) (hclk : Cond.classLink own index C ∈ Al) (hinst : Cond.instantiable C N ∈ Al) (hini : Cond.initialized C ∈ Al)
    (hc : CN l g y b maxL k mc ms ci fs n ds M) (hy : y.cls = C ∧ y.name = "<init>" ∧ y.cls ≠ "java/lang/invoke/MethodHandle" ∧ y.cls ≠ "java/lang/invoke/VarHandle" ∧ (parseMethodDescriptor y.desc).map (fun d => d.parameters.length) = some 0) (hcode : Cond.code y b maxL none ∈ Al) (him : Cond.instanceMethod y ∈ Al) (hlink : va_Nw (.methodLinkNest own index2 y "ShaftPlay") s) (hcells : cells + 1 + mc ≤ R.cells) (hslots : slots + N + ms ≤ R.slots) (hR : k + 1 ≤ R.frames ∧ 8 + (maxL + 11) + 40 * k ≤ R.locals) (hr : (rest.map fun v => v.category).sum ≤ 7) (hd1 : decode cc pc = .ok (.new index, 3)) (hd2 : decode cc (pc + 3) = .ok (.dup, 1)) (hd3 : decode cc (pc + 4) = .ok (.invokespecial index2, 3))
    (kk : ∀ (a : Nat → Nat) (H1 : Heap) (locs1 : List Loc), va_P g.1 vwCl (ws ++ g_wl a n (g_E g a ds M JZ)) H1 → va_D A (ws ++ g_wl a n (g_E g a ds M JZ)) → va_S A H0 H1 locs1 → W p l e R s m args below meth c H1 locs1 (cells + 1 + mc) (slots + N + ms) Q (F0 m (pc + 7) ls (.ref (a 0) :: rest))) : W p l e R s m args below meth c H locs cells slots Q (F0 m pc ls rest) := by
  have hx := CF.1
  have hb := CF.2.1
  have hts := CF.2.2.2.2
  have ok : ∀ w ∈ Al, w.before args s = true := fun w h => hts w (List.mem_cons_of_mem _ h)
  refine va_new (ci := ci) (fs := fs) hx hb hts (fun w h => List.mem_cons_of_mem _ (hin w h)) ty hty CF.2.2.2.1 (ok _ hclk) (ok _ hinst) (ok _ hini) hK.1 hP hD hS hA hcl hfs (by omega) (by omega) hd1 (fun q H9 hP1 hD1 hS1 => ?_)
  refine lv_dup hx hb hd2 rfl ?_
  have hPc : va_P g.1 vwCl [(q, .inr (ci, fs))] H9 := hP1.sub [ws.length] (by simp)
  have hFc : ∀ x, va_A [(q, .inr (ci, fs))] H9.size x → A x := va_free (wc := [(q, .inr (ci, fs))]) hD1 hS1 hA [ws.length] (by simp)
  have hP9 : va_P g.1 vwCl ws H9 := fun k x hx => hP1 k x (by rw [List.getElem?_append_left (List.getElem?_eq_some_iff.mp hx).1]; exact hx)
  refine va_callv (va_runIN (As := []) (rest := .ref q :: rest) CF (hc q H9.size) ⟨va_cnB 0 hts (g_good hcode) rfl rfl rfl hlink (by rw [hy.1]; exact ok _ hini) hy.2.2 hR, hy.2.1, ok _ him⟩ ⟨fun a U f mk z => ⟨z.1, z.2.1, z.2.2.1, z.2.2.2.1.calling, z.2.2.2.2.calling⟩, fun U hU hW => ⟨rfl, by rw [hU], by rw [hU]; exact hPc, hK.warm hW, hB.warm hW⟩⟩ rfl rfl hl.1 rfl (lv_room (by simp [Value.category] at hr ⊢; omega)) hd3 ⟨by omega, by omega⟩) hS1 (fun x _ h => hFc x h) hFc (fun a t H1 locs1 ht _ hq hB1 hz hk1 hS2 => ?_)
  rw [ht] at hB1
  obtain ⟨w1, w2⟩ := x_mk0 (T := T) (N := N) (mc := mc) (ms := ms) (index2 := index2) CF hP9 hD hP1 hD1 hFc hq hB1 hk1
  rw [← hq.1]
  exact kk a H1 locs1 w1 w2 hS2
def xmE (g : gE) (N K : Nat) (r : Nat → Nat) : Nat → va_E
  | 0 => .inl (g.2 4, N, .inr (.inr (.inr (.inr (fun j => if j < N then some (r (j + 1)) else none)))))
  | _ + 1 => .inl (g.2 0, K, .inl (fun _ => nI 0))
/-- new int[N][K] -/
theorem x_mna (CF : CallFix p m c cc nL s args (g_ws y0 b0 mL0 r0) own) (hK : g_K g s) (hB : g_B s) (hP : va_P g.1 vwCl ws H) (hD : va_D A ws) (hS : va_S A H0 H locs) (hA : ∀ q, H0.size ≤ q → A q) (hlk : Cond.classLink own index "[[I" ∈ Al) (N K : Nat) (hN : N ≤ 1000) (hKK : K ≤ 1000) (hcells : cells + (1 + N) ≤ R.cells) (hslots : slots + (N + N * K) ≤ R.slots) (hdg : decode cc pc = .ok (.multianewarray index 2, 4))
    (kk : ∀ (r : Nat → Nat) (H1 : Heap), va_P g.1 vwCl (ws ++ g_wl r (N + 1) (xmE g N K r)) H1 → va_D A (ws ++ g_wl r (N + 1) (xmE g N K r)) → va_S A H0 H1 locs → W p l e R s m args below meth c H1 locs (cells + 1 + N) (slots + N + N * K) Q (F0 m (pc + 4) ls (.ref (r 0) :: rest))) : W p l e R s m args below meth c H locs cells slots Q (F0 m pc ls (.int (nI K) :: .int (nI N) :: rest)) := by
  have hts := CF.2.2.2.2
  have hover9 : (Cond.arrayOver (.array .int)).before args s = true := hB.2.2.1
  refine xm_step CF.1 CF.2.1 CF.2.2.2.1 (hts _ (List.mem_cons_of_mem _ hlk)) (hover9) (hts _ (List.mem_cons_of_mem _ wd1_63)) (nI_pos (by omega)) (nI_pos (by omega)) (nI_clamp (by omega)) (nI_clamp (by omega)) hN hKK hcells hslots hdg (fun cA cI H1 e1 e2 z1 f0 fo fr => ?_)
  have c1 : s.vm.findClass "[[I" = some (g.2 4) := (hK.1.2 4 _ rfl).2
  have c2 := va_nm_int (hK.1.2 0 _ rfl).2
  cases Option.some.inj (e1.symm.trans c1)
  cases Option.some.inj (e2.symm.trans c2)
  have hlt : ∀ (k : Nat) (x : Nat × va_E), ws[k]? = some x → x.1 < H.size := fun k x hx => (hP k x hx).lt
  have hinj : g_inj (fun i => H.size + i) (N + 1) := fun i j _ _ h => by have h : H.size + i = H.size + j := h; omega
  refine kk (fun i => H.size + i) H1 ((hP.kept (fun k x hx => fo x.1 (hlt k x hx))).app (fun k x hx => ?_)) (hD.app ((g_wl_D _ hinj).weaken (fun k x _ h => ?_)) (fun i j x z hx hz hxz => ?_)) ⟨by have := hS.1; omega, fun x h1 h2 => (fo x (Nat.lt_of_lt_of_le h1 hS.1)).trans (hS.2.1 x h1 h2), hS.2.2⟩
  · obtain ⟨hk, rfl⟩ := g_wl_get hx
    cases k with
    | zero =>
      have e3 : (fun j => va_rf (if j < N then some (H.size + 1 + j) else none)) = fun j => va_rf (if j < N then some (H.size + (j + 1)) else none) := by
        funext j
        rw [show H.size + 1 + j = H.size + (j + 1) by omega]
      unfold xm_out at f0
      rw [e3] at f0
      exact f0
    | succ k =>
      have h9 := fr k (by omega)
      rw [show H.size + 1 + k = H.size + (k + 1) by omega] at h9
      exact h9
  · obtain ⟨i, hi, e⟩ := h
    rw [e]
    exact hA _ (Nat.le_trans hS.1 (Nat.le_add_right _ _))
  · obtain ⟨hj, rfl⟩ := g_wl_get hz
    have hxz : x.1 = H.size + j := hxz
    have := hlt i x hx
    omega
end XNC
