/-! the law's calls: two worlds and the script -/
section XL
variable {p : Program} {l : Launch} {e : Env} {R : Room} {s : State} {m : MethodId} {args : Array Value} {below : List Frame} {meth : Method} {c : Code} {H : Heap} {locs : List Loc} {cells slots : Nat} {Q : State → Prop}
variable {cc : ByteArray} {pc nL : Nat} {ls : Array Slot} {st rest : List Value} {g : gE} {ad : Nat → Nat} {ds : gDs} {n : Nat} {M M' : gMem} {J J' : gMeL} {A : Nat → Prop} {H0 : Heap}
variable {y0 : MethodName} {b0 : ByteArray} {mL0 : Nat} {r0 : Option FieldType} {own : String} {y : MethodName} {b : ByteArray} {maxL k index : Nat} {ret : Option FieldType} {As : List Value} {r : Int32} {lv : List (Nat × Value)}
theorem x_call2 (CF : CallFix p m c cc nL s args (g_ws y0 b0 mL0 r0) own) (hK : g_K g s) (hP : g_P g ad ds n M J H) (hS : va_S A H0 H locs) (hA : ∀ q, g_A ad n q → A q) (hl : lv_has ls nL lv) {i : Nat} (hc : CI l g ad ds n y b maxL ret k (.ref (ad i) :: As) M J r M' J') {C : String} (hw : kwV y C b maxL ret As.length) (hlink : Cond.methodLink own index y ∈ Al) (hi : i < n) {ci : Nat} {fl : List (Option Nat)} (hd : ds i = (0, ci, fl)) {T : u_T} {N : Nat} (hcl : vwCl[ci]? = some (C, T, N)) (hst : st = As.reverse ++ .ref (ad i) :: rest) (hR : k + 1 ≤ R.frames ∧ 8 + (maxL + 11) + 40 * k ≤ R.locals) (hfit : cells ≤ R.cells ∧ slots ≤ R.slots) (hr : (rest.map fun v => v.category).sum ≤ 8) (hdg : decode cc pc = .ok (.invokevirtual index, 3))
    (kk : ∀ (H1 : Heap) (locs1 : List Loc), g_P g ad ds n M' J' H1 → va_S A H0 H1 locs1 → (∀ q, q < H.size → ¬ g_A ad n q → H1[q]? = H[q]?) → W p l e R s m args below meth c H1 locs1 cells slots Q (F0 m (pc + 3) ls (.int r :: rest))) : W p l e R s m args below meth c H locs cells slots Q (F0 m pc ls st) := by
  subst hst
  refine va_calli (va_runV (As := As) (rest := rest) CF hc (g_cwV CF.2.2.2.2 hw hlink hR) ⟨fun a U f mk q => ⟨q.1, q.2.1, q.2.2.calling⟩, g_recv hK hP hi hd hcl, fun U h1 h2 => ⟨rfl, by rw [h1]; exact hP, hK.warm h2⟩⟩ rfl rfl hl.1 rfl (lv_room hr) hdg hfit) hS (fun q _ h => hA q h) hA (fun r' _ t H1 locs1 ht _ hq hB _ hk1 hS1 => ?_)
  subst hq
  exact kk H1 locs1 (by rw [← ht]; exact hB) hS1 (fun q h1 h2 => hk1 q h1 h2)
end XL
/-- two worlds, apart -/
def g_ap (ad ad' : Nat → Nat) : Prop := ∀ i j, i < 55 → j < 14 → ad i ≠ ad' j
theorem g_P.other {g : gE} {ad ad2 : Nat → Nat} {ds : gDs} {n n2 : Nat} {M : gMem} {J : gMeL} {H H1 : Heap} (h : g_P g ad ds n M J H) (hk : ∀ q, q < H.size → ¬ g_A ad2 n2 q → H1[q]? = H[q]?) (hap : ∀ i, i < n → ¬ g_A ad2 n2 (ad i)) : g_P g ad ds n M J H1 := by
  refine va_P.kept h (fun k x hx => ?_)
  have hx2 := hx
  unfold g_wl at hx2
  by_cases hn : k < n
  · simp [hn] at hx2
    subst hx2
    exact hk _ ((h k _ hx).lt) (hap k hn)
  · simp [hn] at hx2
