/-! The flat memory: a system's cells stand at logical places 0 .. n-1, at addresses ad; ints as naturals -/
abbrev gE : Type := va_G × (Nat → ClassId)
def g_tys (g : gE) : List (ClassId × FieldType) := [(g.2 0, .int), (g.2 1, .long), (g.2 2, .object "ShaftPlay$Figure"), (g.2 3, .object "ShaftPlay$Sheet"), (g.2 4, .array .int)]
abbrev gMem : Type := Nat → Nat → Nat
abbrev gMeL : Type := Nat → Nat → Int64
abbrev gDs : Type := Nat → Nat × Nat × List (Option Nat)
def g_slot (ad : Nat → Nat) (m : Nat → Nat) (k : Nat) : Option Nat → Value
  | some j => .ref (ad j)
  | none => .int (nI (m k))
def g_fld (ad : Nat → Nat) (m : Nat → Nat) (l : List (Option Nat)) : List Value := l.mapIdx (fun k o => g_slot ad m k o)
def g_cell (g : gE) (ad : Nat → Nat) (d : Nat × Nat × List (Option Nat)) (m : Nat → Nat) (j : Nat → Int64) : va_E := match d.1 with
  | 0 => .inr (d.2.1, g_fld ad m d.2.2)
  | 1 => .inl (g.2 0, d.2.1, .inl (fun k => nI (m k)))
  | 2 => .inl (g.2 1, d.2.1, .inr (.inl j))
  | t + 3 => .inl (g.2 (t + 2), d.2.1, .inr (.inr (.inr (.inr (fun k => (d.2.2.getD k none).map ad)))))
def g_wl (ad : Nat → Nat) (n : Nat) (E : Nat → va_E) : va_W := (List.range n).map (fun i => (ad i, E i))
def g_E (g : gE) (ad : Nat → Nat) (ds : gDs) (M : gMem) (J : gMeL) : Nat → va_E := fun i => g_cell g ad (ds i) (M i) (J i)
def g_P (g : gE) (ad : Nat → Nat) (ds : gDs) (n : Nat) (M : gMem) (J : gMeL) (H : Heap) : Prop := va_P g.1 vwCl (g_wl ad n (g_E g ad ds M J)) H
def g_inj (ad : Nat → Nat) (n : Nat) : Prop := ∀ i j, i < n → j < n → ad i = ad j → i = j
def g_A (ad : Nat → Nat) (n : Nat) : Nat → Prop := fun q => ∃ i, i < n ∧ q = ad i
def g_N (s : State) : Prop := va_Nw (.methodLinkNest "ShaftPlay$Play" 83 yX5_angleOf "ShaftPlay") s ∧ va_Nw (.methodLinkNest "ShaftPlay$Play" 113 yX5_movedOn "ShaftPlay") s ∧ va_Nw (.methodLinkNest "ShaftPlay$Sharing" 33 yX5_movedOn "ShaftPlay") s ∧ va_Nw (.methodLinkNest "ShaftPlay$Tape" 22 yX5_byteOf "ShaftPlay") s ∧ va_Nw (.methodLinkNest "ShaftPlay$Tape" 33 yX5_isWithin "ShaftPlay") s
def g_K (g : gE) (s : State) : Prop := va_K g.1 vwCl (g_tys g) s ∧ g_N s
theorem g_K.warm {g : gE} {s U : State} (h : g_K g s) (hW : s.WarmedH U.vm) : g_K g U :=
  ⟨va_K.moved hW.alike h.1, va_Nw.warmM hW h.2.1, va_Nw.warmM hW h.2.2.1, va_Nw.warmM hW h.2.2.2.1, va_Nw.warmM hW h.2.2.2.2.1, va_Nw.warmM hW h.2.2.2.2.2⟩
theorem g_K.calling {g : gE} {a : Array Value} {U : State} {f : JFrame} {mk : MethodId} (h : g_K g U) : g_K g (U.calling f mk a) :=
  ⟨va_K.moved (u := U) (U := U.calling f mk a) (Vm.Alike.refl U.vm) h.1, va_Nw.same rfl rfl h.2.1, va_Nw.same rfl rfl h.2.2.1, va_Nw.same rfl rfl h.2.2.2.1, va_Nw.same rfl rfl h.2.2.2.2.1, va_Nw.same rfl rfl h.2.2.2.2.2⟩
def u2 (M : gMem) (i k v : Nat) : gMem := fun a b => if a = i ∧ b = k then v else M a b
def u2L (J : gMeL) (i k : Nat) (v : Int64) : gMeL := fun a b => if a = i ∧ b = k then v else J a b
theorem u2_same (M : gMem) (i k v : Nat) : u2 M i k v i k = v := by simp [u2]
theorem u2_row {M : gMem} {i k v j : Nat} (h : j ≠ i) : u2 M i k v j = M j := by funext b; simp [u2, h]
theorem u2L_row {J : gMeL} {i k : Nat} {v : Int64} {j : Nat} (h : j ≠ i) : u2L J i k v j = J j := by funext b; simp [u2L, h]
theorem g_wl_at {ad : Nat → Nat} {n : Nat} {E : Nat → va_E} {i : Nat} (hi : i < n) {x : va_E} (h : E i = x) : (g_wl ad n E)[i]? = some (ad i, x) := by
  simp [g_wl, hi, h]
theorem g_wl_set {ad : Nat → Nat} {n : Nat} {E E' : Nat → va_E} {i : Nat} {x : va_E} (h1 : E' i = x) (h2 : ∀ j, j ≠ i → E' j = E j) : (g_wl ad n E).set i (ad i, x) = g_wl ad n E' := by
  apply List.ext_getElem?
  intro k
  unfold g_wl
  rw [List.getElem?_set]
  simp only [List.getElem?_map, List.length_map, List.length_range]
  by_cases hk : i = k
  · subst hk
    by_cases hn : i < n
    · simp [hn, h1]
    · simp [hn]
  · rw [if_neg hk]
    by_cases hn : k < n
    · simp [hn, h2 k (fun e => hk e.symm)]
    · simp [hn]
theorem g_wl_D {ad : Nat → Nat} {n : Nat} (E : Nat → va_E) (h : g_inj ad n) : va_D (g_A ad n) (g_wl ad n E) := by
  have key : ∀ (k : Nat) (q : Nat × va_E), (g_wl ad n E)[k]? = some q → k < n ∧ q = (ad k, E k) := fun k q hk => by
    unfold g_wl at hk
    by_cases hn : k < n
    · simp [hn] at hk
      exact ⟨hn, hk.symm⟩
    · simp [hn] at hk
  refine ⟨fun i j p q hi hj e => ?_, fun k q hk => ?_⟩
  · obtain ⟨a1, rfl⟩ := key i p hi
    obtain ⟨b1, rfl⟩ := key j q hj
    exact h i j a1 b1 e
  · obtain ⟨a1, rfl⟩ := key k q hk
    exact ⟨k, a1, rfl⟩
theorem g_P.kept {g : gE} {ad : Nat → Nat} {ds : gDs} {n : Nat} {M : gMem} {J : gMeL} {H H1 : Heap} (h : g_P g ad ds n M J H) (hk : ∀ q : Nat, q < H.size → H1[q]? = H[q]?) : g_P g ad ds n M J H1 :=
  va_P.kept h (fun k x hx => hk x.1 ((h k x hx).lt))
/-! contracts -/
def g_ws (y : MethodName) (b : ByteArray) (maxL : Nat) (ret : Option FieldType) : List Cond := .code y b maxL ret :: Al
def g_rm (k : Nat) : Room := { frames := k, cells := 0, slots := 0, locals := 40 * k }
/-- reads and writes memory; the answer is the int r -/
def CI (l : Launch) (g : gE) (ad : Nat → Nat) (ds : gDs) (n : Nat) (y : MethodName) (b : ByteArray) (maxL : Nat) (ret : Option FieldType) (k : Nat) (As : List Value) (M : gMem) (J : gMeL) (r : Int32) (M' : gMem) (J' : gMeL) : Prop :=
  Met l y (g_ws y b maxL ret) (g_rm k) (va_Pc As (fun U => g_P g ad ds n M J U.heap ∧ g_K g U)) (va_Qi (fun r' (_ : Unit) => r' = r) (fun _ t => g_P g ad ds n M' J' t.heap) (g_A ad n)) 0 0 (g_A ad n)
def CV (l : Launch) (g : gE) (ad : Nat → Nat) (ds : gDs) (n : Nat) (y : MethodName) (b : ByteArray) (maxL : Nat) (k : Nat) (As : List Value) (M : gMem) (J : gMeL) (M' : gMem) (J' : gMeL) : Prop :=
  Met l y (g_ws y b maxL none) (g_rm k) (va_Pc As (fun U => g_P g ad ds n M J U.heap ∧ g_K g U)) (va_Qv (fun (_ : Unit) => True) (fun _ t => g_P g ad ds n M' J' t.heap) (g_A ad n)) 0 0 (g_A ad n)
/-- reads no memory at all -/
def CP (l : Launch) (g : gE) (y : MethodName) (b : ByteArray) (maxL : Nat) (ret : Option FieldType) (k : Nat) (As : List Value) (r : Int32) : Prop :=
  Met l y (g_ws y b maxL ret) (g_rm k) (va_Pc As (fun U => g_K g U)) (va_Qi (fun r' (_ : Unit) => r' = r) (fun _ _ => True) (fun _ => False)) 0 0 (fun _ => False)
def CPL (l : Launch) (g : gE) (y : MethodName) (b : ByteArray) (maxL : Nat) (k : Nat) (As : List Value) (r : Int64) : Prop :=
  Met l y (g_ws y b maxL (some .long)) (g_rm k) (va_Pc As (fun U => g_K g U)) (va_Ql (fun r' (_ : Unit) => r' = r) (fun _ _ => True) (fun _ => False)) 0 0 (fun _ => False)
theorem g_good {y0 y : MethodName} {b0 b : ByteArray} {m0 m1 : Nat} {r0 r1 : Option FieldType} (h : Cond.code y b m1 r1 ∈ Al) : GoodIn (g_ws y0 b0 m0 r0) (g_ws y b m1 r1) := by
  intro w hw
  rcases List.mem_cons.mp hw with rfl | hw
  · exact ⟨List.mem_cons_of_mem _ h, Or.inl rfl⟩
  · exact ⟨List.mem_cons_of_mem _ hw, (Al_self w hw).2⟩
/-- what a callee's name asks of the tables -/
def kwV (y : MethodName) (C : String) (b : ByteArray) (maxL : Nat) (ret : Option FieldType) (n : Nat) : Prop := (Cond.code y b maxL ret ∈ Al ∧ Cond.instanceMethod y ∈ Al ∧ Cond.selects C y y ∈ Al ∧ Cond.initialized C ∈ Al) ∧ (y.cls = C ∧ y.cls ≠ "java/lang/invoke/MethodHandle" ∧ y.cls ≠ "java/lang/invoke/VarHandle" ∧ (parseMethodDescriptor y.desc).map (fun d => d.parameters.length) = some n)
def kwS (y : MethodName) (b : ByteArray) (maxL : Nat) (ret : Option FieldType) (n : Nat) : Prop := (Cond.code y b maxL ret ∈ Al ∧ Cond.static y ∈ Al ∧ Cond.initialized y.cls ∈ Al) ∧ (y.cls ≠ "java/lang/invoke/MethodHandle" ∧ y.cls ≠ "java/lang/invoke/VarHandle" ∧ (parseMethodDescriptor y.desc).map (fun d => d.parameters.length) = some n)
section XF
variable {p : Program} {l : Launch} {e : Env} {R : Room} {s : State} {m : MethodId} {args : Array Value} {below : List Frame} {meth : Method} {c : Code} {H : Heap} {locs : List Loc} {cells slots : Nat} {Q : State → Prop}
variable {cc : ByteArray} {pc nL : Nat} {ls : Array Slot} {rest : List Value} {g : gE} {ad : Nat → Nat} {ds : gDs} {n : Nat} {M M' : gMem} {J J' : gMeL} {A : Nat → Prop} {H0 : Heap}
variable {y0 : MethodName} {b0 : ByteArray} {mL0 : Nat} {r0 : Option FieldType} {own : String} {index : Nat}
theorem x_ri {x z : Int32} (h : x = z) (kk : W p l e R s m args below meth c H locs cells slots Q (F0 m pc ls (.int z :: rest))) : W p l e R s m args below meth c H locs cells slots Q (F0 m pc ls (.int x :: rest)) := h ▸ kk
theorem x_rl {x z : Int64} (h : x = z) (kk : W p l e R s m args below meth c H locs cells slots Q (F0 m pc ls (.long z :: rest))) : W p l e R s m args below meth c H locs cells slots Q (F0 m pc ls (.long x :: rest)) := h ▸ kk
/-- a field that holds a cell -/
theorem x_getr (CF : CallFix p m c cc nL s args (g_ws y0 b0 mL0 r0) own) (hK : g_K g s) (hP : g_P g ad ds n M J H) (i : Nat) (hi : i < n) {ci : Nat} {fl : List (Option Nat)} (hd : ds i = (0, ci, fl)) {C ref : String} {T : u_T} {N : Nat} (hc : vwCl[ci]? = some (C, T, N)) (hin : ∀ w ∈ u_ws C T N, w ∈ Al) (f : Nat) (hf : f < N) {j : Nat} (hj : fl[f]? = some (some j)) (hlink : Cond.fieldLink own index ref (T f).2.1 (T f).2.2.1 ∈ Al) (hsame : (T f).1 = ref) (hdg : decode cc pc = .ok (.getfield index, 3))
    (kk : W p l e R s m args below meth c H locs cells slots Q (F0 m (pc + 3) ls (.ref (ad j) :: rest))) : W p l e R s m args below meth c H locs cells slots Q (F0 m pc ls (.ref (ad i) :: rest)) := by
  obtain ⟨hx, hb, hml, hown, hts⟩ := CF
  subst hsame
  have hE : g_E g ad ds M J i = .inr (ci, g_fld ad (M i) fl) := by simp [g_E, g_cell, hd]
  refine va_get hx hb hts (fun w h => List.mem_cons_of_mem _ (hin w h)) hown hK.1 hP i (g_wl_at hi hE) hc f hf (hts _ (List.mem_cons_of_mem _ hlink)) (fun _ h => h) (v := .ref (ad j)) ?_ hdg kk
  simp [g_fld, hj, g_slot]
/-- a field that holds an int -/
theorem x_geti (CF : CallFix p m c cc nL s args (g_ws y0 b0 mL0 r0) own) (hK : g_K g s) (hP : g_P g ad ds n M J H) (i : Nat) (hi : i < n) {ci : Nat} {fl : List (Option Nat)} (hd : ds i = (0, ci, fl)) {C ref : String} {T : u_T} {N : Nat} (hc : vwCl[ci]? = some (C, T, N)) (hin : ∀ w ∈ u_ws C T N, w ∈ Al) (f : Nat) (hf : f < N) (hj : fl[f]? = some none) (hlink : Cond.fieldLink own index ref (T f).2.1 (T f).2.2.1 ∈ Al) (hsame : (T f).1 = ref) (hdg : decode cc pc = .ok (.getfield index, 3))
    (kk : W p l e R s m args below meth c H locs cells slots Q (F0 m (pc + 3) ls (.int (nI (M i f)) :: rest))) : W p l e R s m args below meth c H locs cells slots Q (F0 m pc ls (.ref (ad i) :: rest)) := by
  obtain ⟨hx, hb, hml, hown, hts⟩ := CF
  subst hsame
  have hE : g_E g ad ds M J i = .inr (ci, g_fld ad (M i) fl) := by simp [g_E, g_cell, hd]
  refine va_get hx hb hts (fun w h => List.mem_cons_of_mem _ (hin w h)) hown hK.1 hP i (g_wl_at hi hE) hc f hf (hts _ (List.mem_cons_of_mem _ hlink)) (fun _ h => h) (v := .int (nI (M i f))) ?_ hdg kk
  simp [g_fld, hj, g_slot]
theorem x_puti (CF : CallFix p m c cc nL s args (g_ws y0 b0 mL0 r0) own) (hK : g_K g s) (hI : g_inj ad n) (hA : ∀ q, g_A ad n q → A q) (hP : g_P g ad ds n M J H) (hS : va_S A H0 H locs) (i : Nat) (hi : i < n) {ci : Nat} {fl : List (Option Nat)} (hd : ds i = (0, ci, fl)) {C ref : String} {T : u_T} {N : Nat} (hc : vwCl[ci]? = some (C, T, N)) (hin : ∀ w ∈ u_ws C T N, w ∈ Al) (ty0 : Nat → FieldType) (hty : ∀ k, k < N → parseFieldDescriptor (T k).2.2.1 = some (ty0 k)) (hnm : ∀ a, a < N → ∀ b, b < N → a ≠ b → (T a).2.1 ≠ (T b).2.1) (f : Nat) (hf : f < N) (hj : fl[f]? = some none) (hlink : Cond.fieldLink own index ref (T f).2.1 (T f).2.2.1 ∈ Al) (hsame : (T f).1 = ref) (hfin : (T f).2.2.2 = false) (v : Nat)
    {ty : FieldType} (hd' : parseFieldDescriptor (T f).2.2.1 = some ty) (hn : narrow ty (.int (nI v)) = .int (nI v)) (hfit : fits ty (.int (nI v)) = true) (hdg : decode cc pc = .ok (.putfield index, 3))
    (kk : ∀ (H1 : Heap) (locs1 : List Loc), g_P g ad ds n (u2 M i f v) J H1 → va_S A H0 H1 locs1 → W p l e R s m args below meth c H1 locs1 cells slots Q (F0 m (pc + 3) ls rest)) : W p l e R s m args below meth c H locs cells slots Q (F0 m pc ls (.int (nI v) :: .ref (ad i) :: rest)) := by
  obtain ⟨hx, hb, hml, hown, hts⟩ := CF
  subst hsame
  have hE : g_E g ad ds M J i = .inr (ci, g_fld ad (M i) fl) := by simp [g_E, g_cell, hd]
  have hlt : f < fl.length := (List.getElem?_eq_some_iff.mp hj).1
  refine va_put hx hb hts (fun w h => List.mem_cons_of_mem _ (hin w h)) ty0 hty hnm hown hK.1 hP ((g_wl_D _ hI).weaken (fun _ q _ h => hA q.1 h)) hS i (g_wl_at hi hE) hc f hf (hts _ (List.mem_cons_of_mem _ hlink)) (fun _ h => h) hfin hd' hn hfit (by simp [g_fld, hlt]) hdg (fun H1 locs1 hP1 _ hS1 => kk H1 locs1 ?_ hS1)
  rw [g_wl_set (E' := g_E g ad ds (u2 M i f v) J) (i := i)] at hP1
  · exact hP1
  · simp only [g_E, g_cell, hd]
    congr 2
    apply List.ext_getElem?
    intro q
    simp only [g_fld, List.getElem?_set, List.getElem?_mapIdx, List.length_mapIdx]
    by_cases hq : f = q
    · subst hq
      have h9 := (List.getElem?_eq_some_iff.mp hj).2
      simp [hlt, g_slot, u2, h9]
    · simp only [if_neg hq]
      cases fl[q]? with
      | none => rfl
      | some o => cases o with
        | none => simp [g_slot, u2, Ne.symm hq]
        | some o => simp [g_slot]
  · intro j hne
    simp only [g_E]
    rw [u2_row hne]
theorem x_iald (CF : CallFix p m c cc nL s args (g_ws y0 b0 mL0 r0) own) (hK : g_K g s) (hP : g_P g ad ds n M J H) (i : Nat) (hi : i < n) {N : Nat} {fl : List (Option Nat)} (hd : ds i = (1, N, fl)) (a : Nat) (ha : a < N) (hN : N < 2 ^ 31) (hdg : decode cc pc = .ok (.iaload, 1))
    (kk : W p l e R s m args below meth c H locs cells slots Q (F0 m (pc + 1) ls (.int (nI (M i a)) :: rest))) : W p l e R s m args below meth c H locs cells slots Q (F0 m pc ls (.int (nI a) :: .ref (ad i) :: rest)) := by
  obtain ⟨hx, hb, hml, hown, hts⟩ := CF
  have hE : g_E g ad ds M J i = .inl (g.2 0, N, .inl (fun k => nI (M i k))) := by simp [g_E, g_cell, hd]
  refine va_iald hx hb hK.1 hP i 0 (g_wl_at hi hE) rfl (vp_in_nI ha hN) hdg ?_
  rw [nI_clamp (by omega)]
  exact kk
theorem x_iast (CF : CallFix p m c cc nL s args (g_ws y0 b0 mL0 r0) own) (hK : g_K g s) (hI : g_inj ad n) (hA : ∀ q, g_A ad n q → A q) (hP : g_P g ad ds n M J H) (hS : va_S A H0 H locs) (i : Nat) (hi : i < n) {N : Nat} {fl : List (Option Nat)} (hd : ds i = (1, N, fl)) (a : Nat) (ha : a < N) (hN : N < 2 ^ 31) (v : Nat) (hdg : decode cc pc = .ok (.iastore, 1))
    (kk : ∀ (H1 : Heap) (locs1 : List Loc), g_P g ad ds n (u2 M i a v) J H1 → va_S A H0 H1 locs1 → W p l e R s m args below meth c H1 locs1 cells slots Q (F0 m (pc + 1) ls rest)) : W p l e R s m args below meth c H locs cells slots Q (F0 m pc ls (.int (nI v) :: .int (nI a) :: .ref (ad i) :: rest)) := by
  obtain ⟨hx, hb, hml, hown, hts⟩ := CF
  have hE : g_E g ad ds M J i = .inl (g.2 0, N, .inl (fun k => nI (M i k))) := by simp [g_E, g_cell, hd]
  refine va_iast hx hb hK.1 hP ((g_wl_D _ hI).weaken (fun _ q _ h => hA q.1 h)) hS i 0 (g_wl_at hi hE) rfl (vp_in_nI ha hN) hdg (fun H1 locs1 hP1 _ hS1 => kk H1 locs1 ?_ hS1)
  rw [nI_clamp (by omega)] at hP1
  rw [g_wl_set (E' := g_E g ad ds (u2 M i a v) J) (i := i)] at hP1
  · exact hP1
  · simp only [g_E, g_cell, hd]
    congr 4
    funext q
    simp only [upd, u2]
    by_cases hq : q = a <;> simp [hq]
  · intro j hne
    simp only [g_E]
    rw [u2_row hne]
theorem x_lald (CF : CallFix p m c cc nL s args (g_ws y0 b0 mL0 r0) own) (hK : g_K g s) (hP : g_P g ad ds n M J H) (i : Nat) (hi : i < n) {N : Nat} {fl : List (Option Nat)} (hd : ds i = (2, N, fl)) (a : Nat) (ha : a < N) (hN : N < 2 ^ 31) (hdg : decode cc pc = .ok (.laload, 1))
    (kk : W p l e R s m args below meth c H locs cells slots Q (F0 m (pc + 1) ls (.long (J i a) :: rest))) : W p l e R s m args below meth c H locs cells slots Q (F0 m pc ls (.int (nI a) :: .ref (ad i) :: rest)) := by
  obtain ⟨hx, hb, hml, hown, hts⟩ := CF
  have hE : g_E g ad ds M J i = .inl (g.2 1, N, .inr (.inl (J i))) := by simp [g_E, g_cell, hd]
  refine va_lald hx hb hK.1 hP i 1 (g_wl_at hi hE) rfl (vp_in_nI ha hN) hdg ?_
  rw [nI_clamp (by omega)]
  exact kk
theorem x_last (CF : CallFix p m c cc nL s args (g_ws y0 b0 mL0 r0) own) (hK : g_K g s) (hI : g_inj ad n) (hA : ∀ q, g_A ad n q → A q) (hP : g_P g ad ds n M J H) (hS : va_S A H0 H locs) (i : Nat) (hi : i < n) {N : Nat} {fl : List (Option Nat)} (hd : ds i = (2, N, fl)) (a : Nat) (ha : a < N) (hN : N < 2 ^ 31) (v : Int64) (hdg : decode cc pc = .ok (.lastore, 1))
    (kk : ∀ (H1 : Heap) (locs1 : List Loc), g_P g ad ds n M (u2L J i a v) H1 → va_S A H0 H1 locs1 → W p l e R s m args below meth c H1 locs1 cells slots Q (F0 m (pc + 1) ls rest)) : W p l e R s m args below meth c H locs cells slots Q (F0 m pc ls (.long v :: .int (nI a) :: .ref (ad i) :: rest)) := by
  obtain ⟨hx, hb, hml, hown, hts⟩ := CF
  have hE : g_E g ad ds M J i = .inl (g.2 1, N, .inr (.inl (J i))) := by simp [g_E, g_cell, hd]
  refine va_last hx hb hK.1 hP ((g_wl_D _ hI).weaken (fun _ q _ h => hA q.1 h)) hS i 1 (g_wl_at hi hE) rfl (vp_in_nI ha hN) hdg (fun H1 locs1 hP1 _ hS1 => kk H1 locs1 ?_ hS1)
  rw [nI_clamp (by omega)] at hP1
  rw [g_wl_set (E' := g_E g ad ds M (u2L J i a v)) (i := i)] at hP1
  · exact hP1
  · simp only [g_E, g_cell, hd]
    congr 5
    funext q
    simp only [vp_updL, u2L]
    by_cases hq : q = a <;> simp [hq]
  · intro j hne
    simp only [g_E]
    rw [u2L_row hne]
theorem x_aald (CF : CallFix p m c cc nL s args (g_ws y0 b0 mL0 r0) own) (hK : g_K g s) (hP : g_P g ad ds n M J H) (i : Nat) (hi : i < n) {t N : Nat} {fl : List (Option Nat)} (hd : ds i = (t + 3, N, fl)) (ht : t < 3) (a : Nat) (ha : a < N) (hN : N < 2 ^ 31) {j : Nat} (hj : fl[a]? = some (some j)) (hdg : decode cc pc = .ok (.aaload, 1))
    (kk : W p l e R s m args below meth c H locs cells slots Q (F0 m (pc + 1) ls (.ref (ad j) :: rest))) : W p l e R s m args below meth c H locs cells slots Q (F0 m pc ls (.int (nI a) :: .ref (ad i) :: rest)) := by
  obtain ⟨hx, hb, hml, hown, hts⟩ := CF
  have hE : g_E g ad ds M J i = .inl (g.2 (t + 2), N, .inr (.inr (.inr (.inr (fun k => (fl.getD k none).map ad))))) := by simp [g_E, g_cell, hd]
  have hin : vp_in (nI a) N := vp_in_nI ha hN
  have hlt : (nI a).toNatClampNeg < N := Nat.not_le.mp fun q => hin (Or.inr q)
  have hv : va_rf ((fl.getD a none).map ad) = .ref (ad j) := by simp [List.getD, hj, va_rf]
  have hty : ∃ ty : FieldType, refKind ty = true ∧ (g_tys g)[t + 2]? = some (g.2 (t + 2), ty) := by
    rcases (show t = 0 ∨ t = 1 ∨ t = 2 by omega) with rfl | rfl | rfl
    · exact ⟨_, rfl, rfl⟩
    · exact ⟨_, rfl, rfl⟩
    · exact ⟨_, rfl, rfl⟩
  obtain ⟨ty, hr, ht2⟩ := hty
  refine W.aald (v := .ref (ad j)) (ty := ty) hx hb (hP i _ (g_wl_at hi hE)) ((hK.1.2 (t + 2) _ ht2).1 N (fun k => va_rf ((fl.getD k none).map ad))) hr (fun q => by cases q) (by show ¬ ((nI a) < 0 ∨ (arrV _ _ _).slots.size ≤ _); rw [arrV_size]; exact hin) (by show (arrV _ _ _).slots[_]? = _; rw [arrV_read _ _ hlt, nI_clamp (by omega), hv]) rfl rfl hdg kk
end XF
section XC
variable {p : Program} {l : Launch} {e : Env} {R : Room} {s : State} {m : MethodId} {args : Array Value} {below : List Frame} {meth : Method} {c : Code} {H : Heap} {locs : List Loc} {cells slots : Nat} {Q : State → Prop}
variable {cc : ByteArray} {pc nL : Nat} {ls : Array Slot} {st rest : List Value} {g : gE} {ad : Nat → Nat} {ds : gDs} {n : Nat} {M M' : gMem} {J J' : gMeL} {A : Nat → Prop} {H0 : Heap}
variable {y0 : MethodName} {b0 : ByteArray} {mL0 : Nat} {r0 : Option FieldType} {own : String} {y : MethodName} {b : ByteArray} {maxL k index : Nat} {ret : Option FieldType} {As : List Value} {r : Int32} {lv : List (Nat × Value)}
theorem g_recv (hK : g_K g s) (hP : g_P g ad ds n M J H) {i : Nat} (hi : i < n) {ci : Nat} {fl : List (Option Nat)} (hd : ds i = (0, ci, fl)) {C : String} {T : u_T} {N : Nat} (hc : vwCl[ci]? = some (C, T, N)) : ∃ cell : Cell, H[ad i]? = some cell ∧ cell.vm.isStatics = false ∧ s.vm.findClass C = some cell.cls := by
  have hE : g_E g ad ds M J i = .inr (ci, g_fld ad (M i) fl) := by simp [g_E, g_cell, hd]
  exact va_recv hK.1 hP hc (g_wl_at hi hE)
theorem g_cwV (ht : ∀ w ∈ g_ws y0 b0 mL0 r0, w.before args s = true) {C : String} {q : Nat} (hw : kwV y C b maxL ret q) (hl : Cond.methodLink own index y ∈ Al) (hR : k + 1 ≤ R.frames ∧ 8 + (maxL + 11) + 40 * k ≤ R.locals) : CallW R s args own C index y b maxL ret (g_ws y b maxL ret) (g_rm k) 0 0 q := by
  obtain ⟨⟨h1, h2, h3, h4⟩, h5, h6⟩ := hw
  have ok : ∀ w ∈ Al, w.before args s = true := fun w h => ht w (List.mem_cons_of_mem _ h)
  exact ⟨callB_of q ht (g_good h1) rfl rfl rfl (by rw [h5]; exact ok _ h4) (ok _ hl) h6 hR, ok _ h2, ok _ h3⟩
theorem g_cwS (ht : ∀ w ∈ g_ws y0 b0 mL0 r0, w.before args s = true) {q : Nat} (hw : kwS y b maxL ret q) (hl : Cond.methodLink own index y ∈ Al) (hR : k + 1 ≤ R.frames ∧ 8 + (maxL + 11) + 40 * k ≤ R.locals) : CallB R s args own index y b maxL ret (g_ws y b maxL ret) (g_rm k) 0 0 q ∧ (Cond.static y).before args s = true := by
  obtain ⟨⟨h1, h2, h4⟩, h6⟩ := hw
  have ok : ∀ w ∈ Al, w.before args s = true := fun w h => ht w (List.mem_cons_of_mem _ h)
  exact ⟨callB_of q ht (g_good h1) rfl rfl rfl (ok _ h4) (ok _ hl) h6 hR, ok _ h2⟩
theorem g_cwN (ht : ∀ w ∈ g_ws y0 b0 mL0 r0, w.before args s = true) {q : Nat} (hw : kwS y b maxL ret q) (hl : va_Nw (.methodLinkNest own index y "ShaftPlay") s) (hR : k + 1 ≤ R.frames ∧ 8 + (maxL + 11) + 40 * k ≤ R.locals) : va_CN R s args own index y "ShaftPlay" b maxL ret (g_ws y b maxL ret) (g_rm k) 0 0 q ∧ (Cond.static y).before args s = true ∧ True := by
  obtain ⟨⟨h1, h2, h4⟩, h6⟩ := hw
  have ok : ∀ w ∈ Al, w.before args s = true := fun w h => ht w (List.mem_cons_of_mem _ h)
  exact ⟨va_cnB q ht (g_good h1) rfl rfl rfl hl (ok _ h4) h6 hR, ok _ h2, trivial⟩
theorem g_preS {Pc : Array Value → State → Prop} {B : State → Prop} (hb1 : ∀ (a : Array Value) (U : State) (f : JFrame) (mk : MethodId), B U → B (U.calling f mk a)) (hb2 : ∀ U : State, U.heap = H → s.WarmedH U.vm → B U) : PreS s H (va_Pc As B) As :=
  ⟨fun a U f mk q => ⟨q.1, hb1 a U f mk q.2⟩, fun U h1 h2 => ⟨rfl, hb2 U h1 h2⟩⟩
theorem x_callVI (CF : CallFix p m c cc nL s args (g_ws y0 b0 mL0 r0) own) (hK : g_K g s) (hP : g_P g ad ds n M J H) (hS : va_S A H0 H locs) (hA : ∀ q, g_A ad n q → A q) (hl : lv_has ls nL lv) {i : Nat} (hc : CI l g ad ds n y b maxL ret k (.ref (ad i) :: As) M J r M' J') {C : String} (hw : kwV y C b maxL ret As.length) (hlink : Cond.methodLink own index y ∈ Al) (hi : i < n) {ci : Nat} {fl : List (Option Nat)} (hd : ds i = (0, ci, fl)) {T : u_T} {N : Nat} (hcl : vwCl[ci]? = some (C, T, N)) (hst : st = As.reverse ++ .ref (ad i) :: rest) (hR : k + 1 ≤ R.frames ∧ 8 + (maxL + 11) + 40 * k ≤ R.locals) (hfit : cells ≤ R.cells ∧ slots ≤ R.slots) (hr : (rest.map fun v => v.category).sum ≤ 8) (hdg : decode cc pc = .ok (.invokevirtual index, 3))
    (kk : ∀ (H1 : Heap) (locs1 : List Loc), g_P g ad ds n M' J' H1 → va_S A H0 H1 locs1 → W p l e R s m args below meth c H1 locs1 cells slots Q (F0 m (pc + 3) ls (.int r :: rest))) : W p l e R s m args below meth c H locs cells slots Q (F0 m pc ls st) := by
  subst hst
  refine va_calli (va_runV (As := As) (rest := rest) CF hc (g_cwV CF.2.2.2.2 hw hlink hR) ⟨fun a U f mk q => ⟨q.1, q.2.1, q.2.2.calling⟩, g_recv hK hP hi hd hcl, fun U h1 h2 => ⟨rfl, by rw [h1]; exact hP, hK.warm h2⟩⟩ rfl rfl hl.1 rfl (lv_room hr) hdg hfit) hS (fun q _ h => hA q h) hA (fun r' _ t H1 locs1 ht _ hq hB _ _ hS1 => ?_)
  subst hq
  exact kk H1 locs1 (by rw [← ht]; exact hB) hS1
theorem x_callVV (CF : CallFix p m c cc nL s args (g_ws y0 b0 mL0 r0) own) (hK : g_K g s) (hP : g_P g ad ds n M J H) (hS : va_S A H0 H locs) (hA : ∀ q, g_A ad n q → A q) (hl : lv_has ls nL lv) {i : Nat} (hc : CV l g ad ds n y b maxL k (.ref (ad i) :: As) M J M' J') {C : String} (hw : kwV y C b maxL none As.length) (hlink : Cond.methodLink own index y ∈ Al) (hi : i < n) {ci : Nat} {fl : List (Option Nat)} (hd : ds i = (0, ci, fl)) {T : u_T} {N : Nat} (hcl : vwCl[ci]? = some (C, T, N)) (hst : st = As.reverse ++ .ref (ad i) :: rest) (hR : k + 1 ≤ R.frames ∧ 8 + (maxL + 11) + 40 * k ≤ R.locals) (hfit : cells ≤ R.cells ∧ slots ≤ R.slots) (hr : (rest.map fun v => v.category).sum ≤ 8) (hdg : decode cc pc = .ok (.invokevirtual index, 3))
    (kk : ∀ (H1 : Heap) (locs1 : List Loc), g_P g ad ds n M' J' H1 → va_S A H0 H1 locs1 → W p l e R s m args below meth c H1 locs1 cells slots Q (F0 m (pc + 3) ls rest)) : W p l e R s m args below meth c H locs cells slots Q (F0 m pc ls st) := by
  subst hst
  refine va_callv (va_runV (As := As) (rest := rest) CF hc (g_cwV CF.2.2.2.2 hw hlink hR) ⟨fun a U f mk q => ⟨q.1, q.2.1, q.2.2.calling⟩, g_recv hK hP hi hd hcl, fun U h1 h2 => ⟨rfl, by rw [h1]; exact hP, hK.warm h2⟩⟩ rfl rfl hl.1 rfl (lv_room hr) hdg hfit) hS (fun q _ h => hA q h) hA (fun _ t H1 locs1 ht _ hq hB _ _ hS1 => ?_)
  exact kk H1 locs1 (by rw [← ht]; exact hB) hS1
theorem x_callSI (CF : CallFix p m c cc nL s args (g_ws y0 b0 mL0 r0) own) (hK : g_K g s) (hP : g_P g ad ds n M J H) (hS : va_S A H0 H locs) (hA : ∀ q, g_A ad n q → A q) (hl : lv_has ls nL lv) (hc : CI l g ad ds n y b maxL ret k As M J r M' J') (hw : kwS y b maxL ret As.length) (hlink : Cond.methodLink own index y ∈ Al) (hst : st = As.reverse ++ rest) (hR : k + 1 ≤ R.frames ∧ 8 + (maxL + 11) + 40 * k ≤ R.locals) (hfit : cells ≤ R.cells ∧ slots ≤ R.slots) (hr : (rest.map fun v => v.category).sum ≤ 8) (hdg : decode cc pc = .ok (.invokestatic index, 3))
    (kk : ∀ (H1 : Heap) (locs1 : List Loc), g_P g ad ds n M' J' H1 → va_S A H0 H1 locs1 → W p l e R s m args below meth c H1 locs1 cells slots Q (F0 m (pc + 3) ls (.int r :: rest))) : W p l e R s m args below meth c H locs cells slots Q (F0 m pc ls st) := by
  subst hst
  refine va_calli (va_runS (As := As) (rest := rest) CF hc (g_cwS CF.2.2.2.2 hw hlink hR) ⟨fun a U f mk q => ⟨q.1, q.2.1, q.2.2.calling⟩, fun U h1 h2 => ⟨rfl, by rw [h1]; exact hP, hK.warm h2⟩⟩ rfl rfl hl.1 rfl (lv_room hr) hdg hfit) hS (fun q _ h => hA q h) hA (fun r' _ t H1 locs1 ht _ hq hB _ _ hS1 => ?_)
  subst hq
  exact kk H1 locs1 (by rw [← ht]; exact hB) hS1
theorem x_callSV (CF : CallFix p m c cc nL s args (g_ws y0 b0 mL0 r0) own) (hK : g_K g s) (hP : g_P g ad ds n M J H) (hS : va_S A H0 H locs) (hA : ∀ q, g_A ad n q → A q) (hl : lv_has ls nL lv) (hc : CV l g ad ds n y b maxL k As M J M' J') (hw : kwS y b maxL none As.length) (hlink : Cond.methodLink own index y ∈ Al) (hst : st = As.reverse ++ rest) (hR : k + 1 ≤ R.frames ∧ 8 + (maxL + 11) + 40 * k ≤ R.locals) (hfit : cells ≤ R.cells ∧ slots ≤ R.slots) (hr : (rest.map fun v => v.category).sum ≤ 8) (hdg : decode cc pc = .ok (.invokestatic index, 3))
    (kk : ∀ (H1 : Heap) (locs1 : List Loc), g_P g ad ds n M' J' H1 → va_S A H0 H1 locs1 → W p l e R s m args below meth c H1 locs1 cells slots Q (F0 m (pc + 3) ls rest)) : W p l e R s m args below meth c H locs cells slots Q (F0 m pc ls st) := by
  subst hst
  refine va_callv (va_runS (As := As) (rest := rest) CF hc (g_cwS CF.2.2.2.2 hw hlink hR) ⟨fun a U f mk q => ⟨q.1, q.2.1, q.2.2.calling⟩, fun U h1 h2 => ⟨rfl, by rw [h1]; exact hP, hK.warm h2⟩⟩ rfl rfl hl.1 rfl (lv_room hr) hdg hfit) hS (fun q _ h => hA q h) hA (fun _ t H1 locs1 ht _ hq hB _ _ hS1 => ?_)
  exact kk H1 locs1 (by rw [← ht]; exact hB) hS1
/-- a pure call: the heap's cells stay (in a world) -/
theorem x_callSP (CF : CallFix p m c cc nL s args (g_ws y0 b0 mL0 r0) own) (hK : g_K g s) (hP : g_P g ad ds n M J H) (hS : va_S A H0 H locs) (hl : lv_has ls nL lv) (hc : CP l g y b maxL ret k As r) (hw : kwS y b maxL ret As.length) (hlink : Cond.methodLink own index y ∈ Al) (hst : st = As.reverse ++ rest) (hR : k + 1 ≤ R.frames ∧ 8 + (maxL + 11) + 40 * k ≤ R.locals) (hfit : cells ≤ R.cells ∧ slots ≤ R.slots) (hr : (rest.map fun v => v.category).sum ≤ 8) (hdg : decode cc pc = .ok (.invokestatic index, 3))
    (kk : ∀ (H1 : Heap) (locs1 : List Loc), g_P g ad ds n M J H1 → va_S A H0 H1 locs1 → W p l e R s m args below meth c H1 locs1 cells slots Q (F0 m (pc + 3) ls (.int r :: rest))) : W p l e R s m args below meth c H locs cells slots Q (F0 m pc ls st) := by
  subst hst
  refine va_calli (va_runS (As := As) (rest := rest) CF hc (g_cwS CF.2.2.2.2 hw hlink hR) ⟨fun a U f mk q => ⟨q.1, q.2.calling⟩, fun U h1 h2 => ⟨rfl, hK.warm h2⟩⟩ rfl rfl hl.1 rfl (lv_room hr) hdg hfit) hS (fun q _ h => h.elim) (fun q h => h.elim) (fun r' _ t H1 locs1 ht _ hq _ _ hk1 hS1 => ?_)
  subst hq
  exact kk H1 locs1 (hP.kept (fun q h => hk1 q h (fun x => x))) hS1
/-- a pure call, in a pure method -/
theorem x_callPP (CF : CallFix p m c cc nL s args (g_ws y0 b0 mL0 r0) own) (hK : g_K g s) (hS : va_S A H0 H locs) (hl : lv_has ls nL lv) (hc : CP l g y b maxL ret k As r) (hw : kwS y b maxL ret As.length) (hlink : Cond.methodLink own index y ∈ Al) (hst : st = As.reverse ++ rest) (hR : k + 1 ≤ R.frames ∧ 8 + (maxL + 11) + 40 * k ≤ R.locals) (hfit : cells ≤ R.cells ∧ slots ≤ R.slots) (hr : (rest.map fun v => v.category).sum ≤ 8) (hdg : decode cc pc = .ok (.invokestatic index, 3))
    (kk : ∀ (H1 : Heap) (locs1 : List Loc), va_S A H0 H1 locs1 → W p l e R s m args below meth c H1 locs1 cells slots Q (F0 m (pc + 3) ls (.int r :: rest))) : W p l e R s m args below meth c H locs cells slots Q (F0 m pc ls st) := by
  subst hst
  refine va_calli (va_runS (As := As) (rest := rest) CF hc (g_cwS CF.2.2.2.2 hw hlink hR) ⟨fun a U f mk q => ⟨q.1, q.2.calling⟩, fun U h1 h2 => ⟨rfl, hK.warm h2⟩⟩ rfl rfl hl.1 rfl (lv_room hr) hdg hfit) hS (fun q _ h => h.elim) (fun q h => h.elim) (fun r' _ t H1 locs1 ht _ hq _ _ _ hS1 => ?_)
  subst hq
  exact kk H1 locs1 hS1
theorem x_callNP (CF : CallFix p m c cc nL s args (g_ws y0 b0 mL0 r0) own) (hK : g_K g s) (hP : g_P g ad ds n M J H) (hS : va_S A H0 H locs) (hl : lv_has ls nL lv) (hc : CP l g y b maxL ret k As r) (hw : kwS y b maxL ret As.length) (hlink : va_Nw (.methodLinkNest own index y "ShaftPlay") s) (hst : st = As.reverse ++ rest) (hR : k + 1 ≤ R.frames ∧ 8 + (maxL + 11) + 40 * k ≤ R.locals) (hfit : cells ≤ R.cells ∧ slots ≤ R.slots) (hr : (rest.map fun v => v.category).sum ≤ 8) (hdg : decode cc pc = .ok (.invokestatic index, 3))
    (kk : ∀ (H1 : Heap) (locs1 : List Loc), g_P g ad ds n M J H1 → va_S A H0 H1 locs1 → W p l e R s m args below meth c H1 locs1 cells slots Q (F0 m (pc + 3) ls (.int r :: rest))) : W p l e R s m args below meth c H locs cells slots Q (F0 m pc ls st) := by
  subst hst
  refine va_calli (va_runSN (As := As) (rest := rest) CF hc (g_cwN CF.2.2.2.2 hw hlink hR) ⟨fun a U f mk q => ⟨q.1, q.2.calling⟩, fun U h1 h2 => ⟨rfl, hK.warm h2⟩⟩ rfl rfl hl.1 rfl (lv_room hr) hdg hfit) hS (fun q _ h => h.elim) (fun q h => h.elim) (fun r' _ t H1 locs1 ht _ hq _ _ hk1 hS1 => ?_)
  subst hq
  exact kk H1 locs1 (hP.kept (fun q h => hk1 q h (fun x => x))) hS1
theorem x_callNPP (CF : CallFix p m c cc nL s args (g_ws y0 b0 mL0 r0) own) (hK : g_K g s) (hS : va_S A H0 H locs) (hl : lv_has ls nL lv) (hc : CP l g y b maxL ret k As r) (hw : kwS y b maxL ret As.length) (hlink : va_Nw (.methodLinkNest own index y "ShaftPlay") s) (hst : st = As.reverse ++ rest) (hR : k + 1 ≤ R.frames ∧ 8 + (maxL + 11) + 40 * k ≤ R.locals) (hfit : cells ≤ R.cells ∧ slots ≤ R.slots) (hr : (rest.map fun v => v.category).sum ≤ 8) (hdg : decode cc pc = .ok (.invokestatic index, 3))
    (kk : ∀ (H1 : Heap) (locs1 : List Loc), va_S A H0 H1 locs1 → W p l e R s m args below meth c H1 locs1 cells slots Q (F0 m (pc + 3) ls (.int r :: rest))) : W p l e R s m args below meth c H locs cells slots Q (F0 m pc ls st) := by
  subst hst
  refine va_calli (va_runSN (As := As) (rest := rest) CF hc (g_cwN CF.2.2.2.2 hw hlink hR) ⟨fun a U f mk q => ⟨q.1, q.2.calling⟩, fun U h1 h2 => ⟨rfl, hK.warm h2⟩⟩ rfl rfl hl.1 rfl (lv_room hr) hdg hfit) hS (fun q _ h => h.elim) (fun q h => h.elim) (fun r' _ t H1 locs1 ht _ hq _ _ _ hS1 => ?_)
  subst hq
  exact kk H1 locs1 hS1
theorem x_callSPL {r : Int64} (CF : CallFix p m c cc nL s args (g_ws y0 b0 mL0 r0) own) (hK : g_K g s) (hP : g_P g ad ds n M J H) (hS : va_S A H0 H locs) (hl : lv_has ls nL lv) (hc : CPL l g y b maxL k As r) (hw : kwS y b maxL (some .long) As.length) (hlink : Cond.methodLink own index y ∈ Al) (hst : st = As.reverse ++ rest) (hR : k + 1 ≤ R.frames ∧ 8 + (maxL + 11) + 40 * k ≤ R.locals) (hfit : cells ≤ R.cells ∧ slots ≤ R.slots) (hr : (rest.map fun v => v.category).sum ≤ 8) (hdg : decode cc pc = .ok (.invokestatic index, 3))
    (kk : ∀ (H1 : Heap) (locs1 : List Loc), g_P g ad ds n M J H1 → va_S A H0 H1 locs1 → W p l e R s m args below meth c H1 locs1 cells slots Q (F0 m (pc + 3) ls (.long r :: rest))) : W p l e R s m args below meth c H locs cells slots Q (F0 m pc ls st) := by
  subst hst
  refine va_calll (va_runS (As := As) (rest := rest) CF hc (g_cwS CF.2.2.2.2 hw hlink hR) ⟨fun a U f mk q => ⟨q.1, q.2.calling⟩, fun U h1 h2 => ⟨rfl, hK.warm h2⟩⟩ rfl rfl hl.1 rfl (lv_room hr) hdg hfit) hS (fun q _ h => h.elim) (fun q h => h.elim) (fun r' _ t H1 locs1 ht _ hq _ _ hk1 hS1 => ?_)
  subst hq
  exact kk H1 locs1 (hP.kept (fun q h => hk1 q h (fun x => x))) hS1
end XC
