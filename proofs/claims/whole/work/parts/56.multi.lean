/-! new int[n][k]: the machine's own steps, and its row in a world -/
/-- the outer row, when i of the inner ones are made -/
def xm_out (cA : ClassId) (N h i : Nat) : Cell := arrV cA N (fun j => va_rf (if j < i then some (h + 1 + j) else none))
def xm_in (cI : ClassId) (K : Nat) : Cell := arrV cI K (fun _ => .int 0)
def xm_S (T : State) (cA cI : ClassId) (N K : Nat) : Nat → State
  | 0 => T.pushCell (xm_out cA N T.heap.size 0)
  | i + 1 => ((xm_S T cA cI N K i).pushCell (xm_in cI K)).setCell T.heap.size ((xm_out cA N T.heap.size i).setSlot i (.ref (T.heap.size + 1 + i)))
theorem xm_out_next (cA : ClassId) (N h i : Nat) : (xm_out cA N h i).setSlot i (.ref (h + 1 + i)) = xm_out cA N h (i + 1) := by
  unfold xm_out
  rw [arrV_store]
  congr 1
  funext j
  unfold updV
  by_cases hj : j = i
  · subst hj; simp [va_rf]
  · rw [if_neg hj]
    show va_rf (if j < i then some (h + 1 + j) else none) = _
    by_cases h2 : j < i
    · rw [if_pos h2, if_pos (by omega)]
    · rw [if_neg h2, if_neg (by omega)]
theorem xm_top (T : State) (f : JFrame) (cA cI : ClassId) (N K : Nat) : ∀ i, xm_S (T.setTop f) cA cI N K i = (xm_S T cA cI N K i).setTop f
  | 0 => rfl
  | i + 1 => by
    show ((xm_S (T.setTop f) cA cI N K i).pushCell _).setCell _ _ = _
    rw [xm_top T f cA cI N K i]
    rfl
def xm_ok (T U : State) (cA cI : ClassId) (N K i : Nat) : Prop := U.heap.size = T.heap.size + 1 + i ∧ U.heap[T.heap.size]? = some (xm_out cA N T.heap.size i) ∧ U.vm = T.vm ∧ U.slotsUsed = T.slotsUsed + N + i * K ∧ (∀ q : Nat, q < T.heap.size → U.heap[q]? = T.heap[q]?) ∧ ∀ j, j < i → U.heap[T.heap.size + 1 + j]? = some (xm_in cI K)
theorem xm_facts (T : State) (cA cI : ClassId) (N K : Nat) : ∀ i, xm_ok T (xm_S T cA cI N K i) cA cI N K i
  | 0 => ⟨by simp [xm_S], by simp [xm_S], rfl, by simp [xm_S, xm_out, arrV_size], fun q hq => State.heap_pushCell_of_lt _ _ hq, fun j hj => absurd hj (Nat.not_lt_zero _)⟩
  | i + 1 => by
    obtain ⟨a1, a2, a3, a4, a5, a6⟩ := xm_facts T cA cI N K i
    have hlt : T.heap.size < (xm_S T cA cI N K i).heap.size := by omega
    have hb : ((xm_S T cA cI N K i).pushCell (xm_in cI K)).heap[T.heap.size]? = some (xm_out cA N T.heap.size i) := by rw [State.heap_pushCell_of_lt (h := hlt)]; exact a2
    refine ⟨?_, ?_, ?_, ?_, fun q hq => ?_, fun j hj => ?_⟩
    · simp [xm_S, State.setCell, a1]; omega
    · rw [← xm_out_next]; exact State.heap_setCell_self hb
    · simp [xm_S, a3]
    · simp [xm_S, a4, xm_in, arrV_size, Nat.succ_mul]; omega
    · show (((xm_S T cA cI N K i).pushCell (xm_in cI K)).setCell T.heap.size _).heap[q]? = _
      have hq2 : q < (xm_S T cA cI N K i).heap.size := by omega
      rw [State.heap_setCell_other (Nat.ne_of_gt hq), State.heap_pushCell_of_lt (h := hq2)]
      exact a5 q hq
    · show (((xm_S T cA cI N K i).pushCell (xm_in cI K)).setCell T.heap.size _).heap[T.heap.size + 1 + j]? = _
      rw [State.heap_setCell_other (show T.heap.size ≠ T.heap.size + 1 + j by omega)]
      rcases Nat.lt_or_ge j i with h | h
      · have hj2 : T.heap.size + 1 + j < (xm_S T cA cI N K i).heap.size := by omega
        rw [State.heap_pushCell_of_lt (h := hj2)]
        exact a6 j h
      · have e1 : T.heap.size + 1 + j = (xm_S T cA cI N K i).heap.size := by omega
        rw [e1]
        exact State.heap_pushCell_size _ _
theorem xm_make1 {E : CtlPost} {e : Env} {d : Bool} {acts : List Action} {s : State} {cI cz : ClassId} {kI : Class} {k : Int32} (hI : s.vm.classes[cI]? = some kI) (hkI : kI.kind = .array cz .int) (hk : ¬ k < 0) (l2 : ¬ k.toNatClampNeg > e.platform.arrayLengthLimit) (b2 : ¬ k.toNatClampNeg * componentBytes .int > e.platform.maxHeapBytes)
    (h1 : s.heap.size < e.platform.maxCells) (h2 : s.slotsUsed + k.toNatClampNeg ≤ e.platform.maxSlots) {Q : Addr → Pre} (hq : ∀ acts', Q s.heap.size d acts' (s.pushCell (xm_in cI k.toNatClampNeg))) : wp (multianewarray.make cI [k]) Q E e d acts s := by
  rw [multianewarray.make]
  simp only [wp_bind', W.ite, hk, if_false, wp_pure', W.theClass, hI, hkI, Option.some.injEq, exists_eq_left']
  refine W.newArray_of hI hkI l2 b2 h1 h2 rfl (fun acts' => ?_)
  have h := hq acts'
  unfold xm_in at h
  rw [← arrV_new] at h
  exact h
theorem xm_make {E : CtlPost} {e : Env} {d : Bool} {acts : List Action} {s : State} {cA cI cz : ClassId} {kA kI : Class} {n k : Int32} (hA : s.vm.classes[cA]? = some kA) (hkA : kA.kind = .array cI (.array .int)) (hI : s.vm.classes[cI]? = some kI) (hkI : kI.kind = .array cz .int) (hn : ¬ n < 0) (hk : ¬ k < 0)
    (l1 : ¬ n.toNatClampNeg > e.platform.arrayLengthLimit) (b1 : ¬ n.toNatClampNeg * componentBytes (.array .int) > e.platform.maxHeapBytes) (l2 : ¬ k.toNatClampNeg > e.platform.arrayLengthLimit) (b2 : ¬ k.toNatClampNeg * componentBytes .int > e.platform.maxHeapBytes)
    (hc : s.heap.size + 1 + n.toNatClampNeg ≤ e.platform.maxCells) (hs : s.slotsUsed + n.toNatClampNeg + n.toNatClampNeg * k.toNatClampNeg ≤ e.platform.maxSlots) {Q : Addr → Pre} (hq : ∀ d' acts', Q s.heap.size d' acts' (xm_S s cA cI n.toNatClampNeg k.toNatClampNeg n.toNatClampNeg)) : wp (multianewarray.make cA [n, k]) Q E e d acts s := by
  generalize hN : n.toNatClampNeg = N at l1 b1 hc hs hq
  have hno : ([k].find? (· < 0)) = none := by simp [hk]
  have hmul : ∀ i, i < N → i * k.toNatClampNeg + k.toNatClampNeg ≤ N * k.toNatClampNeg := fun i hi => by
    have h9 := Nat.mul_le_mul_right k.toNatClampNeg (show i + 1 ≤ N from hi)
    rw [Nat.succ_mul] at h9
    exact h9
  rw [multianewarray.make]
  simp only [wp_bind', W.ite, hn, if_false, wp_pure', W.theClass, hA, hkA, Option.some.injEq, exists_eq_left', hN]
  refine W.newArray_of hA hkA l1 b1 (by omega) (by omega) rfl (fun acts1 => ?_)
  simp only [hno]
  rw [ite_self, wp_bind', Std.Legacy.Range.forIn_eq_forIn_range']
  rw [show ([:N] : Std.Legacy.Range).size = N by simp [Std.Legacy.Range.size]]
  show wp (forIn (List.range' 0 N 1) PUnit.unit _) _ E e d acts1 _
  refine wp_forIn_inv (fun rest s' => ∃ i, i ≤ N ∧ rest = List.range' i (N - i) ∧ s' = xm_S s cA cI N k.toNatClampNeg i) _ _ ⟨0, Nat.zero_le _, rfl, ?_⟩ ?_ ?_
  · show s.pushCell _ = s.pushCell _
    rw [arrV_new]
    congr 2
  · rintro x rest s' d' acts' Q' ⟨i, hi, hl, rfl⟩ hnext
    have hlt : i < N := Nat.lt_of_le_of_ne hi (fun h => by rw [h, Nat.sub_self] at hl; cases hl)
    rw [show N - i = (N - (i + 1)) + 1 by omega, List.range'_succ] at hl
    obtain ⟨rfl, hrest⟩ := List.cons.inj hl
    obtain ⟨a1, a2, a3, a4, -, -⟩ := xm_facts s cA cI N k.toNatClampNeg x
    have h9 := hmul x hlt
    simp only [wp_bind']
    refine xm_make1 (by rw [a3]; exact hI) hkI hk l2 b2 (by omega) (by omega) (fun acts2 => ?_)
    simp only [wp_bind', W.writeLoc, wp_pure']
    have h0 : s.heap.size < (xm_S s cA cI N k.toNatClampNeg x).heap.size := by omega
    refine ⟨xm_out cA N s.heap.size x, by rw [State.heap_pushCell_of_lt (h := h0)]; exact a2, by simp [xm_out, arrV], by simp [xm_out, arrV_size, hlt], ?_, hnext _ _ _ ⟨x + 1, hlt, hrest, ?_⟩⟩
    · simp [xm_out, arrV, State.fitsSlot, State.slotType?, a3, hA, hkA, fits]
    · rw [a1]; rfl
  · rintro s' d' acts' ⟨i, hi, hl, rfl⟩
    have hiN : i = N := Nat.le_antisymm hi (Nat.not_lt.mp (fun h => by rw [show N - i = (N - (i + 1)) + 1 by omega, List.range'_succ] at hl; cases hl))
    subst hiN
    simp only [wp_pure']
    exact hq _ _
theorem xm_stand {p : Program} {l : Launch} {e : Env} {R : Room} {s : State} {m : MethodId} {args : Array Value} {below : List Frame} {meth : Method} {c : Code} {T : State} {locs : List Loc} {cells slots : Nat} (X : Stand p l e R s m args below meth c T locs cells slots) (cA cI : ClassId) (N K : Nat) : ∀ i, Stand p l e R s m args below meth c (xm_S T cA cI N K i) (locs ++ (List.range i).map fun j => ⟨T.heap.size, j⟩) (cells + 1 + i) (slots + N + i * K)
  | 0 => by
    have h := X.pushed (xm_out cA N T.heap.size 0)
    rw [show (xm_out cA N T.heap.size 0).slots.size = N from arrV_size _ _ _] at h
    simpa [xm_S] using h
  | i + 1 => by
    obtain ⟨a1, a2, -, -, -, -⟩ := xm_facts T cA cI N K i
    have hlt : T.heap.size < (xm_S T cA cI N K i).heap.size := by omega
    have h := ((xm_stand X cA cI N K i).pushed (xm_in cI K)).stored (a := T.heap.size) (cell := xm_out cA N T.heap.size i) (by rw [State.heap_pushCell_of_lt (h := hlt)]; exact a2) i (.ref (T.heap.size + 1 + i))
    rw [show (xm_in cI K).slots.size = K from arrV_size _ _ _] at h
    rw [List.range_succ, List.map_append, ← List.append_assoc, show slots + N + (i + 1) * K = slots + N + i * K + K by rw [Nat.succ_mul]; omega]
    exact h
section XMW
variable {p : Program} {l : Launch} {e : Env} {R : Room} {s : State} {m : MethodId} {args : Array Value} {below : List Frame} {meth : Method} {c : Code} {H : Heap} {locs : List Loc} {cells slots : Nat} {Q : State → Prop}
variable {cc : ByteArray} {pc : Nat} {ls : Array Slot} {rest : List Value}
theorem xm_step (hexec : p.tables.exec = Jvm.exec) (hb : c.code = cc) {own : String} {index : Nat} (hown : s.vm.findClass own = some m.cls) (hclink : (Cond.classLink own index "[[I").before args s = true) (hover : (Cond.arrayOver (.array .int)).before args s = true) (harr : (Cond.arrayClass .int).before args s = true)
    {n k : Int32} {N K : Nat} (hn : ¬ n < 0) (hk : ¬ k < 0) (hN : n.toNatClampNeg = N) (hK : k.toNatClampNeg = K) (hb1 : N ≤ 1000) (hb2 : K ≤ 1000) (hcells : cells + (1 + N) ≤ R.cells) (hslots : slots + (N + N * K) ≤ R.slots) (hdg : decode cc pc = .ok (.multianewarray index 2, 4))
    (kk : ∀ (cA cI : ClassId) (H1 : Heap), s.vm.findClass "[[I" = some cA → s.vm.findClass "[I" = some cI → H1.size = H.size + 1 + N → H1[H.size]? = some (xm_out cA N H.size N) → (∀ q : Nat, q < H.size → H1[q]? = H[q]?) → (∀ j, j < N → H1[H.size + 1 + j]? = some (xm_in cI K)) →
      W p l e R s m args below meth c H1 locs (cells + 1 + N) (slots + N + N * K) Q (F0 m (pc + 4) ls (.ref H.size :: rest))) : W p l e R s m args below meth c H locs cells slots Q (F0 m pc ls (.int k :: .int n :: rest)) := by
  subst hN hK hb
  intro T hT X
  have hpl : e.platform.magicAccessors = ({} : Platform).magicAccessors := by rw [X.admits.platform]
  obtain ⟨cI, cA, kA, f1, -, f3, f4, f5⟩ := arrayOverA_spec hover
  obtain ⟨cI', kI, cz, g1, g2, g3⟩ := Cond.arrayClass_spec harr
  cases Option.some.inj (g1.symm.trans f1)
  obtain ⟨c0, hfc0, hcl⟩ := Cond.classLink_spec hown hclink e.platform hpl
  cases Option.some.inj (f5.symm.trans hfc0)
  obtain ⟨hg₁, hwarm₁, hready₁⟩ := State.classEntry (e := e) X.warmed hcl
  generalize T.vm.noted (F0 m pc ls (.int k :: .int n :: rest)).method.cls index (.cls cA) = vm₁ at hg₁ hwarm₁ hready₁
  have hal : s.vm.Alike vm₁ := hwarm₁.alike
  obtain ⟨kA₁, hkA₁, heA⟩ := hal.2.2 _ _ f3
  obtain ⟨kI₁, hkI₁, heI⟩ := hal.2.2 _ _ g2
  have X₁ := X.noted hwarm₁
  obtain ⟨hr1, hr2⟩ := X.roomAbove hcells hslots
  have XF := xm_stand X₁ cA cI n.toNatClampNeg k.toNatClampNeg n.toNatClampNeg
  obtain ⟨a1, a2, -, -, a5, a6⟩ := xm_facts (T.setVm vm₁) cA cI n.toNatClampNeg k.toNatClampNeg n.toNatClampNeg
  have hTh : (T.setVm vm₁).heap = H := hT
  rw [hTh] at a1 a2 a5 a6
  have XG := XF.dropFresh (locs := locs) (fun x hx => by
    obtain ⟨j, -, rfl⟩ := List.mem_map.mp hx
    exact X.heapGrown)
  obtain ⟨t, b1, b2⟩ := kk cA cI _ f5 f1 a1 a2 a5 a6 _ rfl XG
  refine ⟨t, ?_, b2⟩
  jvm_step X.here [hexec, hdg]
  simp only [multianewarray.sem, wp_bind', W.resolveClassAt_links (State.method?_setTop (F0 m pc ls (.int k :: .int n :: rest)) X.here.top) hg₁]
  rw [W.popN, if_neg (by decide)]
  refine ⟨_, State.topJava?_setTop' (s := T.setVm vm₁) (F0 m pc ls (.int k :: .int n :: rest)) X.here.top, [.int n, .int k], rest, rfl, rfl, ?_⟩
  simp only [List.mapM_cons, List.mapM_nil, wp_bind', wp_pure']
  have q1 : e.platform.arrayLengthLimit = 2147483645 := by have := Launch.admits_arrayLengthLimit X.admits; omega
  refine xm_make (kA := kA₁) (kI := kI₁) (cz := cz) hkA₁ (by rw [heA]; exact f4) hkI₁ (by rw [heI]; exact g3) hn hk (by omega) ?_ (by omega) ?_ (by show T.heap.size + 1 + _ ≤ _; omega) (by show T.slotsUsed + _ + _ ≤ _; omega) (fun d' acts' => ?_)
  · rw [Launch.admits_maxHeapBytes X.admits]; show ¬ n.toNatClampNeg * 4 > 536870912; omega
  · rw [Launch.admits_maxHeapBytes X.admits]; show ¬ k.toNatClampNeg * 4 > 536870912; omega
  have eS : ((T.setTop (F0 m pc ls (.int k :: .int n :: rest))).setVm vm₁).setTop { F0 m pc ls (.int k :: .int n :: rest) with stack := rest } = (T.setVm vm₁).setTop { F0 m pc ls (.int k :: .int n :: rest) with stack := rest } := by
    show ((T.setVm vm₁).setTop _).setTop _ = _
    rw [State.setTop_setTop]
  rw [eS, xm_top]
  simp only [wp_bind', W.mark, W.pushRef, State.heap_setTop]
  refine ⟨_, State.topJava?_setTop' _ XF.here.top, fun acts => ?_⟩
  rw [State.setTop_setTop]
  simp [jvm, XF.here.top]
  rw [← hTh] at b1
  exact b1
end XMW
