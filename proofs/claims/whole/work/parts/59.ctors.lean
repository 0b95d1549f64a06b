/-! the constructors: first memories, layouts of their own, contracts -/
def zQ : Nat → Nat := fun _ => 0
def MZ : gMem := fun _ => zQ
def shQ : Nat → Nat := fun k => ([0, 4294967295] : List Nat).getD k 0
def plQ : Nat → Nat := fun k => ([0, 0, 0, 0, 5] : List Nat).getD k 0
def btQ : Nat → Nat := filN zQ 12 1
def stQ : Nat → Nat := filN zQ 4 1023
def dsF : gDs := fun i => ([(0, 0, [none, none, none, none, none, none])] : List (Nat × Nat × List (Option Nat))).getD i (0, 99, [])
def dsTp : gDs := fun i => ([(0, 4, [some 1, some 2, none]), (1, 40, []), (1, 12, [])] : List (Nat × Nat × List (Option Nat))).getD i (0, 99, [])
def dsSh : gDs := fun i => ([(0, 3, [some 1, none, none]), (2, 24, [])] : List (Nat × Nat × List (Option Nat))).getD i (0, 99, [])
def dsSg : gDs := fun i => ([(0, 2, [some 1, some 2, some 3]), (1, 5, []), (1, 5, []), (5, 5, [some 4, some 5, some 6, some 7, some 8]), (1, 5, []), (1, 5, []), (1, 5, []), (1, 5, []), (1, 5, [])] : List (Nat × Nat × List (Option Nat))).getD i (0, 99, [])
def dsPl : gDs := fun i => ([(0, 1, [some 1, none, some 8, none, none, none, none, none, some 14, some 15]), (5, 6, [some 2, some 3, some 4, some 5, some 6, some 7]), (1, 12, []), (1, 12, []), (1, 12, []), (1, 12, []), (1, 12, []), (1, 12, []), (3, 5, [some 9, some 10, some 11, some 12, some 13]), (0, 0, [none, none, none, none, none, none]), (0, 0, [none, none, none, none, none, none]), (0, 0, [none, none, none, none, none, none]), (0, 0, [none, none, none, none, none, none]), (0, 0, [none, none, none, none, none, none]), (1, 12, []), (1, 4, [])] : List (Nat × Nat × List (Option Nat))).getD i (0, 99, [])
def MSh : gMem := fun i => ([shQ] : List (Nat → Nat)).getD i zQ
def MPl : gMem := fun i => ([plQ, zQ, zQ, zQ, zQ, zQ, zQ, zQ, zQ, zQ, zQ, zQ, zQ, zQ, btQ, stQ] : List (Nat → Nat)).getD i zQ
def fsX0 : List Value := [.int (nI 0), .int (nI 0), .int (nI 0), .int (nI 0), .int (nI 0), .int (nI 0)]
theorem fsX0_ok : ∀ j, j < 6 → defaultValue (tyX0 j) = vp_V fsX0 j := fun j hj => by
  match j, hj with
  | 0, _ => exact rfl
  | 1, _ => exact rfl
  | 2, _ => exact rfl
  | 3, _ => exact rfl
  | 4, _ => exact rfl
  | 5, _ => exact rfl
  | j + 6, h => exact absurd h (by omega)
def fsX1 : List Value := [.null, .int (nI 0), .null, .int (nI 0), .int (nI 0), .int (nI 0), .int (nI 0), .int (nI 0), .null, .null]
theorem fsX1_ok : ∀ j, j < 10 → defaultValue (tyX1 j) = vp_V fsX1 j := fun j hj => by
  match j, hj with
  | 0, _ => exact rfl
  | 1, _ => exact rfl
  | 2, _ => exact rfl
  | 3, _ => exact rfl
  | 4, _ => exact rfl
  | 5, _ => exact rfl
  | 6, _ => exact rfl
  | 7, _ => exact rfl
  | 8, _ => exact rfl
  | 9, _ => exact rfl
  | j + 10, h => exact absurd h (by omega)
def fsX2 : List Value := [.null, .null, .null]
theorem fsX2_ok : ∀ j, j < 3 → defaultValue (tyX2 j) = vp_V fsX2 j := fun j hj => by
  match j, hj with
  | 0, _ => exact rfl
  | 1, _ => exact rfl
  | 2, _ => exact rfl
  | j + 3, h => exact absurd h (by omega)
def fsX3 : List Value := [.null, .int (nI 0), .int (nI 0)]
theorem fsX3_ok : ∀ j, j < 3 → defaultValue (tyX3 j) = vp_V fsX3 j := fun j hj => by
  match j, hj with
  | 0, _ => exact rfl
  | 1, _ => exact rfl
  | 2, _ => exact rfl
  | j + 3, h => exact absurd h (by omega)
def fsX4 : List Value := [.null, .null, .int (nI 0)]
theorem fsX4_ok : ∀ j, j < 3 → defaultValue (tyX4 j) = vp_V fsX4 j := fun j hj => by
  match j, hj with
  | 0, _ => exact rfl
  | 1, _ => exact rfl
  | 2, _ => exact rfl
  | j + 3, h => exact absurd h (by omega)
def fsX5 : List Value := [.null, .null, .int (nI 0), .null, .null, .null, .null]
theorem fsX5_ok : ∀ j, j < 7 → defaultValue (tyX5 j) = vp_V fsX5 j := fun j hj => by
  match j, hj with
  | 0, _ => exact rfl
  | 1, _ => exact rfl
  | 2, _ => exact rfl
  | 3, _ => exact rfl
  | 4, _ => exact rfl
  | 5, _ => exact rfl
  | 6, _ => exact rfl
  | j + 7, h => exact absurd h (by omega)
def fsX6 : List Value := [.null, .int (nI 0), .null, .int (nI 0), .null, .null, .null, .null, .null, .null, .null, .null, .null, .null, .null]
theorem fsX6_ok : ∀ j, j < 15 → defaultValue (tyX6 j) = vp_V fsX6 j := fun j hj => by
  match j, hj with
  | 0, _ => exact rfl
  | 1, _ => exact rfl
  | 2, _ => exact rfl
  | 3, _ => exact rfl
  | 4, _ => exact rfl
  | 5, _ => exact rfl
  | 6, _ => exact rfl
  | 7, _ => exact rfl
  | 8, _ => exact rfl
  | 9, _ => exact rfl
  | 10, _ => exact rfl
  | 11, _ => exact rfl
  | 12, _ => exact rfl
  | 13, _ => exact rfl
  | 14, _ => exact rfl
  | j + 15, h => exact absurd h (by omega)
set_option maxHeartbeats 4000000 in
set_option maxRecDepth 100000 in
theorem k_X0 {l : Launch} {g : gE} : CN l g yX0_init cX0_init 1 1 0 0 0 fsX0 1 dsF MZ := by
  intro h0 sz
  refine Met.ofWF (cc := cX0_init) (maxL := 1) (ret := none) (by decide +kernel) rfl ?_
  intro p e s m args below meth c s₁ B hml hv
  obtain ⟨rfl, hsz, hP, hK, hB⟩ := hv
  subst hsz
  rw [lg_entry_eq]
  have CF : CallFix p m c cX0_init 1 s _ (g_ws yX0_init cX0_init 1 none) yX0_init.cls := ⟨B.exec, B.bytes, hml, findClass_of_methodNamed B.named, atoms_spec (ws := g_ws yX0_init cX0_init 1 none) B.pre⟩
  have hx := CF.1
  have hb := CF.2.1
  have ok : ∀ w ∈ Al, w.before _ s = true := fun w h => CF.2.2.2.2 w (List.mem_cons_of_mem _ h)
  have hr := B.returns
  have hin : meth.name = "<init>" := (name_of_methodNamed B.named B.method).1
  have hP : va_P g.1 vwCl [(h0, .inr (0, [.int (nI 0), .int (nI 0), .int (nI 0), .int (nI 0), .int (nI 0), .int (nI 0)]))] s.heap := hP
  have hD : va_D (va_A [(h0, .inr (0, fsX0))] s.heap.size) [(h0, .inr (0, [.int (nI 0), .int (nI 0), .int (nI 0), .int (nI 0), .int (nI 0), .int (nI 0)]))] := ⟨fun i j _ _ hi hj _ => by have h1 := (List.getElem?_eq_some_iff.mp hi).1; have h2 := (List.getElem?_eq_some_iff.mp hj).1; simp at h1 h2; omega, fun _ _ hk => va_A.in hk⟩
  generalize hAe : va_A [(h0, .inr (0, fsX0))] s.heap.size = A at hD ⊢
  have hA : ∀ q : Nat, s.heap.size ≤ q → A q := fun q h => by rw [← hAe]; exact Or.inr h
  have hS : va_S A s.heap s.heap [] := va_S.rf
  have hl := lv_entry ([.ref h0]) (n := 1) (Nat.le_of_ble_eq_true rfl)
  generalize (lg_sl ([.ref h0]) ++ List.replicate (1 - (lg_sl ([.ref h0])).length) Slot.unset).toArray = ls at hl ⊢
  have hl : lv_has ls 1 [(0, .ref h0)] := hl
  refine lv_aload_n hx hb dX0_init_0 rfl (lv_at hl 0 rfl) ?_
  refine W.objInit hx hb CF.2.2.2.1 (ok _ wd1_34) (ok _ wd1_18) (ok _ wd1_19) rfl (by rw [CF.2.2.1]; exact hl.1) rfl dX0_init_1 (Nat.le_of_ble_eq_true rfl) (Nat.le_of_ble_eq_true rfl) ?_
  refine W.eq (g2 := F0 m 4 ls []) rfl ?_
  have hW : ∀ i, i < 1 → ([(h0, .inr (0, [.int (nI 0), .int (nI 0), .int (nI 0), .int (nI 0), .int (nI 0), .int (nI 0)]))] : va_W)[([0] : List Nat).getD i 0]? = some ((fun i => ([h0] : List Nat).getD i 0) i, g_E g (fun i => ([h0] : List Nat).getD i 0) dsF MZ JZ i) := fun i hi => by
    match i, hi with
    | 0, _ => exact rfl
    | i + 1, h => exact absurd h (by omega)
  obtain ⟨hP9, hI9, hA9⟩ := g_of (fun i => ([0] : List Nat).getD i 0) (by decide) hW hP hD
  exact W.vret hx hb hr (fun t ht hW => ⟨⟨(fun i => ([h0] : List Nat).getD i 0), rfl, ⟨rfl, hI9, hA9⟩, by show g_P _ _ _ _ _ _ t.heap; rw [ht]; exact hP9⟩, hS.F ht⟩) hS.2.2 dX0_init_4
set_option maxHeartbeats 4000000 in
set_option maxRecDepth 100000 in
theorem k_X3 {l : Launch} {g : gE} : CN l g yX3_init cX3_init 1 1 1 24 3 fsX3 2 dsSh MSh := by
  intro h0 sz
  refine Met.ofWF (cc := cX3_init) (maxL := 1) (ret := none) (by decide +kernel) rfl ?_
  intro p e s m args below meth c s₁ B hml hv
  obtain ⟨rfl, hsz, hP, hK, hB⟩ := hv
  subst hsz
  rw [lg_entry_eq]
  have CF : CallFix p m c cX3_init 1 s _ (g_ws yX3_init cX3_init 1 none) yX3_init.cls := ⟨B.exec, B.bytes, hml, findClass_of_methodNamed B.named, atoms_spec (ws := g_ws yX3_init cX3_init 1 none) B.pre⟩
  have hx := CF.1
  have hb := CF.2.1
  have ok : ∀ w ∈ Al, w.before _ s = true := fun w h => CF.2.2.2.2 w (List.mem_cons_of_mem _ h)
  have hr := B.returns
  have hin : meth.name = "<init>" := (name_of_methodNamed B.named B.method).1
  have hP : va_P g.1 vwCl [(h0, .inr (3, [.null, .int (nI 0), .int (nI 0)]))] s.heap := hP
  have hD : va_D (va_A [(h0, .inr (3, fsX3))] s.heap.size) [(h0, .inr (3, [.null, .int (nI 0), .int (nI 0)]))] := ⟨fun i j _ _ hi hj _ => by have h1 := (List.getElem?_eq_some_iff.mp hi).1; have h2 := (List.getElem?_eq_some_iff.mp hj).1; simp at h1 h2; omega, fun _ _ hk => va_A.in hk⟩
  generalize hAe : va_A [(h0, .inr (3, fsX3))] s.heap.size = A at hD ⊢
  have hA : ∀ q : Nat, s.heap.size ≤ q → A q := fun q h => by rw [← hAe]; exact Or.inr h
  have hS : va_S A s.heap s.heap [] := va_S.rf
  have hl := lv_entry ([.ref h0]) (n := 1) (Nat.le_of_ble_eq_true rfl)
  generalize (lg_sl ([.ref h0]) ++ List.replicate (1 - (lg_sl ([.ref h0])).length) Slot.unset).toArray = ls at hl ⊢
  have hl : lv_has ls 1 [(0, .ref h0)] := hl
  refine lv_aload_n hx hb dX3_init_0 rfl (lv_at hl 0 rfl) ?_
  refine W.objInit hx hb CF.2.2.2.1 (ok _ wd1_131) (ok _ wd1_18) (ok _ wd1_19) rfl (by rw [CF.2.2.1]; exact hl.1) rfl dX3_init_1 (Nat.le_of_ble_eq_true rfl) (Nat.le_of_ble_eq_true rfl) ?_
  refine W.eq (g2 := F0 m 4 ls []) rfl ?_
  refine lv_aload_n hx hb dX3_init_4 rfl (lv_at hl 0 rfl) ?_
  refine lv_bipush (v := nI 24) hx hb dX3_init_5 (by decide) ?_
  refine x_newl CF hK hP hD hS hA 24 (by decide) (Nat.le_of_ble_eq_true rfl) (Nat.le_of_ble_eq_true rfl) dX3_init_7 (fun q7 H hP hD hS => ?_)
  have hP : va_P g.1 vwCl [(h0, .inr (3, [.null, .int (nI 0), .int (nI 0)])), (q7, .inl (g.2 1, 24, .inr (.inl (fun _ => 0))))] H := hP
  have hD : va_D A [(h0, .inr (3, [.null, .int (nI 0), .int (nI 0)])), (q7, .inl (g.2 1, 24, .inr (.inl (fun _ => 0))))] := hD
  refine va_putF (D := g.1) (ci := 3) (v := .ref q7) (ty := tyX3 0) (C := RX3) (T := TX3) (N := 3) hx hb CF.2.2.2.2 (fun w h => List.mem_cons_of_mem _ (uX3 w h)) tyX3 tyX3_ok nmX3 CF.2.2.2.1 hK.1 hP hD hS 0 rfl rfl 0 (by decide) (ok _ wd1_132) (fun _ h9 => h9) rfl hin rfl (tyX3_ok 0 (by decide)) rfl rfl (Nat.le_of_ble_eq_true rfl) dX3_init_9 (fun H locs hP hD hS => ?_)
  have hP : va_P g.1 vwCl [(h0, .inr (3, [.ref q7, .int (nI 0), .int (nI 0)])), (q7, .inl (g.2 1, 24, .inr (.inl (fun _ => 0))))] H := hP
  have hD : va_D A [(h0, .inr (3, [.ref q7, .int (nI 0), .int (nI 0)])), (q7, .inl (g.2 1, 24, .inr (.inl (fun _ => 0))))] := hD
  refine lv_aload_n hx hb dX3_init_12 rfl (lv_at hl 0 rfl) ?_
  refine lv_iconst (v := nI 4294967295) hx hb dX3_init_13 (by decide) ?_
  refine va_put (D := g.1) (ci := 3) (v := .int (nI 4294967295)) (ty := tyX3 1) (C := RX3) (T := TX3) (N := 3) hx hb CF.2.2.2.2 (fun w h => List.mem_cons_of_mem _ (uX3 w h)) tyX3 tyX3_ok nmX3 CF.2.2.2.1 hK.1 hP hD hS 0 rfl rfl 1 (by decide) (ok _ wd1_134) (fun _ h9 => h9) rfl (tyX3_ok 1 (by decide)) rfl rfl (Nat.le_of_ble_eq_true rfl) dX3_init_14 (fun H locs hP hD hS => ?_)
  have hP : va_P g.1 vwCl [(h0, .inr (3, [.ref q7, .int (nI 4294967295), .int (nI 0)])), (q7, .inl (g.2 1, 24, .inr (.inl (fun _ => 0))))] H := hP
  have hD : va_D A [(h0, .inr (3, [.ref q7, .int (nI 4294967295), .int (nI 0)])), (q7, .inl (g.2 1, 24, .inr (.inl (fun _ => 0))))] := hD
  have hW : ∀ i, i < 2 → ([(h0, .inr (3, [.ref q7, .int (nI 4294967295), .int (nI 0)])), (q7, .inl (g.2 1, 24, .inr (.inl (fun _ => 0))))] : va_W)[([0, 1] : List Nat).getD i 0]? = some ((fun i => ([h0, q7] : List Nat).getD i 0) i, g_E g (fun i => ([h0, q7] : List Nat).getD i 0) dsSh MSh JZ i) := fun i hi => by
    match i, hi with
    | 0, _ => exact rfl
    | 1, _ => exact rfl
    | i + 2, h => exact absurd h (by omega)
  obtain ⟨hP9, hI9, hA9⟩ := g_of (fun i => ([0, 1] : List Nat).getD i 0) (by decide) hW hP hD
  exact W.vret hx hb hr (fun t ht hW => ⟨⟨(fun i => ([h0, q7] : List Nat).getD i 0), rfl, ⟨rfl, hI9, hA9⟩, by show g_P _ _ _ _ _ _ t.heap; rw [ht]; exact hP9⟩, hS.F ht⟩) hS.2.2 dX3_init_17
set_option maxHeartbeats 4000000 in
set_option maxRecDepth 100000 in
theorem k_X4 {l : Launch} {g : gE} : CN l g yX4_init cX4_init 1 1 2 52 4 fsX4 3 dsTp MZ := by
  intro h0 sz
  refine Met.ofWF (cc := cX4_init) (maxL := 1) (ret := none) (by decide +kernel) rfl ?_
  intro p e s m args below meth c s₁ B hml hv
  obtain ⟨rfl, hsz, hP, hK, hB⟩ := hv
  subst hsz
  rw [lg_entry_eq]
  have CF : CallFix p m c cX4_init 1 s _ (g_ws yX4_init cX4_init 1 none) yX4_init.cls := ⟨B.exec, B.bytes, hml, findClass_of_methodNamed B.named, atoms_spec (ws := g_ws yX4_init cX4_init 1 none) B.pre⟩
  have hx := CF.1
  have hb := CF.2.1
  have ok : ∀ w ∈ Al, w.before _ s = true := fun w h => CF.2.2.2.2 w (List.mem_cons_of_mem _ h)
  have hr := B.returns
  have hin : meth.name = "<init>" := (name_of_methodNamed B.named B.method).1
  have hP : va_P g.1 vwCl [(h0, .inr (4, [.null, .null, .int (nI 0)]))] s.heap := hP
  have hD : va_D (va_A [(h0, .inr (4, fsX4))] s.heap.size) [(h0, .inr (4, [.null, .null, .int (nI 0)]))] := ⟨fun i j _ _ hi hj _ => by have h1 := (List.getElem?_eq_some_iff.mp hi).1; have h2 := (List.getElem?_eq_some_iff.mp hj).1; simp at h1 h2; omega, fun _ _ hk => va_A.in hk⟩
  generalize hAe : va_A [(h0, .inr (4, fsX4))] s.heap.size = A at hD ⊢
  have hA : ∀ q : Nat, s.heap.size ≤ q → A q := fun q h => by rw [← hAe]; exact Or.inr h
  have hS : va_S A s.heap s.heap [] := va_S.rf
  have hl := lv_entry ([.ref h0]) (n := 1) (Nat.le_of_ble_eq_true rfl)
  generalize (lg_sl ([.ref h0]) ++ List.replicate (1 - (lg_sl ([.ref h0])).length) Slot.unset).toArray = ls at hl ⊢
  have hl : lv_has ls 1 [(0, .ref h0)] := hl
  refine lv_aload_n hx hb dX4_init_0 rfl (lv_at hl 0 rfl) ?_
  refine W.objInit hx hb CF.2.2.2.1 (ok _ wd1_113) (ok _ wd1_18) (ok _ wd1_19) rfl (by rw [CF.2.2.1]; exact hl.1) rfl dX4_init_1 (Nat.le_of_ble_eq_true rfl) (Nat.le_of_ble_eq_true rfl) ?_
  refine W.eq (g2 := F0 m 4 ls []) rfl ?_
  refine lv_aload_n hx hb dX4_init_4 rfl (lv_at hl 0 rfl) ?_
  refine lv_bipush (v := nI 40) hx hb dX4_init_5 (by decide) ?_
  refine x_newi CF hK hP hD hS hA 40 (by decide) (Nat.le_of_ble_eq_true rfl) (Nat.le_of_ble_eq_true rfl) dX4_init_7 (fun q7 H hP hD hS => ?_)
  have hP : va_P g.1 vwCl [(h0, .inr (4, [.null, .null, .int (nI 0)])), (q7, .inl (g.2 0, 40, .inl (fun _ => nI 0)))] H := hP
  have hD : va_D A [(h0, .inr (4, [.null, .null, .int (nI 0)])), (q7, .inl (g.2 0, 40, .inl (fun _ => nI 0)))] := hD
  refine va_putF (D := g.1) (ci := 4) (v := .ref q7) (ty := tyX4 0) (C := RX4) (T := TX4) (N := 3) hx hb CF.2.2.2.2 (fun w h => List.mem_cons_of_mem _ (uX4 w h)) tyX4 tyX4_ok nmX4 CF.2.2.2.1 hK.1 hP hD hS 0 rfl rfl 0 (by decide) (ok _ wd1_114) (fun _ h9 => h9) rfl hin rfl (tyX4_ok 0 (by decide)) rfl rfl (Nat.le_of_ble_eq_true rfl) dX4_init_9 (fun H locs hP hD hS => ?_)
  have hP : va_P g.1 vwCl [(h0, .inr (4, [.ref q7, .null, .int (nI 0)])), (q7, .inl (g.2 0, 40, .inl (fun _ => nI 0)))] H := hP
  have hD : va_D A [(h0, .inr (4, [.ref q7, .null, .int (nI 0)])), (q7, .inl (g.2 0, 40, .inl (fun _ => nI 0)))] := hD
  refine lv_aload_n hx hb dX4_init_12 rfl (lv_at hl 0 rfl) ?_
  refine lv_bipush (v := nI 12) hx hb dX4_init_13 (by decide) ?_
  refine x_newi CF hK hP hD hS hA 12 (by decide) (Nat.le_of_ble_eq_true rfl) (Nat.le_of_ble_eq_true rfl) dX4_init_15 (fun q15 H hP hD hS => ?_)
  have hP : va_P g.1 vwCl [(h0, .inr (4, [.ref q7, .null, .int (nI 0)])), (q7, .inl (g.2 0, 40, .inl (fun _ => nI 0))), (q15, .inl (g.2 0, 12, .inl (fun _ => nI 0)))] H := hP
  have hD : va_D A [(h0, .inr (4, [.ref q7, .null, .int (nI 0)])), (q7, .inl (g.2 0, 40, .inl (fun _ => nI 0))), (q15, .inl (g.2 0, 12, .inl (fun _ => nI 0)))] := hD
  refine va_putF (D := g.1) (ci := 4) (v := .ref q15) (ty := tyX4 1) (C := RX4) (T := TX4) (N := 3) hx hb CF.2.2.2.2 (fun w h => List.mem_cons_of_mem _ (uX4 w h)) tyX4 tyX4_ok nmX4 CF.2.2.2.1 hK.1 hP hD hS 0 rfl rfl 1 (by decide) (ok _ wd1_115) (fun _ h9 => h9) rfl hin rfl (tyX4_ok 1 (by decide)) rfl rfl (Nat.le_of_ble_eq_true rfl) dX4_init_17 (fun H locs hP hD hS => ?_)
  have hP : va_P g.1 vwCl [(h0, .inr (4, [.ref q7, .ref q15, .int (nI 0)])), (q7, .inl (g.2 0, 40, .inl (fun _ => nI 0))), (q15, .inl (g.2 0, 12, .inl (fun _ => nI 0)))] H := hP
  have hD : va_D A [(h0, .inr (4, [.ref q7, .ref q15, .int (nI 0)])), (q7, .inl (g.2 0, 40, .inl (fun _ => nI 0))), (q15, .inl (g.2 0, 12, .inl (fun _ => nI 0)))] := hD
  have hW : ∀ i, i < 3 → ([(h0, .inr (4, [.ref q7, .ref q15, .int (nI 0)])), (q7, .inl (g.2 0, 40, .inl (fun _ => nI 0))), (q15, .inl (g.2 0, 12, .inl (fun _ => nI 0)))] : va_W)[([0, 1, 2] : List Nat).getD i 0]? = some ((fun i => ([h0, q7, q15] : List Nat).getD i 0) i, g_E g (fun i => ([h0, q7, q15] : List Nat).getD i 0) dsTp MZ JZ i) := fun i hi => by
    match i, hi with
    | 0, _ => exact rfl
    | 1, _ => exact rfl
    | 2, _ => exact rfl
    | i + 3, h => exact absurd h (by omega)
  obtain ⟨hP9, hI9, hA9⟩ := g_of (fun i => ([0, 1, 2] : List Nat).getD i 0) (by decide) hW hP hD
  exact W.vret hx hb hr (fun t ht hW => ⟨⟨(fun i => ([h0, q7, q15] : List Nat).getD i 0), rfl, ⟨rfl, hI9, hA9⟩, by show g_P _ _ _ _ _ _ t.heap; rw [ht]; exact hP9⟩, hS.F ht⟩) hS.2.2 dX4_init_20
set_option maxHeartbeats 4000000 in
set_option maxRecDepth 100000 in
theorem k_X2 {l : Launch} {g : gE} : CN l g yX2_init cX2_init 1 1 8 40 2 fsX2 9 dsSg MZ := by
  intro h0 sz
  refine Met.ofWF (cc := cX2_init) (maxL := 1) (ret := none) (by decide +kernel) rfl ?_
  intro p e s m args below meth c s₁ B hml hv
  obtain ⟨rfl, hsz, hP, hK, hB⟩ := hv
  subst hsz
  rw [lg_entry_eq]
  have CF : CallFix p m c cX2_init 1 s _ (g_ws yX2_init cX2_init 1 none) yX2_init.cls := ⟨B.exec, B.bytes, hml, findClass_of_methodNamed B.named, atoms_spec (ws := g_ws yX2_init cX2_init 1 none) B.pre⟩
  have hx := CF.1
  have hb := CF.2.1
  have ok : ∀ w ∈ Al, w.before _ s = true := fun w h => CF.2.2.2.2 w (List.mem_cons_of_mem _ h)
  have hr := B.returns
  have hin : meth.name = "<init>" := (name_of_methodNamed B.named B.method).1
  have hP : va_P g.1 vwCl [(h0, .inr (2, [.null, .null, .null]))] s.heap := hP
  have hD : va_D (va_A [(h0, .inr (2, fsX2))] s.heap.size) [(h0, .inr (2, [.null, .null, .null]))] := ⟨fun i j _ _ hi hj _ => by have h1 := (List.getElem?_eq_some_iff.mp hi).1; have h2 := (List.getElem?_eq_some_iff.mp hj).1; simp at h1 h2; omega, fun _ _ hk => va_A.in hk⟩
  generalize hAe : va_A [(h0, .inr (2, fsX2))] s.heap.size = A at hD ⊢
  have hA : ∀ q : Nat, s.heap.size ≤ q → A q := fun q h => by rw [← hAe]; exact Or.inr h
  have hS : va_S A s.heap s.heap [] := va_S.rf
  have hl := lv_entry ([.ref h0]) (n := 1) (Nat.le_of_ble_eq_true rfl)
  generalize (lg_sl ([.ref h0]) ++ List.replicate (1 - (lg_sl ([.ref h0])).length) Slot.unset).toArray = ls at hl ⊢
  have hl : lv_has ls 1 [(0, .ref h0)] := hl
  refine lv_aload_n hx hb dX2_init_0 rfl (lv_at hl 0 rfl) ?_
  refine W.objInit hx hb CF.2.2.2.1 (ok _ wd1_150) (ok _ wd1_18) (ok _ wd1_19) rfl (by rw [CF.2.2.1]; exact hl.1) rfl dX2_init_1 (Nat.le_of_ble_eq_true rfl) (Nat.le_of_ble_eq_true rfl) ?_
  refine W.eq (g2 := F0 m 4 ls []) rfl ?_
  refine lv_aload_n hx hb dX2_init_4 rfl (lv_at hl 0 rfl) ?_
  refine lv_iconst (v := nI 5) hx hb dX2_init_5 (by decide) ?_
  refine x_newi CF hK hP hD hS hA 5 (by decide) (Nat.le_of_ble_eq_true rfl) (Nat.le_of_ble_eq_true rfl) dX2_init_6 (fun q6 H hP hD hS => ?_)
  have hP : va_P g.1 vwCl [(h0, .inr (2, [.null, .null, .null])), (q6, .inl (g.2 0, 5, .inl (fun _ => nI 0)))] H := hP
  have hD : va_D A [(h0, .inr (2, [.null, .null, .null])), (q6, .inl (g.2 0, 5, .inl (fun _ => nI 0)))] := hD
  refine va_putF (D := g.1) (ci := 2) (v := .ref q6) (ty := tyX2 0) (C := RX2) (T := TX2) (N := 3) hx hb CF.2.2.2.2 (fun w h => List.mem_cons_of_mem _ (uX2 w h)) tyX2 tyX2_ok nmX2 CF.2.2.2.1 hK.1 hP hD hS 0 rfl rfl 0 (by decide) (ok _ wd1_152) (fun _ h9 => h9) rfl hin rfl (tyX2_ok 0 (by decide)) rfl rfl (Nat.le_of_ble_eq_true rfl) dX2_init_8 (fun H locs hP hD hS => ?_)
  have hP : va_P g.1 vwCl [(h0, .inr (2, [.ref q6, .null, .null])), (q6, .inl (g.2 0, 5, .inl (fun _ => nI 0)))] H := hP
  have hD : va_D A [(h0, .inr (2, [.ref q6, .null, .null])), (q6, .inl (g.2 0, 5, .inl (fun _ => nI 0)))] := hD
  refine lv_aload_n hx hb dX2_init_11 rfl (lv_at hl 0 rfl) ?_
  refine lv_iconst (v := nI 5) hx hb dX2_init_12 (by decide) ?_
  refine x_newi CF hK hP hD hS hA 5 (by decide) (Nat.le_of_ble_eq_true rfl) (Nat.le_of_ble_eq_true rfl) dX2_init_13 (fun q13 H hP hD hS => ?_)
  have hP : va_P g.1 vwCl [(h0, .inr (2, [.ref q6, .null, .null])), (q6, .inl (g.2 0, 5, .inl (fun _ => nI 0))), (q13, .inl (g.2 0, 5, .inl (fun _ => nI 0)))] H := hP
  have hD : va_D A [(h0, .inr (2, [.ref q6, .null, .null])), (q6, .inl (g.2 0, 5, .inl (fun _ => nI 0))), (q13, .inl (g.2 0, 5, .inl (fun _ => nI 0)))] := hD
  refine va_putF (D := g.1) (ci := 2) (v := .ref q13) (ty := tyX2 1) (C := RX2) (T := TX2) (N := 3) hx hb CF.2.2.2.2 (fun w h => List.mem_cons_of_mem _ (uX2 w h)) tyX2 tyX2_ok nmX2 CF.2.2.2.1 hK.1 hP hD hS 0 rfl rfl 1 (by decide) (ok _ wd1_154) (fun _ h9 => h9) rfl hin rfl (tyX2_ok 1 (by decide)) rfl rfl (Nat.le_of_ble_eq_true rfl) dX2_init_15 (fun H locs hP hD hS => ?_)
  have hP : va_P g.1 vwCl [(h0, .inr (2, [.ref q6, .ref q13, .null])), (q6, .inl (g.2 0, 5, .inl (fun _ => nI 0))), (q13, .inl (g.2 0, 5, .inl (fun _ => nI 0)))] H := hP
  have hD : va_D A [(h0, .inr (2, [.ref q6, .ref q13, .null])), (q6, .inl (g.2 0, 5, .inl (fun _ => nI 0))), (q13, .inl (g.2 0, 5, .inl (fun _ => nI 0)))] := hD
  refine lv_aload_n hx hb dX2_init_18 rfl (lv_at hl 0 rfl) ?_
  refine lv_iconst (v := nI 5) hx hb dX2_init_19 (by decide) ?_
  refine lv_iconst (v := nI 5) hx hb dX2_init_20 (by decide) ?_
  refine x_mna CF hK hB hP hD hS hA wd1_151 5 5 (by decide) (by decide) (Nat.le_of_ble_eq_true rfl) (Nat.le_of_ble_eq_true rfl) dX2_init_21 (fun r21 H hP hD hS => ?_)
  have hP : va_P g.1 vwCl [(h0, .inr (2, [.ref q6, .ref q13, .null])), (q6, .inl (g.2 0, 5, .inl (fun _ => nI 0))), (q13, .inl (g.2 0, 5, .inl (fun _ => nI 0))), (r21 0, .inl (g.2 4, 5, .inr (.inr (.inr (.inr (fun j => if j < 5 then some (r21 (j + 1)) else none)))))), (r21 1, .inl (g.2 0, 5, .inl (fun _ => nI 0))), (r21 2, .inl (g.2 0, 5, .inl (fun _ => nI 0))), (r21 3, .inl (g.2 0, 5, .inl (fun _ => nI 0))), (r21 4, .inl (g.2 0, 5, .inl (fun _ => nI 0))), (r21 5, .inl (g.2 0, 5, .inl (fun _ => nI 0)))] H := hP
  have hD : va_D A [(h0, .inr (2, [.ref q6, .ref q13, .null])), (q6, .inl (g.2 0, 5, .inl (fun _ => nI 0))), (q13, .inl (g.2 0, 5, .inl (fun _ => nI 0))), (r21 0, .inl (g.2 4, 5, .inr (.inr (.inr (.inr (fun j => if j < 5 then some (r21 (j + 1)) else none)))))), (r21 1, .inl (g.2 0, 5, .inl (fun _ => nI 0))), (r21 2, .inl (g.2 0, 5, .inl (fun _ => nI 0))), (r21 3, .inl (g.2 0, 5, .inl (fun _ => nI 0))), (r21 4, .inl (g.2 0, 5, .inl (fun _ => nI 0))), (r21 5, .inl (g.2 0, 5, .inl (fun _ => nI 0)))] := hD
  refine va_putF (D := g.1) (ci := 2) (v := .ref (r21 0)) (ty := tyX2 2) (C := RX2) (T := TX2) (N := 3) hx hb CF.2.2.2.2 (fun w h => List.mem_cons_of_mem _ (uX2 w h)) tyX2 tyX2_ok nmX2 CF.2.2.2.1 hK.1 hP hD hS 0 rfl rfl 2 (by decide) (ok _ wd1_156) (fun _ h9 => h9) rfl hin rfl (tyX2_ok 2 (by decide)) rfl rfl (Nat.le_of_ble_eq_true rfl) dX2_init_25 (fun H locs hP hD hS => ?_)
  have hP : va_P g.1 vwCl [(h0, .inr (2, [.ref q6, .ref q13, .ref (r21 0)])), (q6, .inl (g.2 0, 5, .inl (fun _ => nI 0))), (q13, .inl (g.2 0, 5, .inl (fun _ => nI 0))), (r21 0, .inl (g.2 4, 5, .inr (.inr (.inr (.inr (fun j => if j < 5 then some (r21 (j + 1)) else none)))))), (r21 1, .inl (g.2 0, 5, .inl (fun _ => nI 0))), (r21 2, .inl (g.2 0, 5, .inl (fun _ => nI 0))), (r21 3, .inl (g.2 0, 5, .inl (fun _ => nI 0))), (r21 4, .inl (g.2 0, 5, .inl (fun _ => nI 0))), (r21 5, .inl (g.2 0, 5, .inl (fun _ => nI 0)))] H := hP
  have hD : va_D A [(h0, .inr (2, [.ref q6, .ref q13, .ref (r21 0)])), (q6, .inl (g.2 0, 5, .inl (fun _ => nI 0))), (q13, .inl (g.2 0, 5, .inl (fun _ => nI 0))), (r21 0, .inl (g.2 4, 5, .inr (.inr (.inr (.inr (fun j => if j < 5 then some (r21 (j + 1)) else none)))))), (r21 1, .inl (g.2 0, 5, .inl (fun _ => nI 0))), (r21 2, .inl (g.2 0, 5, .inl (fun _ => nI 0))), (r21 3, .inl (g.2 0, 5, .inl (fun _ => nI 0))), (r21 4, .inl (g.2 0, 5, .inl (fun _ => nI 0))), (r21 5, .inl (g.2 0, 5, .inl (fun _ => nI 0)))] := hD
  have e3 : (fun j => if j < 5 then some (r21 (j + 1)) else none) = fun k => (([some 4, some 5, some 6, some 7, some 8] : List (Option Nat)).getD k none).map (fun i => ([h0, q6, q13, r21 0, r21 1, r21 2, r21 3, r21 4, r21 5] : List Nat).getD i 0) := by
    funext k
    match k with
    | 0 => exact rfl
    | 1 => exact rfl
    | 2 => exact rfl
    | 3 => exact rfl
    | 4 => exact rfl
    | k + 5 => exact if_neg (by omega)
  have hW : ∀ i, i < 9 → ([(h0, .inr (2, [.ref q6, .ref q13, .ref (r21 0)])), (q6, .inl (g.2 0, 5, .inl (fun _ => nI 0))), (q13, .inl (g.2 0, 5, .inl (fun _ => nI 0))), (r21 0, .inl (g.2 4, 5, .inr (.inr (.inr (.inr (fun j => if j < 5 then some (r21 (j + 1)) else none)))))), (r21 1, .inl (g.2 0, 5, .inl (fun _ => nI 0))), (r21 2, .inl (g.2 0, 5, .inl (fun _ => nI 0))), (r21 3, .inl (g.2 0, 5, .inl (fun _ => nI 0))), (r21 4, .inl (g.2 0, 5, .inl (fun _ => nI 0))), (r21 5, .inl (g.2 0, 5, .inl (fun _ => nI 0)))] : va_W)[([0, 1, 2, 3, 4, 5, 6, 7, 8] : List Nat).getD i 0]? = some ((fun i => ([h0, q6, q13, r21 0, r21 1, r21 2, r21 3, r21 4, r21 5] : List Nat).getD i 0) i, g_E g (fun i => ([h0, q6, q13, r21 0, r21 1, r21 2, r21 3, r21 4, r21 5] : List Nat).getD i 0) dsSg MZ JZ i) := fun i hi => by
    match i, hi with
    | 0, _ => exact rfl
    | 1, _ => exact rfl
    | 2, _ => exact rfl
    | 3, _ => exact congrArg (fun f => some ((r21 0, .inl (g.2 4, 5, .inr (.inr (.inr (.inr f))))) : Nat × va_E)) e3
    | 4, _ => exact rfl
    | 5, _ => exact rfl
    | 6, _ => exact rfl
    | 7, _ => exact rfl
    | 8, _ => exact rfl
    | i + 9, h => exact absurd h (by omega)
  obtain ⟨hP9, hI9, hA9⟩ := g_of (fun i => ([0, 1, 2, 3, 4, 5, 6, 7, 8] : List Nat).getD i 0) (by decide) hW hP hD
  exact W.vret hx hb hr (fun t ht hW => ⟨⟨(fun i => ([h0, q6, q13, r21 0, r21 1, r21 2, r21 3, r21 4, r21 5] : List Nat).getD i 0), rfl, ⟨rfl, hI9, hA9⟩, by show g_P _ _ _ _ _ _ t.heap; rw [ht]; exact hP9⟩, hS.F ht⟩) hS.2.2 dX2_init_28
