set_option maxHeartbeats 4000000 in
set_option maxRecDepth 100000 in
theorem lw_arm_0 {p : Program} {l : Launch} {e : Env} {s : State} {m : MethodId} {below : List Frame} {meth : Method} {c : Code} {b L : Nat} {xs : Nat → Int32} (C0 : lw_At p s m meth c b L xs) {g : gE} {ad ad' : Nat → Nat} (hI : g_inj ad 55) (hI2 : g_inj ad' 14) (hap : g_ap ad ad') (hold : ∀ i, i < 55 → s.heap.size ≤ ad i) (hold2 : ∀ i, i < 14 → s.heap.size ≤ ad' i) (hK : g_K g s) {cells slots : Nat} (hfit : cells ≤ 600000 ∧ slots ≤ 7302250) (i : Nat) (hi : i + 6 ≤ L) (hL : L ≤ 3072) (M N : gMem) (J K : gMeL) (h : RelA M N J K) (H : Heap) (locs : List Loc) (ls : Array Slot) (hP : g_P g ad dsX 55 M J H) (hP2 : g_P g ad' dsR 14 N K H) (hS : va_S (fun q => s.heap.size ≤ q) s.heap H locs) (hl : lv_has ls 4 [(3, .int (nI i)), (2, .ref (ad' 0)), (1, .ref (ad 0)), (0, .ref b)]) (kk : ∀ (M N : gMem) (J K : gMeL) (H : Heap) (locs : List Loc) (ls : Array Slot), RelA M N J K → g_P g ad dsX 55 M J H → g_P g ad' dsR 14 N K H → va_S (fun q => s.heap.size ≤ q) s.heap H locs → lv_has ls 4 [(3, .int (nI (i + 6))), (2, .ref (ad' 0)), (1, .ref (ad 0)), (0, .ref b)] → W p l e room_1 s m #[Value.ref b] below meth c H locs cells slots (lw_Z below #[Value.ref b] s) (F0 m 18 ls [])) : W p l e room_1 s m #[Value.ref b] below meth c H locs cells slots (lw_Z below #[Value.ref b] s) (F0 m 176 ls []) := by
  obtain ⟨hx, hb, hr, hml, hown, hts, hX, hbl, hlocks, hgv⟩ := C0
  have hbA : ¬ (fun q : Nat => s.heap.size ≤ q) b := Nat.not_le.mpr hbl
  have hAl : ∀ w ∈ Al, w.before #[Value.ref b] s = true := fun w hw => hts w (Al_tbl hw)
  have CF : CallFix p m c code 4 s #[Value.ref b] (g_ws yX5_cut cX5_cut 5 (some .int)) R_law := ⟨hx, hb, hml, hown, fun w hw => (List.mem_cons.mp hw).elim (fun q => by rw [q]; exact hAl _ kw_X5_cut.1.1) (hAl w)⟩
  have hA1 : ∀ q, g_A ad 55 q → s.heap.size ≤ q := fun q ⟨i, hi, e⟩ => by rw [e]; exact hold i hi
  have hA2 : ∀ q, g_A ad' 14 q → s.heap.size ≤ q := fun q ⟨i, hi, e⟩ => by rw [e]; exact hold2 i hi
  have hno1 : ∀ i, i < 55 → ¬ g_A ad' 14 (ad i) := fun i hi ⟨j, hj, e⟩ => hap i j hi hj e
  have hno2 : ∀ j, j < 14 → ¬ g_A ad 55 (ad' j) := fun j hj ⟨i, hi, e⟩ => hap i j hi hj e.symm
  refine lv_aload_n hx hb dL_law_176 rfl (lv_at hl 2 rfl) ?_
  refine lv_aload_n hx hb dL_law_177 rfl (lv_at hl 3 rfl) ?_
  refine lv_iload_n hx hb dL_law_178 rfl (lv_at hl 0 rfl) ?_
  refine lv_iconst (v := nI 1) hx hb dL_law_179 (by decide) ?_
  refine x_iadd hx hb dL_law_180 ?_
  refine va_sld hx hb hX hbl hbA hS (i := nI (i + 1)) (vp_in_nI (by omega) (by omega)) dL_law_181 ?_
  rw [nI_clamp (by omega)]
  refine lv_i2l hx hb dL_law_182 rfl ?_
  refine lv_bipush (v := nI 32) hx hb dL_law_183 (by decide) ?_
  refine lv_lshl hx hb dL_law_185 rfl ?_
  refine lv_aload_n hx hb dL_law_186 rfl (lv_at hl 3 rfl) ?_
  refine lv_iload_n hx hb dL_law_187 rfl (lv_at hl 0 rfl) ?_
  refine lv_iconst (v := nI 2) hx hb dL_law_188 (by decide) ?_
  refine x_iadd hx hb dL_law_189 ?_
  refine va_sld hx hb hX hbl hbA hS (i := nI (i + 2)) (vp_in_nI (by omega) (by omega)) dL_law_190 ?_
  rw [nI_clamp (by omega)]
  refine lv_i2l hx hb dL_law_191 rfl ?_
  refine lv_ldc2 hx hb CF.2.2.2.1 (CF.2.2.2.2 _ (List.mem_cons_of_mem _ wd4_129)) dL_law_192 ?_
  refine lv_land hx hb dL_law_195 ?_
  refine lv_lor hx hb dL_law_196 ?_
  refine lv_aload_n hx hb dL_law_197 rfl (lv_at hl 3 rfl) ?_
  refine lv_iload_n hx hb dL_law_198 rfl (lv_at hl 0 rfl) ?_
  refine lv_iconst (v := nI 3) hx hb dL_law_199 (by decide) ?_
  refine x_iadd hx hb dL_law_200 ?_
  refine va_sld hx hb hX hbl hbA hS (i := nI (i + 3)) (vp_in_nI (by omega) (by omega)) dL_law_201 ?_
  rw [nI_clamp (by omega)]
  obtain ⟨r, M1, J1, N1, K1, ca, cb, h1⟩ := o_type (l := l) (g := g) hI hI2 h ((((xs (i + 1)).toInt64) <<< ((nI 32).toInt64 &&& 63)) ||| (((xs (i + 2)).toInt64) &&& (4294967295 : Int64))) (xs (i + 3))
  refine x_call2 CF hK hP hS hA1 hl (As := [.long ((((xs (i + 1)).toInt64) <<< ((nI 32).toInt64 &&& 63)) ||| (((xs (i + 2)).toInt64) &&& (4294967295 : Int64))), .int (xs (i + 3))]) (rest := []) ca kw_X5_type wd1_186 (by decide) dX_0 rfl rfl ⟨Nat.le_of_ble_eq_true rfl, Nat.le_of_ble_eq_true rfl⟩ hfit (Nat.le_of_ble_eq_true rfl) dL_law_202 (fun H1 locs hP hS hk => ?_)
  have hP2 := hP2.other hk hno2
  refine lv_aload_n hx hb dL_law_205 rfl (lv_at hl 1 rfl) ?_
  refine lv_aload_n hx hb dL_law_206 rfl (lv_at hl 3 rfl) ?_
  refine lv_iload_n hx hb dL_law_207 rfl (lv_at hl 0 rfl) ?_
  refine lv_iconst (v := nI 1) hx hb dL_law_208 (by decide) ?_
  refine x_iadd hx hb dL_law_209 ?_
  refine va_sld hx hb hX hbl hbA hS (i := nI (i + 1)) (vp_in_nI (by omega) (by omega)) dL_law_210 ?_
  rw [nI_clamp (by omega)]
  refine lv_i2l hx hb dL_law_211 rfl ?_
  refine lv_bipush (v := nI 32) hx hb dL_law_212 (by decide) ?_
  refine lv_lshl hx hb dL_law_214 rfl ?_
  refine lv_aload_n hx hb dL_law_215 rfl (lv_at hl 3 rfl) ?_
  refine lv_iload_n hx hb dL_law_216 rfl (lv_at hl 0 rfl) ?_
  refine lv_iconst (v := nI 2) hx hb dL_law_217 (by decide) ?_
  refine x_iadd hx hb dL_law_218 ?_
  refine va_sld hx hb hX hbl hbA hS (i := nI (i + 2)) (vp_in_nI (by omega) (by omega)) dL_law_219 ?_
  rw [nI_clamp (by omega)]
  refine lv_i2l hx hb dL_law_220 rfl ?_
  refine lv_ldc2 hx hb CF.2.2.2.1 (CF.2.2.2.2 _ (List.mem_cons_of_mem _ wd4_129)) dL_law_221 ?_
  refine lv_land hx hb dL_law_224 ?_
  refine lv_lor hx hb dL_law_225 ?_
  refine lv_aload_n hx hb dL_law_226 rfl (lv_at hl 3 rfl) ?_
  refine lv_iload_n hx hb dL_law_227 rfl (lv_at hl 0 rfl) ?_
  refine lv_iconst (v := nI 3) hx hb dL_law_228 (by decide) ?_
  refine x_iadd hx hb dL_law_229 ?_
  refine va_sld hx hb hX hbl hbA hS (i := nI (i + 3)) (vp_in_nI (by omega) (by omega)) dL_law_230 ?_
  rw [nI_clamp (by omega)]
  refine x_call2 CF hK hP2 hS hA2 hl (As := [.long ((((xs (i + 1)).toInt64) <<< ((nI 32).toInt64 &&& 63)) ||| (((xs (i + 2)).toInt64) &&& (4294967295 : Int64))), .int (xs (i + 3))]) (rest := [.int r]) cb kw_X6_type wd3_142 (by decide) dR_0 rfl rfl ⟨Nat.le_of_ble_eq_true rfl, Nat.le_of_ble_eq_true rfl⟩ hfit (Nat.le_of_ble_eq_true rfl) dL_law_231 (fun H2 locs hP2 hS hk => ?_)
  have hP := hP.other hk hno1
  refine lv_icmp_eq (tgt := 1232) hx hb dL_law_234 (by decide) (fun _ => ?_) (fun c9 => absurd rfl c9)
  refine lv_iinc (v := nI (i + 6)) (lv' := [(3, .int (nI (i + 6))), (2, .ref (ad' 0)), (1, .ref (ad 0)), (0, .ref b)]) hx hb dL_law_1232 hl (k := 0) rfl (n_inc i 6) (by decide) rfl (fun ls hl => ?_)
  refine lv_goto (tgt := 18) hx hb dL_law_1235 (by decide) ?_
  exact kk M1 N1 J1 K1 _ _ ls h1 hP hP2 hS hl
set_option maxHeartbeats 4000000 in
set_option maxRecDepth 100000 in
theorem lw_arm_1 {p : Program} {l : Launch} {e : Env} {s : State} {m : MethodId} {below : List Frame} {meth : Method} {c : Code} {b L : Nat} {xs : Nat → Int32} (C0 : lw_At p s m meth c b L xs) {g : gE} {ad ad' : Nat → Nat} (hI : g_inj ad 55) (hI2 : g_inj ad' 14) (hap : g_ap ad ad') (hold : ∀ i, i < 55 → s.heap.size ≤ ad i) (hold2 : ∀ i, i < 14 → s.heap.size ≤ ad' i) (hK : g_K g s) {cells slots : Nat} (hfit : cells ≤ 600000 ∧ slots ≤ 7302250) (i : Nat) (hi : i + 6 ≤ L) (hL : L ≤ 3072) (M N : gMem) (J K : gMeL) (h : RelA M N J K) (H : Heap) (locs : List Loc) (ls : Array Slot) (hP : g_P g ad dsX 55 M J H) (hP2 : g_P g ad' dsR 14 N K H) (hS : va_S (fun q => s.heap.size ≤ q) s.heap H locs) (hl : lv_has ls 4 [(3, .int (nI i)), (2, .ref (ad' 0)), (1, .ref (ad 0)), (0, .ref b)]) (kk : ∀ (M N : gMem) (J K : gMeL) (H : Heap) (locs : List Loc) (ls : Array Slot), RelA M N J K → g_P g ad dsX 55 M J H → g_P g ad' dsR 14 N K H → va_S (fun q => s.heap.size ≤ q) s.heap H locs → lv_has ls 4 [(3, .int (nI (i + 6))), (2, .ref (ad' 0)), (1, .ref (ad 0)), (0, .ref b)] → W p l e room_1 s m #[Value.ref b] below meth c H locs cells slots (lw_Z below #[Value.ref b] s) (F0 m 18 ls [])) : W p l e room_1 s m #[Value.ref b] below meth c H locs cells slots (lw_Z below #[Value.ref b] s) (F0 m 239 ls []) := by
  obtain ⟨hx, hb, hr, hml, hown, hts, hX, hbl, hlocks, hgv⟩ := C0
  have hbA : ¬ (fun q : Nat => s.heap.size ≤ q) b := Nat.not_le.mpr hbl
  have hAl : ∀ w ∈ Al, w.before #[Value.ref b] s = true := fun w hw => hts w (Al_tbl hw)
  have CF : CallFix p m c code 4 s #[Value.ref b] (g_ws yX5_cut cX5_cut 5 (some .int)) R_law := ⟨hx, hb, hml, hown, fun w hw => (List.mem_cons.mp hw).elim (fun q => by rw [q]; exact hAl _ kw_X5_cut.1.1) (hAl w)⟩
  have hA1 : ∀ q, g_A ad 55 q → s.heap.size ≤ q := fun q ⟨i, hi, e⟩ => by rw [e]; exact hold i hi
  have hA2 : ∀ q, g_A ad' 14 q → s.heap.size ≤ q := fun q ⟨i, hi, e⟩ => by rw [e]; exact hold2 i hi
  have hno1 : ∀ i, i < 55 → ¬ g_A ad' 14 (ad i) := fun i hi ⟨j, hj, e⟩ => hap i j hi hj e
  have hno2 : ∀ j, j < 14 → ¬ g_A ad 55 (ad' j) := fun j hj ⟨i, hi, e⟩ => hap i j hi hj e.symm
  refine lv_aload_n hx hb dL_law_239 rfl (lv_at hl 2 rfl) ?_
  obtain ⟨r, M1, J1, N1, K1, ca, cb, h1⟩ := o_cam (l := l) (g := g) hI hI2 h 
  refine x_call2 CF hK hP hS hA1 hl (As := []) (rest := []) ca kw_X5_cam wd1_204 (by decide) dX_0 rfl rfl ⟨Nat.le_of_ble_eq_true rfl, Nat.le_of_ble_eq_true rfl⟩ hfit (Nat.le_of_ble_eq_true rfl) dL_law_240 (fun H1 locs hP hS hk => ?_)
  have hP2 := hP2.other hk hno2
  refine lv_aload_n hx hb dL_law_243 rfl (lv_at hl 1 rfl) ?_
  refine x_call2 CF hK hP2 hS hA2 hl (As := []) (rest := [.int r]) cb kw_X6_cam wd3_153 (by decide) dR_0 rfl rfl ⟨Nat.le_of_ble_eq_true rfl, Nat.le_of_ble_eq_true rfl⟩ hfit (Nat.le_of_ble_eq_true rfl) dL_law_244 (fun H2 locs hP2 hS hk => ?_)
  have hP := hP.other hk hno1
  refine lv_icmp_eq (tgt := 1232) hx hb dL_law_247 (by decide) (fun _ => ?_) (fun c9 => absurd rfl c9)
  refine lv_iinc (v := nI (i + 6)) (lv' := [(3, .int (nI (i + 6))), (2, .ref (ad' 0)), (1, .ref (ad 0)), (0, .ref b)]) hx hb dL_law_1232 hl (k := 0) rfl (n_inc i 6) (by decide) rfl (fun ls hl => ?_)
  refine lv_goto (tgt := 18) hx hb dL_law_1235 (by decide) ?_
  exact kk M1 N1 J1 K1 _ _ ls h1 hP hP2 hS hl
set_option maxHeartbeats 4000000 in
set_option maxRecDepth 100000 in
theorem lw_arm_2 {p : Program} {l : Launch} {e : Env} {s : State} {m : MethodId} {below : List Frame} {meth : Method} {c : Code} {b L : Nat} {xs : Nat → Int32} (C0 : lw_At p s m meth c b L xs) {g : gE} {ad ad' : Nat → Nat} (hI : g_inj ad 55) (hI2 : g_inj ad' 14) (hap : g_ap ad ad') (hold : ∀ i, i < 55 → s.heap.size ≤ ad i) (hold2 : ∀ i, i < 14 → s.heap.size ≤ ad' i) (hK : g_K g s) {cells slots : Nat} (hfit : cells ≤ 600000 ∧ slots ≤ 7302250) (i : Nat) (hi : i + 6 ≤ L) (hL : L ≤ 3072) (M N : gMem) (J K : gMeL) (h : RelA M N J K) (H : Heap) (locs : List Loc) (ls : Array Slot) (hP : g_P g ad dsX 55 M J H) (hP2 : g_P g ad' dsR 14 N K H) (hS : va_S (fun q => s.heap.size ≤ q) s.heap H locs) (hl : lv_has ls 4 [(3, .int (nI i)), (2, .ref (ad' 0)), (1, .ref (ad 0)), (0, .ref b)]) (kk : ∀ (M N : gMem) (J K : gMeL) (H : Heap) (locs : List Loc) (ls : Array Slot), RelA M N J K → g_P g ad dsX 55 M J H → g_P g ad' dsR 14 N K H → va_S (fun q => s.heap.size ≤ q) s.heap H locs → lv_has ls 4 [(3, .int (nI (i + 6))), (2, .ref (ad' 0)), (1, .ref (ad 0)), (0, .ref b)] → W p l e room_1 s m #[Value.ref b] below meth c H locs cells slots (lw_Z below #[Value.ref b] s) (F0 m 18 ls [])) : W p l e room_1 s m #[Value.ref b] below meth c H locs cells slots (lw_Z below #[Value.ref b] s) (F0 m 252 ls []) := by
  obtain ⟨hx, hb, hr, hml, hown, hts, hX, hbl, hlocks, hgv⟩ := C0
  have hbA : ¬ (fun q : Nat => s.heap.size ≤ q) b := Nat.not_le.mpr hbl
  have hAl : ∀ w ∈ Al, w.before #[Value.ref b] s = true := fun w hw => hts w (Al_tbl hw)
  have CF : CallFix p m c code 4 s #[Value.ref b] (g_ws yX5_cut cX5_cut 5 (some .int)) R_law := ⟨hx, hb, hml, hown, fun w hw => (List.mem_cons.mp hw).elim (fun q => by rw [q]; exact hAl _ kw_X5_cut.1.1) (hAl w)⟩
  have hA1 : ∀ q, g_A ad 55 q → s.heap.size ≤ q := fun q ⟨i, hi, e⟩ => by rw [e]; exact hold i hi
  have hA2 : ∀ q, g_A ad' 14 q → s.heap.size ≤ q := fun q ⟨i, hi, e⟩ => by rw [e]; exact hold2 i hi
  have hno1 : ∀ i, i < 55 → ¬ g_A ad' 14 (ad i) := fun i hi ⟨j, hj, e⟩ => hap i j hi hj e
  have hno2 : ∀ j, j < 14 → ¬ g_A ad 55 (ad' j) := fun j hj ⟨i, hi, e⟩ => hap i j hi hj e.symm
  refine lv_aload_n hx hb dL_law_252 rfl (lv_at hl 2 rfl) ?_
  refine lv_aload_n hx hb dL_law_253 rfl (lv_at hl 3 rfl) ?_
  refine lv_iload_n hx hb dL_law_254 rfl (lv_at hl 0 rfl) ?_
  refine lv_iconst (v := nI 1) hx hb dL_law_255 (by decide) ?_
  refine x_iadd hx hb dL_law_256 ?_
  refine va_sld hx hb hX hbl hbA hS (i := nI (i + 1)) (vp_in_nI (by omega) (by omega)) dL_law_257 ?_
  rw [nI_clamp (by omega)]
  refine lv_aload_n hx hb dL_law_258 rfl (lv_at hl 3 rfl) ?_
  refine lv_iload_n hx hb dL_law_259 rfl (lv_at hl 0 rfl) ?_
  refine lv_iconst (v := nI 2) hx hb dL_law_260 (by decide) ?_
  refine x_iadd hx hb dL_law_261 ?_
  refine va_sld hx hb hX hbl hbA hS (i := nI (i + 2)) (vp_in_nI (by omega) (by omega)) dL_law_262 ?_
  rw [nI_clamp (by omega)]
  refine lv_aload_n hx hb dL_law_263 rfl (lv_at hl 3 rfl) ?_
  refine lv_iload_n hx hb dL_law_264 rfl (lv_at hl 0 rfl) ?_
  refine lv_iconst (v := nI 3) hx hb dL_law_265 (by decide) ?_
  refine x_iadd hx hb dL_law_266 ?_
  refine va_sld hx hb hX hbl hbA hS (i := nI (i + 3)) (vp_in_nI (by omega) (by omega)) dL_law_267 ?_
  rw [nI_clamp (by omega)]
  obtain ⟨r, M1, J1, N1, K1, ca, cb, h1⟩ := o_cut (l := l) (g := g) hI hI2 h (xs (i + 1)) (xs (i + 2)) (xs (i + 3))
  refine x_call2 CF hK hP hS hA1 hl (As := [.int (xs (i + 1)), .int (xs (i + 2)), .int (xs (i + 3))]) (rest := []) ca kw_X5_cut wd1_234 (by decide) dX_0 rfl rfl ⟨Nat.le_of_ble_eq_true rfl, Nat.le_of_ble_eq_true rfl⟩ hfit (Nat.le_of_ble_eq_true rfl) dL_law_268 (fun H1 locs hP hS hk => ?_)
  have hP2 := hP2.other hk hno2
  refine lv_aload_n hx hb dL_law_271 rfl (lv_at hl 1 rfl) ?_
  refine lv_aload_n hx hb dL_law_272 rfl (lv_at hl 3 rfl) ?_
  refine lv_iload_n hx hb dL_law_273 rfl (lv_at hl 0 rfl) ?_
  refine lv_iconst (v := nI 1) hx hb dL_law_274 (by decide) ?_
  refine x_iadd hx hb dL_law_275 ?_
  refine va_sld hx hb hX hbl hbA hS (i := nI (i + 1)) (vp_in_nI (by omega) (by omega)) dL_law_276 ?_
  rw [nI_clamp (by omega)]
  refine lv_aload_n hx hb dL_law_277 rfl (lv_at hl 3 rfl) ?_
  refine lv_iload_n hx hb dL_law_278 rfl (lv_at hl 0 rfl) ?_
  refine lv_iconst (v := nI 2) hx hb dL_law_279 (by decide) ?_
  refine x_iadd hx hb dL_law_280 ?_
  refine va_sld hx hb hX hbl hbA hS (i := nI (i + 2)) (vp_in_nI (by omega) (by omega)) dL_law_281 ?_
  rw [nI_clamp (by omega)]
  refine lv_aload_n hx hb dL_law_282 rfl (lv_at hl 3 rfl) ?_
  refine lv_iload_n hx hb dL_law_283 rfl (lv_at hl 0 rfl) ?_
  refine lv_iconst (v := nI 3) hx hb dL_law_284 (by decide) ?_
  refine x_iadd hx hb dL_law_285 ?_
  refine va_sld hx hb hX hbl hbA hS (i := nI (i + 3)) (vp_in_nI (by omega) (by omega)) dL_law_286 ?_
  rw [nI_clamp (by omega)]
  refine x_call2 CF hK hP2 hS hA2 hl (As := [.int (xs (i + 1)), .int (xs (i + 2)), .int (xs (i + 3))]) (rest := [.int r]) cb kw_X6_cut wd3_166 (by decide) dR_0 rfl rfl ⟨Nat.le_of_ble_eq_true rfl, Nat.le_of_ble_eq_true rfl⟩ hfit (Nat.le_of_ble_eq_true rfl) dL_law_287 (fun H2 locs hP2 hS hk => ?_)
  have hP := hP.other hk hno1
  refine lv_icmp_eq (tgt := 1232) hx hb dL_law_290 (by decide) (fun _ => ?_) (fun c9 => absurd rfl c9)
  refine lv_iinc (v := nI (i + 6)) (lv' := [(3, .int (nI (i + 6))), (2, .ref (ad' 0)), (1, .ref (ad 0)), (0, .ref b)]) hx hb dL_law_1232 hl (k := 0) rfl (n_inc i 6) (by decide) rfl (fun ls hl => ?_)
  refine lv_goto (tgt := 18) hx hb dL_law_1235 (by decide) ?_
  exact kk M1 N1 J1 K1 _ _ ls h1 hP hP2 hS hl
set_option maxHeartbeats 4000000 in
set_option maxRecDepth 100000 in
theorem lw_arm_3 {p : Program} {l : Launch} {e : Env} {s : State} {m : MethodId} {below : List Frame} {meth : Method} {c : Code} {b L : Nat} {xs : Nat → Int32} (C0 : lw_At p s m meth c b L xs) {g : gE} {ad ad' : Nat → Nat} (hI : g_inj ad 55) (hI2 : g_inj ad' 14) (hap : g_ap ad ad') (hold : ∀ i, i < 55 → s.heap.size ≤ ad i) (hold2 : ∀ i, i < 14 → s.heap.size ≤ ad' i) (hK : g_K g s) {cells slots : Nat} (hfit : cells ≤ 600000 ∧ slots ≤ 7302250) (i : Nat) (hi : i + 6 ≤ L) (hL : L ≤ 3072) (M N : gMem) (J K : gMeL) (h : RelA M N J K) (H : Heap) (locs : List Loc) (ls : Array Slot) (hP : g_P g ad dsX 55 M J H) (hP2 : g_P g ad' dsR 14 N K H) (hS : va_S (fun q => s.heap.size ≤ q) s.heap H locs) (hl : lv_has ls 4 [(3, .int (nI i)), (2, .ref (ad' 0)), (1, .ref (ad 0)), (0, .ref b)]) (kk : ∀ (M N : gMem) (J K : gMeL) (H : Heap) (locs : List Loc) (ls : Array Slot), RelA M N J K → g_P g ad dsX 55 M J H → g_P g ad' dsR 14 N K H → va_S (fun q => s.heap.size ≤ q) s.heap H locs → lv_has ls 4 [(3, .int (nI (i + 6))), (2, .ref (ad' 0)), (1, .ref (ad 0)), (0, .ref b)] → W p l e room_1 s m #[Value.ref b] below meth c H locs cells slots (lw_Z below #[Value.ref b] s) (F0 m 18 ls [])) : W p l e room_1 s m #[Value.ref b] below meth c H locs cells slots (lw_Z below #[Value.ref b] s) (F0 m 295 ls []) := by
  obtain ⟨hx, hb, hr, hml, hown, hts, hX, hbl, hlocks, hgv⟩ := C0
  have hbA : ¬ (fun q : Nat => s.heap.size ≤ q) b := Nat.not_le.mpr hbl
  have hAl : ∀ w ∈ Al, w.before #[Value.ref b] s = true := fun w hw => hts w (Al_tbl hw)
  have CF : CallFix p m c code 4 s #[Value.ref b] (g_ws yX5_cut cX5_cut 5 (some .int)) R_law := ⟨hx, hb, hml, hown, fun w hw => (List.mem_cons.mp hw).elim (fun q => by rw [q]; exact hAl _ kw_X5_cut.1.1) (hAl w)⟩
  have hA1 : ∀ q, g_A ad 55 q → s.heap.size ≤ q := fun q ⟨i, hi, e⟩ => by rw [e]; exact hold i hi
  have hA2 : ∀ q, g_A ad' 14 q → s.heap.size ≤ q := fun q ⟨i, hi, e⟩ => by rw [e]; exact hold2 i hi
  have hno1 : ∀ i, i < 55 → ¬ g_A ad' 14 (ad i) := fun i hi ⟨j, hj, e⟩ => hap i j hi hj e
  have hno2 : ∀ j, j < 14 → ¬ g_A ad 55 (ad' j) := fun j hj ⟨i, hi, e⟩ => hap i j hi hj e.symm
  refine lv_aload_n hx hb dL_law_295 rfl (lv_at hl 2 rfl) ?_
  refine lv_aload_n hx hb dL_law_296 rfl (lv_at hl 3 rfl) ?_
  refine lv_iload_n hx hb dL_law_297 rfl (lv_at hl 0 rfl) ?_
  refine lv_iconst (v := nI 1) hx hb dL_law_298 (by decide) ?_
  refine x_iadd hx hb dL_law_299 ?_
  refine va_sld hx hb hX hbl hbA hS (i := nI (i + 1)) (vp_in_nI (by omega) (by omega)) dL_law_300 ?_
  rw [nI_clamp (by omega)]
  refine lv_aload_n hx hb dL_law_301 rfl (lv_at hl 3 rfl) ?_
  refine lv_iload_n hx hb dL_law_302 rfl (lv_at hl 0 rfl) ?_
  refine lv_iconst (v := nI 2) hx hb dL_law_303 (by decide) ?_
  refine x_iadd hx hb dL_law_304 ?_
  refine va_sld hx hb hX hbl hbA hS (i := nI (i + 2)) (vp_in_nI (by omega) (by omega)) dL_law_305 ?_
  rw [nI_clamp (by omega)]
  obtain ⟨r, M1, J1, N1, K1, ca, cb, h1⟩ := o_told (l := l) (g := g) hI hI2 h (xs (i + 1)) (xs (i + 2))
  refine x_call2 CF hK hP hS hA1 hl (As := [.int (xs (i + 1)), .int (xs (i + 2))]) (rest := []) ca kw_X5_told wd2_5 (by decide) dX_0 rfl rfl ⟨Nat.le_of_ble_eq_true rfl, Nat.le_of_ble_eq_true rfl⟩ hfit (Nat.le_of_ble_eq_true rfl) dL_law_306 (fun H1 locs hP hS hk => ?_)
  have hP2 := hP2.other hk hno2
  refine lv_aload_n hx hb dL_law_309 rfl (lv_at hl 1 rfl) ?_
  refine lv_aload_n hx hb dL_law_310 rfl (lv_at hl 3 rfl) ?_
  refine lv_iload_n hx hb dL_law_311 rfl (lv_at hl 0 rfl) ?_
  refine lv_iconst (v := nI 1) hx hb dL_law_312 (by decide) ?_
  refine x_iadd hx hb dL_law_313 ?_
  refine va_sld hx hb hX hbl hbA hS (i := nI (i + 1)) (vp_in_nI (by omega) (by omega)) dL_law_314 ?_
  rw [nI_clamp (by omega)]
  refine lv_aload_n hx hb dL_law_315 rfl (lv_at hl 3 rfl) ?_
  refine lv_iload_n hx hb dL_law_316 rfl (lv_at hl 0 rfl) ?_
  refine lv_iconst (v := nI 2) hx hb dL_law_317 (by decide) ?_
  refine x_iadd hx hb dL_law_318 ?_
  refine va_sld hx hb hX hbl hbA hS (i := nI (i + 2)) (vp_in_nI (by omega) (by omega)) dL_law_319 ?_
  rw [nI_clamp (by omega)]
  refine x_call2 CF hK hP2 hS hA2 hl (As := [.int (xs (i + 1)), .int (xs (i + 2))]) (rest := [.int r]) cb kw_X6_told wd3_179 (by decide) dR_0 rfl rfl ⟨Nat.le_of_ble_eq_true rfl, Nat.le_of_ble_eq_true rfl⟩ hfit (Nat.le_of_ble_eq_true rfl) dL_law_320 (fun H2 locs hP2 hS hk => ?_)
  have hP := hP.other hk hno1
  refine lv_icmp_eq (tgt := 1232) hx hb dL_law_323 (by decide) (fun _ => ?_) (fun c9 => absurd rfl c9)
  refine lv_iinc (v := nI (i + 6)) (lv' := [(3, .int (nI (i + 6))), (2, .ref (ad' 0)), (1, .ref (ad 0)), (0, .ref b)]) hx hb dL_law_1232 hl (k := 0) rfl (n_inc i 6) (by decide) rfl (fun ls hl => ?_)
  refine lv_goto (tgt := 18) hx hb dL_law_1235 (by decide) ?_
  exact kk M1 N1 J1 K1 _ _ ls h1 hP hP2 hS hl
set_option maxHeartbeats 4000000 in
set_option maxRecDepth 100000 in
theorem lw_arm_4 {p : Program} {l : Launch} {e : Env} {s : State} {m : MethodId} {below : List Frame} {meth : Method} {c : Code} {b L : Nat} {xs : Nat → Int32} (C0 : lw_At p s m meth c b L xs) {g : gE} {ad ad' : Nat → Nat} (hI : g_inj ad 55) (hI2 : g_inj ad' 14) (hap : g_ap ad ad') (hold : ∀ i, i < 55 → s.heap.size ≤ ad i) (hold2 : ∀ i, i < 14 → s.heap.size ≤ ad' i) (hK : g_K g s) {cells slots : Nat} (hfit : cells ≤ 600000 ∧ slots ≤ 7302250) (i : Nat) (hi : i + 6 ≤ L) (hL : L ≤ 3072) (M N : gMem) (J K : gMeL) (h : RelA M N J K) (H : Heap) (locs : List Loc) (ls : Array Slot) (hP : g_P g ad dsX 55 M J H) (hP2 : g_P g ad' dsR 14 N K H) (hS : va_S (fun q => s.heap.size ≤ q) s.heap H locs) (hl : lv_has ls 4 [(3, .int (nI i)), (2, .ref (ad' 0)), (1, .ref (ad 0)), (0, .ref b)]) (kk : ∀ (M N : gMem) (J K : gMeL) (H : Heap) (locs : List Loc) (ls : Array Slot), RelA M N J K → g_P g ad dsX 55 M J H → g_P g ad' dsR 14 N K H → va_S (fun q => s.heap.size ≤ q) s.heap H locs → lv_has ls 4 [(3, .int (nI (i + 6))), (2, .ref (ad' 0)), (1, .ref (ad 0)), (0, .ref b)] → W p l e room_1 s m #[Value.ref b] below meth c H locs cells slots (lw_Z below #[Value.ref b] s) (F0 m 18 ls [])) : W p l e room_1 s m #[Value.ref b] below meth c H locs cells slots (lw_Z below #[Value.ref b] s) (F0 m 328 ls []) := by
  obtain ⟨hx, hb, hr, hml, hown, hts, hX, hbl, hlocks, hgv⟩ := C0
  have hbA : ¬ (fun q : Nat => s.heap.size ≤ q) b := Nat.not_le.mpr hbl
  have hAl : ∀ w ∈ Al, w.before #[Value.ref b] s = true := fun w hw => hts w (Al_tbl hw)
  have CF : CallFix p m c code 4 s #[Value.ref b] (g_ws yX5_cut cX5_cut 5 (some .int)) R_law := ⟨hx, hb, hml, hown, fun w hw => (List.mem_cons.mp hw).elim (fun q => by rw [q]; exact hAl _ kw_X5_cut.1.1) (hAl w)⟩
  have hA1 : ∀ q, g_A ad 55 q → s.heap.size ≤ q := fun q ⟨i, hi, e⟩ => by rw [e]; exact hold i hi
  have hA2 : ∀ q, g_A ad' 14 q → s.heap.size ≤ q := fun q ⟨i, hi, e⟩ => by rw [e]; exact hold2 i hi
  have hno1 : ∀ i, i < 55 → ¬ g_A ad' 14 (ad i) := fun i hi ⟨j, hj, e⟩ => hap i j hi hj e
  have hno2 : ∀ j, j < 14 → ¬ g_A ad 55 (ad' j) := fun j hj ⟨i, hi, e⟩ => hap i j hi hj e.symm
  refine lv_aload_n hx hb dL_law_328 rfl (lv_at hl 2 rfl) ?_
  refine lv_aload_n hx hb dL_law_329 rfl (lv_at hl 3 rfl) ?_
  refine lv_iload_n hx hb dL_law_330 rfl (lv_at hl 0 rfl) ?_
  refine lv_iconst (v := nI 1) hx hb dL_law_331 (by decide) ?_
  refine x_iadd hx hb dL_law_332 ?_
  refine va_sld hx hb hX hbl hbA hS (i := nI (i + 1)) (vp_in_nI (by omega) (by omega)) dL_law_333 ?_
  rw [nI_clamp (by omega)]
  refine lv_aload_n hx hb dL_law_334 rfl (lv_at hl 3 rfl) ?_
  refine lv_iload_n hx hb dL_law_335 rfl (lv_at hl 0 rfl) ?_
  refine lv_iconst (v := nI 2) hx hb dL_law_336 (by decide) ?_
  refine x_iadd hx hb dL_law_337 ?_
  refine va_sld hx hb hX hbl hbA hS (i := nI (i + 2)) (vp_in_nI (by omega) (by omega)) dL_law_338 ?_
  rw [nI_clamp (by omega)]
  refine lv_aload_n hx hb dL_law_339 rfl (lv_at hl 3 rfl) ?_
  refine lv_iload_n hx hb dL_law_340 rfl (lv_at hl 0 rfl) ?_
  refine lv_iconst (v := nI 3) hx hb dL_law_341 (by decide) ?_
  refine x_iadd hx hb dL_law_342 ?_
  refine va_sld hx hb hX hbl hbA hS (i := nI (i + 3)) (vp_in_nI (by omega) (by omega)) dL_law_343 ?_
  rw [nI_clamp (by omega)]
  refine lv_aload_n hx hb dL_law_344 rfl (lv_at hl 3 rfl) ?_
  refine lv_iload_n hx hb dL_law_345 rfl (lv_at hl 0 rfl) ?_
  refine lv_iconst (v := nI 4) hx hb dL_law_346 (by decide) ?_
  refine x_iadd hx hb dL_law_347 ?_
  refine va_sld hx hb hX hbl hbA hS (i := nI (i + 4)) (vp_in_nI (by omega) (by omega)) dL_law_348 ?_
  rw [nI_clamp (by omega)]
  obtain ⟨r, M1, J1, N1, K1, ca, cb, h1⟩ := o_figure (l := l) (g := g) hI hI2 h (xs (i + 1)) (xs (i + 2)) (xs (i + 3)) (xs (i + 4))
  refine x_call2 CF hK hP hS hA1 hl (As := [.int (xs (i + 1)), .int (xs (i + 2)), .int (xs (i + 3)), .int (xs (i + 4))]) (rest := []) ca kw_X5_figure wd2_9 (by decide) dX_0 rfl rfl ⟨Nat.le_of_ble_eq_true rfl, Nat.le_of_ble_eq_true rfl⟩ hfit (Nat.le_of_ble_eq_true rfl) dL_law_349 (fun H1 locs hP hS hk => ?_)
  have hP2 := hP2.other hk hno2
  refine lv_aload_n hx hb dL_law_352 rfl (lv_at hl 1 rfl) ?_
  refine lv_aload_n hx hb dL_law_353 rfl (lv_at hl 3 rfl) ?_
  refine lv_iload_n hx hb dL_law_354 rfl (lv_at hl 0 rfl) ?_
  refine lv_iconst (v := nI 1) hx hb dL_law_355 (by decide) ?_
  refine x_iadd hx hb dL_law_356 ?_
  refine va_sld hx hb hX hbl hbA hS (i := nI (i + 1)) (vp_in_nI (by omega) (by omega)) dL_law_357 ?_
  rw [nI_clamp (by omega)]
  refine lv_aload_n hx hb dL_law_358 rfl (lv_at hl 3 rfl) ?_
  refine lv_iload_n hx hb dL_law_359 rfl (lv_at hl 0 rfl) ?_
  refine lv_iconst (v := nI 2) hx hb dL_law_360 (by decide) ?_
  refine x_iadd hx hb dL_law_361 ?_
  refine va_sld hx hb hX hbl hbA hS (i := nI (i + 2)) (vp_in_nI (by omega) (by omega)) dL_law_362 ?_
  rw [nI_clamp (by omega)]
  refine lv_aload_n hx hb dL_law_363 rfl (lv_at hl 3 rfl) ?_
  refine lv_iload_n hx hb dL_law_364 rfl (lv_at hl 0 rfl) ?_
  refine lv_iconst (v := nI 3) hx hb dL_law_365 (by decide) ?_
  refine x_iadd hx hb dL_law_366 ?_
  refine va_sld hx hb hX hbl hbA hS (i := nI (i + 3)) (vp_in_nI (by omega) (by omega)) dL_law_367 ?_
  rw [nI_clamp (by omega)]
  refine lv_aload_n hx hb dL_law_368 rfl (lv_at hl 3 rfl) ?_
  refine lv_iload_n hx hb dL_law_369 rfl (lv_at hl 0 rfl) ?_
  refine lv_iconst (v := nI 4) hx hb dL_law_370 (by decide) ?_
  refine x_iadd hx hb dL_law_371 ?_
  refine va_sld hx hb hX hbl hbA hS (i := nI (i + 4)) (vp_in_nI (by omega) (by omega)) dL_law_372 ?_
  rw [nI_clamp (by omega)]
  refine x_call2 CF hK hP2 hS hA2 hl (As := [.int (xs (i + 1)), .int (xs (i + 2)), .int (xs (i + 3)), .int (xs (i + 4))]) (rest := [.int r]) cb kw_X6_figure wd3_183 (by decide) dR_0 rfl rfl ⟨Nat.le_of_ble_eq_true rfl, Nat.le_of_ble_eq_true rfl⟩ hfit (Nat.le_of_ble_eq_true rfl) dL_law_373 (fun H2 locs hP2 hS hk => ?_)
  have hP := hP.other hk hno1
  refine lv_icmp_eq (tgt := 1232) hx hb dL_law_376 (by decide) (fun _ => ?_) (fun c9 => absurd rfl c9)
  refine lv_iinc (v := nI (i + 6)) (lv' := [(3, .int (nI (i + 6))), (2, .ref (ad' 0)), (1, .ref (ad 0)), (0, .ref b)]) hx hb dL_law_1232 hl (k := 0) rfl (n_inc i 6) (by decide) rfl (fun ls hl => ?_)
  refine lv_goto (tgt := 18) hx hb dL_law_1235 (by decide) ?_
  exact kk M1 N1 J1 K1 _ _ ls h1 hP hP2 hS hl
set_option maxHeartbeats 4000000 in
set_option maxRecDepth 100000 in
theorem lw_arm_5 {p : Program} {l : Launch} {e : Env} {s : State} {m : MethodId} {below : List Frame} {meth : Method} {c : Code} {b L : Nat} {xs : Nat → Int32} (C0 : lw_At p s m meth c b L xs) {g : gE} {ad ad' : Nat → Nat} (hI : g_inj ad 55) (hI2 : g_inj ad' 14) (hap : g_ap ad ad') (hold : ∀ i, i < 55 → s.heap.size ≤ ad i) (hold2 : ∀ i, i < 14 → s.heap.size ≤ ad' i) (hK : g_K g s) {cells slots : Nat} (hfit : cells ≤ 600000 ∧ slots ≤ 7302250) (i : Nat) (hi : i + 6 ≤ L) (hL : L ≤ 3072) (M N : gMem) (J K : gMeL) (h : RelA M N J K) (H : Heap) (locs : List Loc) (ls : Array Slot) (hP : g_P g ad dsX 55 M J H) (hP2 : g_P g ad' dsR 14 N K H) (hS : va_S (fun q => s.heap.size ≤ q) s.heap H locs) (hl : lv_has ls 4 [(3, .int (nI i)), (2, .ref (ad' 0)), (1, .ref (ad 0)), (0, .ref b)]) (kk : ∀ (M N : gMem) (J K : gMeL) (H : Heap) (locs : List Loc) (ls : Array Slot), RelA M N J K → g_P g ad dsX 55 M J H → g_P g ad' dsR 14 N K H → va_S (fun q => s.heap.size ≤ q) s.heap H locs → lv_has ls 4 [(3, .int (nI (i + 6))), (2, .ref (ad' 0)), (1, .ref (ad 0)), (0, .ref b)] → W p l e room_1 s m #[Value.ref b] below meth c H locs cells slots (lw_Z below #[Value.ref b] s) (F0 m 18 ls [])) : W p l e room_1 s m #[Value.ref b] below meth c H locs cells slots (lw_Z below #[Value.ref b] s) (F0 m 381 ls []) := by
  obtain ⟨hx, hb, hr, hml, hown, hts, hX, hbl, hlocks, hgv⟩ := C0
  have hbA : ¬ (fun q : Nat => s.heap.size ≤ q) b := Nat.not_le.mpr hbl
  have hAl : ∀ w ∈ Al, w.before #[Value.ref b] s = true := fun w hw => hts w (Al_tbl hw)
  have CF : CallFix p m c code 4 s #[Value.ref b] (g_ws yX5_cut cX5_cut 5 (some .int)) R_law := ⟨hx, hb, hml, hown, fun w hw => (List.mem_cons.mp hw).elim (fun q => by rw [q]; exact hAl _ kw_X5_cut.1.1) (hAl w)⟩
  have hA1 : ∀ q, g_A ad 55 q → s.heap.size ≤ q := fun q ⟨i, hi, e⟩ => by rw [e]; exact hold i hi
  have hA2 : ∀ q, g_A ad' 14 q → s.heap.size ≤ q := fun q ⟨i, hi, e⟩ => by rw [e]; exact hold2 i hi
  have hno1 : ∀ i, i < 55 → ¬ g_A ad' 14 (ad i) := fun i hi ⟨j, hj, e⟩ => hap i j hi hj e
  have hno2 : ∀ j, j < 14 → ¬ g_A ad 55 (ad' j) := fun j hj ⟨i, hi, e⟩ => hap i j hi hj e.symm
  refine lv_aload_n hx hb dL_law_381 rfl (lv_at hl 2 rfl) ?_
  refine lv_aload_n hx hb dL_law_382 rfl (lv_at hl 3 rfl) ?_
  refine lv_iload_n hx hb dL_law_383 rfl (lv_at hl 0 rfl) ?_
  refine lv_iconst (v := nI 1) hx hb dL_law_384 (by decide) ?_
  refine x_iadd hx hb dL_law_385 ?_
  refine va_sld hx hb hX hbl hbA hS (i := nI (i + 1)) (vp_in_nI (by omega) (by omega)) dL_law_386 ?_
  rw [nI_clamp (by omega)]
  refine lv_aload_n hx hb dL_law_387 rfl (lv_at hl 3 rfl) ?_
  refine lv_iload_n hx hb dL_law_388 rfl (lv_at hl 0 rfl) ?_
  refine lv_iconst (v := nI 2) hx hb dL_law_389 (by decide) ?_
  refine x_iadd hx hb dL_law_390 ?_
  refine va_sld hx hb hX hbl hbA hS (i := nI (i + 2)) (vp_in_nI (by omega) (by omega)) dL_law_391 ?_
  rw [nI_clamp (by omega)]
  refine lv_aload_n hx hb dL_law_392 rfl (lv_at hl 3 rfl) ?_
  refine lv_iload_n hx hb dL_law_393 rfl (lv_at hl 0 rfl) ?_
  refine lv_iconst (v := nI 3) hx hb dL_law_394 (by decide) ?_
  refine x_iadd hx hb dL_law_395 ?_
  refine va_sld hx hb hX hbl hbA hS (i := nI (i + 3)) (vp_in_nI (by omega) (by omega)) dL_law_396 ?_
  rw [nI_clamp (by omega)]
  obtain ⟨r, M1, J1, N1, K1, ca, cb, h1⟩ := o_set (l := l) (g := g) hI hI2 h (xs (i + 1)) (xs (i + 2)) (xs (i + 3))
  refine x_call2 CF hK hP hS hA1 hl (As := [.int (xs (i + 1)), .int (xs (i + 2)), .int (xs (i + 3))]) (rest := []) ca kw_X5_set wd2_23 (by decide) dX_0 rfl rfl ⟨Nat.le_of_ble_eq_true rfl, Nat.le_of_ble_eq_true rfl⟩ hfit (Nat.le_of_ble_eq_true rfl) dL_law_397 (fun H1 locs hP hS hk => ?_)
  have hP2 := hP2.other hk hno2
  refine lv_aload_n hx hb dL_law_400 rfl (lv_at hl 1 rfl) ?_
  refine lv_aload_n hx hb dL_law_401 rfl (lv_at hl 3 rfl) ?_
  refine lv_iload_n hx hb dL_law_402 rfl (lv_at hl 0 rfl) ?_
  refine lv_iconst (v := nI 1) hx hb dL_law_403 (by decide) ?_
  refine x_iadd hx hb dL_law_404 ?_
  refine va_sld hx hb hX hbl hbA hS (i := nI (i + 1)) (vp_in_nI (by omega) (by omega)) dL_law_405 ?_
  rw [nI_clamp (by omega)]
  refine lv_aload_n hx hb dL_law_406 rfl (lv_at hl 3 rfl) ?_
  refine lv_iload_n hx hb dL_law_407 rfl (lv_at hl 0 rfl) ?_
  refine lv_iconst (v := nI 2) hx hb dL_law_408 (by decide) ?_
  refine x_iadd hx hb dL_law_409 ?_
  refine va_sld hx hb hX hbl hbA hS (i := nI (i + 2)) (vp_in_nI (by omega) (by omega)) dL_law_410 ?_
  rw [nI_clamp (by omega)]
  refine lv_aload_n hx hb dL_law_411 rfl (lv_at hl 3 rfl) ?_
  refine lv_iload_n hx hb dL_law_412 rfl (lv_at hl 0 rfl) ?_
  refine lv_iconst (v := nI 3) hx hb dL_law_413 (by decide) ?_
  refine x_iadd hx hb dL_law_414 ?_
  refine va_sld hx hb hX hbl hbA hS (i := nI (i + 3)) (vp_in_nI (by omega) (by omega)) dL_law_415 ?_
  rw [nI_clamp (by omega)]
  refine x_call2 CF hK hP2 hS hA2 hl (As := [.int (xs (i + 1)), .int (xs (i + 2)), .int (xs (i + 3))]) (rest := [.int r]) cb kw_X6_set wd3_192 (by decide) dR_0 rfl rfl ⟨Nat.le_of_ble_eq_true rfl, Nat.le_of_ble_eq_true rfl⟩ hfit (Nat.le_of_ble_eq_true rfl) dL_law_416 (fun H2 locs hP2 hS hk => ?_)
  have hP := hP.other hk hno1
  refine lv_icmp_eq (tgt := 1232) hx hb dL_law_419 (by decide) (fun _ => ?_) (fun c9 => absurd rfl c9)
  refine lv_iinc (v := nI (i + 6)) (lv' := [(3, .int (nI (i + 6))), (2, .ref (ad' 0)), (1, .ref (ad 0)), (0, .ref b)]) hx hb dL_law_1232 hl (k := 0) rfl (n_inc i 6) (by decide) rfl (fun ls hl => ?_)
  refine lv_goto (tgt := 18) hx hb dL_law_1235 (by decide) ?_
  exact kk M1 N1 J1 K1 _ _ ls h1 hP hP2 hS hl
set_option maxHeartbeats 4000000 in
set_option maxRecDepth 100000 in
theorem lw_arm_6 {p : Program} {l : Launch} {e : Env} {s : State} {m : MethodId} {below : List Frame} {meth : Method} {c : Code} {b L : Nat} {xs : Nat → Int32} (C0 : lw_At p s m meth c b L xs) {g : gE} {ad ad' : Nat → Nat} (hI : g_inj ad 55) (hI2 : g_inj ad' 14) (hap : g_ap ad ad') (hold : ∀ i, i < 55 → s.heap.size ≤ ad i) (hold2 : ∀ i, i < 14 → s.heap.size ≤ ad' i) (hK : g_K g s) {cells slots : Nat} (hfit : cells ≤ 600000 ∧ slots ≤ 7302250) (i : Nat) (hi : i + 6 ≤ L) (hL : L ≤ 3072) (M N : gMem) (J K : gMeL) (h : RelA M N J K) (H : Heap) (locs : List Loc) (ls : Array Slot) (hP : g_P g ad dsX 55 M J H) (hP2 : g_P g ad' dsR 14 N K H) (hS : va_S (fun q => s.heap.size ≤ q) s.heap H locs) (hl : lv_has ls 4 [(3, .int (nI i)), (2, .ref (ad' 0)), (1, .ref (ad 0)), (0, .ref b)]) (kk : ∀ (M N : gMem) (J K : gMeL) (H : Heap) (locs : List Loc) (ls : Array Slot), RelA M N J K → g_P g ad dsX 55 M J H → g_P g ad' dsR 14 N K H → va_S (fun q => s.heap.size ≤ q) s.heap H locs → lv_has ls 4 [(3, .int (nI (i + 6))), (2, .ref (ad' 0)), (1, .ref (ad 0)), (0, .ref b)] → W p l e room_1 s m #[Value.ref b] below meth c H locs cells slots (lw_Z below #[Value.ref b] s) (F0 m 18 ls [])) : W p l e room_1 s m #[Value.ref b] below meth c H locs cells slots (lw_Z below #[Value.ref b] s) (F0 m 424 ls []) := by
  obtain ⟨hx, hb, hr, hml, hown, hts, hX, hbl, hlocks, hgv⟩ := C0
  have hbA : ¬ (fun q : Nat => s.heap.size ≤ q) b := Nat.not_le.mpr hbl
  have hAl : ∀ w ∈ Al, w.before #[Value.ref b] s = true := fun w hw => hts w (Al_tbl hw)
  have CF : CallFix p m c code 4 s #[Value.ref b] (g_ws yX5_cut cX5_cut 5 (some .int)) R_law := ⟨hx, hb, hml, hown, fun w hw => (List.mem_cons.mp hw).elim (fun q => by rw [q]; exact hAl _ kw_X5_cut.1.1) (hAl w)⟩
  have hA1 : ∀ q, g_A ad 55 q → s.heap.size ≤ q := fun q ⟨i, hi, e⟩ => by rw [e]; exact hold i hi
  have hA2 : ∀ q, g_A ad' 14 q → s.heap.size ≤ q := fun q ⟨i, hi, e⟩ => by rw [e]; exact hold2 i hi
  have hno1 : ∀ i, i < 55 → ¬ g_A ad' 14 (ad i) := fun i hi ⟨j, hj, e⟩ => hap i j hi hj e
  have hno2 : ∀ j, j < 14 → ¬ g_A ad 55 (ad' j) := fun j hj ⟨i, hi, e⟩ => hap i j hi hj e.symm
  refine lv_aload_n hx hb dL_law_424 rfl (lv_at hl 2 rfl) ?_
  refine lv_aload_n hx hb dL_law_425 rfl (lv_at hl 3 rfl) ?_
  refine lv_iload_n hx hb dL_law_426 rfl (lv_at hl 0 rfl) ?_
  refine lv_iconst (v := nI 1) hx hb dL_law_427 (by decide) ?_
  refine x_iadd hx hb dL_law_428 ?_
  refine va_sld hx hb hX hbl hbA hS (i := nI (i + 1)) (vp_in_nI (by omega) (by omega)) dL_law_429 ?_
  rw [nI_clamp (by omega)]
  obtain ⟨r, M1, J1, N1, K1, ca, cb, h1⟩ := o_wish (l := l) (g := g) hI hI2 h (xs (i + 1))
  refine x_call2 CF hK hP hS hA1 hl (As := [.int (xs (i + 1))]) (rest := []) ca kw_X5_wish wd2_47 (by decide) dX_0 rfl rfl ⟨Nat.le_of_ble_eq_true rfl, Nat.le_of_ble_eq_true rfl⟩ hfit (Nat.le_of_ble_eq_true rfl) dL_law_430 (fun H1 locs hP hS hk => ?_)
  have hP2 := hP2.other hk hno2
  refine lv_aload_n hx hb dL_law_433 rfl (lv_at hl 1 rfl) ?_
  refine lv_aload_n hx hb dL_law_434 rfl (lv_at hl 3 rfl) ?_
  refine lv_iload_n hx hb dL_law_435 rfl (lv_at hl 0 rfl) ?_
  refine lv_iconst (v := nI 1) hx hb dL_law_436 (by decide) ?_
  refine x_iadd hx hb dL_law_437 ?_
  refine va_sld hx hb hX hbl hbA hS (i := nI (i + 1)) (vp_in_nI (by omega) (by omega)) dL_law_438 ?_
  rw [nI_clamp (by omega)]
  refine x_call2 CF hK hP2 hS hA2 hl (As := [.int (xs (i + 1))]) (rest := [.int r]) cb kw_X6_wish wd3_200 (by decide) dR_0 rfl rfl ⟨Nat.le_of_ble_eq_true rfl, Nat.le_of_ble_eq_true rfl⟩ hfit (Nat.le_of_ble_eq_true rfl) dL_law_439 (fun H2 locs hP2 hS hk => ?_)
  have hP := hP.other hk hno1
  refine lv_icmp_eq (tgt := 1232) hx hb dL_law_442 (by decide) (fun _ => ?_) (fun c9 => absurd rfl c9)
  refine lv_iinc (v := nI (i + 6)) (lv' := [(3, .int (nI (i + 6))), (2, .ref (ad' 0)), (1, .ref (ad 0)), (0, .ref b)]) hx hb dL_law_1232 hl (k := 0) rfl (n_inc i 6) (by decide) rfl (fun ls hl => ?_)
  refine lv_goto (tgt := 18) hx hb dL_law_1235 (by decide) ?_
  exact kk M1 N1 J1 K1 _ _ ls h1 hP hP2 hS hl
set_option maxHeartbeats 4000000 in
set_option maxRecDepth 100000 in
theorem lw_arm_7 {p : Program} {l : Launch} {e : Env} {s : State} {m : MethodId} {below : List Frame} {meth : Method} {c : Code} {b L : Nat} {xs : Nat → Int32} (C0 : lw_At p s m meth c b L xs) {g : gE} {ad ad' : Nat → Nat} (hI : g_inj ad 55) (hI2 : g_inj ad' 14) (hap : g_ap ad ad') (hold : ∀ i, i < 55 → s.heap.size ≤ ad i) (hold2 : ∀ i, i < 14 → s.heap.size ≤ ad' i) (hK : g_K g s) {cells slots : Nat} (hfit : cells ≤ 600000 ∧ slots ≤ 7302250) (i : Nat) (hi : i + 6 ≤ L) (hL : L ≤ 3072) (M N : gMem) (J K : gMeL) (h : RelA M N J K) (H : Heap) (locs : List Loc) (ls : Array Slot) (hP : g_P g ad dsX 55 M J H) (hP2 : g_P g ad' dsR 14 N K H) (hS : va_S (fun q => s.heap.size ≤ q) s.heap H locs) (hl : lv_has ls 4 [(3, .int (nI i)), (2, .ref (ad' 0)), (1, .ref (ad 0)), (0, .ref b)]) (kk : ∀ (M N : gMem) (J K : gMeL) (H : Heap) (locs : List Loc) (ls : Array Slot), RelA M N J K → g_P g ad dsX 55 M J H → g_P g ad' dsR 14 N K H → va_S (fun q => s.heap.size ≤ q) s.heap H locs → lv_has ls 4 [(3, .int (nI (i + 6))), (2, .ref (ad' 0)), (1, .ref (ad 0)), (0, .ref b)] → W p l e room_1 s m #[Value.ref b] below meth c H locs cells slots (lw_Z below #[Value.ref b] s) (F0 m 18 ls [])) : W p l e room_1 s m #[Value.ref b] below meth c H locs cells slots (lw_Z below #[Value.ref b] s) (F0 m 447 ls []) := by
  obtain ⟨hx, hb, hr, hml, hown, hts, hX, hbl, hlocks, hgv⟩ := C0
  have hbA : ¬ (fun q : Nat => s.heap.size ≤ q) b := Nat.not_le.mpr hbl
  have hAl : ∀ w ∈ Al, w.before #[Value.ref b] s = true := fun w hw => hts w (Al_tbl hw)
  have CF : CallFix p m c code 4 s #[Value.ref b] (g_ws yX5_cut cX5_cut 5 (some .int)) R_law := ⟨hx, hb, hml, hown, fun w hw => (List.mem_cons.mp hw).elim (fun q => by rw [q]; exact hAl _ kw_X5_cut.1.1) (hAl w)⟩
  have hA1 : ∀ q, g_A ad 55 q → s.heap.size ≤ q := fun q ⟨i, hi, e⟩ => by rw [e]; exact hold i hi
  have hA2 : ∀ q, g_A ad' 14 q → s.heap.size ≤ q := fun q ⟨i, hi, e⟩ => by rw [e]; exact hold2 i hi
  have hno1 : ∀ i, i < 55 → ¬ g_A ad' 14 (ad i) := fun i hi ⟨j, hj, e⟩ => hap i j hi hj e
  have hno2 : ∀ j, j < 14 → ¬ g_A ad 55 (ad' j) := fun j hj ⟨i, hi, e⟩ => hap i j hi hj e.symm
  refine lv_aload_n hx hb dL_law_447 rfl (lv_at hl 2 rfl) ?_
  refine lv_aload_n hx hb dL_law_448 rfl (lv_at hl 3 rfl) ?_
  refine lv_iload_n hx hb dL_law_449 rfl (lv_at hl 0 rfl) ?_
  refine lv_iconst (v := nI 1) hx hb dL_law_450 (by decide) ?_
  refine x_iadd hx hb dL_law_451 ?_
  refine va_sld hx hb hX hbl hbA hS (i := nI (i + 1)) (vp_in_nI (by omega) (by omega)) dL_law_452 ?_
  rw [nI_clamp (by omega)]
  obtain ⟨r, M1, J1, N1, K1, ca, cb, h1⟩ := o_line (l := l) (g := g) hI hI2 h (xs (i + 1))
  refine x_call2 CF hK hP hS hA1 hl (As := [.int (xs (i + 1))]) (rest := []) ca kw_X5_line wd2_61 (by decide) dX_0 rfl rfl ⟨Nat.le_of_ble_eq_true rfl, Nat.le_of_ble_eq_true rfl⟩ hfit (Nat.le_of_ble_eq_true rfl) dL_law_453 (fun H1 locs hP hS hk => ?_)
  have hP2 := hP2.other hk hno2
  refine lv_aload_n hx hb dL_law_456 rfl (lv_at hl 1 rfl) ?_
  refine lv_aload_n hx hb dL_law_457 rfl (lv_at hl 3 rfl) ?_
  refine lv_iload_n hx hb dL_law_458 rfl (lv_at hl 0 rfl) ?_
  refine lv_iconst (v := nI 1) hx hb dL_law_459 (by decide) ?_
  refine x_iadd hx hb dL_law_460 ?_
  refine va_sld hx hb hX hbl hbA hS (i := nI (i + 1)) (vp_in_nI (by omega) (by omega)) dL_law_461 ?_
  rw [nI_clamp (by omega)]
  refine x_call2 CF hK hP2 hS hA2 hl (As := [.int (xs (i + 1))]) (rest := [.int r]) cb kw_X6_line wd3_207 (by decide) dR_0 rfl rfl ⟨Nat.le_of_ble_eq_true rfl, Nat.le_of_ble_eq_true rfl⟩ hfit (Nat.le_of_ble_eq_true rfl) dL_law_462 (fun H2 locs hP2 hS hk => ?_)
  have hP := hP.other hk hno1
  refine lv_icmp_eq (tgt := 1232) hx hb dL_law_465 (by decide) (fun _ => ?_) (fun c9 => absurd rfl c9)
  refine lv_iinc (v := nI (i + 6)) (lv' := [(3, .int (nI (i + 6))), (2, .ref (ad' 0)), (1, .ref (ad 0)), (0, .ref b)]) hx hb dL_law_1232 hl (k := 0) rfl (n_inc i 6) (by decide) rfl (fun ls hl => ?_)
  refine lv_goto (tgt := 18) hx hb dL_law_1235 (by decide) ?_
  exact kk M1 N1 J1 K1 _ _ ls h1 hP hP2 hS hl
set_option maxHeartbeats 4000000 in
set_option maxRecDepth 100000 in
theorem lw_arm_8 {p : Program} {l : Launch} {e : Env} {s : State} {m : MethodId} {below : List Frame} {meth : Method} {c : Code} {b L : Nat} {xs : Nat → Int32} (C0 : lw_At p s m meth c b L xs) {g : gE} {ad ad' : Nat → Nat} (hI : g_inj ad 55) (hI2 : g_inj ad' 14) (hap : g_ap ad ad') (hold : ∀ i, i < 55 → s.heap.size ≤ ad i) (hold2 : ∀ i, i < 14 → s.heap.size ≤ ad' i) (hK : g_K g s) {cells slots : Nat} (hfit : cells ≤ 600000 ∧ slots ≤ 7302250) (i : Nat) (hi : i + 6 ≤ L) (hL : L ≤ 3072) (M N : gMem) (J K : gMeL) (h : RelA M N J K) (H : Heap) (locs : List Loc) (ls : Array Slot) (hP : g_P g ad dsX 55 M J H) (hP2 : g_P g ad' dsR 14 N K H) (hS : va_S (fun q => s.heap.size ≤ q) s.heap H locs) (hl : lv_has ls 4 [(3, .int (nI i)), (2, .ref (ad' 0)), (1, .ref (ad 0)), (0, .ref b)]) (kk : ∀ (M N : gMem) (J K : gMeL) (H : Heap) (locs : List Loc) (ls : Array Slot), RelA M N J K → g_P g ad dsX 55 M J H → g_P g ad' dsR 14 N K H → va_S (fun q => s.heap.size ≤ q) s.heap H locs → lv_has ls 4 [(3, .int (nI (i + 6))), (2, .ref (ad' 0)), (1, .ref (ad 0)), (0, .ref b)] → W p l e room_1 s m #[Value.ref b] below meth c H locs cells slots (lw_Z below #[Value.ref b] s) (F0 m 18 ls [])) : W p l e room_1 s m #[Value.ref b] below meth c H locs cells slots (lw_Z below #[Value.ref b] s) (F0 m 470 ls []) := by
  obtain ⟨hx, hb, hr, hml, hown, hts, hX, hbl, hlocks, hgv⟩ := C0
  have hbA : ¬ (fun q : Nat => s.heap.size ≤ q) b := Nat.not_le.mpr hbl
  have hAl : ∀ w ∈ Al, w.before #[Value.ref b] s = true := fun w hw => hts w (Al_tbl hw)
  have CF : CallFix p m c code 4 s #[Value.ref b] (g_ws yX5_cut cX5_cut 5 (some .int)) R_law := ⟨hx, hb, hml, hown, fun w hw => (List.mem_cons.mp hw).elim (fun q => by rw [q]; exact hAl _ kw_X5_cut.1.1) (hAl w)⟩
  have hA1 : ∀ q, g_A ad 55 q → s.heap.size ≤ q := fun q ⟨i, hi, e⟩ => by rw [e]; exact hold i hi
  have hA2 : ∀ q, g_A ad' 14 q → s.heap.size ≤ q := fun q ⟨i, hi, e⟩ => by rw [e]; exact hold2 i hi
  have hno1 : ∀ i, i < 55 → ¬ g_A ad' 14 (ad i) := fun i hi ⟨j, hj, e⟩ => hap i j hi hj e
  have hno2 : ∀ j, j < 14 → ¬ g_A ad 55 (ad' j) := fun j hj ⟨i, hi, e⟩ => hap i j hi hj e.symm
  refine lv_aload_n hx hb dL_law_470 rfl (lv_at hl 2 rfl) ?_
  refine lv_aload_n hx hb dL_law_471 rfl (lv_at hl 3 rfl) ?_
  refine lv_iload_n hx hb dL_law_472 rfl (lv_at hl 0 rfl) ?_
  refine lv_iconst (v := nI 1) hx hb dL_law_473 (by decide) ?_
  refine x_iadd hx hb dL_law_474 ?_
  refine va_sld hx hb hX hbl hbA hS (i := nI (i + 1)) (vp_in_nI (by omega) (by omega)) dL_law_475 ?_
  rw [nI_clamp (by omega)]
  obtain ⟨r, M1, J1, N1, K1, ca, cb, h1⟩ := o_way (l := l) (g := g) hI hI2 h (xs (i + 1))
  refine x_call2 CF hK hP hS hA1 hl (As := [.int (xs (i + 1))]) (rest := []) ca kw_X5_way wd2_65 (by decide) dX_0 rfl rfl ⟨Nat.le_of_ble_eq_true rfl, Nat.le_of_ble_eq_true rfl⟩ hfit (Nat.le_of_ble_eq_true rfl) dL_law_476 (fun H1 locs hP hS hk => ?_)
  have hP2 := hP2.other hk hno2
  refine lv_aload_n hx hb dL_law_479 rfl (lv_at hl 1 rfl) ?_
  refine lv_aload_n hx hb dL_law_480 rfl (lv_at hl 3 rfl) ?_
  refine lv_iload_n hx hb dL_law_481 rfl (lv_at hl 0 rfl) ?_
  refine lv_iconst (v := nI 1) hx hb dL_law_482 (by decide) ?_
  refine x_iadd hx hb dL_law_483 ?_
  refine va_sld hx hb hX hbl hbA hS (i := nI (i + 1)) (vp_in_nI (by omega) (by omega)) dL_law_484 ?_
  rw [nI_clamp (by omega)]
  refine x_call2 CF hK hP2 hS hA2 hl (As := [.int (xs (i + 1))]) (rest := [.int r]) cb kw_X6_way wd3_211 (by decide) dR_0 rfl rfl ⟨Nat.le_of_ble_eq_true rfl, Nat.le_of_ble_eq_true rfl⟩ hfit (Nat.le_of_ble_eq_true rfl) dL_law_485 (fun H2 locs hP2 hS hk => ?_)
  have hP := hP.other hk hno1
  refine lv_icmp_eq (tgt := 1232) hx hb dL_law_488 (by decide) (fun _ => ?_) (fun c9 => absurd rfl c9)
  refine lv_iinc (v := nI (i + 6)) (lv' := [(3, .int (nI (i + 6))), (2, .ref (ad' 0)), (1, .ref (ad 0)), (0, .ref b)]) hx hb dL_law_1232 hl (k := 0) rfl (n_inc i 6) (by decide) rfl (fun ls hl => ?_)
  refine lv_goto (tgt := 18) hx hb dL_law_1235 (by decide) ?_
  exact kk M1 N1 J1 K1 _ _ ls h1 hP hP2 hS hl
set_option maxHeartbeats 4000000 in
set_option maxRecDepth 100000 in
theorem lw_arm_9 {p : Program} {l : Launch} {e : Env} {s : State} {m : MethodId} {below : List Frame} {meth : Method} {c : Code} {b L : Nat} {xs : Nat → Int32} (C0 : lw_At p s m meth c b L xs) {g : gE} {ad ad' : Nat → Nat} (hI : g_inj ad 55) (hI2 : g_inj ad' 14) (hap : g_ap ad ad') (hold : ∀ i, i < 55 → s.heap.size ≤ ad i) (hold2 : ∀ i, i < 14 → s.heap.size ≤ ad' i) (hK : g_K g s) {cells slots : Nat} (hfit : cells ≤ 600000 ∧ slots ≤ 7302250) (i : Nat) (hi : i + 6 ≤ L) (hL : L ≤ 3072) (M N : gMem) (J K : gMeL) (h : RelA M N J K) (H : Heap) (locs : List Loc) (ls : Array Slot) (hP : g_P g ad dsX 55 M J H) (hP2 : g_P g ad' dsR 14 N K H) (hS : va_S (fun q => s.heap.size ≤ q) s.heap H locs) (hl : lv_has ls 4 [(3, .int (nI i)), (2, .ref (ad' 0)), (1, .ref (ad 0)), (0, .ref b)]) (kk : ∀ (M N : gMem) (J K : gMeL) (H : Heap) (locs : List Loc) (ls : Array Slot), RelA M N J K → g_P g ad dsX 55 M J H → g_P g ad' dsR 14 N K H → va_S (fun q => s.heap.size ≤ q) s.heap H locs → lv_has ls 4 [(3, .int (nI (i + 6))), (2, .ref (ad' 0)), (1, .ref (ad 0)), (0, .ref b)] → W p l e room_1 s m #[Value.ref b] below meth c H locs cells slots (lw_Z below #[Value.ref b] s) (F0 m 18 ls [])) : W p l e room_1 s m #[Value.ref b] below meth c H locs cells slots (lw_Z below #[Value.ref b] s) (F0 m 493 ls []) := by
  obtain ⟨hx, hb, hr, hml, hown, hts, hX, hbl, hlocks, hgv⟩ := C0
  have hbA : ¬ (fun q : Nat => s.heap.size ≤ q) b := Nat.not_le.mpr hbl
  have hAl : ∀ w ∈ Al, w.before #[Value.ref b] s = true := fun w hw => hts w (Al_tbl hw)
  have CF : CallFix p m c code 4 s #[Value.ref b] (g_ws yX5_cut cX5_cut 5 (some .int)) R_law := ⟨hx, hb, hml, hown, fun w hw => (List.mem_cons.mp hw).elim (fun q => by rw [q]; exact hAl _ kw_X5_cut.1.1) (hAl w)⟩
  have hA1 : ∀ q, g_A ad 55 q → s.heap.size ≤ q := fun q ⟨i, hi, e⟩ => by rw [e]; exact hold i hi
  have hA2 : ∀ q, g_A ad' 14 q → s.heap.size ≤ q := fun q ⟨i, hi, e⟩ => by rw [e]; exact hold2 i hi
  have hno1 : ∀ i, i < 55 → ¬ g_A ad' 14 (ad i) := fun i hi ⟨j, hj, e⟩ => hap i j hi hj e
  have hno2 : ∀ j, j < 14 → ¬ g_A ad 55 (ad' j) := fun j hj ⟨i, hi, e⟩ => hap i j hi hj e.symm
  refine lv_aload_n hx hb dL_law_493 rfl (lv_at hl 2 rfl) ?_
  refine lv_aload_n hx hb dL_law_494 rfl (lv_at hl 3 rfl) ?_
  refine lv_iload_n hx hb dL_law_495 rfl (lv_at hl 0 rfl) ?_
  refine lv_iconst (v := nI 1) hx hb dL_law_496 (by decide) ?_
  refine x_iadd hx hb dL_law_497 ?_
  refine va_sld hx hb hX hbl hbA hS (i := nI (i + 1)) (vp_in_nI (by omega) (by omega)) dL_law_498 ?_
  rw [nI_clamp (by omega)]
  obtain ⟨r, M1, J1, N1, K1, ca, cb, h1⟩ := o_count (l := l) (g := g) hI hI2 h (xs (i + 1))
  refine x_call2 CF hK hP hS hA1 hl (As := [.int (xs (i + 1))]) (rest := []) ca kw_X5_count wd2_69 (by decide) dX_0 rfl rfl ⟨Nat.le_of_ble_eq_true rfl, Nat.le_of_ble_eq_true rfl⟩ hfit (Nat.le_of_ble_eq_true rfl) dL_law_499 (fun H1 locs hP hS hk => ?_)
  have hP2 := hP2.other hk hno2
  refine lv_aload_n hx hb dL_law_502 rfl (lv_at hl 1 rfl) ?_
  refine lv_aload_n hx hb dL_law_503 rfl (lv_at hl 3 rfl) ?_
  refine lv_iload_n hx hb dL_law_504 rfl (lv_at hl 0 rfl) ?_
  refine lv_iconst (v := nI 1) hx hb dL_law_505 (by decide) ?_
  refine x_iadd hx hb dL_law_506 ?_
  refine va_sld hx hb hX hbl hbA hS (i := nI (i + 1)) (vp_in_nI (by omega) (by omega)) dL_law_507 ?_
  rw [nI_clamp (by omega)]
  refine x_call2 CF hK hP2 hS hA2 hl (As := [.int (xs (i + 1))]) (rest := [.int r]) cb kw_X6_count wd4_86 (by decide) dR_0 rfl rfl ⟨Nat.le_of_ble_eq_true rfl, Nat.le_of_ble_eq_true rfl⟩ hfit (Nat.le_of_ble_eq_true rfl) dL_law_508 (fun H2 locs hP2 hS hk => ?_)
  have hP := hP.other hk hno1
  refine lv_icmp_eq (tgt := 1232) hx hb dL_law_511 (by decide) (fun _ => ?_) (fun c9 => absurd rfl c9)
  refine lv_iinc (v := nI (i + 6)) (lv' := [(3, .int (nI (i + 6))), (2, .ref (ad' 0)), (1, .ref (ad 0)), (0, .ref b)]) hx hb dL_law_1232 hl (k := 0) rfl (n_inc i 6) (by decide) rfl (fun ls hl => ?_)
  refine lv_goto (tgt := 18) hx hb dL_law_1235 (by decide) ?_
  exact kk M1 N1 J1 K1 _ _ ls h1 hP hP2 hS hl
set_option maxHeartbeats 4000000 in
set_option maxRecDepth 100000 in
theorem lw_arm_10 {p : Program} {l : Launch} {e : Env} {s : State} {m : MethodId} {below : List Frame} {meth : Method} {c : Code} {b L : Nat} {xs : Nat → Int32} (C0 : lw_At p s m meth c b L xs) {g : gE} {ad ad' : Nat → Nat} (hI : g_inj ad 55) (hI2 : g_inj ad' 14) (hap : g_ap ad ad') (hold : ∀ i, i < 55 → s.heap.size ≤ ad i) (hold2 : ∀ i, i < 14 → s.heap.size ≤ ad' i) (hK : g_K g s) {cells slots : Nat} (hfit : cells ≤ 600000 ∧ slots ≤ 7302250) (i : Nat) (hi : i + 6 ≤ L) (hL : L ≤ 3072) (M N : gMem) (J K : gMeL) (h : RelA M N J K) (H : Heap) (locs : List Loc) (ls : Array Slot) (hP : g_P g ad dsX 55 M J H) (hP2 : g_P g ad' dsR 14 N K H) (hS : va_S (fun q => s.heap.size ≤ q) s.heap H locs) (hl : lv_has ls 4 [(3, .int (nI i)), (2, .ref (ad' 0)), (1, .ref (ad 0)), (0, .ref b)]) (kk : ∀ (M N : gMem) (J K : gMeL) (H : Heap) (locs : List Loc) (ls : Array Slot), RelA M N J K → g_P g ad dsX 55 M J H → g_P g ad' dsR 14 N K H → va_S (fun q => s.heap.size ≤ q) s.heap H locs → lv_has ls 4 [(3, .int (nI (i + 6))), (2, .ref (ad' 0)), (1, .ref (ad 0)), (0, .ref b)] → W p l e room_1 s m #[Value.ref b] below meth c H locs cells slots (lw_Z below #[Value.ref b] s) (F0 m 18 ls [])) : W p l e room_1 s m #[Value.ref b] below meth c H locs cells slots (lw_Z below #[Value.ref b] s) (F0 m 516 ls []) := by
  obtain ⟨hx, hb, hr, hml, hown, hts, hX, hbl, hlocks, hgv⟩ := C0
  have hbA : ¬ (fun q : Nat => s.heap.size ≤ q) b := Nat.not_le.mpr hbl
  have hAl : ∀ w ∈ Al, w.before #[Value.ref b] s = true := fun w hw => hts w (Al_tbl hw)
  have CF : CallFix p m c code 4 s #[Value.ref b] (g_ws yX5_cut cX5_cut 5 (some .int)) R_law := ⟨hx, hb, hml, hown, fun w hw => (List.mem_cons.mp hw).elim (fun q => by rw [q]; exact hAl _ kw_X5_cut.1.1) (hAl w)⟩
  have hA1 : ∀ q, g_A ad 55 q → s.heap.size ≤ q := fun q ⟨i, hi, e⟩ => by rw [e]; exact hold i hi
  have hA2 : ∀ q, g_A ad' 14 q → s.heap.size ≤ q := fun q ⟨i, hi, e⟩ => by rw [e]; exact hold2 i hi
  have hno1 : ∀ i, i < 55 → ¬ g_A ad' 14 (ad i) := fun i hi ⟨j, hj, e⟩ => hap i j hi hj e
  have hno2 : ∀ j, j < 14 → ¬ g_A ad 55 (ad' j) := fun j hj ⟨i, hi, e⟩ => hap i j hi hj e.symm
  refine lv_aload_n hx hb dL_law_516 rfl (lv_at hl 2 rfl) ?_
  refine lv_aload_n hx hb dL_law_517 rfl (lv_at hl 3 rfl) ?_
  refine lv_iload_n hx hb dL_law_518 rfl (lv_at hl 0 rfl) ?_
  refine lv_iconst (v := nI 1) hx hb dL_law_519 (by decide) ?_
  refine x_iadd hx hb dL_law_520 ?_
  refine va_sld hx hb hX hbl hbA hS (i := nI (i + 1)) (vp_in_nI (by omega) (by omega)) dL_law_521 ?_
  rw [nI_clamp (by omega)]
  refine lv_aload_n hx hb dL_law_522 rfl (lv_at hl 3 rfl) ?_
  refine lv_iload_n hx hb dL_law_523 rfl (lv_at hl 0 rfl) ?_
  refine lv_iconst (v := nI 2) hx hb dL_law_524 (by decide) ?_
  refine x_iadd hx hb dL_law_525 ?_
  refine va_sld hx hb hX hbl hbA hS (i := nI (i + 2)) (vp_in_nI (by omega) (by omega)) dL_law_526 ?_
  rw [nI_clamp (by omega)]
  obtain ⟨r, M1, J1, N1, K1, ca, cb, h1⟩ := o_height (l := l) (g := g) hI hI2 h (xs (i + 1)) (xs (i + 2))
  refine x_call2 CF hK hP hS hA1 hl (As := [.int (xs (i + 1)), .int (xs (i + 2))]) (rest := []) ca kw_X5_height wd2_98 (by decide) dX_0 rfl rfl ⟨Nat.le_of_ble_eq_true rfl, Nat.le_of_ble_eq_true rfl⟩ hfit (Nat.le_of_ble_eq_true rfl) dL_law_527 (fun H1 locs hP hS hk => ?_)
  have hP2 := hP2.other hk hno2
  refine lv_aload_n hx hb dL_law_530 rfl (lv_at hl 1 rfl) ?_
  refine lv_aload_n hx hb dL_law_531 rfl (lv_at hl 3 rfl) ?_
  refine lv_iload_n hx hb dL_law_532 rfl (lv_at hl 0 rfl) ?_
  refine lv_iconst (v := nI 1) hx hb dL_law_533 (by decide) ?_
  refine x_iadd hx hb dL_law_534 ?_
  refine va_sld hx hb hX hbl hbA hS (i := nI (i + 1)) (vp_in_nI (by omega) (by omega)) dL_law_535 ?_
  rw [nI_clamp (by omega)]
  refine lv_aload_n hx hb dL_law_536 rfl (lv_at hl 3 rfl) ?_
  refine lv_iload_n hx hb dL_law_537 rfl (lv_at hl 0 rfl) ?_
  refine lv_iconst (v := nI 2) hx hb dL_law_538 (by decide) ?_
  refine x_iadd hx hb dL_law_539 ?_
  refine va_sld hx hb hX hbl hbA hS (i := nI (i + 2)) (vp_in_nI (by omega) (by omega)) dL_law_540 ?_
  rw [nI_clamp (by omega)]
  refine x_call2 CF hK hP2 hS hA2 hl (As := [.int (xs (i + 1)), .int (xs (i + 2))]) (rest := [.int r]) cb kw_X6_height wd3_215 (by decide) dR_0 rfl rfl ⟨Nat.le_of_ble_eq_true rfl, Nat.le_of_ble_eq_true rfl⟩ hfit (Nat.le_of_ble_eq_true rfl) dL_law_541 (fun H2 locs hP2 hS hk => ?_)
  have hP := hP.other hk hno1
  refine lv_icmp_eq (tgt := 1232) hx hb dL_law_544 (by decide) (fun _ => ?_) (fun c9 => absurd rfl c9)
  refine lv_iinc (v := nI (i + 6)) (lv' := [(3, .int (nI (i + 6))), (2, .ref (ad' 0)), (1, .ref (ad 0)), (0, .ref b)]) hx hb dL_law_1232 hl (k := 0) rfl (n_inc i 6) (by decide) rfl (fun ls hl => ?_)
  refine lv_goto (tgt := 18) hx hb dL_law_1235 (by decide) ?_
  exact kk M1 N1 J1 K1 _ _ ls h1 hP hP2 hS hl
set_option maxHeartbeats 4000000 in
set_option maxRecDepth 100000 in
theorem lw_arm_11 {p : Program} {l : Launch} {e : Env} {s : State} {m : MethodId} {below : List Frame} {meth : Method} {c : Code} {b L : Nat} {xs : Nat → Int32} (C0 : lw_At p s m meth c b L xs) {g : gE} {ad ad' : Nat → Nat} (hI : g_inj ad 55) (hI2 : g_inj ad' 14) (hap : g_ap ad ad') (hold : ∀ i, i < 55 → s.heap.size ≤ ad i) (hold2 : ∀ i, i < 14 → s.heap.size ≤ ad' i) (hK : g_K g s) {cells slots : Nat} (hfit : cells ≤ 600000 ∧ slots ≤ 7302250) (i : Nat) (hi : i + 6 ≤ L) (hL : L ≤ 3072) (M N : gMem) (J K : gMeL) (h : RelA M N J K) (H : Heap) (locs : List Loc) (ls : Array Slot) (hP : g_P g ad dsX 55 M J H) (hP2 : g_P g ad' dsR 14 N K H) (hS : va_S (fun q => s.heap.size ≤ q) s.heap H locs) (hl : lv_has ls 4 [(3, .int (nI i)), (2, .ref (ad' 0)), (1, .ref (ad 0)), (0, .ref b)]) (kk : ∀ (M N : gMem) (J K : gMeL) (H : Heap) (locs : List Loc) (ls : Array Slot), RelA M N J K → g_P g ad dsX 55 M J H → g_P g ad' dsR 14 N K H → va_S (fun q => s.heap.size ≤ q) s.heap H locs → lv_has ls 4 [(3, .int (nI (i + 6))), (2, .ref (ad' 0)), (1, .ref (ad 0)), (0, .ref b)] → W p l e room_1 s m #[Value.ref b] below meth c H locs cells slots (lw_Z below #[Value.ref b] s) (F0 m 18 ls [])) : W p l e room_1 s m #[Value.ref b] below meth c H locs cells slots (lw_Z below #[Value.ref b] s) (F0 m 549 ls []) := by
  obtain ⟨hx, hb, hr, hml, hown, hts, hX, hbl, hlocks, hgv⟩ := C0
  have hbA : ¬ (fun q : Nat => s.heap.size ≤ q) b := Nat.not_le.mpr hbl
  have hAl : ∀ w ∈ Al, w.before #[Value.ref b] s = true := fun w hw => hts w (Al_tbl hw)
  have CF : CallFix p m c code 4 s #[Value.ref b] (g_ws yX5_cut cX5_cut 5 (some .int)) R_law := ⟨hx, hb, hml, hown, fun w hw => (List.mem_cons.mp hw).elim (fun q => by rw [q]; exact hAl _ kw_X5_cut.1.1) (hAl w)⟩
  have hA1 : ∀ q, g_A ad 55 q → s.heap.size ≤ q := fun q ⟨i, hi, e⟩ => by rw [e]; exact hold i hi
  have hA2 : ∀ q, g_A ad' 14 q → s.heap.size ≤ q := fun q ⟨i, hi, e⟩ => by rw [e]; exact hold2 i hi
  have hno1 : ∀ i, i < 55 → ¬ g_A ad' 14 (ad i) := fun i hi ⟨j, hj, e⟩ => hap i j hi hj e
  have hno2 : ∀ j, j < 14 → ¬ g_A ad 55 (ad' j) := fun j hj ⟨i, hi, e⟩ => hap i j hi hj e.symm
  refine lv_aload_n hx hb dL_law_549 rfl (lv_at hl 2 rfl) ?_
  refine lv_aload_n hx hb dL_law_550 rfl (lv_at hl 3 rfl) ?_
  refine lv_iload_n hx hb dL_law_551 rfl (lv_at hl 0 rfl) ?_
  refine lv_iconst (v := nI 1) hx hb dL_law_552 (by decide) ?_
  refine x_iadd hx hb dL_law_553 ?_
  refine va_sld hx hb hX hbl hbA hS (i := nI (i + 1)) (vp_in_nI (by omega) (by omega)) dL_law_554 ?_
  rw [nI_clamp (by omega)]
  obtain ⟨r, M1, J1, N1, K1, ca, cb, h1⟩ := o_ups (l := l) (g := g) hI hI2 h (xs (i + 1))
  refine x_call2 CF hK hP hS hA1 hl (As := [.int (xs (i + 1))]) (rest := []) ca kw_X5_ups wd2_103 (by decide) dX_0 rfl rfl ⟨Nat.le_of_ble_eq_true rfl, Nat.le_of_ble_eq_true rfl⟩ hfit (Nat.le_of_ble_eq_true rfl) dL_law_555 (fun H1 locs hP hS hk => ?_)
  have hP2 := hP2.other hk hno2
  refine lv_aload_n hx hb dL_law_558 rfl (lv_at hl 1 rfl) ?_
  refine lv_aload_n hx hb dL_law_559 rfl (lv_at hl 3 rfl) ?_
  refine lv_iload_n hx hb dL_law_560 rfl (lv_at hl 0 rfl) ?_
  refine lv_iconst (v := nI 1) hx hb dL_law_561 (by decide) ?_
  refine x_iadd hx hb dL_law_562 ?_
  refine va_sld hx hb hX hbl hbA hS (i := nI (i + 1)) (vp_in_nI (by omega) (by omega)) dL_law_563 ?_
  rw [nI_clamp (by omega)]
  refine x_call2 CF hK hP2 hS hA2 hl (As := [.int (xs (i + 1))]) (rest := [.int r]) cb kw_X6_ups wd3_231 (by decide) dR_0 rfl rfl ⟨Nat.le_of_ble_eq_true rfl, Nat.le_of_ble_eq_true rfl⟩ hfit (Nat.le_of_ble_eq_true rfl) dL_law_564 (fun H2 locs hP2 hS hk => ?_)
  have hP := hP.other hk hno1
  refine lv_icmp_eq (tgt := 1232) hx hb dL_law_567 (by decide) (fun _ => ?_) (fun c9 => absurd rfl c9)
  refine lv_iinc (v := nI (i + 6)) (lv' := [(3, .int (nI (i + 6))), (2, .ref (ad' 0)), (1, .ref (ad 0)), (0, .ref b)]) hx hb dL_law_1232 hl (k := 0) rfl (n_inc i 6) (by decide) rfl (fun ls hl => ?_)
  refine lv_goto (tgt := 18) hx hb dL_law_1235 (by decide) ?_
  exact kk M1 N1 J1 K1 _ _ ls h1 hP hP2 hS hl
set_option maxHeartbeats 4000000 in
set_option maxRecDepth 100000 in
theorem lw_arm_12 {p : Program} {l : Launch} {e : Env} {s : State} {m : MethodId} {below : List Frame} {meth : Method} {c : Code} {b L : Nat} {xs : Nat → Int32} (C0 : lw_At p s m meth c b L xs) {g : gE} {ad ad' : Nat → Nat} (hI : g_inj ad 55) (hI2 : g_inj ad' 14) (hap : g_ap ad ad') (hold : ∀ i, i < 55 → s.heap.size ≤ ad i) (hold2 : ∀ i, i < 14 → s.heap.size ≤ ad' i) (hK : g_K g s) {cells slots : Nat} (hfit : cells ≤ 600000 ∧ slots ≤ 7302250) (i : Nat) (hi : i + 6 ≤ L) (hL : L ≤ 3072) (M N : gMem) (J K : gMeL) (h : RelA M N J K) (H : Heap) (locs : List Loc) (ls : Array Slot) (hP : g_P g ad dsX 55 M J H) (hP2 : g_P g ad' dsR 14 N K H) (hS : va_S (fun q => s.heap.size ≤ q) s.heap H locs) (hl : lv_has ls 4 [(3, .int (nI i)), (2, .ref (ad' 0)), (1, .ref (ad 0)), (0, .ref b)]) (kk : ∀ (M N : gMem) (J K : gMeL) (H : Heap) (locs : List Loc) (ls : Array Slot), RelA M N J K → g_P g ad dsX 55 M J H → g_P g ad' dsR 14 N K H → va_S (fun q => s.heap.size ≤ q) s.heap H locs → lv_has ls 4 [(3, .int (nI (i + 6))), (2, .ref (ad' 0)), (1, .ref (ad 0)), (0, .ref b)] → W p l e room_1 s m #[Value.ref b] below meth c H locs cells slots (lw_Z below #[Value.ref b] s) (F0 m 18 ls [])) : W p l e room_1 s m #[Value.ref b] below meth c H locs cells slots (lw_Z below #[Value.ref b] s) (F0 m 572 ls []) := by
  obtain ⟨hx, hb, hr, hml, hown, hts, hX, hbl, hlocks, hgv⟩ := C0
  have hbA : ¬ (fun q : Nat => s.heap.size ≤ q) b := Nat.not_le.mpr hbl
  have hAl : ∀ w ∈ Al, w.before #[Value.ref b] s = true := fun w hw => hts w (Al_tbl hw)
  have CF : CallFix p m c code 4 s #[Value.ref b] (g_ws yX5_cut cX5_cut 5 (some .int)) R_law := ⟨hx, hb, hml, hown, fun w hw => (List.mem_cons.mp hw).elim (fun q => by rw [q]; exact hAl _ kw_X5_cut.1.1) (hAl w)⟩
  have hA1 : ∀ q, g_A ad 55 q → s.heap.size ≤ q := fun q ⟨i, hi, e⟩ => by rw [e]; exact hold i hi
  have hA2 : ∀ q, g_A ad' 14 q → s.heap.size ≤ q := fun q ⟨i, hi, e⟩ => by rw [e]; exact hold2 i hi
  have hno1 : ∀ i, i < 55 → ¬ g_A ad' 14 (ad i) := fun i hi ⟨j, hj, e⟩ => hap i j hi hj e
  have hno2 : ∀ j, j < 14 → ¬ g_A ad 55 (ad' j) := fun j hj ⟨i, hi, e⟩ => hap i j hi hj e.symm
  refine lv_aload_n hx hb dL_law_572 rfl (lv_at hl 2 rfl) ?_
  refine lv_aload_n hx hb dL_law_573 rfl (lv_at hl 3 rfl) ?_
  refine lv_iload_n hx hb dL_law_574 rfl (lv_at hl 0 rfl) ?_
  refine lv_iconst (v := nI 1) hx hb dL_law_575 (by decide) ?_
  refine x_iadd hx hb dL_law_576 ?_
  refine va_sld hx hb hX hbl hbA hS (i := nI (i + 1)) (vp_in_nI (by omega) (by omega)) dL_law_577 ?_
  rw [nI_clamp (by omega)]
  obtain ⟨r, M1, J1, N1, K1, ca, cb, h1⟩ := o_turn (l := l) (g := g) hI hI2 h (xs (i + 1))
  refine x_call2 CF hK hP hS hA1 hl (As := [.int (xs (i + 1))]) (rest := []) ca kw_X5_turn wd2_115 (by decide) dX_0 rfl rfl ⟨Nat.le_of_ble_eq_true rfl, Nat.le_of_ble_eq_true rfl⟩ hfit (Nat.le_of_ble_eq_true rfl) dL_law_578 (fun H1 locs hP hS hk => ?_)
  have hP2 := hP2.other hk hno2
  refine lv_aload_n hx hb dL_law_581 rfl (lv_at hl 1 rfl) ?_
  refine lv_aload_n hx hb dL_law_582 rfl (lv_at hl 3 rfl) ?_
  refine lv_iload_n hx hb dL_law_583 rfl (lv_at hl 0 rfl) ?_
  refine lv_iconst (v := nI 1) hx hb dL_law_584 (by decide) ?_
  refine x_iadd hx hb dL_law_585 ?_
  refine va_sld hx hb hX hbl hbA hS (i := nI (i + 1)) (vp_in_nI (by omega) (by omega)) dL_law_586 ?_
  rw [nI_clamp (by omega)]
  refine x_call2 CF hK hP2 hS hA2 hl (As := [.int (xs (i + 1))]) (rest := [.int r]) cb kw_X6_turn wd4_10 (by decide) dR_0 rfl rfl ⟨Nat.le_of_ble_eq_true rfl, Nat.le_of_ble_eq_true rfl⟩ hfit (Nat.le_of_ble_eq_true rfl) dL_law_587 (fun H2 locs hP2 hS hk => ?_)
  have hP := hP.other hk hno1
  refine lv_icmp_eq (tgt := 1232) hx hb dL_law_590 (by decide) (fun _ => ?_) (fun c9 => absurd rfl c9)
  refine lv_iinc (v := nI (i + 6)) (lv' := [(3, .int (nI (i + 6))), (2, .ref (ad' 0)), (1, .ref (ad 0)), (0, .ref b)]) hx hb dL_law_1232 hl (k := 0) rfl (n_inc i 6) (by decide) rfl (fun ls hl => ?_)
  refine lv_goto (tgt := 18) hx hb dL_law_1235 (by decide) ?_
  exact kk M1 N1 J1 K1 _ _ ls h1 hP hP2 hS hl
set_option maxHeartbeats 4000000 in
set_option maxRecDepth 100000 in
theorem lw_arm_13 {p : Program} {l : Launch} {e : Env} {s : State} {m : MethodId} {below : List Frame} {meth : Method} {c : Code} {b L : Nat} {xs : Nat → Int32} (C0 : lw_At p s m meth c b L xs) {g : gE} {ad ad' : Nat → Nat} (hI : g_inj ad 55) (hI2 : g_inj ad' 14) (hap : g_ap ad ad') (hold : ∀ i, i < 55 → s.heap.size ≤ ad i) (hold2 : ∀ i, i < 14 → s.heap.size ≤ ad' i) (hK : g_K g s) {cells slots : Nat} (hfit : cells ≤ 600000 ∧ slots ≤ 7302250) (i : Nat) (hi : i + 6 ≤ L) (hL : L ≤ 3072) (M N : gMem) (J K : gMeL) (h : RelA M N J K) (H : Heap) (locs : List Loc) (ls : Array Slot) (hP : g_P g ad dsX 55 M J H) (hP2 : g_P g ad' dsR 14 N K H) (hS : va_S (fun q => s.heap.size ≤ q) s.heap H locs) (hl : lv_has ls 4 [(3, .int (nI i)), (2, .ref (ad' 0)), (1, .ref (ad 0)), (0, .ref b)]) (kk : ∀ (M N : gMem) (J K : gMeL) (H : Heap) (locs : List Loc) (ls : Array Slot), RelA M N J K → g_P g ad dsX 55 M J H → g_P g ad' dsR 14 N K H → va_S (fun q => s.heap.size ≤ q) s.heap H locs → lv_has ls 4 [(3, .int (nI (i + 6))), (2, .ref (ad' 0)), (1, .ref (ad 0)), (0, .ref b)] → W p l e room_1 s m #[Value.ref b] below meth c H locs cells slots (lw_Z below #[Value.ref b] s) (F0 m 18 ls [])) : W p l e room_1 s m #[Value.ref b] below meth c H locs cells slots (lw_Z below #[Value.ref b] s) (F0 m 595 ls []) := by
  obtain ⟨hx, hb, hr, hml, hown, hts, hX, hbl, hlocks, hgv⟩ := C0
  have hbA : ¬ (fun q : Nat => s.heap.size ≤ q) b := Nat.not_le.mpr hbl
  have hAl : ∀ w ∈ Al, w.before #[Value.ref b] s = true := fun w hw => hts w (Al_tbl hw)
  have CF : CallFix p m c code 4 s #[Value.ref b] (g_ws yX5_cut cX5_cut 5 (some .int)) R_law := ⟨hx, hb, hml, hown, fun w hw => (List.mem_cons.mp hw).elim (fun q => by rw [q]; exact hAl _ kw_X5_cut.1.1) (hAl w)⟩
  have hA1 : ∀ q, g_A ad 55 q → s.heap.size ≤ q := fun q ⟨i, hi, e⟩ => by rw [e]; exact hold i hi
  have hA2 : ∀ q, g_A ad' 14 q → s.heap.size ≤ q := fun q ⟨i, hi, e⟩ => by rw [e]; exact hold2 i hi
  have hno1 : ∀ i, i < 55 → ¬ g_A ad' 14 (ad i) := fun i hi ⟨j, hj, e⟩ => hap i j hi hj e
  have hno2 : ∀ j, j < 14 → ¬ g_A ad 55 (ad' j) := fun j hj ⟨i, hi, e⟩ => hap i j hi hj e.symm
  refine lv_aload_n hx hb dL_law_595 rfl (lv_at hl 2 rfl) ?_
  refine lv_aload_n hx hb dL_law_596 rfl (lv_at hl 3 rfl) ?_
  refine lv_iload_n hx hb dL_law_597 rfl (lv_at hl 0 rfl) ?_
  refine lv_iconst (v := nI 1) hx hb dL_law_598 (by decide) ?_
  refine x_iadd hx hb dL_law_599 ?_
  refine va_sld hx hb hX hbl hbA hS (i := nI (i + 1)) (vp_in_nI (by omega) (by omega)) dL_law_600 ?_
  rw [nI_clamp (by omega)]
  refine lv_aload_n hx hb dL_law_601 rfl (lv_at hl 3 rfl) ?_
  refine lv_iload_n hx hb dL_law_602 rfl (lv_at hl 0 rfl) ?_
  refine lv_iconst (v := nI 2) hx hb dL_law_603 (by decide) ?_
  refine x_iadd hx hb dL_law_604 ?_
  refine va_sld hx hb hX hbl hbA hS (i := nI (i + 2)) (vp_in_nI (by omega) (by omega)) dL_law_605 ?_
  rw [nI_clamp (by omega)]
  obtain ⟨r, M1, J1, N1, K1, ca, cb, h1⟩ := o_strikes (l := l) (g := g) hI hI2 h (xs (i + 1)) (xs (i + 2))
  refine x_call2 CF hK hP hS hA1 hl (As := [.int (xs (i + 1)), .int (xs (i + 2))]) (rest := []) ca kw_X5_strikes wd2_152 (by decide) dX_0 rfl rfl ⟨Nat.le_of_ble_eq_true rfl, Nat.le_of_ble_eq_true rfl⟩ hfit (Nat.le_of_ble_eq_true rfl) dL_law_606 (fun H1 locs hP hS hk => ?_)
  have hP2 := hP2.other hk hno2
  refine lv_aload_n hx hb dL_law_609 rfl (lv_at hl 1 rfl) ?_
  refine lv_aload_n hx hb dL_law_610 rfl (lv_at hl 3 rfl) ?_
  refine lv_iload_n hx hb dL_law_611 rfl (lv_at hl 0 rfl) ?_
  refine lv_iconst (v := nI 1) hx hb dL_law_612 (by decide) ?_
  refine x_iadd hx hb dL_law_613 ?_
  refine va_sld hx hb hX hbl hbA hS (i := nI (i + 1)) (vp_in_nI (by omega) (by omega)) dL_law_614 ?_
  rw [nI_clamp (by omega)]
  refine lv_aload_n hx hb dL_law_615 rfl (lv_at hl 3 rfl) ?_
  refine lv_iload_n hx hb dL_law_616 rfl (lv_at hl 0 rfl) ?_
  refine lv_iconst (v := nI 2) hx hb dL_law_617 (by decide) ?_
  refine x_iadd hx hb dL_law_618 ?_
  refine va_sld hx hb hX hbl hbA hS (i := nI (i + 2)) (vp_in_nI (by omega) (by omega)) dL_law_619 ?_
  rw [nI_clamp (by omega)]
  refine x_call2 CF hK hP2 hS hA2 hl (As := [.int (xs (i + 1)), .int (xs (i + 2))]) (rest := [.int r]) cb kw_X6_strikes wd3_239 (by decide) dR_0 rfl rfl ⟨Nat.le_of_ble_eq_true rfl, Nat.le_of_ble_eq_true rfl⟩ hfit (Nat.le_of_ble_eq_true rfl) dL_law_620 (fun H2 locs hP2 hS hk => ?_)
  have hP := hP.other hk hno1
  refine lv_icmp_eq (tgt := 1232) hx hb dL_law_623 (by decide) (fun _ => ?_) (fun c9 => absurd rfl c9)
  refine lv_iinc (v := nI (i + 6)) (lv' := [(3, .int (nI (i + 6))), (2, .ref (ad' 0)), (1, .ref (ad 0)), (0, .ref b)]) hx hb dL_law_1232 hl (k := 0) rfl (n_inc i 6) (by decide) rfl (fun ls hl => ?_)
  refine lv_goto (tgt := 18) hx hb dL_law_1235 (by decide) ?_
  exact kk M1 N1 J1 K1 _ _ ls h1 hP hP2 hS hl
set_option maxHeartbeats 4000000 in
set_option maxRecDepth 100000 in
theorem lw_arm_14 {p : Program} {l : Launch} {e : Env} {s : State} {m : MethodId} {below : List Frame} {meth : Method} {c : Code} {b L : Nat} {xs : Nat → Int32} (C0 : lw_At p s m meth c b L xs) {g : gE} {ad ad' : Nat → Nat} (hI : g_inj ad 55) (hI2 : g_inj ad' 14) (hap : g_ap ad ad') (hold : ∀ i, i < 55 → s.heap.size ≤ ad i) (hold2 : ∀ i, i < 14 → s.heap.size ≤ ad' i) (hK : g_K g s) {cells slots : Nat} (hfit : cells ≤ 600000 ∧ slots ≤ 7302250) (i : Nat) (hi : i + 6 ≤ L) (hL : L ≤ 3072) (M N : gMem) (J K : gMeL) (h : RelA M N J K) (H : Heap) (locs : List Loc) (ls : Array Slot) (hP : g_P g ad dsX 55 M J H) (hP2 : g_P g ad' dsR 14 N K H) (hS : va_S (fun q => s.heap.size ≤ q) s.heap H locs) (hl : lv_has ls 4 [(3, .int (nI i)), (2, .ref (ad' 0)), (1, .ref (ad 0)), (0, .ref b)]) (kk : ∀ (M N : gMem) (J K : gMeL) (H : Heap) (locs : List Loc) (ls : Array Slot), RelA M N J K → g_P g ad dsX 55 M J H → g_P g ad' dsR 14 N K H → va_S (fun q => s.heap.size ≤ q) s.heap H locs → lv_has ls 4 [(3, .int (nI (i + 6))), (2, .ref (ad' 0)), (1, .ref (ad 0)), (0, .ref b)] → W p l e room_1 s m #[Value.ref b] below meth c H locs cells slots (lw_Z below #[Value.ref b] s) (F0 m 18 ls [])) : W p l e room_1 s m #[Value.ref b] below meth c H locs cells slots (lw_Z below #[Value.ref b] s) (F0 m 628 ls []) := by
  obtain ⟨hx, hb, hr, hml, hown, hts, hX, hbl, hlocks, hgv⟩ := C0
  have hbA : ¬ (fun q : Nat => s.heap.size ≤ q) b := Nat.not_le.mpr hbl
  have hAl : ∀ w ∈ Al, w.before #[Value.ref b] s = true := fun w hw => hts w (Al_tbl hw)
  have CF : CallFix p m c code 4 s #[Value.ref b] (g_ws yX5_cut cX5_cut 5 (some .int)) R_law := ⟨hx, hb, hml, hown, fun w hw => (List.mem_cons.mp hw).elim (fun q => by rw [q]; exact hAl _ kw_X5_cut.1.1) (hAl w)⟩
  have hA1 : ∀ q, g_A ad 55 q → s.heap.size ≤ q := fun q ⟨i, hi, e⟩ => by rw [e]; exact hold i hi
  have hA2 : ∀ q, g_A ad' 14 q → s.heap.size ≤ q := fun q ⟨i, hi, e⟩ => by rw [e]; exact hold2 i hi
  have hno1 : ∀ i, i < 55 → ¬ g_A ad' 14 (ad i) := fun i hi ⟨j, hj, e⟩ => hap i j hi hj e
  have hno2 : ∀ j, j < 14 → ¬ g_A ad 55 (ad' j) := fun j hj ⟨i, hi, e⟩ => hap i j hi hj e.symm
  refine lv_aload_n hx hb dL_law_628 rfl (lv_at hl 2 rfl) ?_
  refine lv_aload_n hx hb dL_law_629 rfl (lv_at hl 3 rfl) ?_
  refine lv_iload_n hx hb dL_law_630 rfl (lv_at hl 0 rfl) ?_
  refine lv_iconst (v := nI 1) hx hb dL_law_631 (by decide) ?_
  refine x_iadd hx hb dL_law_632 ?_
  refine va_sld hx hb hX hbl hbA hS (i := nI (i + 1)) (vp_in_nI (by omega) (by omega)) dL_law_633 ?_
  rw [nI_clamp (by omega)]
  obtain ⟨r, M1, J1, N1, K1, ca, cb, h1⟩ := o_wear (l := l) (g := g) hI hI2 h (xs (i + 1))
  refine x_call2 CF hK hP hS hA1 hl (As := [.int (xs (i + 1))]) (rest := []) ca kw_X5_wear wd2_157 (by decide) dX_0 rfl rfl ⟨Nat.le_of_ble_eq_true rfl, Nat.le_of_ble_eq_true rfl⟩ hfit (Nat.le_of_ble_eq_true rfl) dL_law_634 (fun H1 locs hP hS hk => ?_)
  have hP2 := hP2.other hk hno2
  refine lv_aload_n hx hb dL_law_637 rfl (lv_at hl 1 rfl) ?_
  refine lv_aload_n hx hb dL_law_638 rfl (lv_at hl 3 rfl) ?_
  refine lv_iload_n hx hb dL_law_639 rfl (lv_at hl 0 rfl) ?_
  refine lv_iconst (v := nI 1) hx hb dL_law_640 (by decide) ?_
  refine x_iadd hx hb dL_law_641 ?_
  refine va_sld hx hb hX hbl hbA hS (i := nI (i + 1)) (vp_in_nI (by omega) (by omega)) dL_law_642 ?_
  rw [nI_clamp (by omega)]
  refine x_call2 CF hK hP2 hS hA2 hl (As := [.int (xs (i + 1))]) (rest := [.int r]) cb kw_X6_wear wd4_20 (by decide) dR_0 rfl rfl ⟨Nat.le_of_ble_eq_true rfl, Nat.le_of_ble_eq_true rfl⟩ hfit (Nat.le_of_ble_eq_true rfl) dL_law_643 (fun H2 locs hP2 hS hk => ?_)
  have hP := hP.other hk hno1
  refine lv_icmp_eq (tgt := 1232) hx hb dL_law_646 (by decide) (fun _ => ?_) (fun c9 => absurd rfl c9)
  refine lv_iinc (v := nI (i + 6)) (lv' := [(3, .int (nI (i + 6))), (2, .ref (ad' 0)), (1, .ref (ad 0)), (0, .ref b)]) hx hb dL_law_1232 hl (k := 0) rfl (n_inc i 6) (by decide) rfl (fun ls hl => ?_)
  refine lv_goto (tgt := 18) hx hb dL_law_1235 (by decide) ?_
  exact kk M1 N1 J1 K1 _ _ ls h1 hP hP2 hS hl
set_option maxHeartbeats 4000000 in
set_option maxRecDepth 100000 in
theorem lw_arm_15 {p : Program} {l : Launch} {e : Env} {s : State} {m : MethodId} {below : List Frame} {meth : Method} {c : Code} {b L : Nat} {xs : Nat → Int32} (C0 : lw_At p s m meth c b L xs) {g : gE} {ad ad' : Nat → Nat} (hI : g_inj ad 55) (hI2 : g_inj ad' 14) (hap : g_ap ad ad') (hold : ∀ i, i < 55 → s.heap.size ≤ ad i) (hold2 : ∀ i, i < 14 → s.heap.size ≤ ad' i) (hK : g_K g s) {cells slots : Nat} (hfit : cells ≤ 600000 ∧ slots ≤ 7302250) (i : Nat) (hi : i + 6 ≤ L) (hL : L ≤ 3072) (M N : gMem) (J K : gMeL) (h : RelA M N J K) (H : Heap) (locs : List Loc) (ls : Array Slot) (hP : g_P g ad dsX 55 M J H) (hP2 : g_P g ad' dsR 14 N K H) (hS : va_S (fun q => s.heap.size ≤ q) s.heap H locs) (hl : lv_has ls 4 [(3, .int (nI i)), (2, .ref (ad' 0)), (1, .ref (ad 0)), (0, .ref b)]) (kk : ∀ (M N : gMem) (J K : gMeL) (H : Heap) (locs : List Loc) (ls : Array Slot), RelA M N J K → g_P g ad dsX 55 M J H → g_P g ad' dsR 14 N K H → va_S (fun q => s.heap.size ≤ q) s.heap H locs → lv_has ls 4 [(3, .int (nI (i + 6))), (2, .ref (ad' 0)), (1, .ref (ad 0)), (0, .ref b)] → W p l e room_1 s m #[Value.ref b] below meth c H locs cells slots (lw_Z below #[Value.ref b] s) (F0 m 18 ls [])) : W p l e room_1 s m #[Value.ref b] below meth c H locs cells slots (lw_Z below #[Value.ref b] s) (F0 m 651 ls []) := by
  obtain ⟨hx, hb, hr, hml, hown, hts, hX, hbl, hlocks, hgv⟩ := C0
  have hbA : ¬ (fun q : Nat => s.heap.size ≤ q) b := Nat.not_le.mpr hbl
  have hAl : ∀ w ∈ Al, w.before #[Value.ref b] s = true := fun w hw => hts w (Al_tbl hw)
  have CF : CallFix p m c code 4 s #[Value.ref b] (g_ws yX5_cut cX5_cut 5 (some .int)) R_law := ⟨hx, hb, hml, hown, fun w hw => (List.mem_cons.mp hw).elim (fun q => by rw [q]; exact hAl _ kw_X5_cut.1.1) (hAl w)⟩
  have hA1 : ∀ q, g_A ad 55 q → s.heap.size ≤ q := fun q ⟨i, hi, e⟩ => by rw [e]; exact hold i hi
  have hA2 : ∀ q, g_A ad' 14 q → s.heap.size ≤ q := fun q ⟨i, hi, e⟩ => by rw [e]; exact hold2 i hi
  have hno1 : ∀ i, i < 55 → ¬ g_A ad' 14 (ad i) := fun i hi ⟨j, hj, e⟩ => hap i j hi hj e
  have hno2 : ∀ j, j < 14 → ¬ g_A ad 55 (ad' j) := fun j hj ⟨i, hi, e⟩ => hap i j hi hj e.symm
  refine lv_aload_n hx hb dL_law_651 rfl (lv_at hl 2 rfl) ?_
  refine lv_aload_n hx hb dL_law_652 rfl (lv_at hl 3 rfl) ?_
  refine lv_iload_n hx hb dL_law_653 rfl (lv_at hl 0 rfl) ?_
  refine lv_iconst (v := nI 1) hx hb dL_law_654 (by decide) ?_
  refine x_iadd hx hb dL_law_655 ?_
  refine va_sld hx hb hX hbl hbA hS (i := nI (i + 1)) (vp_in_nI (by omega) (by omega)) dL_law_656 ?_
  rw [nI_clamp (by omega)]
  obtain ⟨r, M1, J1, N1, K1, ca, cb, h1⟩ := o_missed (l := l) (g := g) hI hI2 h (xs (i + 1))
  refine x_call2 CF hK hP hS hA1 hl (As := [.int (xs (i + 1))]) (rest := []) ca kw_X5_missed wd2_168 (by decide) dX_0 rfl rfl ⟨Nat.le_of_ble_eq_true rfl, Nat.le_of_ble_eq_true rfl⟩ hfit (Nat.le_of_ble_eq_true rfl) dL_law_657 (fun H1 locs hP hS hk => ?_)
  have hP2 := hP2.other hk hno2
  refine lv_aload_n hx hb dL_law_660 rfl (lv_at hl 1 rfl) ?_
  refine lv_aload_n hx hb dL_law_661 rfl (lv_at hl 3 rfl) ?_
  refine lv_iload_n hx hb dL_law_662 rfl (lv_at hl 0 rfl) ?_
  refine lv_iconst (v := nI 1) hx hb dL_law_663 (by decide) ?_
  refine x_iadd hx hb dL_law_664 ?_
  refine va_sld hx hb hX hbl hbA hS (i := nI (i + 1)) (vp_in_nI (by omega) (by omega)) dL_law_665 ?_
  rw [nI_clamp (by omega)]
  refine x_call2 CF hK hP2 hS hA2 hl (As := [.int (xs (i + 1))]) (rest := [.int r]) cb kw_X6_missed wd4_24 (by decide) dR_0 rfl rfl ⟨Nat.le_of_ble_eq_true rfl, Nat.le_of_ble_eq_true rfl⟩ hfit (Nat.le_of_ble_eq_true rfl) dL_law_666 (fun H2 locs hP2 hS hk => ?_)
  have hP := hP.other hk hno1
  refine lv_icmp_eq (tgt := 1232) hx hb dL_law_669 (by decide) (fun _ => ?_) (fun c9 => absurd rfl c9)
  refine lv_iinc (v := nI (i + 6)) (lv' := [(3, .int (nI (i + 6))), (2, .ref (ad' 0)), (1, .ref (ad 0)), (0, .ref b)]) hx hb dL_law_1232 hl (k := 0) rfl (n_inc i 6) (by decide) rfl (fun ls hl => ?_)
  refine lv_goto (tgt := 18) hx hb dL_law_1235 (by decide) ?_
  exact kk M1 N1 J1 K1 _ _ ls h1 hP hP2 hS hl
set_option maxHeartbeats 4000000 in
set_option maxRecDepth 100000 in
theorem lw_arm_16 {p : Program} {l : Launch} {e : Env} {s : State} {m : MethodId} {below : List Frame} {meth : Method} {c : Code} {b L : Nat} {xs : Nat → Int32} (C0 : lw_At p s m meth c b L xs) {g : gE} {ad ad' : Nat → Nat} (hI : g_inj ad 55) (hI2 : g_inj ad' 14) (hap : g_ap ad ad') (hold : ∀ i, i < 55 → s.heap.size ≤ ad i) (hold2 : ∀ i, i < 14 → s.heap.size ≤ ad' i) (hK : g_K g s) {cells slots : Nat} (hfit : cells ≤ 600000 ∧ slots ≤ 7302250) (i : Nat) (hi : i + 6 ≤ L) (hL : L ≤ 3072) (M N : gMem) (J K : gMeL) (h : RelA M N J K) (H : Heap) (locs : List Loc) (ls : Array Slot) (hP : g_P g ad dsX 55 M J H) (hP2 : g_P g ad' dsR 14 N K H) (hS : va_S (fun q => s.heap.size ≤ q) s.heap H locs) (hl : lv_has ls 4 [(3, .int (nI i)), (2, .ref (ad' 0)), (1, .ref (ad 0)), (0, .ref b)]) (kk : ∀ (M N : gMem) (J K : gMeL) (H : Heap) (locs : List Loc) (ls : Array Slot), RelA M N J K → g_P g ad dsX 55 M J H → g_P g ad' dsR 14 N K H → va_S (fun q => s.heap.size ≤ q) s.heap H locs → lv_has ls 4 [(3, .int (nI (i + 6))), (2, .ref (ad' 0)), (1, .ref (ad 0)), (0, .ref b)] → W p l e room_1 s m #[Value.ref b] below meth c H locs cells slots (lw_Z below #[Value.ref b] s) (F0 m 18 ls [])) : W p l e room_1 s m #[Value.ref b] below meth c H locs cells slots (lw_Z below #[Value.ref b] s) (F0 m 674 ls []) := by
  obtain ⟨hx, hb, hr, hml, hown, hts, hX, hbl, hlocks, hgv⟩ := C0
  have hbA : ¬ (fun q : Nat => s.heap.size ≤ q) b := Nat.not_le.mpr hbl
  have hAl : ∀ w ∈ Al, w.before #[Value.ref b] s = true := fun w hw => hts w (Al_tbl hw)
  have CF : CallFix p m c code 4 s #[Value.ref b] (g_ws yX5_cut cX5_cut 5 (some .int)) R_law := ⟨hx, hb, hml, hown, fun w hw => (List.mem_cons.mp hw).elim (fun q => by rw [q]; exact hAl _ kw_X5_cut.1.1) (hAl w)⟩
  have hA1 : ∀ q, g_A ad 55 q → s.heap.size ≤ q := fun q ⟨i, hi, e⟩ => by rw [e]; exact hold i hi
  have hA2 : ∀ q, g_A ad' 14 q → s.heap.size ≤ q := fun q ⟨i, hi, e⟩ => by rw [e]; exact hold2 i hi
  have hno1 : ∀ i, i < 55 → ¬ g_A ad' 14 (ad i) := fun i hi ⟨j, hj, e⟩ => hap i j hi hj e
  have hno2 : ∀ j, j < 14 → ¬ g_A ad 55 (ad' j) := fun j hj ⟨i, hi, e⟩ => hap i j hi hj e.symm
  refine lv_aload_n hx hb dL_law_674 rfl (lv_at hl 2 rfl) ?_
  obtain ⟨r, M1, J1, N1, K1, ca, cb, h1⟩ := o_fewest (l := l) (g := g) hI hI2 h 
  refine x_call2 CF hK hP hS hA1 hl (As := []) (rest := []) ca kw_X5_fewest wd2_176 (by decide) dX_0 rfl rfl ⟨Nat.le_of_ble_eq_true rfl, Nat.le_of_ble_eq_true rfl⟩ hfit (Nat.le_of_ble_eq_true rfl) dL_law_675 (fun H1 locs hP hS hk => ?_)
  have hP2 := hP2.other hk hno2
  refine lv_aload_n hx hb dL_law_678 rfl (lv_at hl 1 rfl) ?_
  refine x_call2 CF hK hP2 hS hA2 hl (As := []) (rest := [.int r]) cb kw_X6_fewest wd4_28 (by decide) dR_0 rfl rfl ⟨Nat.le_of_ble_eq_true rfl, Nat.le_of_ble_eq_true rfl⟩ hfit (Nat.le_of_ble_eq_true rfl) dL_law_679 (fun H2 locs hP2 hS hk => ?_)
  have hP := hP.other hk hno1
  refine lv_icmp_eq (tgt := 1232) hx hb dL_law_682 (by decide) (fun _ => ?_) (fun c9 => absurd rfl c9)
  refine lv_iinc (v := nI (i + 6)) (lv' := [(3, .int (nI (i + 6))), (2, .ref (ad' 0)), (1, .ref (ad 0)), (0, .ref b)]) hx hb dL_law_1232 hl (k := 0) rfl (n_inc i 6) (by decide) rfl (fun ls hl => ?_)
  refine lv_goto (tgt := 18) hx hb dL_law_1235 (by decide) ?_
  exact kk M1 N1 J1 K1 _ _ ls h1 hP hP2 hS hl
set_option maxHeartbeats 4000000 in
set_option maxRecDepth 100000 in
theorem lw_arm_17 {p : Program} {l : Launch} {e : Env} {s : State} {m : MethodId} {below : List Frame} {meth : Method} {c : Code} {b L : Nat} {xs : Nat → Int32} (C0 : lw_At p s m meth c b L xs) {g : gE} {ad ad' : Nat → Nat} (hI : g_inj ad 55) (hI2 : g_inj ad' 14) (hap : g_ap ad ad') (hold : ∀ i, i < 55 → s.heap.size ≤ ad i) (hold2 : ∀ i, i < 14 → s.heap.size ≤ ad' i) (hK : g_K g s) {cells slots : Nat} (hfit : cells ≤ 600000 ∧ slots ≤ 7302250) (i : Nat) (hi : i + 6 ≤ L) (hL : L ≤ 3072) (M N : gMem) (J K : gMeL) (h : RelA M N J K) (H : Heap) (locs : List Loc) (ls : Array Slot) (hP : g_P g ad dsX 55 M J H) (hP2 : g_P g ad' dsR 14 N K H) (hS : va_S (fun q => s.heap.size ≤ q) s.heap H locs) (hl : lv_has ls 4 [(3, .int (nI i)), (2, .ref (ad' 0)), (1, .ref (ad 0)), (0, .ref b)]) (kk : ∀ (M N : gMem) (J K : gMeL) (H : Heap) (locs : List Loc) (ls : Array Slot), RelA M N J K → g_P g ad dsX 55 M J H → g_P g ad' dsR 14 N K H → va_S (fun q => s.heap.size ≤ q) s.heap H locs → lv_has ls 4 [(3, .int (nI (i + 6))), (2, .ref (ad' 0)), (1, .ref (ad 0)), (0, .ref b)] → W p l e room_1 s m #[Value.ref b] below meth c H locs cells slots (lw_Z below #[Value.ref b] s) (F0 m 18 ls [])) : W p l e room_1 s m #[Value.ref b] below meth c H locs cells slots (lw_Z below #[Value.ref b] s) (F0 m 687 ls []) := by
  obtain ⟨hx, hb, hr, hml, hown, hts, hX, hbl, hlocks, hgv⟩ := C0
  have hbA : ¬ (fun q : Nat => s.heap.size ≤ q) b := Nat.not_le.mpr hbl
  have hAl : ∀ w ∈ Al, w.before #[Value.ref b] s = true := fun w hw => hts w (Al_tbl hw)
  have CF : CallFix p m c code 4 s #[Value.ref b] (g_ws yX5_cut cX5_cut 5 (some .int)) R_law := ⟨hx, hb, hml, hown, fun w hw => (List.mem_cons.mp hw).elim (fun q => by rw [q]; exact hAl _ kw_X5_cut.1.1) (hAl w)⟩
  have hA1 : ∀ q, g_A ad 55 q → s.heap.size ≤ q := fun q ⟨i, hi, e⟩ => by rw [e]; exact hold i hi
  have hA2 : ∀ q, g_A ad' 14 q → s.heap.size ≤ q := fun q ⟨i, hi, e⟩ => by rw [e]; exact hold2 i hi
  have hno1 : ∀ i, i < 55 → ¬ g_A ad' 14 (ad i) := fun i hi ⟨j, hj, e⟩ => hap i j hi hj e
  have hno2 : ∀ j, j < 14 → ¬ g_A ad 55 (ad' j) := fun j hj ⟨i, hi, e⟩ => hap i j hi hj e.symm
  refine lv_aload_n hx hb dL_law_687 rfl (lv_at hl 2 rfl) ?_
  refine lv_aload_n hx hb dL_law_688 rfl (lv_at hl 3 rfl) ?_
  refine lv_iload_n hx hb dL_law_689 rfl (lv_at hl 0 rfl) ?_
  refine lv_iconst (v := nI 1) hx hb dL_law_690 (by decide) ?_
  refine x_iadd hx hb dL_law_691 ?_
  refine va_sld hx hb hX hbl hbA hS (i := nI (i + 1)) (vp_in_nI (by omega) (by omega)) dL_law_692 ?_
  rw [nI_clamp (by omega)]
  refine lv_aload_n hx hb dL_law_693 rfl (lv_at hl 3 rfl) ?_
  refine lv_iload_n hx hb dL_law_694 rfl (lv_at hl 0 rfl) ?_
  refine lv_iconst (v := nI 2) hx hb dL_law_695 (by decide) ?_
  refine x_iadd hx hb dL_law_696 ?_
  refine va_sld hx hb hX hbl hbA hS (i := nI (i + 2)) (vp_in_nI (by omega) (by omega)) dL_law_697 ?_
  rw [nI_clamp (by omega)]
  obtain ⟨r, M1, J1, N1, K1, ca, cb, h1⟩ := o_share (l := l) (g := g) hI hI2 h (xs (i + 1)) (xs (i + 2))
  refine x_call2 CF hK hP hS hA1 hl (As := [.int (xs (i + 1)), .int (xs (i + 2))]) (rest := []) ca kw_X5_share wd2_200 (by decide) dX_0 rfl rfl ⟨Nat.le_of_ble_eq_true rfl, Nat.le_of_ble_eq_true rfl⟩ hfit (Nat.le_of_ble_eq_true rfl) dL_law_698 (fun H1 locs hP hS hk => ?_)
  have hP2 := hP2.other hk hno2
  refine lv_aload_n hx hb dL_law_701 rfl (lv_at hl 1 rfl) ?_
  refine lv_aload_n hx hb dL_law_702 rfl (lv_at hl 3 rfl) ?_
  refine lv_iload_n hx hb dL_law_703 rfl (lv_at hl 0 rfl) ?_
  refine lv_iconst (v := nI 1) hx hb dL_law_704 (by decide) ?_
  refine x_iadd hx hb dL_law_705 ?_
  refine va_sld hx hb hX hbl hbA hS (i := nI (i + 1)) (vp_in_nI (by omega) (by omega)) dL_law_706 ?_
  rw [nI_clamp (by omega)]
  refine lv_aload_n hx hb dL_law_707 rfl (lv_at hl 3 rfl) ?_
  refine lv_iload_n hx hb dL_law_708 rfl (lv_at hl 0 rfl) ?_
  refine lv_iconst (v := nI 2) hx hb dL_law_709 (by decide) ?_
  refine x_iadd hx hb dL_law_710 ?_
  refine va_sld hx hb hX hbl hbA hS (i := nI (i + 2)) (vp_in_nI (by omega) (by omega)) dL_law_711 ?_
  rw [nI_clamp (by omega)]
  refine x_call2 CF hK hP2 hS hA2 hl (As := [.int (xs (i + 1)), .int (xs (i + 2))]) (rest := [.int r]) cb kw_X6_share wd4_47 (by decide) dR_0 rfl rfl ⟨Nat.le_of_ble_eq_true rfl, Nat.le_of_ble_eq_true rfl⟩ hfit (Nat.le_of_ble_eq_true rfl) dL_law_712 (fun H2 locs hP2 hS hk => ?_)
  have hP := hP.other hk hno1
  refine lv_icmp_eq (tgt := 1232) hx hb dL_law_715 (by decide) (fun _ => ?_) (fun c9 => absurd rfl c9)
  refine lv_iinc (v := nI (i + 6)) (lv' := [(3, .int (nI (i + 6))), (2, .ref (ad' 0)), (1, .ref (ad 0)), (0, .ref b)]) hx hb dL_law_1232 hl (k := 0) rfl (n_inc i 6) (by decide) rfl (fun ls hl => ?_)
  refine lv_goto (tgt := 18) hx hb dL_law_1235 (by decide) ?_
  exact kk M1 N1 J1 K1 _ _ ls h1 hP hP2 hS hl
set_option maxHeartbeats 4000000 in
set_option maxRecDepth 100000 in
theorem lw_arm_18 {p : Program} {l : Launch} {e : Env} {s : State} {m : MethodId} {below : List Frame} {meth : Method} {c : Code} {b L : Nat} {xs : Nat → Int32} (C0 : lw_At p s m meth c b L xs) {g : gE} {ad ad' : Nat → Nat} (hI : g_inj ad 55) (hI2 : g_inj ad' 14) (hap : g_ap ad ad') (hold : ∀ i, i < 55 → s.heap.size ≤ ad i) (hold2 : ∀ i, i < 14 → s.heap.size ≤ ad' i) (hK : g_K g s) {cells slots : Nat} (hfit : cells ≤ 600000 ∧ slots ≤ 7302250) (i : Nat) (hi : i + 6 ≤ L) (hL : L ≤ 3072) (M N : gMem) (J K : gMeL) (h : RelA M N J K) (H : Heap) (locs : List Loc) (ls : Array Slot) (hP : g_P g ad dsX 55 M J H) (hP2 : g_P g ad' dsR 14 N K H) (hS : va_S (fun q => s.heap.size ≤ q) s.heap H locs) (hl : lv_has ls 4 [(3, .int (nI i)), (2, .ref (ad' 0)), (1, .ref (ad 0)), (0, .ref b)]) (kk : ∀ (M N : gMem) (J K : gMeL) (H : Heap) (locs : List Loc) (ls : Array Slot), RelA M N J K → g_P g ad dsX 55 M J H → g_P g ad' dsR 14 N K H → va_S (fun q => s.heap.size ≤ q) s.heap H locs → lv_has ls 4 [(3, .int (nI (i + 6))), (2, .ref (ad' 0)), (1, .ref (ad 0)), (0, .ref b)] → W p l e room_1 s m #[Value.ref b] below meth c H locs cells slots (lw_Z below #[Value.ref b] s) (F0 m 18 ls [])) : W p l e room_1 s m #[Value.ref b] below meth c H locs cells slots (lw_Z below #[Value.ref b] s) (F0 m 720 ls []) := by
  obtain ⟨hx, hb, hr, hml, hown, hts, hX, hbl, hlocks, hgv⟩ := C0
  have hbA : ¬ (fun q : Nat => s.heap.size ≤ q) b := Nat.not_le.mpr hbl
  have hAl : ∀ w ∈ Al, w.before #[Value.ref b] s = true := fun w hw => hts w (Al_tbl hw)
  have CF : CallFix p m c code 4 s #[Value.ref b] (g_ws yX5_cut cX5_cut 5 (some .int)) R_law := ⟨hx, hb, hml, hown, fun w hw => (List.mem_cons.mp hw).elim (fun q => by rw [q]; exact hAl _ kw_X5_cut.1.1) (hAl w)⟩
  have hA1 : ∀ q, g_A ad 55 q → s.heap.size ≤ q := fun q ⟨i, hi, e⟩ => by rw [e]; exact hold i hi
  have hA2 : ∀ q, g_A ad' 14 q → s.heap.size ≤ q := fun q ⟨i, hi, e⟩ => by rw [e]; exact hold2 i hi
  have hno1 : ∀ i, i < 55 → ¬ g_A ad' 14 (ad i) := fun i hi ⟨j, hj, e⟩ => hap i j hi hj e
  have hno2 : ∀ j, j < 14 → ¬ g_A ad 55 (ad' j) := fun j hj ⟨i, hi, e⟩ => hap i j hi hj e.symm
  refine lv_aload_n hx hb dL_law_720 rfl (lv_at hl 2 rfl) ?_
  refine lv_aload_n hx hb dL_law_721 rfl (lv_at hl 3 rfl) ?_
  refine lv_iload_n hx hb dL_law_722 rfl (lv_at hl 0 rfl) ?_
  refine lv_iconst (v := nI 1) hx hb dL_law_723 (by decide) ?_
  refine x_iadd hx hb dL_law_724 ?_
  refine va_sld hx hb hX hbl hbA hS (i := nI (i + 1)) (vp_in_nI (by omega) (by omega)) dL_law_725 ?_
  rw [nI_clamp (by omega)]
  refine lv_aload_n hx hb dL_law_726 rfl (lv_at hl 3 rfl) ?_
  refine lv_iload_n hx hb dL_law_727 rfl (lv_at hl 0 rfl) ?_
  refine lv_iconst (v := nI 2) hx hb dL_law_728 (by decide) ?_
  refine x_iadd hx hb dL_law_729 ?_
  refine va_sld hx hb hX hbl hbA hS (i := nI (i + 2)) (vp_in_nI (by omega) (by omega)) dL_law_730 ?_
  rw [nI_clamp (by omega)]
  obtain ⟨r, M1, J1, N1, K1, ca, cb, h1⟩ := o_pegs (l := l) (g := g) hI hI2 h (xs (i + 1)) (xs (i + 2))
  refine x_call2 CF hK hP hS hA1 hl (As := [.int (xs (i + 1)), .int (xs (i + 2))]) (rest := []) ca kw_X5_pegs wd2_204 (by decide) dX_0 rfl rfl ⟨Nat.le_of_ble_eq_true rfl, Nat.le_of_ble_eq_true rfl⟩ hfit (Nat.le_of_ble_eq_true rfl) dL_law_731 (fun H1 locs hP hS hk => ?_)
  have hP2 := hP2.other hk hno2
  refine lv_aload_n hx hb dL_law_734 rfl (lv_at hl 1 rfl) ?_
  refine lv_aload_n hx hb dL_law_735 rfl (lv_at hl 3 rfl) ?_
  refine lv_iload_n hx hb dL_law_736 rfl (lv_at hl 0 rfl) ?_
  refine lv_iconst (v := nI 1) hx hb dL_law_737 (by decide) ?_
  refine x_iadd hx hb dL_law_738 ?_
  refine va_sld hx hb hX hbl hbA hS (i := nI (i + 1)) (vp_in_nI (by omega) (by omega)) dL_law_739 ?_
  rw [nI_clamp (by omega)]
  refine lv_aload_n hx hb dL_law_740 rfl (lv_at hl 3 rfl) ?_
  refine lv_iload_n hx hb dL_law_741 rfl (lv_at hl 0 rfl) ?_
  refine lv_iconst (v := nI 2) hx hb dL_law_742 (by decide) ?_
  refine x_iadd hx hb dL_law_743 ?_
  refine va_sld hx hb hX hbl hbA hS (i := nI (i + 2)) (vp_in_nI (by omega) (by omega)) dL_law_744 ?_
  rw [nI_clamp (by omega)]
  refine x_call2 CF hK hP2 hS hA2 hl (As := [.int (xs (i + 1)), .int (xs (i + 2))]) (rest := [.int r]) cb kw_X6_pegs wd4_51 (by decide) dR_0 rfl rfl ⟨Nat.le_of_ble_eq_true rfl, Nat.le_of_ble_eq_true rfl⟩ hfit (Nat.le_of_ble_eq_true rfl) dL_law_745 (fun H2 locs hP2 hS hk => ?_)
  have hP := hP.other hk hno1
  refine lv_icmp_eq (tgt := 1232) hx hb dL_law_748 (by decide) (fun _ => ?_) (fun c9 => absurd rfl c9)
  refine lv_iinc (v := nI (i + 6)) (lv' := [(3, .int (nI (i + 6))), (2, .ref (ad' 0)), (1, .ref (ad 0)), (0, .ref b)]) hx hb dL_law_1232 hl (k := 0) rfl (n_inc i 6) (by decide) rfl (fun ls hl => ?_)
  refine lv_goto (tgt := 18) hx hb dL_law_1235 (by decide) ?_
  exact kk M1 N1 J1 K1 _ _ ls h1 hP hP2 hS hl
set_option maxHeartbeats 4000000 in
set_option maxRecDepth 100000 in
theorem lw_arm_19 {p : Program} {l : Launch} {e : Env} {s : State} {m : MethodId} {below : List Frame} {meth : Method} {c : Code} {b L : Nat} {xs : Nat → Int32} (C0 : lw_At p s m meth c b L xs) {g : gE} {ad ad' : Nat → Nat} (hI : g_inj ad 55) (hI2 : g_inj ad' 14) (hap : g_ap ad ad') (hold : ∀ i, i < 55 → s.heap.size ≤ ad i) (hold2 : ∀ i, i < 14 → s.heap.size ≤ ad' i) (hK : g_K g s) {cells slots : Nat} (hfit : cells ≤ 600000 ∧ slots ≤ 7302250) (i : Nat) (hi : i + 6 ≤ L) (hL : L ≤ 3072) (M N : gMem) (J K : gMeL) (h : RelA M N J K) (H : Heap) (locs : List Loc) (ls : Array Slot) (hP : g_P g ad dsX 55 M J H) (hP2 : g_P g ad' dsR 14 N K H) (hS : va_S (fun q => s.heap.size ≤ q) s.heap H locs) (hl : lv_has ls 4 [(3, .int (nI i)), (2, .ref (ad' 0)), (1, .ref (ad 0)), (0, .ref b)]) (kk : ∀ (M N : gMem) (J K : gMeL) (H : Heap) (locs : List Loc) (ls : Array Slot), RelA M N J K → g_P g ad dsX 55 M J H → g_P g ad' dsR 14 N K H → va_S (fun q => s.heap.size ≤ q) s.heap H locs → lv_has ls 4 [(3, .int (nI (i + 6))), (2, .ref (ad' 0)), (1, .ref (ad 0)), (0, .ref b)] → W p l e room_1 s m #[Value.ref b] below meth c H locs cells slots (lw_Z below #[Value.ref b] s) (F0 m 18 ls [])) : W p l e room_1 s m #[Value.ref b] below meth c H locs cells slots (lw_Z below #[Value.ref b] s) (F0 m 753 ls []) := by
  obtain ⟨hx, hb, hr, hml, hown, hts, hX, hbl, hlocks, hgv⟩ := C0
  have hbA : ¬ (fun q : Nat => s.heap.size ≤ q) b := Nat.not_le.mpr hbl
  have hAl : ∀ w ∈ Al, w.before #[Value.ref b] s = true := fun w hw => hts w (Al_tbl hw)
  have CF : CallFix p m c code 4 s #[Value.ref b] (g_ws yX5_cut cX5_cut 5 (some .int)) R_law := ⟨hx, hb, hml, hown, fun w hw => (List.mem_cons.mp hw).elim (fun q => by rw [q]; exact hAl _ kw_X5_cut.1.1) (hAl w)⟩
  have hA1 : ∀ q, g_A ad 55 q → s.heap.size ≤ q := fun q ⟨i, hi, e⟩ => by rw [e]; exact hold i hi
  have hA2 : ∀ q, g_A ad' 14 q → s.heap.size ≤ q := fun q ⟨i, hi, e⟩ => by rw [e]; exact hold2 i hi
  have hno1 : ∀ i, i < 55 → ¬ g_A ad' 14 (ad i) := fun i hi ⟨j, hj, e⟩ => hap i j hi hj e
  have hno2 : ∀ j, j < 14 → ¬ g_A ad 55 (ad' j) := fun j hj ⟨i, hi, e⟩ => hap i j hi hj e.symm
  refine lv_aload_n hx hb dL_law_753 rfl (lv_at hl 2 rfl) ?_
  refine lv_aload_n hx hb dL_law_754 rfl (lv_at hl 3 rfl) ?_
  refine lv_iload_n hx hb dL_law_755 rfl (lv_at hl 0 rfl) ?_
  refine lv_iconst (v := nI 1) hx hb dL_law_756 (by decide) ?_
  refine x_iadd hx hb dL_law_757 ?_
  refine va_sld hx hb hX hbl hbA hS (i := nI (i + 1)) (vp_in_nI (by omega) (by omega)) dL_law_758 ?_
  rw [nI_clamp (by omega)]
  refine lv_aload_n hx hb dL_law_759 rfl (lv_at hl 3 rfl) ?_
  refine lv_iload_n hx hb dL_law_760 rfl (lv_at hl 0 rfl) ?_
  refine lv_iconst (v := nI 2) hx hb dL_law_761 (by decide) ?_
  refine x_iadd hx hb dL_law_762 ?_
  refine va_sld hx hb hX hbl hbA hS (i := nI (i + 2)) (vp_in_nI (by omega) (by omega)) dL_law_763 ?_
  rw [nI_clamp (by omega)]
  obtain ⟨r, M1, J1, N1, K1, ca, cb, h1⟩ := o_beats (l := l) (g := g) hI hI2 h (xs (i + 1)) (xs (i + 2))
  refine x_call2 CF hK hP hS hA1 hl (As := [.int (xs (i + 1)), .int (xs (i + 2))]) (rest := []) ca kw_X5_beats wd2_213 (by decide) dX_0 rfl rfl ⟨Nat.le_of_ble_eq_true rfl, Nat.le_of_ble_eq_true rfl⟩ hfit (Nat.le_of_ble_eq_true rfl) dL_law_764 (fun H1 locs hP hS hk => ?_)
  have hP2 := hP2.other hk hno2
  refine lv_aload_n hx hb dL_law_767 rfl (lv_at hl 1 rfl) ?_
  refine lv_aload_n hx hb dL_law_768 rfl (lv_at hl 3 rfl) ?_
  refine lv_iload_n hx hb dL_law_769 rfl (lv_at hl 0 rfl) ?_
  refine lv_iconst (v := nI 1) hx hb dL_law_770 (by decide) ?_
  refine x_iadd hx hb dL_law_771 ?_
  refine va_sld hx hb hX hbl hbA hS (i := nI (i + 1)) (vp_in_nI (by omega) (by omega)) dL_law_772 ?_
  rw [nI_clamp (by omega)]
  refine lv_aload_n hx hb dL_law_773 rfl (lv_at hl 3 rfl) ?_
  refine lv_iload_n hx hb dL_law_774 rfl (lv_at hl 0 rfl) ?_
  refine lv_iconst (v := nI 2) hx hb dL_law_775 (by decide) ?_
  refine x_iadd hx hb dL_law_776 ?_
  refine va_sld hx hb hX hbl hbA hS (i := nI (i + 2)) (vp_in_nI (by omega) (by omega)) dL_law_777 ?_
  rw [nI_clamp (by omega)]
  refine x_call2 CF hK hP2 hS hA2 hl (As := [.int (xs (i + 1)), .int (xs (i + 2))]) (rest := [.int r]) cb kw_X6_beats wd4_55 (by decide) dR_0 rfl rfl ⟨Nat.le_of_ble_eq_true rfl, Nat.le_of_ble_eq_true rfl⟩ hfit (Nat.le_of_ble_eq_true rfl) dL_law_778 (fun H2 locs hP2 hS hk => ?_)
  have hP := hP.other hk hno1
  refine lv_icmp_eq (tgt := 1232) hx hb dL_law_781 (by decide) (fun _ => ?_) (fun c9 => absurd rfl c9)
  refine lv_iinc (v := nI (i + 6)) (lv' := [(3, .int (nI (i + 6))), (2, .ref (ad' 0)), (1, .ref (ad 0)), (0, .ref b)]) hx hb dL_law_1232 hl (k := 0) rfl (n_inc i 6) (by decide) rfl (fun ls hl => ?_)
  refine lv_goto (tgt := 18) hx hb dL_law_1235 (by decide) ?_
  exact kk M1 N1 J1 K1 _ _ ls h1 hP hP2 hS hl
set_option maxHeartbeats 4000000 in
set_option maxRecDepth 100000 in
theorem lw_arm_20 {p : Program} {l : Launch} {e : Env} {s : State} {m : MethodId} {below : List Frame} {meth : Method} {c : Code} {b L : Nat} {xs : Nat → Int32} (C0 : lw_At p s m meth c b L xs) {g : gE} {ad ad' : Nat → Nat} (hI : g_inj ad 55) (hI2 : g_inj ad' 14) (hap : g_ap ad ad') (hold : ∀ i, i < 55 → s.heap.size ≤ ad i) (hold2 : ∀ i, i < 14 → s.heap.size ≤ ad' i) (hK : g_K g s) {cells slots : Nat} (hfit : cells ≤ 600000 ∧ slots ≤ 7302250) (i : Nat) (hi : i + 6 ≤ L) (hL : L ≤ 3072) (M N : gMem) (J K : gMeL) (h : RelA M N J K) (H : Heap) (locs : List Loc) (ls : Array Slot) (hP : g_P g ad dsX 55 M J H) (hP2 : g_P g ad' dsR 14 N K H) (hS : va_S (fun q => s.heap.size ≤ q) s.heap H locs) (hl : lv_has ls 4 [(3, .int (nI i)), (2, .ref (ad' 0)), (1, .ref (ad 0)), (0, .ref b)]) (kk : ∀ (M N : gMem) (J K : gMeL) (H : Heap) (locs : List Loc) (ls : Array Slot), RelA M N J K → g_P g ad dsX 55 M J H → g_P g ad' dsR 14 N K H → va_S (fun q => s.heap.size ≤ q) s.heap H locs → lv_has ls 4 [(3, .int (nI (i + 6))), (2, .ref (ad' 0)), (1, .ref (ad 0)), (0, .ref b)] → W p l e room_1 s m #[Value.ref b] below meth c H locs cells slots (lw_Z below #[Value.ref b] s) (F0 m 18 ls [])) : W p l e room_1 s m #[Value.ref b] below meth c H locs cells slots (lw_Z below #[Value.ref b] s) (F0 m 786 ls []) := by
  obtain ⟨hx, hb, hr, hml, hown, hts, hX, hbl, hlocks, hgv⟩ := C0
  have hbA : ¬ (fun q : Nat => s.heap.size ≤ q) b := Nat.not_le.mpr hbl
  have hAl : ∀ w ∈ Al, w.before #[Value.ref b] s = true := fun w hw => hts w (Al_tbl hw)
  have CF : CallFix p m c code 4 s #[Value.ref b] (g_ws yX5_cut cX5_cut 5 (some .int)) R_law := ⟨hx, hb, hml, hown, fun w hw => (List.mem_cons.mp hw).elim (fun q => by rw [q]; exact hAl _ kw_X5_cut.1.1) (hAl w)⟩
  have hA1 : ∀ q, g_A ad 55 q → s.heap.size ≤ q := fun q ⟨i, hi, e⟩ => by rw [e]; exact hold i hi
  have hA2 : ∀ q, g_A ad' 14 q → s.heap.size ≤ q := fun q ⟨i, hi, e⟩ => by rw [e]; exact hold2 i hi
  have hno1 : ∀ i, i < 55 → ¬ g_A ad' 14 (ad i) := fun i hi ⟨j, hj, e⟩ => hap i j hi hj e
  have hno2 : ∀ j, j < 14 → ¬ g_A ad 55 (ad' j) := fun j hj ⟨i, hi, e⟩ => hap i j hi hj e.symm
  refine lv_aload_n hx hb dL_law_786 rfl (lv_at hl 2 rfl) ?_
  refine lv_aload_n hx hb dL_law_787 rfl (lv_at hl 3 rfl) ?_
  refine lv_iload_n hx hb dL_law_788 rfl (lv_at hl 0 rfl) ?_
  refine lv_iconst (v := nI 1) hx hb dL_law_789 (by decide) ?_
  refine x_iadd hx hb dL_law_790 ?_
  refine va_sld hx hb hX hbl hbA hS (i := nI (i + 1)) (vp_in_nI (by omega) (by omega)) dL_law_791 ?_
  rw [nI_clamp (by omega)]
  obtain ⟨r, M1, J1, N1, K1, ca, cb, h1⟩ := o_when (l := l) (g := g) hI hI2 h (xs (i + 1))
  refine x_call2 CF hK hP hS hA1 hl (As := [.int (xs (i + 1))]) (rest := []) ca kw_X5_when wd2_217 (by decide) dX_0 rfl rfl ⟨Nat.le_of_ble_eq_true rfl, Nat.le_of_ble_eq_true rfl⟩ hfit (Nat.le_of_ble_eq_true rfl) dL_law_792 (fun H1 locs hP hS hk => ?_)
  have hP2 := hP2.other hk hno2
  refine lv_aload_n hx hb dL_law_795 rfl (lv_at hl 1 rfl) ?_
  refine lv_aload_n hx hb dL_law_796 rfl (lv_at hl 3 rfl) ?_
  refine lv_iload_n hx hb dL_law_797 rfl (lv_at hl 0 rfl) ?_
  refine lv_iconst (v := nI 1) hx hb dL_law_798 (by decide) ?_
  refine x_iadd hx hb dL_law_799 ?_
  refine va_sld hx hb hX hbl hbA hS (i := nI (i + 1)) (vp_in_nI (by omega) (by omega)) dL_law_800 ?_
  rw [nI_clamp (by omega)]
  refine x_call2 CF hK hP2 hS hA2 hl (As := [.int (xs (i + 1))]) (rest := [.int r]) cb kw_X6_when wd4_60 (by decide) dR_0 rfl rfl ⟨Nat.le_of_ble_eq_true rfl, Nat.le_of_ble_eq_true rfl⟩ hfit (Nat.le_of_ble_eq_true rfl) dL_law_801 (fun H2 locs hP2 hS hk => ?_)
  have hP := hP.other hk hno1
  refine lv_icmp_eq (tgt := 1232) hx hb dL_law_804 (by decide) (fun _ => ?_) (fun c9 => absurd rfl c9)
  refine lv_iinc (v := nI (i + 6)) (lv' := [(3, .int (nI (i + 6))), (2, .ref (ad' 0)), (1, .ref (ad 0)), (0, .ref b)]) hx hb dL_law_1232 hl (k := 0) rfl (n_inc i 6) (by decide) rfl (fun ls hl => ?_)
  refine lv_goto (tgt := 18) hx hb dL_law_1235 (by decide) ?_
  exact kk M1 N1 J1 K1 _ _ ls h1 hP hP2 hS hl
set_option maxHeartbeats 4000000 in
set_option maxRecDepth 100000 in
theorem lw_arm_21 {p : Program} {l : Launch} {e : Env} {s : State} {m : MethodId} {below : List Frame} {meth : Method} {c : Code} {b L : Nat} {xs : Nat → Int32} (C0 : lw_At p s m meth c b L xs) {g : gE} {ad ad' : Nat → Nat} (hI : g_inj ad 55) (hI2 : g_inj ad' 14) (hap : g_ap ad ad') (hold : ∀ i, i < 55 → s.heap.size ≤ ad i) (hold2 : ∀ i, i < 14 → s.heap.size ≤ ad' i) (hK : g_K g s) {cells slots : Nat} (hfit : cells ≤ 600000 ∧ slots ≤ 7302250) (i : Nat) (hi : i + 6 ≤ L) (hL : L ≤ 3072) (M N : gMem) (J K : gMeL) (h : RelA M N J K) (H : Heap) (locs : List Loc) (ls : Array Slot) (hP : g_P g ad dsX 55 M J H) (hP2 : g_P g ad' dsR 14 N K H) (hS : va_S (fun q => s.heap.size ≤ q) s.heap H locs) (hl : lv_has ls 4 [(3, .int (nI i)), (2, .ref (ad' 0)), (1, .ref (ad 0)), (0, .ref b)]) (kk : ∀ (M N : gMem) (J K : gMeL) (H : Heap) (locs : List Loc) (ls : Array Slot), RelA M N J K → g_P g ad dsX 55 M J H → g_P g ad' dsR 14 N K H → va_S (fun q => s.heap.size ≤ q) s.heap H locs → lv_has ls 4 [(3, .int (nI (i + 6))), (2, .ref (ad' 0)), (1, .ref (ad 0)), (0, .ref b)] → W p l e room_1 s m #[Value.ref b] below meth c H locs cells slots (lw_Z below #[Value.ref b] s) (F0 m 18 ls [])) : W p l e room_1 s m #[Value.ref b] below meth c H locs cells slots (lw_Z below #[Value.ref b] s) (F0 m 809 ls []) := by
  obtain ⟨hx, hb, hr, hml, hown, hts, hX, hbl, hlocks, hgv⟩ := C0
  have hbA : ¬ (fun q : Nat => s.heap.size ≤ q) b := Nat.not_le.mpr hbl
  have hAl : ∀ w ∈ Al, w.before #[Value.ref b] s = true := fun w hw => hts w (Al_tbl hw)
  have CF : CallFix p m c code 4 s #[Value.ref b] (g_ws yX5_cut cX5_cut 5 (some .int)) R_law := ⟨hx, hb, hml, hown, fun w hw => (List.mem_cons.mp hw).elim (fun q => by rw [q]; exact hAl _ kw_X5_cut.1.1) (hAl w)⟩
  have hA1 : ∀ q, g_A ad 55 q → s.heap.size ≤ q := fun q ⟨i, hi, e⟩ => by rw [e]; exact hold i hi
  have hA2 : ∀ q, g_A ad' 14 q → s.heap.size ≤ q := fun q ⟨i, hi, e⟩ => by rw [e]; exact hold2 i hi
  have hno1 : ∀ i, i < 55 → ¬ g_A ad' 14 (ad i) := fun i hi ⟨j, hj, e⟩ => hap i j hi hj e
  have hno2 : ∀ j, j < 14 → ¬ g_A ad 55 (ad' j) := fun j hj ⟨i, hi, e⟩ => hap i j hi hj e.symm
  refine lv_aload_n hx hb dL_law_809 rfl (lv_at hl 2 rfl) ?_
  refine lv_aload_n hx hb dL_law_810 rfl (lv_at hl 3 rfl) ?_
  refine lv_iload_n hx hb dL_law_811 rfl (lv_at hl 0 rfl) ?_
  refine lv_iconst (v := nI 1) hx hb dL_law_812 (by decide) ?_
  refine x_iadd hx hb dL_law_813 ?_
  refine va_sld hx hb hX hbl hbA hS (i := nI (i + 1)) (vp_in_nI (by omega) (by omega)) dL_law_814 ?_
  rw [nI_clamp (by omega)]
  obtain ⟨r, M1, J1, N1, K1, ca, cb, h1⟩ := o_at (l := l) (g := g) hI hI2 h (xs (i + 1))
  refine x_call2 CF hK hP hS hA1 hl (As := [.int (xs (i + 1))]) (rest := []) ca kw_X5_at wd2_225 (by decide) dX_0 rfl rfl ⟨Nat.le_of_ble_eq_true rfl, Nat.le_of_ble_eq_true rfl⟩ hfit (Nat.le_of_ble_eq_true rfl) dL_law_815 (fun H1 locs hP hS hk => ?_)
  have hP2 := hP2.other hk hno2
  refine lv_aload_n hx hb dL_law_818 rfl (lv_at hl 1 rfl) ?_
  refine lv_aload_n hx hb dL_law_819 rfl (lv_at hl 3 rfl) ?_
  refine lv_iload_n hx hb dL_law_820 rfl (lv_at hl 0 rfl) ?_
  refine lv_iconst (v := nI 1) hx hb dL_law_821 (by decide) ?_
  refine x_iadd hx hb dL_law_822 ?_
  refine va_sld hx hb hX hbl hbA hS (i := nI (i + 1)) (vp_in_nI (by omega) (by omega)) dL_law_823 ?_
  rw [nI_clamp (by omega)]
  refine x_call2 CF hK hP2 hS hA2 hl (As := [.int (xs (i + 1))]) (rest := [.int r]) cb kw_X6_at wd4_64 (by decide) dR_0 rfl rfl ⟨Nat.le_of_ble_eq_true rfl, Nat.le_of_ble_eq_true rfl⟩ hfit (Nat.le_of_ble_eq_true rfl) dL_law_824 (fun H2 locs hP2 hS hk => ?_)
  have hP := hP.other hk hno1
  refine lv_icmp_eq (tgt := 1232) hx hb dL_law_827 (by decide) (fun _ => ?_) (fun c9 => absurd rfl c9)
  refine lv_iinc (v := nI (i + 6)) (lv' := [(3, .int (nI (i + 6))), (2, .ref (ad' 0)), (1, .ref (ad 0)), (0, .ref b)]) hx hb dL_law_1232 hl (k := 0) rfl (n_inc i 6) (by decide) rfl (fun ls hl => ?_)
  refine lv_goto (tgt := 18) hx hb dL_law_1235 (by decide) ?_
  exact kk M1 N1 J1 K1 _ _ ls h1 hP hP2 hS hl
set_option maxHeartbeats 4000000 in
set_option maxRecDepth 100000 in
theorem lw_arm_22 {p : Program} {l : Launch} {e : Env} {s : State} {m : MethodId} {below : List Frame} {meth : Method} {c : Code} {b L : Nat} {xs : Nat → Int32} (C0 : lw_At p s m meth c b L xs) {g : gE} {ad ad' : Nat → Nat} (hI : g_inj ad 55) (hI2 : g_inj ad' 14) (hap : g_ap ad ad') (hold : ∀ i, i < 55 → s.heap.size ≤ ad i) (hold2 : ∀ i, i < 14 → s.heap.size ≤ ad' i) (hK : g_K g s) {cells slots : Nat} (hfit : cells ≤ 600000 ∧ slots ≤ 7302250) (i : Nat) (hi : i + 6 ≤ L) (hL : L ≤ 3072) (M N : gMem) (J K : gMeL) (h : RelA M N J K) (H : Heap) (locs : List Loc) (ls : Array Slot) (hP : g_P g ad dsX 55 M J H) (hP2 : g_P g ad' dsR 14 N K H) (hS : va_S (fun q => s.heap.size ≤ q) s.heap H locs) (hl : lv_has ls 4 [(3, .int (nI i)), (2, .ref (ad' 0)), (1, .ref (ad 0)), (0, .ref b)]) (kk : ∀ (M N : gMem) (J K : gMeL) (H : Heap) (locs : List Loc) (ls : Array Slot), RelA M N J K → g_P g ad dsX 55 M J H → g_P g ad' dsR 14 N K H → va_S (fun q => s.heap.size ≤ q) s.heap H locs → lv_has ls 4 [(3, .int (nI (i + 6))), (2, .ref (ad' 0)), (1, .ref (ad 0)), (0, .ref b)] → W p l e room_1 s m #[Value.ref b] below meth c H locs cells slots (lw_Z below #[Value.ref b] s) (F0 m 18 ls [])) : W p l e room_1 s m #[Value.ref b] below meth c H locs cells slots (lw_Z below #[Value.ref b] s) (F0 m 832 ls []) := by
  obtain ⟨hx, hb, hr, hml, hown, hts, hX, hbl, hlocks, hgv⟩ := C0
  have hbA : ¬ (fun q : Nat => s.heap.size ≤ q) b := Nat.not_le.mpr hbl
  have hAl : ∀ w ∈ Al, w.before #[Value.ref b] s = true := fun w hw => hts w (Al_tbl hw)
  have CF : CallFix p m c code 4 s #[Value.ref b] (g_ws yX5_cut cX5_cut 5 (some .int)) R_law := ⟨hx, hb, hml, hown, fun w hw => (List.mem_cons.mp hw).elim (fun q => by rw [q]; exact hAl _ kw_X5_cut.1.1) (hAl w)⟩
  have hA1 : ∀ q, g_A ad 55 q → s.heap.size ≤ q := fun q ⟨i, hi, e⟩ => by rw [e]; exact hold i hi
  have hA2 : ∀ q, g_A ad' 14 q → s.heap.size ≤ q := fun q ⟨i, hi, e⟩ => by rw [e]; exact hold2 i hi
  have hno1 : ∀ i, i < 55 → ¬ g_A ad' 14 (ad i) := fun i hi ⟨j, hj, e⟩ => hap i j hi hj e
  have hno2 : ∀ j, j < 14 → ¬ g_A ad 55 (ad' j) := fun j hj ⟨i, hi, e⟩ => hap i j hi hj e.symm
  refine lv_aload_n hx hb dL_law_832 rfl (lv_at hl 2 rfl) ?_
  refine lv_aload_n hx hb dL_law_833 rfl (lv_at hl 3 rfl) ?_
  refine lv_iload_n hx hb dL_law_834 rfl (lv_at hl 0 rfl) ?_
  refine lv_iconst (v := nI 1) hx hb dL_law_835 (by decide) ?_
  refine x_iadd hx hb dL_law_836 ?_
  refine va_sld hx hb hX hbl hbA hS (i := nI (i + 1)) (vp_in_nI (by omega) (by omega)) dL_law_837 ?_
  rw [nI_clamp (by omega)]
  refine lv_aload_n hx hb dL_law_838 rfl (lv_at hl 3 rfl) ?_
  refine lv_iload_n hx hb dL_law_839 rfl (lv_at hl 0 rfl) ?_
  refine lv_iconst (v := nI 2) hx hb dL_law_840 (by decide) ?_
  refine x_iadd hx hb dL_law_841 ?_
  refine va_sld hx hb hX hbl hbA hS (i := nI (i + 2)) (vp_in_nI (by omega) (by omega)) dL_law_842 ?_
  rw [nI_clamp (by omega)]
  obtain ⟨r, M1, J1, N1, K1, ca, cb, h1⟩ := o_hand (l := l) (g := g) hI hI2 h (xs (i + 1)) (xs (i + 2))
  refine x_call2 CF hK hP hS hA1 hl (As := [.int (xs (i + 1)), .int (xs (i + 2))]) (rest := []) ca kw_X5_hand wd2_234 (by decide) dX_0 rfl rfl ⟨Nat.le_of_ble_eq_true rfl, Nat.le_of_ble_eq_true rfl⟩ hfit (Nat.le_of_ble_eq_true rfl) dL_law_843 (fun H1 locs hP hS hk => ?_)
  have hP2 := hP2.other hk hno2
  refine lv_aload_n hx hb dL_law_846 rfl (lv_at hl 1 rfl) ?_
  refine lv_aload_n hx hb dL_law_847 rfl (lv_at hl 3 rfl) ?_
  refine lv_iload_n hx hb dL_law_848 rfl (lv_at hl 0 rfl) ?_
  refine lv_iconst (v := nI 1) hx hb dL_law_849 (by decide) ?_
  refine x_iadd hx hb dL_law_850 ?_
  refine va_sld hx hb hX hbl hbA hS (i := nI (i + 1)) (vp_in_nI (by omega) (by omega)) dL_law_851 ?_
  rw [nI_clamp (by omega)]
  refine lv_aload_n hx hb dL_law_852 rfl (lv_at hl 3 rfl) ?_
  refine lv_iload_n hx hb dL_law_853 rfl (lv_at hl 0 rfl) ?_
  refine lv_iconst (v := nI 2) hx hb dL_law_854 (by decide) ?_
  refine x_iadd hx hb dL_law_855 ?_
  refine va_sld hx hb hX hbl hbA hS (i := nI (i + 2)) (vp_in_nI (by omega) (by omega)) dL_law_856 ?_
  rw [nI_clamp (by omega)]
  refine x_call2 CF hK hP2 hS hA2 hl (As := [.int (xs (i + 1)), .int (xs (i + 2))]) (rest := [.int r]) cb kw_X6_hand wd4_69 (by decide) dR_0 rfl rfl ⟨Nat.le_of_ble_eq_true rfl, Nat.le_of_ble_eq_true rfl⟩ hfit (Nat.le_of_ble_eq_true rfl) dL_law_857 (fun H2 locs hP2 hS hk => ?_)
  have hP := hP.other hk hno1
  refine lv_icmp_eq (tgt := 1232) hx hb dL_law_860 (by decide) (fun _ => ?_) (fun c9 => absurd rfl c9)
  refine lv_iinc (v := nI (i + 6)) (lv' := [(3, .int (nI (i + 6))), (2, .ref (ad' 0)), (1, .ref (ad 0)), (0, .ref b)]) hx hb dL_law_1232 hl (k := 0) rfl (n_inc i 6) (by decide) rfl (fun ls hl => ?_)
  refine lv_goto (tgt := 18) hx hb dL_law_1235 (by decide) ?_
  exact kk M1 N1 J1 K1 _ _ ls h1 hP hP2 hS hl
set_option maxHeartbeats 4000000 in
set_option maxRecDepth 100000 in
theorem lw_arm_23 {p : Program} {l : Launch} {e : Env} {s : State} {m : MethodId} {below : List Frame} {meth : Method} {c : Code} {b L : Nat} {xs : Nat → Int32} (C0 : lw_At p s m meth c b L xs) {g : gE} {ad ad' : Nat → Nat} (hI : g_inj ad 55) (hI2 : g_inj ad' 14) (hap : g_ap ad ad') (hold : ∀ i, i < 55 → s.heap.size ≤ ad i) (hold2 : ∀ i, i < 14 → s.heap.size ≤ ad' i) (hK : g_K g s) {cells slots : Nat} (hfit : cells ≤ 600000 ∧ slots ≤ 7302250) (i : Nat) (hi : i + 6 ≤ L) (hL : L ≤ 3072) (M N : gMem) (J K : gMeL) (h : RelA M N J K) (H : Heap) (locs : List Loc) (ls : Array Slot) (hP : g_P g ad dsX 55 M J H) (hP2 : g_P g ad' dsR 14 N K H) (hS : va_S (fun q => s.heap.size ≤ q) s.heap H locs) (hl : lv_has ls 4 [(3, .int (nI i)), (2, .ref (ad' 0)), (1, .ref (ad 0)), (0, .ref b)]) (kk : ∀ (M N : gMem) (J K : gMeL) (H : Heap) (locs : List Loc) (ls : Array Slot), RelA M N J K → g_P g ad dsX 55 M J H → g_P g ad' dsR 14 N K H → va_S (fun q => s.heap.size ≤ q) s.heap H locs → lv_has ls 4 [(3, .int (nI (i + 6))), (2, .ref (ad' 0)), (1, .ref (ad 0)), (0, .ref b)] → W p l e room_1 s m #[Value.ref b] below meth c H locs cells slots (lw_Z below #[Value.ref b] s) (F0 m 18 ls [])) : W p l e room_1 s m #[Value.ref b] below meth c H locs cells slots (lw_Z below #[Value.ref b] s) (F0 m 865 ls []) := by
  obtain ⟨hx, hb, hr, hml, hown, hts, hX, hbl, hlocks, hgv⟩ := C0
  have hbA : ¬ (fun q : Nat => s.heap.size ≤ q) b := Nat.not_le.mpr hbl
  have hAl : ∀ w ∈ Al, w.before #[Value.ref b] s = true := fun w hw => hts w (Al_tbl hw)
  have CF : CallFix p m c code 4 s #[Value.ref b] (g_ws yX5_cut cX5_cut 5 (some .int)) R_law := ⟨hx, hb, hml, hown, fun w hw => (List.mem_cons.mp hw).elim (fun q => by rw [q]; exact hAl _ kw_X5_cut.1.1) (hAl w)⟩
  have hA1 : ∀ q, g_A ad 55 q → s.heap.size ≤ q := fun q ⟨i, hi, e⟩ => by rw [e]; exact hold i hi
  have hA2 : ∀ q, g_A ad' 14 q → s.heap.size ≤ q := fun q ⟨i, hi, e⟩ => by rw [e]; exact hold2 i hi
  have hno1 : ∀ i, i < 55 → ¬ g_A ad' 14 (ad i) := fun i hi ⟨j, hj, e⟩ => hap i j hi hj e
  have hno2 : ∀ j, j < 14 → ¬ g_A ad 55 (ad' j) := fun j hj ⟨i, hi, e⟩ => hap i j hi hj e.symm
  refine lv_aload_n hx hb dL_law_865 rfl (lv_at hl 2 rfl) ?_
  refine lv_aload_n hx hb dL_law_866 rfl (lv_at hl 3 rfl) ?_
  refine lv_iload_n hx hb dL_law_867 rfl (lv_at hl 0 rfl) ?_
  refine lv_iconst (v := nI 1) hx hb dL_law_868 (by decide) ?_
  refine x_iadd hx hb dL_law_869 ?_
  refine va_sld hx hb hX hbl hbA hS (i := nI (i + 1)) (vp_in_nI (by omega) (by omega)) dL_law_870 ?_
  rw [nI_clamp (by omega)]
  obtain ⟨r, M1, J1, N1, K1, ca, cb, h1⟩ := o_whose (l := l) (g := g) hI hI2 h (xs (i + 1))
  refine x_call2 CF hK hP hS hA1 hl (As := [.int (xs (i + 1))]) (rest := []) ca kw_X5_whose wd2_238 (by decide) dX_0 rfl rfl ⟨Nat.le_of_ble_eq_true rfl, Nat.le_of_ble_eq_true rfl⟩ hfit (Nat.le_of_ble_eq_true rfl) dL_law_871 (fun H1 locs hP hS hk => ?_)
  have hP2 := hP2.other hk hno2
  refine lv_aload_n hx hb dL_law_874 rfl (lv_at hl 1 rfl) ?_
  refine lv_aload_n hx hb dL_law_875 rfl (lv_at hl 3 rfl) ?_
  refine lv_iload_n hx hb dL_law_876 rfl (lv_at hl 0 rfl) ?_
  refine lv_iconst (v := nI 1) hx hb dL_law_877 (by decide) ?_
  refine x_iadd hx hb dL_law_878 ?_
  refine va_sld hx hb hX hbl hbA hS (i := nI (i + 1)) (vp_in_nI (by omega) (by omega)) dL_law_879 ?_
  rw [nI_clamp (by omega)]
  refine x_call2 CF hK hP2 hS hA2 hl (As := [.int (xs (i + 1))]) (rest := [.int r]) cb kw_X6_whose wd4_74 (by decide) dR_0 rfl rfl ⟨Nat.le_of_ble_eq_true rfl, Nat.le_of_ble_eq_true rfl⟩ hfit (Nat.le_of_ble_eq_true rfl) dL_law_880 (fun H2 locs hP2 hS hk => ?_)
  have hP := hP.other hk hno1
  refine lv_icmp_eq (tgt := 1232) hx hb dL_law_883 (by decide) (fun _ => ?_) (fun c9 => absurd rfl c9)
  refine lv_iinc (v := nI (i + 6)) (lv' := [(3, .int (nI (i + 6))), (2, .ref (ad' 0)), (1, .ref (ad 0)), (0, .ref b)]) hx hb dL_law_1232 hl (k := 0) rfl (n_inc i 6) (by decide) rfl (fun ls hl => ?_)
  refine lv_goto (tgt := 18) hx hb dL_law_1235 (by decide) ?_
  exact kk M1 N1 J1 K1 _ _ ls h1 hP hP2 hS hl
set_option maxHeartbeats 4000000 in
set_option maxRecDepth 100000 in
theorem lw_arm_24 {p : Program} {l : Launch} {e : Env} {s : State} {m : MethodId} {below : List Frame} {meth : Method} {c : Code} {b L : Nat} {xs : Nat → Int32} (C0 : lw_At p s m meth c b L xs) {g : gE} {ad ad' : Nat → Nat} (hI : g_inj ad 55) (hI2 : g_inj ad' 14) (hap : g_ap ad ad') (hold : ∀ i, i < 55 → s.heap.size ≤ ad i) (hold2 : ∀ i, i < 14 → s.heap.size ≤ ad' i) (hK : g_K g s) {cells slots : Nat} (hfit : cells ≤ 600000 ∧ slots ≤ 7302250) (i : Nat) (hi : i + 6 ≤ L) (hL : L ≤ 3072) (M N : gMem) (J K : gMeL) (h : RelA M N J K) (H : Heap) (locs : List Loc) (ls : Array Slot) (hP : g_P g ad dsX 55 M J H) (hP2 : g_P g ad' dsR 14 N K H) (hS : va_S (fun q => s.heap.size ≤ q) s.heap H locs) (hl : lv_has ls 4 [(3, .int (nI i)), (2, .ref (ad' 0)), (1, .ref (ad 0)), (0, .ref b)]) (kk : ∀ (M N : gMem) (J K : gMeL) (H : Heap) (locs : List Loc) (ls : Array Slot), RelA M N J K → g_P g ad dsX 55 M J H → g_P g ad' dsR 14 N K H → va_S (fun q => s.heap.size ≤ q) s.heap H locs → lv_has ls 4 [(3, .int (nI (i + 6))), (2, .ref (ad' 0)), (1, .ref (ad 0)), (0, .ref b)] → W p l e room_1 s m #[Value.ref b] below meth c H locs cells slots (lw_Z below #[Value.ref b] s) (F0 m 18 ls [])) : W p l e room_1 s m #[Value.ref b] below meth c H locs cells slots (lw_Z below #[Value.ref b] s) (F0 m 888 ls []) := by
  obtain ⟨hx, hb, hr, hml, hown, hts, hX, hbl, hlocks, hgv⟩ := C0
  have hbA : ¬ (fun q : Nat => s.heap.size ≤ q) b := Nat.not_le.mpr hbl
  have hAl : ∀ w ∈ Al, w.before #[Value.ref b] s = true := fun w hw => hts w (Al_tbl hw)
  have CF : CallFix p m c code 4 s #[Value.ref b] (g_ws yX5_cut cX5_cut 5 (some .int)) R_law := ⟨hx, hb, hml, hown, fun w hw => (List.mem_cons.mp hw).elim (fun q => by rw [q]; exact hAl _ kw_X5_cut.1.1) (hAl w)⟩
  have hA1 : ∀ q, g_A ad 55 q → s.heap.size ≤ q := fun q ⟨i, hi, e⟩ => by rw [e]; exact hold i hi
  have hA2 : ∀ q, g_A ad' 14 q → s.heap.size ≤ q := fun q ⟨i, hi, e⟩ => by rw [e]; exact hold2 i hi
  have hno1 : ∀ i, i < 55 → ¬ g_A ad' 14 (ad i) := fun i hi ⟨j, hj, e⟩ => hap i j hi hj e
  have hno2 : ∀ j, j < 14 → ¬ g_A ad 55 (ad' j) := fun j hj ⟨i, hi, e⟩ => hap i j hi hj e.symm
  refine lv_aload_n hx hb dL_law_888 rfl (lv_at hl 2 rfl) ?_
  obtain ⟨r, M1, J1, N1, K1, ca, cb, h1⟩ := o_image (l := l) (g := g) hI hI2 h 
  refine x_call2 CF hK hP hS hA1 hl (As := []) (rest := []) ca kw_X5_image wd3_8 (by decide) dX_0 rfl rfl ⟨Nat.le_of_ble_eq_true rfl, Nat.le_of_ble_eq_true rfl⟩ hfit (Nat.le_of_ble_eq_true rfl) dL_law_889 (fun H1 locs hP hS hk => ?_)
  have hP2 := hP2.other hk hno2
  refine lv_aload_n hx hb dL_law_892 rfl (lv_at hl 1 rfl) ?_
  refine x_call2 CF hK hP2 hS hA2 hl (As := []) (rest := [.int r]) cb kw_X6_image wd4_78 (by decide) dR_0 rfl rfl ⟨Nat.le_of_ble_eq_true rfl, Nat.le_of_ble_eq_true rfl⟩ hfit (Nat.le_of_ble_eq_true rfl) dL_law_893 (fun H2 locs hP2 hS hk => ?_)
  have hP := hP.other hk hno1
  refine lv_icmp_eq (tgt := 1232) hx hb dL_law_896 (by decide) (fun _ => ?_) (fun c9 => absurd rfl c9)
  refine lv_iinc (v := nI (i + 6)) (lv' := [(3, .int (nI (i + 6))), (2, .ref (ad' 0)), (1, .ref (ad 0)), (0, .ref b)]) hx hb dL_law_1232 hl (k := 0) rfl (n_inc i 6) (by decide) rfl (fun ls hl => ?_)
  refine lv_goto (tgt := 18) hx hb dL_law_1235 (by decide) ?_
  exact kk M1 N1 J1 K1 _ _ ls h1 hP hP2 hS hl
set_option maxHeartbeats 4000000 in
set_option maxRecDepth 100000 in
theorem lw_arm_25 {p : Program} {l : Launch} {e : Env} {s : State} {m : MethodId} {below : List Frame} {meth : Method} {c : Code} {b L : Nat} {xs : Nat → Int32} (C0 : lw_At p s m meth c b L xs) {g : gE} {ad ad' : Nat → Nat} (hI : g_inj ad 55) (hI2 : g_inj ad' 14) (hap : g_ap ad ad') (hold : ∀ i, i < 55 → s.heap.size ≤ ad i) (hold2 : ∀ i, i < 14 → s.heap.size ≤ ad' i) (hK : g_K g s) {cells slots : Nat} (hfit : cells ≤ 600000 ∧ slots ≤ 7302250) (i : Nat) (hi : i + 6 ≤ L) (hL : L ≤ 3072) (M N : gMem) (J K : gMeL) (h : RelA M N J K) (H : Heap) (locs : List Loc) (ls : Array Slot) (hP : g_P g ad dsX 55 M J H) (hP2 : g_P g ad' dsR 14 N K H) (hS : va_S (fun q => s.heap.size ≤ q) s.heap H locs) (hl : lv_has ls 4 [(3, .int (nI i)), (2, .ref (ad' 0)), (1, .ref (ad 0)), (0, .ref b)]) (kk : ∀ (M N : gMem) (J K : gMeL) (H : Heap) (locs : List Loc) (ls : Array Slot), RelA M N J K → g_P g ad dsX 55 M J H → g_P g ad' dsR 14 N K H → va_S (fun q => s.heap.size ≤ q) s.heap H locs → lv_has ls 4 [(3, .int (nI (i + 6))), (2, .ref (ad' 0)), (1, .ref (ad 0)), (0, .ref b)] → W p l e room_1 s m #[Value.ref b] below meth c H locs cells slots (lw_Z below #[Value.ref b] s) (F0 m 18 ls [])) : W p l e room_1 s m #[Value.ref b] below meth c H locs cells slots (lw_Z below #[Value.ref b] s) (F0 m 901 ls []) := by
  obtain ⟨hx, hb, hr, hml, hown, hts, hX, hbl, hlocks, hgv⟩ := C0
  have hbA : ¬ (fun q : Nat => s.heap.size ≤ q) b := Nat.not_le.mpr hbl
  have hAl : ∀ w ∈ Al, w.before #[Value.ref b] s = true := fun w hw => hts w (Al_tbl hw)
  have CF : CallFix p m c code 4 s #[Value.ref b] (g_ws yX5_cut cX5_cut 5 (some .int)) R_law := ⟨hx, hb, hml, hown, fun w hw => (List.mem_cons.mp hw).elim (fun q => by rw [q]; exact hAl _ kw_X5_cut.1.1) (hAl w)⟩
  have hA1 : ∀ q, g_A ad 55 q → s.heap.size ≤ q := fun q ⟨i, hi, e⟩ => by rw [e]; exact hold i hi
  have hA2 : ∀ q, g_A ad' 14 q → s.heap.size ≤ q := fun q ⟨i, hi, e⟩ => by rw [e]; exact hold2 i hi
  have hno1 : ∀ i, i < 55 → ¬ g_A ad' 14 (ad i) := fun i hi ⟨j, hj, e⟩ => hap i j hi hj e
  have hno2 : ∀ j, j < 14 → ¬ g_A ad 55 (ad' j) := fun j hj ⟨i, hi, e⟩ => hap i j hi hj e.symm
  refine lv_aload_n hx hb dL_law_901 rfl (lv_at hl 2 rfl) ?_
  obtain ⟨r, M1, J1, N1, K1, ca, cb, h1⟩ := o_restore (l := l) (g := g) hI hI2 h 
  refine x_call2 CF hK hP hS hA1 hl (As := []) (rest := []) ca kw_X5_restore wd3_20 (by decide) dX_0 rfl rfl ⟨Nat.le_of_ble_eq_true rfl, Nat.le_of_ble_eq_true rfl⟩ hfit (Nat.le_of_ble_eq_true rfl) dL_law_902 (fun H1 locs hP hS hk => ?_)
  have hP2 := hP2.other hk hno2
  refine lv_aload_n hx hb dL_law_905 rfl (lv_at hl 1 rfl) ?_
  refine x_call2 CF hK hP2 hS hA2 hl (As := []) (rest := [.int r]) cb kw_X6_restore wd4_82 (by decide) dR_0 rfl rfl ⟨Nat.le_of_ble_eq_true rfl, Nat.le_of_ble_eq_true rfl⟩ hfit (Nat.le_of_ble_eq_true rfl) dL_law_906 (fun H2 locs hP2 hS hk => ?_)
  have hP := hP.other hk hno1
  refine lv_icmp_eq (tgt := 1232) hx hb dL_law_909 (by decide) (fun _ => ?_) (fun c9 => absurd rfl c9)
  refine lv_iinc (v := nI (i + 6)) (lv' := [(3, .int (nI (i + 6))), (2, .ref (ad' 0)), (1, .ref (ad 0)), (0, .ref b)]) hx hb dL_law_1232 hl (k := 0) rfl (n_inc i 6) (by decide) rfl (fun ls hl => ?_)
  refine lv_goto (tgt := 18) hx hb dL_law_1235 (by decide) ?_
  exact kk M1 N1 J1 K1 _ _ ls h1 hP hP2 hS hl
set_option maxHeartbeats 4000000 in
set_option maxRecDepth 100000 in
theorem lw_arm_26 {p : Program} {l : Launch} {e : Env} {s : State} {m : MethodId} {below : List Frame} {meth : Method} {c : Code} {b L : Nat} {xs : Nat → Int32} (C0 : lw_At p s m meth c b L xs) {g : gE} {ad ad' : Nat → Nat} (hI : g_inj ad 55) (hI2 : g_inj ad' 14) (hap : g_ap ad ad') (hold : ∀ i, i < 55 → s.heap.size ≤ ad i) (hold2 : ∀ i, i < 14 → s.heap.size ≤ ad' i) (hK : g_K g s) {cells slots : Nat} (hfit : cells ≤ 600000 ∧ slots ≤ 7302250) (i : Nat) (hi : i + 6 ≤ L) (hL : L ≤ 3072) (M N : gMem) (J K : gMeL) (h : RelA M N J K) (H : Heap) (locs : List Loc) (ls : Array Slot) (hP : g_P g ad dsX 55 M J H) (hP2 : g_P g ad' dsR 14 N K H) (hS : va_S (fun q => s.heap.size ≤ q) s.heap H locs) (hl : lv_has ls 4 [(3, .int (nI i)), (2, .ref (ad' 0)), (1, .ref (ad 0)), (0, .ref b)]) (kk : ∀ (M N : gMem) (J K : gMeL) (H : Heap) (locs : List Loc) (ls : Array Slot), RelA M N J K → g_P g ad dsX 55 M J H → g_P g ad' dsR 14 N K H → va_S (fun q => s.heap.size ≤ q) s.heap H locs → lv_has ls 4 [(3, .int (nI (i + 6))), (2, .ref (ad' 0)), (1, .ref (ad 0)), (0, .ref b)] → W p l e room_1 s m #[Value.ref b] below meth c H locs cells slots (lw_Z below #[Value.ref b] s) (F0 m 18 ls [])) : W p l e room_1 s m #[Value.ref b] below meth c H locs cells slots (lw_Z below #[Value.ref b] s) (F0 m 914 ls []) := by
  obtain ⟨hx, hb, hr, hml, hown, hts, hX, hbl, hlocks, hgv⟩ := C0
  have hbA : ¬ (fun q : Nat => s.heap.size ≤ q) b := Nat.not_le.mpr hbl
  have hAl : ∀ w ∈ Al, w.before #[Value.ref b] s = true := fun w hw => hts w (Al_tbl hw)
  have CF : CallFix p m c code 4 s #[Value.ref b] (g_ws yX5_cut cX5_cut 5 (some .int)) R_law := ⟨hx, hb, hml, hown, fun w hw => (List.mem_cons.mp hw).elim (fun q => by rw [q]; exact hAl _ kw_X5_cut.1.1) (hAl w)⟩
  have hA1 : ∀ q, g_A ad 55 q → s.heap.size ≤ q := fun q ⟨i, hi, e⟩ => by rw [e]; exact hold i hi
  have hA2 : ∀ q, g_A ad' 14 q → s.heap.size ≤ q := fun q ⟨i, hi, e⟩ => by rw [e]; exact hold2 i hi
  have hno1 : ∀ i, i < 55 → ¬ g_A ad' 14 (ad i) := fun i hi ⟨j, hj, e⟩ => hap i j hi hj e
  have hno2 : ∀ j, j < 14 → ¬ g_A ad 55 (ad' j) := fun j hj ⟨i, hi, e⟩ => hap i j hi hj e.symm
  refine lv_aload_n hx hb dL_law_914 rfl (lv_at hl 2 rfl) ?_
  refine lv_aload_n hx hb dL_law_915 rfl (lv_at hl 3 rfl) ?_
  refine lv_iload_n hx hb dL_law_916 rfl (lv_at hl 0 rfl) ?_
  refine lv_iconst (v := nI 1) hx hb dL_law_917 (by decide) ?_
  refine x_iadd hx hb dL_law_918 ?_
  refine va_sld hx hb hX hbl hbA hS (i := nI (i + 1)) (vp_in_nI (by omega) (by omega)) dL_law_919 ?_
  rw [nI_clamp (by omega)]
  refine lv_aload_n hx hb dL_law_920 rfl (lv_at hl 3 rfl) ?_
  refine lv_iload_n hx hb dL_law_921 rfl (lv_at hl 0 rfl) ?_
  refine lv_iconst (v := nI 2) hx hb dL_law_922 (by decide) ?_
  refine x_iadd hx hb dL_law_923 ?_
  refine va_sld hx hb hX hbl hbA hS (i := nI (i + 2)) (vp_in_nI (by omega) (by omega)) dL_law_924 ?_
  rw [nI_clamp (by omega)]
  refine lv_aload_n hx hb dL_law_925 rfl (lv_at hl 3 rfl) ?_
  refine lv_iload_n hx hb dL_law_926 rfl (lv_at hl 0 rfl) ?_
  refine lv_iconst (v := nI 3) hx hb dL_law_927 (by decide) ?_
  refine x_iadd hx hb dL_law_928 ?_
  refine va_sld hx hb hX hbl hbA hS (i := nI (i + 3)) (vp_in_nI (by omega) (by omega)) dL_law_929 ?_
  rw [nI_clamp (by omega)]
  refine lv_aload_n hx hb dL_law_930 rfl (lv_at hl 3 rfl) ?_
  refine lv_iload_n hx hb dL_law_931 rfl (lv_at hl 0 rfl) ?_
  refine lv_iconst (v := nI 4) hx hb dL_law_932 (by decide) ?_
  refine x_iadd hx hb dL_law_933 ?_
  refine va_sld hx hb hX hbl hbA hS (i := nI (i + 4)) (vp_in_nI (by omega) (by omega)) dL_law_934 ?_
  rw [nI_clamp (by omega)]
  obtain ⟨r, M1, J1, N1, K1, ca, cb, h1⟩ := o_worn (l := l) (g := g) hI hI2 h (xs (i + 1)) (xs (i + 2)) (xs (i + 3)) (xs (i + 4))
  refine x_call2 CF hK hP hS hA1 hl (As := [.int (xs (i + 1)), .int (xs (i + 2)), .int (xs (i + 3)), .int (xs (i + 4))]) (rest := []) ca kw_X5_worn wd3_24 (by decide) dX_0 rfl rfl ⟨Nat.le_of_ble_eq_true rfl, Nat.le_of_ble_eq_true rfl⟩ hfit (Nat.le_of_ble_eq_true rfl) dL_law_935 (fun H1 locs hP hS hk => ?_)
  have hP2 := hP2.other hk hno2
  refine lv_aload_n hx hb dL_law_938 rfl (lv_at hl 1 rfl) ?_
  refine lv_aload_n hx hb dL_law_939 rfl (lv_at hl 3 rfl) ?_
  refine lv_iload_n hx hb dL_law_940 rfl (lv_at hl 0 rfl) ?_
  refine lv_iconst (v := nI 1) hx hb dL_law_941 (by decide) ?_
  refine x_iadd hx hb dL_law_942 ?_
  refine va_sld hx hb hX hbl hbA hS (i := nI (i + 1)) (vp_in_nI (by omega) (by omega)) dL_law_943 ?_
  rw [nI_clamp (by omega)]
  refine lv_aload_n hx hb dL_law_944 rfl (lv_at hl 3 rfl) ?_
  refine lv_iload_n hx hb dL_law_945 rfl (lv_at hl 0 rfl) ?_
  refine lv_iconst (v := nI 2) hx hb dL_law_946 (by decide) ?_
  refine x_iadd hx hb dL_law_947 ?_
  refine va_sld hx hb hX hbl hbA hS (i := nI (i + 2)) (vp_in_nI (by omega) (by omega)) dL_law_948 ?_
  rw [nI_clamp (by omega)]
  refine lv_aload_n hx hb dL_law_949 rfl (lv_at hl 3 rfl) ?_
  refine lv_iload_n hx hb dL_law_950 rfl (lv_at hl 0 rfl) ?_
  refine lv_iconst (v := nI 3) hx hb dL_law_951 (by decide) ?_
  refine x_iadd hx hb dL_law_952 ?_
  refine va_sld hx hb hX hbl hbA hS (i := nI (i + 3)) (vp_in_nI (by omega) (by omega)) dL_law_953 ?_
  rw [nI_clamp (by omega)]
  refine lv_aload_n hx hb dL_law_954 rfl (lv_at hl 3 rfl) ?_
  refine lv_iload_n hx hb dL_law_955 rfl (lv_at hl 0 rfl) ?_
  refine lv_iconst (v := nI 4) hx hb dL_law_956 (by decide) ?_
  refine x_iadd hx hb dL_law_957 ?_
  refine va_sld hx hb hX hbl hbA hS (i := nI (i + 4)) (vp_in_nI (by omega) (by omega)) dL_law_958 ?_
  rw [nI_clamp (by omega)]
  refine x_call2 CF hK hP2 hS hA2 hl (As := [.int (xs (i + 1)), .int (xs (i + 2)), .int (xs (i + 3)), .int (xs (i + 4))]) (rest := [.int r]) cb kw_X6_worn wd4_90 (by decide) dR_0 rfl rfl ⟨Nat.le_of_ble_eq_true rfl, Nat.le_of_ble_eq_true rfl⟩ hfit (Nat.le_of_ble_eq_true rfl) dL_law_959 (fun H2 locs hP2 hS hk => ?_)
  have hP := hP.other hk hno1
  refine lv_icmp_eq (tgt := 1232) hx hb dL_law_962 (by decide) (fun _ => ?_) (fun c9 => absurd rfl c9)
  refine lv_iinc (v := nI (i + 6)) (lv' := [(3, .int (nI (i + 6))), (2, .ref (ad' 0)), (1, .ref (ad 0)), (0, .ref b)]) hx hb dL_law_1232 hl (k := 0) rfl (n_inc i 6) (by decide) rfl (fun ls hl => ?_)
  refine lv_goto (tgt := 18) hx hb dL_law_1235 (by decide) ?_
  exact kk M1 N1 J1 K1 _ _ ls h1 hP hP2 hS hl
set_option maxHeartbeats 4000000 in
set_option maxRecDepth 100000 in
theorem lw_arm_27 {p : Program} {l : Launch} {e : Env} {s : State} {m : MethodId} {below : List Frame} {meth : Method} {c : Code} {b L : Nat} {xs : Nat → Int32} (C0 : lw_At p s m meth c b L xs) {g : gE} {ad ad' : Nat → Nat} (hI : g_inj ad 55) (hI2 : g_inj ad' 14) (hap : g_ap ad ad') (hold : ∀ i, i < 55 → s.heap.size ≤ ad i) (hold2 : ∀ i, i < 14 → s.heap.size ≤ ad' i) (hK : g_K g s) {cells slots : Nat} (hfit : cells ≤ 600000 ∧ slots ≤ 7302250) (i : Nat) (hi : i + 6 ≤ L) (hL : L ≤ 3072) (M N : gMem) (J K : gMeL) (h : RelA M N J K) (H : Heap) (locs : List Loc) (ls : Array Slot) (hP : g_P g ad dsX 55 M J H) (hP2 : g_P g ad' dsR 14 N K H) (hS : va_S (fun q => s.heap.size ≤ q) s.heap H locs) (hl : lv_has ls 4 [(3, .int (nI i)), (2, .ref (ad' 0)), (1, .ref (ad 0)), (0, .ref b)]) (kk : ∀ (M N : gMem) (J K : gMeL) (H : Heap) (locs : List Loc) (ls : Array Slot), RelA M N J K → g_P g ad dsX 55 M J H → g_P g ad' dsR 14 N K H → va_S (fun q => s.heap.size ≤ q) s.heap H locs → lv_has ls 4 [(3, .int (nI (i + 6))), (2, .ref (ad' 0)), (1, .ref (ad 0)), (0, .ref b)] → W p l e room_1 s m #[Value.ref b] below meth c H locs cells slots (lw_Z below #[Value.ref b] s) (F0 m 18 ls [])) : W p l e room_1 s m #[Value.ref b] below meth c H locs cells slots (lw_Z below #[Value.ref b] s) (F0 m 967 ls []) := by
  obtain ⟨hx, hb, hr, hml, hown, hts, hX, hbl, hlocks, hgv⟩ := C0
  have hbA : ¬ (fun q : Nat => s.heap.size ≤ q) b := Nat.not_le.mpr hbl
  have hAl : ∀ w ∈ Al, w.before #[Value.ref b] s = true := fun w hw => hts w (Al_tbl hw)
  have CF : CallFix p m c code 4 s #[Value.ref b] (g_ws yX5_cut cX5_cut 5 (some .int)) R_law := ⟨hx, hb, hml, hown, fun w hw => (List.mem_cons.mp hw).elim (fun q => by rw [q]; exact hAl _ kw_X5_cut.1.1) (hAl w)⟩
  have hA1 : ∀ q, g_A ad 55 q → s.heap.size ≤ q := fun q ⟨i, hi, e⟩ => by rw [e]; exact hold i hi
  have hA2 : ∀ q, g_A ad' 14 q → s.heap.size ≤ q := fun q ⟨i, hi, e⟩ => by rw [e]; exact hold2 i hi
  have hno1 : ∀ i, i < 55 → ¬ g_A ad' 14 (ad i) := fun i hi ⟨j, hj, e⟩ => hap i j hi hj e
  have hno2 : ∀ j, j < 14 → ¬ g_A ad 55 (ad' j) := fun j hj ⟨i, hi, e⟩ => hap i j hi hj e.symm
  refine lv_aload_n hx hb dL_law_967 rfl (lv_at hl 2 rfl) ?_
  refine lv_aload_n hx hb dL_law_968 rfl (lv_at hl 3 rfl) ?_
  refine lv_iload_n hx hb dL_law_969 rfl (lv_at hl 0 rfl) ?_
  refine lv_iconst (v := nI 1) hx hb dL_law_970 (by decide) ?_
  refine x_iadd hx hb dL_law_971 ?_
  refine va_sld hx hb hX hbl hbA hS (i := nI (i + 1)) (vp_in_nI (by omega) (by omega)) dL_law_972 ?_
  rw [nI_clamp (by omega)]
  refine lv_aload_n hx hb dL_law_973 rfl (lv_at hl 3 rfl) ?_
  refine lv_iload_n hx hb dL_law_974 rfl (lv_at hl 0 rfl) ?_
  refine lv_iconst (v := nI 2) hx hb dL_law_975 (by decide) ?_
  refine x_iadd hx hb dL_law_976 ?_
  refine va_sld hx hb hX hbl hbA hS (i := nI (i + 2)) (vp_in_nI (by omega) (by omega)) dL_law_977 ?_
  rw [nI_clamp (by omega)]
  refine lv_aload_n hx hb dL_law_978 rfl (lv_at hl 3 rfl) ?_
  refine lv_iload_n hx hb dL_law_979 rfl (lv_at hl 0 rfl) ?_
  refine lv_iconst (v := nI 3) hx hb dL_law_980 (by decide) ?_
  refine x_iadd hx hb dL_law_981 ?_
  refine va_sld hx hb hX hbl hbA hS (i := nI (i + 3)) (vp_in_nI (by omega) (by omega)) dL_law_982 ?_
  rw [nI_clamp (by omega)]
  refine lv_aload_n hx hb dL_law_983 rfl (lv_at hl 3 rfl) ?_
  refine lv_iload_n hx hb dL_law_984 rfl (lv_at hl 0 rfl) ?_
  refine lv_iconst (v := nI 4) hx hb dL_law_985 (by decide) ?_
  refine x_iadd hx hb dL_law_986 ?_
  refine va_sld hx hb hX hbl hbA hS (i := nI (i + 4)) (vp_in_nI (by omega) (by omega)) dL_law_987 ?_
  rw [nI_clamp (by omega)]
  obtain ⟨r, M1, J1, N1, K1, ca, cb, h1⟩ := o_film (l := l) (g := g) hI hI2 h (xs (i + 1)) (xs (i + 2)) (xs (i + 3)) (xs (i + 4))
  refine x_call2 CF hK hP hS hA1 hl (As := [.int (xs (i + 1)), .int (xs (i + 2)), .int (xs (i + 3)), .int (xs (i + 4))]) (rest := []) ca kw_X5_film wd3_54 (by decide) dX_0 rfl rfl ⟨Nat.le_of_ble_eq_true rfl, Nat.le_of_ble_eq_true rfl⟩ hfit (Nat.le_of_ble_eq_true rfl) dL_law_988 (fun H1 locs hP hS hk => ?_)
  have hP2 := hP2.other hk hno2
  refine lv_aload_n hx hb dL_law_991 rfl (lv_at hl 1 rfl) ?_
  refine lv_aload_n hx hb dL_law_992 rfl (lv_at hl 3 rfl) ?_
  refine lv_iload_n hx hb dL_law_993 rfl (lv_at hl 0 rfl) ?_
  refine lv_iconst (v := nI 1) hx hb dL_law_994 (by decide) ?_
  refine x_iadd hx hb dL_law_995 ?_
  refine va_sld hx hb hX hbl hbA hS (i := nI (i + 1)) (vp_in_nI (by omega) (by omega)) dL_law_996 ?_
  rw [nI_clamp (by omega)]
  refine lv_aload_n hx hb dL_law_997 rfl (lv_at hl 3 rfl) ?_
  refine lv_iload_n hx hb dL_law_998 rfl (lv_at hl 0 rfl) ?_
  refine lv_iconst (v := nI 2) hx hb dL_law_999 (by decide) ?_
  refine x_iadd hx hb dL_law_1000 ?_
  refine va_sld hx hb hX hbl hbA hS (i := nI (i + 2)) (vp_in_nI (by omega) (by omega)) dL_law_1001 ?_
  rw [nI_clamp (by omega)]
  refine lv_aload_n hx hb dL_law_1002 rfl (lv_at hl 3 rfl) ?_
  refine lv_iload_n hx hb dL_law_1003 rfl (lv_at hl 0 rfl) ?_
  refine lv_iconst (v := nI 3) hx hb dL_law_1004 (by decide) ?_
  refine x_iadd hx hb dL_law_1005 ?_
  refine va_sld hx hb hX hbl hbA hS (i := nI (i + 3)) (vp_in_nI (by omega) (by omega)) dL_law_1006 ?_
  rw [nI_clamp (by omega)]
  refine lv_aload_n hx hb dL_law_1007 rfl (lv_at hl 3 rfl) ?_
  refine lv_iload_n hx hb dL_law_1008 rfl (lv_at hl 0 rfl) ?_
  refine lv_iconst (v := nI 4) hx hb dL_law_1009 (by decide) ?_
  refine x_iadd hx hb dL_law_1010 ?_
  refine va_sld hx hb hX hbl hbA hS (i := nI (i + 4)) (vp_in_nI (by omega) (by omega)) dL_law_1011 ?_
  rw [nI_clamp (by omega)]
  refine x_call2 CF hK hP2 hS hA2 hl (As := [.int (xs (i + 1)), .int (xs (i + 2)), .int (xs (i + 3)), .int (xs (i + 4))]) (rest := [.int r]) cb kw_X6_film wd4_106 (by decide) dR_0 rfl rfl ⟨Nat.le_of_ble_eq_true rfl, Nat.le_of_ble_eq_true rfl⟩ hfit (Nat.le_of_ble_eq_true rfl) dL_law_1012 (fun H2 locs hP2 hS hk => ?_)
  have hP := hP.other hk hno1
  refine lv_icmp_eq (tgt := 1232) hx hb dL_law_1015 (by decide) (fun _ => ?_) (fun c9 => absurd rfl c9)
  refine lv_iinc (v := nI (i + 6)) (lv' := [(3, .int (nI (i + 6))), (2, .ref (ad' 0)), (1, .ref (ad 0)), (0, .ref b)]) hx hb dL_law_1232 hl (k := 0) rfl (n_inc i 6) (by decide) rfl (fun ls hl => ?_)
  refine lv_goto (tgt := 18) hx hb dL_law_1235 (by decide) ?_
  exact kk M1 N1 J1 K1 _ _ ls h1 hP hP2 hS hl
set_option maxHeartbeats 4000000 in
set_option maxRecDepth 100000 in
theorem lw_arm_28 {p : Program} {l : Launch} {e : Env} {s : State} {m : MethodId} {below : List Frame} {meth : Method} {c : Code} {b L : Nat} {xs : Nat → Int32} (C0 : lw_At p s m meth c b L xs) {g : gE} {ad ad' : Nat → Nat} (hI : g_inj ad 55) (hI2 : g_inj ad' 14) (hap : g_ap ad ad') (hold : ∀ i, i < 55 → s.heap.size ≤ ad i) (hold2 : ∀ i, i < 14 → s.heap.size ≤ ad' i) (hK : g_K g s) {cells slots : Nat} (hfit : cells ≤ 600000 ∧ slots ≤ 7302250) (i : Nat) (hi : i + 6 ≤ L) (hL : L ≤ 3072) (M N : gMem) (J K : gMeL) (h : RelA M N J K) (H : Heap) (locs : List Loc) (ls : Array Slot) (hP : g_P g ad dsX 55 M J H) (hP2 : g_P g ad' dsR 14 N K H) (hS : va_S (fun q => s.heap.size ≤ q) s.heap H locs) (hl : lv_has ls 4 [(3, .int (nI i)), (2, .ref (ad' 0)), (1, .ref (ad 0)), (0, .ref b)]) (kk : ∀ (M N : gMem) (J K : gMeL) (H : Heap) (locs : List Loc) (ls : Array Slot), RelA M N J K → g_P g ad dsX 55 M J H → g_P g ad' dsR 14 N K H → va_S (fun q => s.heap.size ≤ q) s.heap H locs → lv_has ls 4 [(3, .int (nI (i + 6))), (2, .ref (ad' 0)), (1, .ref (ad 0)), (0, .ref b)] → W p l e room_1 s m #[Value.ref b] below meth c H locs cells slots (lw_Z below #[Value.ref b] s) (F0 m 18 ls [])) : W p l e room_1 s m #[Value.ref b] below meth c H locs cells slots (lw_Z below #[Value.ref b] s) (F0 m 1020 ls []) := by
  obtain ⟨hx, hb, hr, hml, hown, hts, hX, hbl, hlocks, hgv⟩ := C0
  have hbA : ¬ (fun q : Nat => s.heap.size ≤ q) b := Nat.not_le.mpr hbl
  have hAl : ∀ w ∈ Al, w.before #[Value.ref b] s = true := fun w hw => hts w (Al_tbl hw)
  have CF : CallFix p m c code 4 s #[Value.ref b] (g_ws yX5_cut cX5_cut 5 (some .int)) R_law := ⟨hx, hb, hml, hown, fun w hw => (List.mem_cons.mp hw).elim (fun q => by rw [q]; exact hAl _ kw_X5_cut.1.1) (hAl w)⟩
  have hA1 : ∀ q, g_A ad 55 q → s.heap.size ≤ q := fun q ⟨i, hi, e⟩ => by rw [e]; exact hold i hi
  have hA2 : ∀ q, g_A ad' 14 q → s.heap.size ≤ q := fun q ⟨i, hi, e⟩ => by rw [e]; exact hold2 i hi
  have hno1 : ∀ i, i < 55 → ¬ g_A ad' 14 (ad i) := fun i hi ⟨j, hj, e⟩ => hap i j hi hj e
  have hno2 : ∀ j, j < 14 → ¬ g_A ad 55 (ad' j) := fun j hj ⟨i, hi, e⟩ => hap i j hi hj e.symm
  refine lv_aload_n hx hb dL_law_1020 rfl (lv_at hl 2 rfl) ?_
  refine lv_aload_n hx hb dL_law_1021 rfl (lv_at hl 3 rfl) ?_
  refine lv_iload_n hx hb dL_law_1022 rfl (lv_at hl 0 rfl) ?_
  refine lv_iconst (v := nI 1) hx hb dL_law_1023 (by decide) ?_
  refine x_iadd hx hb dL_law_1024 ?_
  refine va_sld hx hb hX hbl hbA hS (i := nI (i + 1)) (vp_in_nI (by omega) (by omega)) dL_law_1025 ?_
  rw [nI_clamp (by omega)]
  refine lv_aload_n hx hb dL_law_1026 rfl (lv_at hl 3 rfl) ?_
  refine lv_iload_n hx hb dL_law_1027 rfl (lv_at hl 0 rfl) ?_
  refine lv_iconst (v := nI 2) hx hb dL_law_1028 (by decide) ?_
  refine x_iadd hx hb dL_law_1029 ?_
  refine va_sld hx hb hX hbl hbA hS (i := nI (i + 2)) (vp_in_nI (by omega) (by omega)) dL_law_1030 ?_
  rw [nI_clamp (by omega)]
  refine lv_aload_n hx hb dL_law_1031 rfl (lv_at hl 3 rfl) ?_
  refine lv_iload_n hx hb dL_law_1032 rfl (lv_at hl 0 rfl) ?_
  refine lv_iconst (v := nI 3) hx hb dL_law_1033 (by decide) ?_
  refine x_iadd hx hb dL_law_1034 ?_
  refine va_sld hx hb hX hbl hbA hS (i := nI (i + 3)) (vp_in_nI (by omega) (by omega)) dL_law_1035 ?_
  rw [nI_clamp (by omega)]
  obtain ⟨r, M1, J1, N1, K1, ca, cb, h1⟩ := o_sheet (l := l) (g := g) hI hI2 h (xs (i + 1)) (xs (i + 2)) (xs (i + 3))
  refine x_call2 CF hK hP hS hA1 hl (As := [.int (xs (i + 1)), .int (xs (i + 2)), .int (xs (i + 3))]) (rest := []) ca kw_X5_sheet wd3_62 (by decide) dX_0 rfl rfl ⟨Nat.le_of_ble_eq_true rfl, Nat.le_of_ble_eq_true rfl⟩ hfit (Nat.le_of_ble_eq_true rfl) dL_law_1036 (fun H1 locs hP hS hk => ?_)
  have hP2 := hP2.other hk hno2
  refine lv_aload_n hx hb dL_law_1039 rfl (lv_at hl 1 rfl) ?_
  refine lv_aload_n hx hb dL_law_1040 rfl (lv_at hl 3 rfl) ?_
  refine lv_iload_n hx hb dL_law_1041 rfl (lv_at hl 0 rfl) ?_
  refine lv_iconst (v := nI 1) hx hb dL_law_1042 (by decide) ?_
  refine x_iadd hx hb dL_law_1043 ?_
  refine va_sld hx hb hX hbl hbA hS (i := nI (i + 1)) (vp_in_nI (by omega) (by omega)) dL_law_1044 ?_
  rw [nI_clamp (by omega)]
  refine lv_aload_n hx hb dL_law_1045 rfl (lv_at hl 3 rfl) ?_
  refine lv_iload_n hx hb dL_law_1046 rfl (lv_at hl 0 rfl) ?_
  refine lv_iconst (v := nI 2) hx hb dL_law_1047 (by decide) ?_
  refine x_iadd hx hb dL_law_1048 ?_
  refine va_sld hx hb hX hbl hbA hS (i := nI (i + 2)) (vp_in_nI (by omega) (by omega)) dL_law_1049 ?_
  rw [nI_clamp (by omega)]
  refine lv_aload_n hx hb dL_law_1050 rfl (lv_at hl 3 rfl) ?_
  refine lv_iload_n hx hb dL_law_1051 rfl (lv_at hl 0 rfl) ?_
  refine lv_iconst (v := nI 3) hx hb dL_law_1052 (by decide) ?_
  refine x_iadd hx hb dL_law_1053 ?_
  refine va_sld hx hb hX hbl hbA hS (i := nI (i + 3)) (vp_in_nI (by omega) (by omega)) dL_law_1054 ?_
  rw [nI_clamp (by omega)]
  refine x_call2 CF hK hP2 hS hA2 hl (As := [.int (xs (i + 1)), .int (xs (i + 2)), .int (xs (i + 3))]) (rest := [.int r]) cb kw_X6_sheet wd4_110 (by decide) dR_0 rfl rfl ⟨Nat.le_of_ble_eq_true rfl, Nat.le_of_ble_eq_true rfl⟩ hfit (Nat.le_of_ble_eq_true rfl) dL_law_1055 (fun H2 locs hP2 hS hk => ?_)
  have hP := hP.other hk hno1
  refine lv_icmp_eq (tgt := 1232) hx hb dL_law_1058 (by decide) (fun _ => ?_) (fun c9 => absurd rfl c9)
  refine lv_iinc (v := nI (i + 6)) (lv' := [(3, .int (nI (i + 6))), (2, .ref (ad' 0)), (1, .ref (ad 0)), (0, .ref b)]) hx hb dL_law_1232 hl (k := 0) rfl (n_inc i 6) (by decide) rfl (fun ls hl => ?_)
  refine lv_goto (tgt := 18) hx hb dL_law_1235 (by decide) ?_
  exact kk M1 N1 J1 K1 _ _ ls h1 hP hP2 hS hl
set_option maxHeartbeats 4000000 in
set_option maxRecDepth 100000 in
theorem lw_arm_29 {p : Program} {l : Launch} {e : Env} {s : State} {m : MethodId} {below : List Frame} {meth : Method} {c : Code} {b L : Nat} {xs : Nat → Int32} (C0 : lw_At p s m meth c b L xs) {g : gE} {ad ad' : Nat → Nat} (hI : g_inj ad 55) (hI2 : g_inj ad' 14) (hap : g_ap ad ad') (hold : ∀ i, i < 55 → s.heap.size ≤ ad i) (hold2 : ∀ i, i < 14 → s.heap.size ≤ ad' i) (hK : g_K g s) {cells slots : Nat} (hfit : cells ≤ 600000 ∧ slots ≤ 7302250) (i : Nat) (hi : i + 6 ≤ L) (hL : L ≤ 3072) (M N : gMem) (J K : gMeL) (h : RelA M N J K) (H : Heap) (locs : List Loc) (ls : Array Slot) (hP : g_P g ad dsX 55 M J H) (hP2 : g_P g ad' dsR 14 N K H) (hS : va_S (fun q => s.heap.size ≤ q) s.heap H locs) (hl : lv_has ls 4 [(3, .int (nI i)), (2, .ref (ad' 0)), (1, .ref (ad 0)), (0, .ref b)]) (kk : ∀ (M N : gMem) (J K : gMeL) (H : Heap) (locs : List Loc) (ls : Array Slot), RelA M N J K → g_P g ad dsX 55 M J H → g_P g ad' dsR 14 N K H → va_S (fun q => s.heap.size ≤ q) s.heap H locs → lv_has ls 4 [(3, .int (nI (i + 6))), (2, .ref (ad' 0)), (1, .ref (ad 0)), (0, .ref b)] → W p l e room_1 s m #[Value.ref b] below meth c H locs cells slots (lw_Z below #[Value.ref b] s) (F0 m 18 ls [])) : W p l e room_1 s m #[Value.ref b] below meth c H locs cells slots (lw_Z below #[Value.ref b] s) (F0 m 1063 ls []) := by
  obtain ⟨hx, hb, hr, hml, hown, hts, hX, hbl, hlocks, hgv⟩ := C0
  have hbA : ¬ (fun q : Nat => s.heap.size ≤ q) b := Nat.not_le.mpr hbl
  have hAl : ∀ w ∈ Al, w.before #[Value.ref b] s = true := fun w hw => hts w (Al_tbl hw)
  have CF : CallFix p m c code 4 s #[Value.ref b] (g_ws yX5_cut cX5_cut 5 (some .int)) R_law := ⟨hx, hb, hml, hown, fun w hw => (List.mem_cons.mp hw).elim (fun q => by rw [q]; exact hAl _ kw_X5_cut.1.1) (hAl w)⟩
  have hA1 : ∀ q, g_A ad 55 q → s.heap.size ≤ q := fun q ⟨i, hi, e⟩ => by rw [e]; exact hold i hi
  have hA2 : ∀ q, g_A ad' 14 q → s.heap.size ≤ q := fun q ⟨i, hi, e⟩ => by rw [e]; exact hold2 i hi
  have hno1 : ∀ i, i < 55 → ¬ g_A ad' 14 (ad i) := fun i hi ⟨j, hj, e⟩ => hap i j hi hj e
  have hno2 : ∀ j, j < 14 → ¬ g_A ad 55 (ad' j) := fun j hj ⟨i, hi, e⟩ => hap i j hi hj e.symm
  refine lv_aload_n hx hb dL_law_1063 rfl (lv_at hl 2 rfl) ?_
  refine lv_aload_n hx hb dL_law_1064 rfl (lv_at hl 3 rfl) ?_
  refine lv_iload_n hx hb dL_law_1065 rfl (lv_at hl 0 rfl) ?_
  refine lv_iconst (v := nI 1) hx hb dL_law_1066 (by decide) ?_
  refine x_iadd hx hb dL_law_1067 ?_
  refine va_sld hx hb hX hbl hbA hS (i := nI (i + 1)) (vp_in_nI (by omega) (by omega)) dL_law_1068 ?_
  rw [nI_clamp (by omega)]
  obtain ⟨r, M1, J1, N1, K1, ca, cb, h1⟩ := o_drop (l := l) (g := g) hI hI2 h (xs (i + 1))
  refine x_call2 CF hK hP hS hA1 hl (As := [.int (xs (i + 1))]) (rest := []) ca kw_X5_drop wd3_73 (by decide) dX_0 rfl rfl ⟨Nat.le_of_ble_eq_true rfl, Nat.le_of_ble_eq_true rfl⟩ hfit (Nat.le_of_ble_eq_true rfl) dL_law_1069 (fun H1 locs hP hS hk => ?_)
  have hP2 := hP2.other hk hno2
  refine lv_aload_n hx hb dL_law_1072 rfl (lv_at hl 1 rfl) ?_
  refine lv_aload_n hx hb dL_law_1073 rfl (lv_at hl 3 rfl) ?_
  refine lv_iload_n hx hb dL_law_1074 rfl (lv_at hl 0 rfl) ?_
  refine lv_iconst (v := nI 1) hx hb dL_law_1075 (by decide) ?_
  refine x_iadd hx hb dL_law_1076 ?_
  refine va_sld hx hb hX hbl hbA hS (i := nI (i + 1)) (vp_in_nI (by omega) (by omega)) dL_law_1077 ?_
  rw [nI_clamp (by omega)]
  refine x_call2 CF hK hP2 hS hA2 hl (As := [.int (xs (i + 1))]) (rest := [.int r]) cb kw_X6_drop wd4_114 (by decide) dR_0 rfl rfl ⟨Nat.le_of_ble_eq_true rfl, Nat.le_of_ble_eq_true rfl⟩ hfit (Nat.le_of_ble_eq_true rfl) dL_law_1078 (fun H2 locs hP2 hS hk => ?_)
  have hP := hP.other hk hno1
  refine lv_icmp_eq (tgt := 1232) hx hb dL_law_1081 (by decide) (fun _ => ?_) (fun c9 => absurd rfl c9)
  refine lv_iinc (v := nI (i + 6)) (lv' := [(3, .int (nI (i + 6))), (2, .ref (ad' 0)), (1, .ref (ad 0)), (0, .ref b)]) hx hb dL_law_1232 hl (k := 0) rfl (n_inc i 6) (by decide) rfl (fun ls hl => ?_)
  refine lv_goto (tgt := 18) hx hb dL_law_1235 (by decide) ?_
  exact kk M1 N1 J1 K1 _ _ ls h1 hP hP2 hS hl
set_option maxHeartbeats 4000000 in
set_option maxRecDepth 100000 in
theorem lw_arm_30 {p : Program} {l : Launch} {e : Env} {s : State} {m : MethodId} {below : List Frame} {meth : Method} {c : Code} {b L : Nat} {xs : Nat → Int32} (C0 : lw_At p s m meth c b L xs) {g : gE} {ad ad' : Nat → Nat} (hI : g_inj ad 55) (hI2 : g_inj ad' 14) (hap : g_ap ad ad') (hold : ∀ i, i < 55 → s.heap.size ≤ ad i) (hold2 : ∀ i, i < 14 → s.heap.size ≤ ad' i) (hK : g_K g s) {cells slots : Nat} (hfit : cells ≤ 600000 ∧ slots ≤ 7302250) (i : Nat) (hi : i + 6 ≤ L) (hL : L ≤ 3072) (M N : gMem) (J K : gMeL) (h : RelA M N J K) (H : Heap) (locs : List Loc) (ls : Array Slot) (hP : g_P g ad dsX 55 M J H) (hP2 : g_P g ad' dsR 14 N K H) (hS : va_S (fun q => s.heap.size ≤ q) s.heap H locs) (hl : lv_has ls 4 [(3, .int (nI i)), (2, .ref (ad' 0)), (1, .ref (ad 0)), (0, .ref b)]) (kk : ∀ (M N : gMem) (J K : gMeL) (H : Heap) (locs : List Loc) (ls : Array Slot), RelA M N J K → g_P g ad dsX 55 M J H → g_P g ad' dsR 14 N K H → va_S (fun q => s.heap.size ≤ q) s.heap H locs → lv_has ls 4 [(3, .int (nI (i + 6))), (2, .ref (ad' 0)), (1, .ref (ad 0)), (0, .ref b)] → W p l e room_1 s m #[Value.ref b] below meth c H locs cells slots (lw_Z below #[Value.ref b] s) (F0 m 18 ls [])) : W p l e room_1 s m #[Value.ref b] below meth c H locs cells slots (lw_Z below #[Value.ref b] s) (F0 m 1086 ls []) := by
  obtain ⟨hx, hb, hr, hml, hown, hts, hX, hbl, hlocks, hgv⟩ := C0
  have hbA : ¬ (fun q : Nat => s.heap.size ≤ q) b := Nat.not_le.mpr hbl
  have hAl : ∀ w ∈ Al, w.before #[Value.ref b] s = true := fun w hw => hts w (Al_tbl hw)
  have CF : CallFix p m c code 4 s #[Value.ref b] (g_ws yX5_cut cX5_cut 5 (some .int)) R_law := ⟨hx, hb, hml, hown, fun w hw => (List.mem_cons.mp hw).elim (fun q => by rw [q]; exact hAl _ kw_X5_cut.1.1) (hAl w)⟩
  have hA1 : ∀ q, g_A ad 55 q → s.heap.size ≤ q := fun q ⟨i, hi, e⟩ => by rw [e]; exact hold i hi
  have hA2 : ∀ q, g_A ad' 14 q → s.heap.size ≤ q := fun q ⟨i, hi, e⟩ => by rw [e]; exact hold2 i hi
  have hno1 : ∀ i, i < 55 → ¬ g_A ad' 14 (ad i) := fun i hi ⟨j, hj, e⟩ => hap i j hi hj e
  have hno2 : ∀ j, j < 14 → ¬ g_A ad 55 (ad' j) := fun j hj ⟨i, hi, e⟩ => hap i j hi hj e.symm
  refine lv_aload_n hx hb dL_law_1086 rfl (lv_at hl 2 rfl) ?_
  refine lv_aload_n hx hb dL_law_1087 rfl (lv_at hl 3 rfl) ?_
  refine lv_iload_n hx hb dL_law_1088 rfl (lv_at hl 0 rfl) ?_
  refine lv_iconst (v := nI 1) hx hb dL_law_1089 (by decide) ?_
  refine x_iadd hx hb dL_law_1090 ?_
  refine va_sld hx hb hX hbl hbA hS (i := nI (i + 1)) (vp_in_nI (by omega) (by omega)) dL_law_1091 ?_
  rw [nI_clamp (by omega)]
  refine lv_aload_n hx hb dL_law_1092 rfl (lv_at hl 3 rfl) ?_
  refine lv_iload_n hx hb dL_law_1093 rfl (lv_at hl 0 rfl) ?_
  refine lv_iconst (v := nI 2) hx hb dL_law_1094 (by decide) ?_
  refine x_iadd hx hb dL_law_1095 ?_
  refine va_sld hx hb hX hbl hbA hS (i := nI (i + 2)) (vp_in_nI (by omega) (by omega)) dL_law_1096 ?_
  rw [nI_clamp (by omega)]
  refine lv_aload_n hx hb dL_law_1097 rfl (lv_at hl 3 rfl) ?_
  refine lv_iload_n hx hb dL_law_1098 rfl (lv_at hl 0 rfl) ?_
  refine lv_iconst (v := nI 3) hx hb dL_law_1099 (by decide) ?_
  refine x_iadd hx hb dL_law_1100 ?_
  refine va_sld hx hb hX hbl hbA hS (i := nI (i + 3)) (vp_in_nI (by omega) (by omega)) dL_law_1101 ?_
  rw [nI_clamp (by omega)]
  refine lv_aload_n hx hb dL_law_1102 rfl (lv_at hl 3 rfl) ?_
  refine lv_iload_n hx hb dL_law_1103 rfl (lv_at hl 0 rfl) ?_
  refine lv_iconst (v := nI 4) hx hb dL_law_1104 (by decide) ?_
  refine x_iadd hx hb dL_law_1105 ?_
  refine va_sld hx hb hX hbl hbA hS (i := nI (i + 4)) (vp_in_nI (by omega) (by omega)) dL_law_1106 ?_
  rw [nI_clamp (by omega)]
  refine lv_i2l hx hb dL_law_1107 rfl ?_
  refine lv_bipush (v := nI 32) hx hb dL_law_1108 (by decide) ?_
  refine lv_lshl hx hb dL_law_1110 rfl ?_
  refine lv_aload_n hx hb dL_law_1111 rfl (lv_at hl 3 rfl) ?_
  refine lv_iload_n hx hb dL_law_1112 rfl (lv_at hl 0 rfl) ?_
  refine lv_iconst (v := nI 5) hx hb dL_law_1113 (by decide) ?_
  refine x_iadd hx hb dL_law_1114 ?_
  refine va_sld hx hb hX hbl hbA hS (i := nI (i + 5)) (vp_in_nI (by omega) (by omega)) dL_law_1115 ?_
  rw [nI_clamp (by omega)]
  refine lv_i2l hx hb dL_law_1116 rfl ?_
  refine lv_ldc2 hx hb CF.2.2.2.1 (CF.2.2.2.2 _ (List.mem_cons_of_mem _ wd4_129)) dL_law_1117 ?_
  refine lv_land hx hb dL_law_1120 ?_
  refine lv_lor hx hb dL_law_1121 ?_
  obtain ⟨r, M1, J1, N1, K1, ca, cb, h1⟩ := o_item (l := l) (g := g) hI hI2 h (xs (i + 1)) (xs (i + 2)) (xs (i + 3)) ((((xs (i + 4)).toInt64) <<< ((nI 32).toInt64 &&& 63)) ||| (((xs (i + 5)).toInt64) &&& (4294967295 : Int64)))
  refine x_call2 CF hK hP hS hA1 hl (As := [.int (xs (i + 1)), .int (xs (i + 2)), .int (xs (i + 3)), .long ((((xs (i + 4)).toInt64) <<< ((nI 32).toInt64 &&& 63)) ||| (((xs (i + 5)).toInt64) &&& (4294967295 : Int64)))]) (rest := []) ca kw_X5_item wd3_81 (by decide) dX_0 rfl rfl ⟨Nat.le_of_ble_eq_true rfl, Nat.le_of_ble_eq_true rfl⟩ hfit (Nat.le_of_ble_eq_true rfl) dL_law_1122 (fun H1 locs hP hS hk => ?_)
  have hP2 := hP2.other hk hno2
  refine lv_aload_n hx hb dL_law_1125 rfl (lv_at hl 1 rfl) ?_
  refine lv_aload_n hx hb dL_law_1126 rfl (lv_at hl 3 rfl) ?_
  refine lv_iload_n hx hb dL_law_1127 rfl (lv_at hl 0 rfl) ?_
  refine lv_iconst (v := nI 1) hx hb dL_law_1128 (by decide) ?_
  refine x_iadd hx hb dL_law_1129 ?_
  refine va_sld hx hb hX hbl hbA hS (i := nI (i + 1)) (vp_in_nI (by omega) (by omega)) dL_law_1130 ?_
  rw [nI_clamp (by omega)]
  refine lv_aload_n hx hb dL_law_1131 rfl (lv_at hl 3 rfl) ?_
  refine lv_iload_n hx hb dL_law_1132 rfl (lv_at hl 0 rfl) ?_
  refine lv_iconst (v := nI 2) hx hb dL_law_1133 (by decide) ?_
  refine x_iadd hx hb dL_law_1134 ?_
  refine va_sld hx hb hX hbl hbA hS (i := nI (i + 2)) (vp_in_nI (by omega) (by omega)) dL_law_1135 ?_
  rw [nI_clamp (by omega)]
  refine lv_aload_n hx hb dL_law_1136 rfl (lv_at hl 3 rfl) ?_
  refine lv_iload_n hx hb dL_law_1137 rfl (lv_at hl 0 rfl) ?_
  refine lv_iconst (v := nI 3) hx hb dL_law_1138 (by decide) ?_
  refine x_iadd hx hb dL_law_1139 ?_
  refine va_sld hx hb hX hbl hbA hS (i := nI (i + 3)) (vp_in_nI (by omega) (by omega)) dL_law_1140 ?_
  rw [nI_clamp (by omega)]
  refine lv_aload_n hx hb dL_law_1141 rfl (lv_at hl 3 rfl) ?_
  refine lv_iload_n hx hb dL_law_1142 rfl (lv_at hl 0 rfl) ?_
  refine lv_iconst (v := nI 4) hx hb dL_law_1143 (by decide) ?_
  refine x_iadd hx hb dL_law_1144 ?_
  refine va_sld hx hb hX hbl hbA hS (i := nI (i + 4)) (vp_in_nI (by omega) (by omega)) dL_law_1145 ?_
  rw [nI_clamp (by omega)]
  refine lv_i2l hx hb dL_law_1146 rfl ?_
  refine lv_bipush (v := nI 32) hx hb dL_law_1147 (by decide) ?_
  refine lv_lshl hx hb dL_law_1149 rfl ?_
  refine lv_aload_n hx hb dL_law_1150 rfl (lv_at hl 3 rfl) ?_
  refine lv_iload_n hx hb dL_law_1151 rfl (lv_at hl 0 rfl) ?_
  refine lv_iconst (v := nI 5) hx hb dL_law_1152 (by decide) ?_
  refine x_iadd hx hb dL_law_1153 ?_
  refine va_sld hx hb hX hbl hbA hS (i := nI (i + 5)) (vp_in_nI (by omega) (by omega)) dL_law_1154 ?_
  rw [nI_clamp (by omega)]
  refine lv_i2l hx hb dL_law_1155 rfl ?_
  refine lv_ldc2 hx hb CF.2.2.2.1 (CF.2.2.2.2 _ (List.mem_cons_of_mem _ wd4_129)) dL_law_1156 ?_
  refine lv_land hx hb dL_law_1159 ?_
  refine lv_lor hx hb dL_law_1160 ?_
  refine x_call2 CF hK hP2 hS hA2 hl (As := [.int (xs (i + 1)), .int (xs (i + 2)), .int (xs (i + 3)), .long ((((xs (i + 4)).toInt64) <<< ((nI 32).toInt64 &&& 63)) ||| (((xs (i + 5)).toInt64) &&& (4294967295 : Int64)))]) (rest := [.int r]) cb kw_X6_item wd4_118 (by decide) dR_0 rfl rfl ⟨Nat.le_of_ble_eq_true rfl, Nat.le_of_ble_eq_true rfl⟩ hfit (Nat.le_of_ble_eq_true rfl) dL_law_1161 (fun H2 locs hP2 hS hk => ?_)
  have hP := hP.other hk hno1
  refine lv_icmp_eq (tgt := 1232) hx hb dL_law_1164 (by decide) (fun _ => ?_) (fun c9 => absurd rfl c9)
  refine lv_iinc (v := nI (i + 6)) (lv' := [(3, .int (nI (i + 6))), (2, .ref (ad' 0)), (1, .ref (ad 0)), (0, .ref b)]) hx hb dL_law_1232 hl (k := 0) rfl (n_inc i 6) (by decide) rfl (fun ls hl => ?_)
  refine lv_goto (tgt := 18) hx hb dL_law_1235 (by decide) ?_
  exact kk M1 N1 J1 K1 _ _ ls h1 hP hP2 hS hl
set_option maxHeartbeats 4000000 in
set_option maxRecDepth 100000 in
theorem lw_arm_31 {p : Program} {l : Launch} {e : Env} {s : State} {m : MethodId} {below : List Frame} {meth : Method} {c : Code} {b L : Nat} {xs : Nat → Int32} (C0 : lw_At p s m meth c b L xs) {g : gE} {ad ad' : Nat → Nat} (hI : g_inj ad 55) (hI2 : g_inj ad' 14) (hap : g_ap ad ad') (hold : ∀ i, i < 55 → s.heap.size ≤ ad i) (hold2 : ∀ i, i < 14 → s.heap.size ≤ ad' i) (hK : g_K g s) {cells slots : Nat} (hfit : cells ≤ 600000 ∧ slots ≤ 7302250) (i : Nat) (hi : i + 6 ≤ L) (hL : L ≤ 3072) (M N : gMem) (J K : gMeL) (h : RelA M N J K) (H : Heap) (locs : List Loc) (ls : Array Slot) (hP : g_P g ad dsX 55 M J H) (hP2 : g_P g ad' dsR 14 N K H) (hS : va_S (fun q => s.heap.size ≤ q) s.heap H locs) (hl : lv_has ls 4 [(3, .int (nI i)), (2, .ref (ad' 0)), (1, .ref (ad 0)), (0, .ref b)]) (kk : ∀ (M N : gMem) (J K : gMeL) (H : Heap) (locs : List Loc) (ls : Array Slot), RelA M N J K → g_P g ad dsX 55 M J H → g_P g ad' dsR 14 N K H → va_S (fun q => s.heap.size ≤ q) s.heap H locs → lv_has ls 4 [(3, .int (nI (i + 6))), (2, .ref (ad' 0)), (1, .ref (ad 0)), (0, .ref b)] → W p l e room_1 s m #[Value.ref b] below meth c H locs cells slots (lw_Z below #[Value.ref b] s) (F0 m 18 ls [])) : W p l e room_1 s m #[Value.ref b] below meth c H locs cells slots (lw_Z below #[Value.ref b] s) (F0 m 1169 ls []) := by
  obtain ⟨hx, hb, hr, hml, hown, hts, hX, hbl, hlocks, hgv⟩ := C0
  have hbA : ¬ (fun q : Nat => s.heap.size ≤ q) b := Nat.not_le.mpr hbl
  have hAl : ∀ w ∈ Al, w.before #[Value.ref b] s = true := fun w hw => hts w (Al_tbl hw)
  have CF : CallFix p m c code 4 s #[Value.ref b] (g_ws yX5_cut cX5_cut 5 (some .int)) R_law := ⟨hx, hb, hml, hown, fun w hw => (List.mem_cons.mp hw).elim (fun q => by rw [q]; exact hAl _ kw_X5_cut.1.1) (hAl w)⟩
  have hA1 : ∀ q, g_A ad 55 q → s.heap.size ≤ q := fun q ⟨i, hi, e⟩ => by rw [e]; exact hold i hi
  have hA2 : ∀ q, g_A ad' 14 q → s.heap.size ≤ q := fun q ⟨i, hi, e⟩ => by rw [e]; exact hold2 i hi
  have hno1 : ∀ i, i < 55 → ¬ g_A ad' 14 (ad i) := fun i hi ⟨j, hj, e⟩ => hap i j hi hj e
  have hno2 : ∀ j, j < 14 → ¬ g_A ad 55 (ad' j) := fun j hj ⟨i, hi, e⟩ => hap i j hi hj e.symm
  refine lv_aload_n hx hb dL_law_1169 rfl (lv_at hl 2 rfl) ?_
  refine lv_aload_n hx hb dL_law_1170 rfl (lv_at hl 3 rfl) ?_
  refine lv_iload_n hx hb dL_law_1171 rfl (lv_at hl 0 rfl) ?_
  refine lv_iconst (v := nI 1) hx hb dL_law_1172 (by decide) ?_
  refine x_iadd hx hb dL_law_1173 ?_
  refine va_sld hx hb hX hbl hbA hS (i := nI (i + 1)) (vp_in_nI (by omega) (by omega)) dL_law_1174 ?_
  rw [nI_clamp (by omega)]
  refine lv_aload_n hx hb dL_law_1175 rfl (lv_at hl 3 rfl) ?_
  refine lv_iload_n hx hb dL_law_1176 rfl (lv_at hl 0 rfl) ?_
  refine lv_iconst (v := nI 2) hx hb dL_law_1177 (by decide) ?_
  refine x_iadd hx hb dL_law_1178 ?_
  refine va_sld hx hb hX hbl hbA hS (i := nI (i + 2)) (vp_in_nI (by omega) (by omega)) dL_law_1179 ?_
  rw [nI_clamp (by omega)]
  refine lv_aload_n hx hb dL_law_1180 rfl (lv_at hl 3 rfl) ?_
  refine lv_iload_n hx hb dL_law_1181 rfl (lv_at hl 0 rfl) ?_
  refine lv_iconst (v := nI 3) hx hb dL_law_1182 (by decide) ?_
  refine x_iadd hx hb dL_law_1183 ?_
  refine va_sld hx hb hX hbl hbA hS (i := nI (i + 3)) (vp_in_nI (by omega) (by omega)) dL_law_1184 ?_
  rw [nI_clamp (by omega)]
  refine lv_aload_n hx hb dL_law_1185 rfl (lv_at hl 3 rfl) ?_
  refine lv_iload_n hx hb dL_law_1186 rfl (lv_at hl 0 rfl) ?_
  refine lv_iconst (v := nI 4) hx hb dL_law_1187 (by decide) ?_
  refine x_iadd hx hb dL_law_1188 ?_
  refine va_sld hx hb hX hbl hbA hS (i := nI (i + 4)) (vp_in_nI (by omega) (by omega)) dL_law_1189 ?_
  rw [nI_clamp (by omega)]
  refine lv_aload_n hx hb dL_law_1190 rfl (lv_at hl 3 rfl) ?_
  refine lv_iload_n hx hb dL_law_1191 rfl (lv_at hl 0 rfl) ?_
  refine lv_iconst (v := nI 5) hx hb dL_law_1192 (by decide) ?_
  refine x_iadd hx hb dL_law_1193 ?_
  refine va_sld hx hb hX hbl hbA hS (i := nI (i + 5)) (vp_in_nI (by omega) (by omega)) dL_law_1194 ?_
  rw [nI_clamp (by omega)]
  obtain ⟨r, M1, J1, N1, K1, ca, cb, h1⟩ := o_copy (l := l) (g := g) hI hI2 h (xs (i + 1)) (xs (i + 2)) (xs (i + 3)) (xs (i + 4)) (xs (i + 5))
  refine x_call2 CF hK hP hS hA1 hl (As := [.int (xs (i + 1)), .int (xs (i + 2)), .int (xs (i + 3)), .int (xs (i + 4)), .int (xs (i + 5))]) (rest := []) ca kw_X5_copy wd3_85 (by decide) dX_0 rfl rfl ⟨Nat.le_of_ble_eq_true rfl, Nat.le_of_ble_eq_true rfl⟩ hfit (Nat.le_of_ble_eq_true rfl) dL_law_1195 (fun H1 locs hP hS hk => ?_)
  have hP2 := hP2.other hk hno2
  refine lv_aload_n hx hb dL_law_1198 rfl (lv_at hl 1 rfl) ?_
  refine lv_aload_n hx hb dL_law_1199 rfl (lv_at hl 3 rfl) ?_
  refine lv_iload_n hx hb dL_law_1200 rfl (lv_at hl 0 rfl) ?_
  refine lv_iconst (v := nI 1) hx hb dL_law_1201 (by decide) ?_
  refine x_iadd hx hb dL_law_1202 ?_
  refine va_sld hx hb hX hbl hbA hS (i := nI (i + 1)) (vp_in_nI (by omega) (by omega)) dL_law_1203 ?_
  rw [nI_clamp (by omega)]
  refine lv_aload_n hx hb dL_law_1204 rfl (lv_at hl 3 rfl) ?_
  refine lv_iload_n hx hb dL_law_1205 rfl (lv_at hl 0 rfl) ?_
  refine lv_iconst (v := nI 2) hx hb dL_law_1206 (by decide) ?_
  refine x_iadd hx hb dL_law_1207 ?_
  refine va_sld hx hb hX hbl hbA hS (i := nI (i + 2)) (vp_in_nI (by omega) (by omega)) dL_law_1208 ?_
  rw [nI_clamp (by omega)]
  refine lv_aload_n hx hb dL_law_1209 rfl (lv_at hl 3 rfl) ?_
  refine lv_iload_n hx hb dL_law_1210 rfl (lv_at hl 0 rfl) ?_
  refine lv_iconst (v := nI 3) hx hb dL_law_1211 (by decide) ?_
  refine x_iadd hx hb dL_law_1212 ?_
  refine va_sld hx hb hX hbl hbA hS (i := nI (i + 3)) (vp_in_nI (by omega) (by omega)) dL_law_1213 ?_
  rw [nI_clamp (by omega)]
  refine lv_aload_n hx hb dL_law_1214 rfl (lv_at hl 3 rfl) ?_
  refine lv_iload_n hx hb dL_law_1215 rfl (lv_at hl 0 rfl) ?_
  refine lv_iconst (v := nI 4) hx hb dL_law_1216 (by decide) ?_
  refine x_iadd hx hb dL_law_1217 ?_
  refine va_sld hx hb hX hbl hbA hS (i := nI (i + 4)) (vp_in_nI (by omega) (by omega)) dL_law_1218 ?_
  rw [nI_clamp (by omega)]
  refine lv_aload_n hx hb dL_law_1219 rfl (lv_at hl 3 rfl) ?_
  refine lv_iload_n hx hb dL_law_1220 rfl (lv_at hl 0 rfl) ?_
  refine lv_iconst (v := nI 5) hx hb dL_law_1221 (by decide) ?_
  refine x_iadd hx hb dL_law_1222 ?_
  refine va_sld hx hb hX hbl hbA hS (i := nI (i + 5)) (vp_in_nI (by omega) (by omega)) dL_law_1223 ?_
  rw [nI_clamp (by omega)]
  refine x_call2 CF hK hP2 hS hA2 hl (As := [.int (xs (i + 1)), .int (xs (i + 2)), .int (xs (i + 3)), .int (xs (i + 4)), .int (xs (i + 5))]) (rest := [.int r]) cb kw_X6_copy wd4_125 (by decide) dR_0 rfl rfl ⟨Nat.le_of_ble_eq_true rfl, Nat.le_of_ble_eq_true rfl⟩ hfit (Nat.le_of_ble_eq_true rfl) dL_law_1224 (fun H2 locs hP2 hS hk => ?_)
  have hP := hP.other hk hno1
  refine lv_icmp_eq (tgt := 1232) hx hb dL_law_1227 (by decide) (fun _ => ?_) (fun c9 => absurd rfl c9)
  refine lv_iinc (v := nI (i + 6)) (lv' := [(3, .int (nI (i + 6))), (2, .ref (ad' 0)), (1, .ref (ad 0)), (0, .ref b)]) hx hb dL_law_1232 hl (k := 0) rfl (n_inc i 6) (by decide) rfl (fun ls hl => ?_)
  refine lv_goto (tgt := 18) hx hb dL_law_1235 (by decide) ?_
  exact kk M1 N1 J1 K1 _ _ ls h1 hP hP2 hS hl
