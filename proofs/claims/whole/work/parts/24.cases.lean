set_option maxRecDepth 8000 in
theorem lw_case_state {p : Program} {l : Launch} {e : Env} {s : State} {m : MethodId} {below : List Frame} {meth : Method} {c : Code} {b L : Nat} {xs : Nat → Int32} (hL : L ≤ 3072) (C0 : lw_At p s m meth c b L xs) {D : va_G} {cI cR : ClassId} {adX adM : Nat → Nat} {Inv : gb_Mem → gb_Mem → Prop} (hs : S_state Inv) {t : Nat} (ht : t + 6 ≤ L) {H : Heap} {locs : List Loc} {IX IM : gb_Mem} (hI : Inv IX IM) (hW : lw_W D cI cR adX adM s H locs IX IM) {ls : Array Slot} (hl : lv_has ls 4 [(0, .ref b), (1, .ref (adX 0)), (2, .ref (adM 0)), (3, .int (nI t))]) (KK : ∀ (IX2 IM2 : gb_Mem) (H2 : Heap) (locs2 : List Loc), Inv IX2 IM2 → lw_W D cI cR adX adM s H2 locs2 IX2 IM2 → W p l e room_1 s m #[Value.ref b] below meth c H2 locs2 200 20000 (lw_Z below #[Value.ref b] s) (F0 m 1383 ls [])) : W p l e room_1 s m #[Value.ref b] below meth c H locs 200 20000 (lw_Z below #[Value.ref b] s) (F0 m 196 ls []) := by
  obtain ⟨hx, hb, hr, hml, hown, hts, hX, hbl, hlocks, hgv⟩ := id C0
  have hbA : ¬ (fun q : Nat => s.heap.size ≤ q) b := Nat.not_le.mpr hbl
  obtain ⟨r, IX2, IM2, e1, e2, e3⟩ := hs (xs (nI t + 1).toNatClampNeg) IX IM hI
  refine lv_aload_n hx hb d_law_196 rfl (lv_at hl 1 rfl) ?_
  refine lv_aload_n hx hb d_law_197 rfl (lv_at hl 0 rfl) ?_
  refine lv_iload_n hx hb d_law_198 rfl (lv_at hl 3 rfl) ?_
  refine lv_iconst (v := 1) hx hb d_law_199 (by decide) ?_
  refine lv_iadd hx hb d_law_200 ?_
  refine va_sld hx hb hX hbl hbA hW.2.2.2.2.2.2.2.1 (lw_in ht hL 1 (by decide)) d_law_201 ?_
  refine lw_callX (d := 100 + 1) (y := yGb_state) (asr := [xs (nI t + 1).toNatClampNeg]) (rest := []) (v := r) (I' := IX2) C0 d_law_202 s_yGb_state ml_13 rfl rfl (Nat.le_of_ble_eq_true rfl) (by decide) hl.1 (by decide) (by decide) rfl hW (c_Gb_state l 100 (xs (nI t + 1).toNatClampNeg) IX e1) (fun HX locsX hWX => ?_)
  refine lv_aload_n hx hb d_law_205 rfl (lv_at hl 2 rfl) ?_
  refine lv_aload_n hx hb d_law_206 rfl (lv_at hl 0 rfl) ?_
  refine lv_iload_n hx hb d_law_207 rfl (lv_at hl 3 rfl) ?_
  refine lv_iconst (v := 1) hx hb d_law_208 (by decide) ?_
  refine lv_iadd hx hb d_law_209 ?_
  refine va_sld hx hb hX hbl hbA hWX.2.2.2.2.2.2.2.1 (lw_in ht hL 1 (by decide)) d_law_210 ?_
  refine lw_callM (d := 100 + 0) (y := yMo_state) (asr := [xs (nI t + 1).toNatClampNeg]) (rest := [.int r]) (v := r) (I' := IM2) C0 d_law_211 s_yMo_state ml_17 rfl rfl (Nat.le_of_ble_eq_true rfl) (by decide) hl.1 (by decide) (by decide) rfl hWX (c_Mo_state l 100 (xs (nI t + 1).toNatClampNeg) IM e2) (fun HM locsM hWM => ?_)
  refine lv_icmp_eq (tgt := 1383) hx hb d_law_214 (by decide) (fun _ => ?_) (fun hc => absurd rfl hc)
  exact KK IX2 IM2 HM locsM e3 hWM
set_option maxRecDepth 8000 in
theorem lw_case_boat {p : Program} {l : Launch} {e : Env} {s : State} {m : MethodId} {below : List Frame} {meth : Method} {c : Code} {b L : Nat} {xs : Nat → Int32} (hL : L ≤ 3072) (C0 : lw_At p s m meth c b L xs) {D : va_G} {cI cR : ClassId} {adX adM : Nat → Nat} {Inv : gb_Mem → gb_Mem → Prop} (hs : S_boat Inv) {t : Nat} (ht : t + 6 ≤ L) {H : Heap} {locs : List Loc} {IX IM : gb_Mem} (hI : Inv IX IM) (hW : lw_W D cI cR adX adM s H locs IX IM) {ls : Array Slot} (hl : lv_has ls 4 [(0, .ref b), (1, .ref (adX 0)), (2, .ref (adM 0)), (3, .int (nI t))]) (KK : ∀ (IX2 IM2 : gb_Mem) (H2 : Heap) (locs2 : List Loc), Inv IX2 IM2 → lw_W D cI cR adX adM s H2 locs2 IX2 IM2 → W p l e room_1 s m #[Value.ref b] below meth c H2 locs2 200 20000 (lw_Z below #[Value.ref b] s) (F0 m 1383 ls [])) : W p l e room_1 s m #[Value.ref b] below meth c H locs 200 20000 (lw_Z below #[Value.ref b] s) (F0 m 219 ls []) := by
  obtain ⟨hx, hb, hr, hml, hown, hts, hX, hbl, hlocks, hgv⟩ := id C0
  have hbA : ¬ (fun q : Nat => s.heap.size ≤ q) b := Nat.not_le.mpr hbl
  obtain ⟨r, IX2, IM2, e1, e2, e3⟩ := hs (xs (nI t + 1).toNatClampNeg) (xs (nI t + 2).toNatClampNeg) (xs (nI t + 3).toNatClampNeg) (xs (nI t + 4).toNatClampNeg) IX IM hI
  refine lv_aload_n hx hb d_law_219 rfl (lv_at hl 1 rfl) ?_
  refine lv_aload_n hx hb d_law_220 rfl (lv_at hl 0 rfl) ?_
  refine lv_iload_n hx hb d_law_221 rfl (lv_at hl 3 rfl) ?_
  refine lv_iconst (v := 1) hx hb d_law_222 (by decide) ?_
  refine lv_iadd hx hb d_law_223 ?_
  refine va_sld hx hb hX hbl hbA hW.2.2.2.2.2.2.2.1 (lw_in ht hL 1 (by decide)) d_law_224 ?_
  refine lv_aload_n hx hb d_law_225 rfl (lv_at hl 0 rfl) ?_
  refine lv_iload_n hx hb d_law_226 rfl (lv_at hl 3 rfl) ?_
  refine lv_iconst (v := 2) hx hb d_law_227 (by decide) ?_
  refine lv_iadd hx hb d_law_228 ?_
  refine va_sld hx hb hX hbl hbA hW.2.2.2.2.2.2.2.1 (lw_in ht hL 2 (by decide)) d_law_229 ?_
  refine lv_aload_n hx hb d_law_230 rfl (lv_at hl 0 rfl) ?_
  refine lv_iload_n hx hb d_law_231 rfl (lv_at hl 3 rfl) ?_
  refine lv_iconst (v := 3) hx hb d_law_232 (by decide) ?_
  refine lv_iadd hx hb d_law_233 ?_
  refine va_sld hx hb hX hbl hbA hW.2.2.2.2.2.2.2.1 (lw_in ht hL 3 (by decide)) d_law_234 ?_
  refine lv_aload_n hx hb d_law_235 rfl (lv_at hl 0 rfl) ?_
  refine lv_iload_n hx hb d_law_236 rfl (lv_at hl 3 rfl) ?_
  refine lv_iconst (v := 4) hx hb d_law_237 (by decide) ?_
  refine lv_iadd hx hb d_law_238 ?_
  refine va_sld hx hb hX hbl hbA hW.2.2.2.2.2.2.2.1 (lw_in ht hL 4 (by decide)) d_law_239 ?_
  refine lw_callX (d := 100 + 2) (y := yGb_boat) (asr := [xs (nI t + 1).toNatClampNeg, xs (nI t + 2).toNatClampNeg, xs (nI t + 3).toNatClampNeg, xs (nI t + 4).toNatClampNeg]) (rest := []) (v := r) (I' := IX2) C0 d_law_240 s_yGb_boat ml_18 rfl rfl (Nat.le_of_ble_eq_true rfl) (by decide) hl.1 (by decide) (by decide) rfl hW (c_Gb_boat l 100 (xs (nI t + 1).toNatClampNeg) (xs (nI t + 2).toNatClampNeg) (xs (nI t + 3).toNatClampNeg) (xs (nI t + 4).toNatClampNeg) IX e1) (fun HX locsX hWX => ?_)
  refine lv_aload_n hx hb d_law_243 rfl (lv_at hl 2 rfl) ?_
  refine lv_aload_n hx hb d_law_244 rfl (lv_at hl 0 rfl) ?_
  refine lv_iload_n hx hb d_law_245 rfl (lv_at hl 3 rfl) ?_
  refine lv_iconst (v := 1) hx hb d_law_246 (by decide) ?_
  refine lv_iadd hx hb d_law_247 ?_
  refine va_sld hx hb hX hbl hbA hWX.2.2.2.2.2.2.2.1 (lw_in ht hL 1 (by decide)) d_law_248 ?_
  refine lv_aload_n hx hb d_law_249 rfl (lv_at hl 0 rfl) ?_
  refine lv_iload_n hx hb d_law_250 rfl (lv_at hl 3 rfl) ?_
  refine lv_iconst (v := 2) hx hb d_law_251 (by decide) ?_
  refine lv_iadd hx hb d_law_252 ?_
  refine va_sld hx hb hX hbl hbA hWX.2.2.2.2.2.2.2.1 (lw_in ht hL 2 (by decide)) d_law_253 ?_
  refine lv_aload_n hx hb d_law_254 rfl (lv_at hl 0 rfl) ?_
  refine lv_iload_n hx hb d_law_255 rfl (lv_at hl 3 rfl) ?_
  refine lv_iconst (v := 3) hx hb d_law_256 (by decide) ?_
  refine lv_iadd hx hb d_law_257 ?_
  refine va_sld hx hb hX hbl hbA hWX.2.2.2.2.2.2.2.1 (lw_in ht hL 3 (by decide)) d_law_258 ?_
  refine lv_aload_n hx hb d_law_259 rfl (lv_at hl 0 rfl) ?_
  refine lv_iload_n hx hb d_law_260 rfl (lv_at hl 3 rfl) ?_
  refine lv_iconst (v := 4) hx hb d_law_261 (by decide) ?_
  refine lv_iadd hx hb d_law_262 ?_
  refine va_sld hx hb hX hbl hbA hWX.2.2.2.2.2.2.2.1 (lw_in ht hL 4 (by decide)) d_law_263 ?_
  refine lw_callM (d := 100 + 1) (y := yMo_boat) (asr := [xs (nI t + 1).toNatClampNeg, xs (nI t + 2).toNatClampNeg, xs (nI t + 3).toNatClampNeg, xs (nI t + 4).toNatClampNeg]) (rest := [.int r]) (v := r) (I' := IM2) C0 d_law_264 s_yMo_boat ml_22 rfl rfl (Nat.le_of_ble_eq_true rfl) (by decide) hl.1 (by decide) (by decide) rfl hWX (c_Mo_boat l 100 (xs (nI t + 1).toNatClampNeg) (xs (nI t + 2).toNatClampNeg) (xs (nI t + 3).toNatClampNeg) (xs (nI t + 4).toNatClampNeg) IM e2) (fun HM locsM hWM => ?_)
  refine lv_icmp_eq (tgt := 1383) hx hb d_law_267 (by decide) (fun _ => ?_) (fun hc => absurd rfl hc)
  exact KK IX2 IM2 HM locsM e3 hWM
set_option maxRecDepth 8000 in
theorem lw_case_set {p : Program} {l : Launch} {e : Env} {s : State} {m : MethodId} {below : List Frame} {meth : Method} {c : Code} {b L : Nat} {xs : Nat → Int32} (hL : L ≤ 3072) (C0 : lw_At p s m meth c b L xs) {D : va_G} {cI cR : ClassId} {adX adM : Nat → Nat} {Inv : gb_Mem → gb_Mem → Prop} (hs : S_set Inv) {t : Nat} (ht : t + 6 ≤ L) {H : Heap} {locs : List Loc} {IX IM : gb_Mem} (hI : Inv IX IM) (hW : lw_W D cI cR adX adM s H locs IX IM) {ls : Array Slot} (hl : lv_has ls 4 [(0, .ref b), (1, .ref (adX 0)), (2, .ref (adM 0)), (3, .int (nI t))]) (KK : ∀ (IX2 IM2 : gb_Mem) (H2 : Heap) (locs2 : List Loc), Inv IX2 IM2 → lw_W D cI cR adX adM s H2 locs2 IX2 IM2 → W p l e room_1 s m #[Value.ref b] below meth c H2 locs2 200 20000 (lw_Z below #[Value.ref b] s) (F0 m 1383 ls [])) : W p l e room_1 s m #[Value.ref b] below meth c H locs 200 20000 (lw_Z below #[Value.ref b] s) (F0 m 272 ls []) := by
  obtain ⟨hx, hb, hr, hml, hown, hts, hX, hbl, hlocks, hgv⟩ := id C0
  have hbA : ¬ (fun q : Nat => s.heap.size ≤ q) b := Nat.not_le.mpr hbl
  obtain ⟨r, IX2, IM2, e1, e2, e3⟩ := hs (xs (nI t + 1).toNatClampNeg) (xs (nI t + 2).toNatClampNeg) (xs (nI t + 3).toNatClampNeg) IX IM hI
  refine lv_aload_n hx hb d_law_272 rfl (lv_at hl 1 rfl) ?_
  refine lv_aload_n hx hb d_law_273 rfl (lv_at hl 0 rfl) ?_
  refine lv_iload_n hx hb d_law_274 rfl (lv_at hl 3 rfl) ?_
  refine lv_iconst (v := 1) hx hb d_law_275 (by decide) ?_
  refine lv_iadd hx hb d_law_276 ?_
  refine va_sld hx hb hX hbl hbA hW.2.2.2.2.2.2.2.1 (lw_in ht hL 1 (by decide)) d_law_277 ?_
  refine lv_aload_n hx hb d_law_278 rfl (lv_at hl 0 rfl) ?_
  refine lv_iload_n hx hb d_law_279 rfl (lv_at hl 3 rfl) ?_
  refine lv_iconst (v := 2) hx hb d_law_280 (by decide) ?_
  refine lv_iadd hx hb d_law_281 ?_
  refine va_sld hx hb hX hbl hbA hW.2.2.2.2.2.2.2.1 (lw_in ht hL 2 (by decide)) d_law_282 ?_
  refine lv_aload_n hx hb d_law_283 rfl (lv_at hl 0 rfl) ?_
  refine lv_iload_n hx hb d_law_284 rfl (lv_at hl 3 rfl) ?_
  refine lv_iconst (v := 3) hx hb d_law_285 (by decide) ?_
  refine lv_iadd hx hb d_law_286 ?_
  refine va_sld hx hb hX hbl hbA hW.2.2.2.2.2.2.2.1 (lw_in ht hL 3 (by decide)) d_law_287 ?_
  refine lw_callX (d := 100 + 2) (y := yGb_set) (asr := [xs (nI t + 1).toNatClampNeg, xs (nI t + 2).toNatClampNeg, xs (nI t + 3).toNatClampNeg]) (rest := []) (v := r) (I' := IX2) C0 d_law_288 s_yGb_set ml_23 rfl rfl (Nat.le_of_ble_eq_true rfl) (by decide) hl.1 (by decide) (by decide) rfl hW (c_Gb_set l 100 (xs (nI t + 1).toNatClampNeg) (xs (nI t + 2).toNatClampNeg) (xs (nI t + 3).toNatClampNeg) IX e1) (fun HX locsX hWX => ?_)
  refine lv_aload_n hx hb d_law_291 rfl (lv_at hl 2 rfl) ?_
  refine lv_aload_n hx hb d_law_292 rfl (lv_at hl 0 rfl) ?_
  refine lv_iload_n hx hb d_law_293 rfl (lv_at hl 3 rfl) ?_
  refine lv_iconst (v := 1) hx hb d_law_294 (by decide) ?_
  refine lv_iadd hx hb d_law_295 ?_
  refine va_sld hx hb hX hbl hbA hWX.2.2.2.2.2.2.2.1 (lw_in ht hL 1 (by decide)) d_law_296 ?_
  refine lv_aload_n hx hb d_law_297 rfl (lv_at hl 0 rfl) ?_
  refine lv_iload_n hx hb d_law_298 rfl (lv_at hl 3 rfl) ?_
  refine lv_iconst (v := 2) hx hb d_law_299 (by decide) ?_
  refine lv_iadd hx hb d_law_300 ?_
  refine va_sld hx hb hX hbl hbA hWX.2.2.2.2.2.2.2.1 (lw_in ht hL 2 (by decide)) d_law_301 ?_
  refine lv_aload_n hx hb d_law_302 rfl (lv_at hl 0 rfl) ?_
  refine lv_iload_n hx hb d_law_303 rfl (lv_at hl 3 rfl) ?_
  refine lv_iconst (v := 3) hx hb d_law_304 (by decide) ?_
  refine lv_iadd hx hb d_law_305 ?_
  refine va_sld hx hb hX hbl hbA hWX.2.2.2.2.2.2.2.1 (lw_in ht hL 3 (by decide)) d_law_306 ?_
  refine lw_callM (d := 100 + 2) (y := yMo_set) (asr := [xs (nI t + 1).toNatClampNeg, xs (nI t + 2).toNatClampNeg, xs (nI t + 3).toNatClampNeg]) (rest := [.int r]) (v := r) (I' := IM2) C0 d_law_307 s_yMo_set ml_27 rfl rfl (Nat.le_of_ble_eq_true rfl) (by decide) hl.1 (by decide) (by decide) rfl hWX (c_Mo_set l 100 (xs (nI t + 1).toNatClampNeg) (xs (nI t + 2).toNatClampNeg) (xs (nI t + 3).toNatClampNeg) IM e2) (fun HM locsM hWM => ?_)
  refine lv_icmp_eq (tgt := 1383) hx hb d_law_310 (by decide) (fun _ => ?_) (fun hc => absurd rfl hc)
  exact KK IX2 IM2 HM locsM e3 hWM
set_option maxRecDepth 8000 in
theorem lw_case_act {p : Program} {l : Launch} {e : Env} {s : State} {m : MethodId} {below : List Frame} {meth : Method} {c : Code} {b L : Nat} {xs : Nat → Int32} (hL : L ≤ 3072) (C0 : lw_At p s m meth c b L xs) {D : va_G} {cI cR : ClassId} {adX adM : Nat → Nat} {Inv : gb_Mem → gb_Mem → Prop} (hs : S_act Inv) {t : Nat} (ht : t + 6 ≤ L) {H : Heap} {locs : List Loc} {IX IM : gb_Mem} (hI : Inv IX IM) (hW : lw_W D cI cR adX adM s H locs IX IM) {ls : Array Slot} (hl : lv_has ls 4 [(0, .ref b), (1, .ref (adX 0)), (2, .ref (adM 0)), (3, .int (nI t))]) (KK : ∀ (IX2 IM2 : gb_Mem) (H2 : Heap) (locs2 : List Loc), Inv IX2 IM2 → lw_W D cI cR adX adM s H2 locs2 IX2 IM2 → W p l e room_1 s m #[Value.ref b] below meth c H2 locs2 200 20000 (lw_Z below #[Value.ref b] s) (F0 m 1383 ls [])) : W p l e room_1 s m #[Value.ref b] below meth c H locs 200 20000 (lw_Z below #[Value.ref b] s) (F0 m 315 ls []) := by
  obtain ⟨hx, hb, hr, hml, hown, hts, hX, hbl, hlocks, hgv⟩ := id C0
  have hbA : ¬ (fun q : Nat => s.heap.size ≤ q) b := Nat.not_le.mpr hbl
  obtain ⟨r, IX2, IM2, e1, e2, e3⟩ := hs (xs (nI t + 1).toNatClampNeg) (xs (nI t + 2).toNatClampNeg) (xs (nI t + 3).toNatClampNeg) IX IM hI
  refine lv_aload_n hx hb d_law_315 rfl (lv_at hl 1 rfl) ?_
  refine lv_aload_n hx hb d_law_316 rfl (lv_at hl 0 rfl) ?_
  refine lv_iload_n hx hb d_law_317 rfl (lv_at hl 3 rfl) ?_
  refine lv_iconst (v := 1) hx hb d_law_318 (by decide) ?_
  refine lv_iadd hx hb d_law_319 ?_
  refine va_sld hx hb hX hbl hbA hW.2.2.2.2.2.2.2.1 (lw_in ht hL 1 (by decide)) d_law_320 ?_
  refine lv_aload_n hx hb d_law_321 rfl (lv_at hl 0 rfl) ?_
  refine lv_iload_n hx hb d_law_322 rfl (lv_at hl 3 rfl) ?_
  refine lv_iconst (v := 2) hx hb d_law_323 (by decide) ?_
  refine lv_iadd hx hb d_law_324 ?_
  refine va_sld hx hb hX hbl hbA hW.2.2.2.2.2.2.2.1 (lw_in ht hL 2 (by decide)) d_law_325 ?_
  refine lv_aload_n hx hb d_law_326 rfl (lv_at hl 0 rfl) ?_
  refine lv_iload_n hx hb d_law_327 rfl (lv_at hl 3 rfl) ?_
  refine lv_iconst (v := 3) hx hb d_law_328 (by decide) ?_
  refine lv_iadd hx hb d_law_329 ?_
  refine va_sld hx hb hX hbl hbA hW.2.2.2.2.2.2.2.1 (lw_in ht hL 3 (by decide)) d_law_330 ?_
  refine lw_callX (d := 100 + 6) (y := yGb_act) (asr := [xs (nI t + 1).toNatClampNeg, xs (nI t + 2).toNatClampNeg, xs (nI t + 3).toNatClampNeg]) (rest := []) (v := r) (I' := IX2) C0 d_law_331 s_yGb_act ml_28 rfl rfl (Nat.le_of_ble_eq_true rfl) (by decide) hl.1 (by decide) (by decide) rfl hW (c_Gb_act l 100 (xs (nI t + 1).toNatClampNeg) (xs (nI t + 2).toNatClampNeg) (xs (nI t + 3).toNatClampNeg) IX e1) (fun HX locsX hWX => ?_)
  refine lv_aload_n hx hb d_law_334 rfl (lv_at hl 2 rfl) ?_
  refine lv_aload_n hx hb d_law_335 rfl (lv_at hl 0 rfl) ?_
  refine lv_iload_n hx hb d_law_336 rfl (lv_at hl 3 rfl) ?_
  refine lv_iconst (v := 1) hx hb d_law_337 (by decide) ?_
  refine lv_iadd hx hb d_law_338 ?_
  refine va_sld hx hb hX hbl hbA hWX.2.2.2.2.2.2.2.1 (lw_in ht hL 1 (by decide)) d_law_339 ?_
  refine lv_aload_n hx hb d_law_340 rfl (lv_at hl 0 rfl) ?_
  refine lv_iload_n hx hb d_law_341 rfl (lv_at hl 3 rfl) ?_
  refine lv_iconst (v := 2) hx hb d_law_342 (by decide) ?_
  refine lv_iadd hx hb d_law_343 ?_
  refine va_sld hx hb hX hbl hbA hWX.2.2.2.2.2.2.2.1 (lw_in ht hL 2 (by decide)) d_law_344 ?_
  refine lv_aload_n hx hb d_law_345 rfl (lv_at hl 0 rfl) ?_
  refine lv_iload_n hx hb d_law_346 rfl (lv_at hl 3 rfl) ?_
  refine lv_iconst (v := 3) hx hb d_law_347 (by decide) ?_
  refine lv_iadd hx hb d_law_348 ?_
  refine va_sld hx hb hX hbl hbA hWX.2.2.2.2.2.2.2.1 (lw_in ht hL 3 (by decide)) d_law_349 ?_
  refine lw_callM (d := 100 + 3) (y := yMo_act) (asr := [xs (nI t + 1).toNatClampNeg, xs (nI t + 2).toNatClampNeg, xs (nI t + 3).toNatClampNeg]) (rest := [.int r]) (v := r) (I' := IM2) C0 d_law_350 s_yMo_act ml_31 rfl rfl (Nat.le_of_ble_eq_true rfl) (by decide) hl.1 (by decide) (by decide) rfl hWX (c_Mo_act l 100 (xs (nI t + 1).toNatClampNeg) (xs (nI t + 2).toNatClampNeg) (xs (nI t + 3).toNatClampNeg) IM e2) (fun HM locsM hWM => ?_)
  refine lv_icmp_eq (tgt := 1383) hx hb d_law_353 (by decide) (fun _ => ?_) (fun hc => absurd rfl hc)
  exact KK IX2 IM2 HM locsM e3 hWM
set_option maxRecDepth 8000 in
theorem lw_case_minutes {p : Program} {l : Launch} {e : Env} {s : State} {m : MethodId} {below : List Frame} {meth : Method} {c : Code} {b L : Nat} {xs : Nat → Int32} (hL : L ≤ 3072) (C0 : lw_At p s m meth c b L xs) {D : va_G} {cI cR : ClassId} {adX adM : Nat → Nat} {Inv : gb_Mem → gb_Mem → Prop} (hs : S_minutes Inv) {t : Nat} (ht : t + 6 ≤ L) {H : Heap} {locs : List Loc} {IX IM : gb_Mem} (hI : Inv IX IM) (hW : lw_W D cI cR adX adM s H locs IX IM) {ls : Array Slot} (hl : lv_has ls 4 [(0, .ref b), (1, .ref (adX 0)), (2, .ref (adM 0)), (3, .int (nI t))]) (KK : ∀ (IX2 IM2 : gb_Mem) (H2 : Heap) (locs2 : List Loc), Inv IX2 IM2 → lw_W D cI cR adX adM s H2 locs2 IX2 IM2 → W p l e room_1 s m #[Value.ref b] below meth c H2 locs2 200 20000 (lw_Z below #[Value.ref b] s) (F0 m 1383 ls [])) : W p l e room_1 s m #[Value.ref b] below meth c H locs 200 20000 (lw_Z below #[Value.ref b] s) (F0 m 358 ls []) := by
  obtain ⟨hx, hb, hr, hml, hown, hts, hX, hbl, hlocks, hgv⟩ := id C0
  have hbA : ¬ (fun q : Nat => s.heap.size ≤ q) b := Nat.not_le.mpr hbl
  obtain ⟨r, IX2, IM2, e1, e2, e3⟩ := hs (xs (nI t + 1).toNatClampNeg) IX IM hI
  refine lv_aload_n hx hb d_law_358 rfl (lv_at hl 1 rfl) ?_
  refine lv_aload_n hx hb d_law_359 rfl (lv_at hl 0 rfl) ?_
  refine lv_iload_n hx hb d_law_360 rfl (lv_at hl 3 rfl) ?_
  refine lv_iconst (v := 1) hx hb d_law_361 (by decide) ?_
  refine lv_iadd hx hb d_law_362 ?_
  refine va_sld hx hb hX hbl hbA hW.2.2.2.2.2.2.2.1 (lw_in ht hL 1 (by decide)) d_law_363 ?_
  refine lw_callX (d := 100 + 7) (y := yGb_minutes) (asr := [xs (nI t + 1).toNatClampNeg]) (rest := []) (v := r) (I' := IX2) C0 d_law_364 s_yGb_minutes ml_32 rfl rfl (Nat.le_of_ble_eq_true rfl) (by decide) hl.1 (by decide) (by decide) rfl hW (c_Gb_minutes l 100 (xs (nI t + 1).toNatClampNeg) IX e1) (fun HX locsX hWX => ?_)
  refine lv_aload_n hx hb d_law_367 rfl (lv_at hl 2 rfl) ?_
  refine lv_aload_n hx hb d_law_368 rfl (lv_at hl 0 rfl) ?_
  refine lv_iload_n hx hb d_law_369 rfl (lv_at hl 3 rfl) ?_
  refine lv_iconst (v := 1) hx hb d_law_370 (by decide) ?_
  refine lv_iadd hx hb d_law_371 ?_
  refine va_sld hx hb hX hbl hbA hWX.2.2.2.2.2.2.2.1 (lw_in ht hL 1 (by decide)) d_law_372 ?_
  refine lw_callM (d := 100 + 8) (y := yMo_minutes) (asr := [xs (nI t + 1).toNatClampNeg]) (rest := [.int r]) (v := r) (I' := IM2) C0 d_law_373 s_yMo_minutes ml_35 rfl rfl (Nat.le_of_ble_eq_true rfl) (by decide) hl.1 (by decide) (by decide) rfl hWX (c_Mo_minutes l 100 (xs (nI t + 1).toNatClampNeg) IM e2) (fun HM locsM hWM => ?_)
  refine lv_icmp_eq (tgt := 1383) hx hb d_law_376 (by decide) (fun _ => ?_) (fun hc => absurd rfl hc)
  exact KK IX2 IM2 HM locsM e3 hWM
set_option maxRecDepth 8000 in
theorem lw_case_feed {p : Program} {l : Launch} {e : Env} {s : State} {m : MethodId} {below : List Frame} {meth : Method} {c : Code} {b L : Nat} {xs : Nat → Int32} (hL : L ≤ 3072) (C0 : lw_At p s m meth c b L xs) {D : va_G} {cI cR : ClassId} {adX adM : Nat → Nat} {Inv : gb_Mem → gb_Mem → Prop} (hs : S_feed Inv) {t : Nat} (ht : t + 6 ≤ L) {H : Heap} {locs : List Loc} {IX IM : gb_Mem} (hI : Inv IX IM) (hW : lw_W D cI cR adX adM s H locs IX IM) {ls : Array Slot} (hl : lv_has ls 4 [(0, .ref b), (1, .ref (adX 0)), (2, .ref (adM 0)), (3, .int (nI t))]) (KK : ∀ (IX2 IM2 : gb_Mem) (H2 : Heap) (locs2 : List Loc), Inv IX2 IM2 → lw_W D cI cR adX adM s H2 locs2 IX2 IM2 → W p l e room_1 s m #[Value.ref b] below meth c H2 locs2 200 20000 (lw_Z below #[Value.ref b] s) (F0 m 1383 ls [])) : W p l e room_1 s m #[Value.ref b] below meth c H locs 200 20000 (lw_Z below #[Value.ref b] s) (F0 m 381 ls []) := by
  obtain ⟨hx, hb, hr, hml, hown, hts, hX, hbl, hlocks, hgv⟩ := id C0
  have hbA : ¬ (fun q : Nat => s.heap.size ≤ q) b := Nat.not_le.mpr hbl
  obtain ⟨r, IX2, IM2, e1, e2, e3⟩ := hs (xs (nI t + 1).toNatClampNeg) (xs (nI t + 2).toNatClampNeg) (xs (nI t + 3).toNatClampNeg) (xs (nI t + 4).toNatClampNeg) (xs (nI t + 5).toNatClampNeg) IX IM hI
  refine lv_aload_n hx hb d_law_381 rfl (lv_at hl 1 rfl) ?_
  refine lv_aload_n hx hb d_law_382 rfl (lv_at hl 0 rfl) ?_
  refine lv_iload_n hx hb d_law_383 rfl (lv_at hl 3 rfl) ?_
  refine lv_iconst (v := 1) hx hb d_law_384 (by decide) ?_
  refine lv_iadd hx hb d_law_385 ?_
  refine va_sld hx hb hX hbl hbA hW.2.2.2.2.2.2.2.1 (lw_in ht hL 1 (by decide)) d_law_386 ?_
  refine lv_aload_n hx hb d_law_387 rfl (lv_at hl 0 rfl) ?_
  refine lv_iload_n hx hb d_law_388 rfl (lv_at hl 3 rfl) ?_
  refine lv_iconst (v := 2) hx hb d_law_389 (by decide) ?_
  refine lv_iadd hx hb d_law_390 ?_
  refine va_sld hx hb hX hbl hbA hW.2.2.2.2.2.2.2.1 (lw_in ht hL 2 (by decide)) d_law_391 ?_
  refine lv_aload_n hx hb d_law_392 rfl (lv_at hl 0 rfl) ?_
  refine lv_iload_n hx hb d_law_393 rfl (lv_at hl 3 rfl) ?_
  refine lv_iconst (v := 3) hx hb d_law_394 (by decide) ?_
  refine lv_iadd hx hb d_law_395 ?_
  refine va_sld hx hb hX hbl hbA hW.2.2.2.2.2.2.2.1 (lw_in ht hL 3 (by decide)) d_law_396 ?_
  refine lv_aload_n hx hb d_law_397 rfl (lv_at hl 0 rfl) ?_
  refine lv_iload_n hx hb d_law_398 rfl (lv_at hl 3 rfl) ?_
  refine lv_iconst (v := 4) hx hb d_law_399 (by decide) ?_
  refine lv_iadd hx hb d_law_400 ?_
  refine va_sld hx hb hX hbl hbA hW.2.2.2.2.2.2.2.1 (lw_in ht hL 4 (by decide)) d_law_401 ?_
  refine lv_aload_n hx hb d_law_402 rfl (lv_at hl 0 rfl) ?_
  refine lv_iload_n hx hb d_law_403 rfl (lv_at hl 3 rfl) ?_
  refine lv_iconst (v := 5) hx hb d_law_404 (by decide) ?_
  refine lv_iadd hx hb d_law_405 ?_
  refine va_sld hx hb hX hbl hbA hW.2.2.2.2.2.2.2.1 (lw_in ht hL 5 (by decide)) d_law_406 ?_
  refine lw_callX (d := 100 + 1) (y := yGb_feed) (asr := [xs (nI t + 1).toNatClampNeg, xs (nI t + 2).toNatClampNeg, xs (nI t + 3).toNatClampNeg, xs (nI t + 4).toNatClampNeg, xs (nI t + 5).toNatClampNeg]) (rest := []) (v := r) (I' := IX2) C0 d_law_407 s_yGb_feed ml_36 rfl rfl (Nat.le_of_ble_eq_true rfl) (by decide) hl.1 (by decide) (by decide) rfl hW (c_Gb_feed l 100 (xs (nI t + 1).toNatClampNeg) (xs (nI t + 2).toNatClampNeg) (xs (nI t + 3).toNatClampNeg) (xs (nI t + 4).toNatClampNeg) (xs (nI t + 5).toNatClampNeg) IX e1) (fun HX locsX hWX => ?_)
  refine lv_aload_n hx hb d_law_410 rfl (lv_at hl 2 rfl) ?_
  refine lv_aload_n hx hb d_law_411 rfl (lv_at hl 0 rfl) ?_
  refine lv_iload_n hx hb d_law_412 rfl (lv_at hl 3 rfl) ?_
  refine lv_iconst (v := 1) hx hb d_law_413 (by decide) ?_
  refine lv_iadd hx hb d_law_414 ?_
  refine va_sld hx hb hX hbl hbA hWX.2.2.2.2.2.2.2.1 (lw_in ht hL 1 (by decide)) d_law_415 ?_
  refine lv_aload_n hx hb d_law_416 rfl (lv_at hl 0 rfl) ?_
  refine lv_iload_n hx hb d_law_417 rfl (lv_at hl 3 rfl) ?_
  refine lv_iconst (v := 2) hx hb d_law_418 (by decide) ?_
  refine lv_iadd hx hb d_law_419 ?_
  refine va_sld hx hb hX hbl hbA hWX.2.2.2.2.2.2.2.1 (lw_in ht hL 2 (by decide)) d_law_420 ?_
  refine lv_aload_n hx hb d_law_421 rfl (lv_at hl 0 rfl) ?_
  refine lv_iload_n hx hb d_law_422 rfl (lv_at hl 3 rfl) ?_
  refine lv_iconst (v := 3) hx hb d_law_423 (by decide) ?_
  refine lv_iadd hx hb d_law_424 ?_
  refine va_sld hx hb hX hbl hbA hWX.2.2.2.2.2.2.2.1 (lw_in ht hL 3 (by decide)) d_law_425 ?_
  refine lv_aload_n hx hb d_law_426 rfl (lv_at hl 0 rfl) ?_
  refine lv_iload_n hx hb d_law_427 rfl (lv_at hl 3 rfl) ?_
  refine lv_iconst (v := 4) hx hb d_law_428 (by decide) ?_
  refine lv_iadd hx hb d_law_429 ?_
  refine va_sld hx hb hX hbl hbA hWX.2.2.2.2.2.2.2.1 (lw_in ht hL 4 (by decide)) d_law_430 ?_
  refine lv_aload_n hx hb d_law_431 rfl (lv_at hl 0 rfl) ?_
  refine lv_iload_n hx hb d_law_432 rfl (lv_at hl 3 rfl) ?_
  refine lv_iconst (v := 5) hx hb d_law_433 (by decide) ?_
  refine lv_iadd hx hb d_law_434 ?_
  refine va_sld hx hb hX hbl hbA hWX.2.2.2.2.2.2.2.1 (lw_in ht hL 5 (by decide)) d_law_435 ?_
  refine lw_callM (d := 100 + 1) (y := yMo_feed) (asr := [xs (nI t + 1).toNatClampNeg, xs (nI t + 2).toNatClampNeg, xs (nI t + 3).toNatClampNeg, xs (nI t + 4).toNatClampNeg, xs (nI t + 5).toNatClampNeg]) (rest := [.int r]) (v := r) (I' := IM2) C0 d_law_436 s_yMo_feed ml_40 rfl rfl (Nat.le_of_ble_eq_true rfl) (by decide) hl.1 (by decide) (by decide) rfl hWX (c_Mo_feed l 100 (xs (nI t + 1).toNatClampNeg) (xs (nI t + 2).toNatClampNeg) (xs (nI t + 3).toNatClampNeg) (xs (nI t + 4).toNatClampNeg) (xs (nI t + 5).toNatClampNeg) IM e2) (fun HM locsM hWM => ?_)
  refine lv_icmp_eq (tgt := 1383) hx hb d_law_439 (by decide) (fun _ => ?_) (fun hc => absurd rfl hc)
  exact KK IX2 IM2 HM locsM e3 hWM
set_option maxRecDepth 8000 in
theorem lw_case_end {p : Program} {l : Launch} {e : Env} {s : State} {m : MethodId} {below : List Frame} {meth : Method} {c : Code} {b L : Nat} {xs : Nat → Int32} (hL : L ≤ 3072) (C0 : lw_At p s m meth c b L xs) {D : va_G} {cI cR : ClassId} {adX adM : Nat → Nat} {Inv : gb_Mem → gb_Mem → Prop} (hs : S_end Inv) {t : Nat} (ht : t + 6 ≤ L) {H : Heap} {locs : List Loc} {IX IM : gb_Mem} (hI : Inv IX IM) (hW : lw_W D cI cR adX adM s H locs IX IM) {ls : Array Slot} (hl : lv_has ls 4 [(0, .ref b), (1, .ref (adX 0)), (2, .ref (adM 0)), (3, .int (nI t))]) (KK : ∀ (IX2 IM2 : gb_Mem) (H2 : Heap) (locs2 : List Loc), Inv IX2 IM2 → lw_W D cI cR adX adM s H2 locs2 IX2 IM2 → W p l e room_1 s m #[Value.ref b] below meth c H2 locs2 200 20000 (lw_Z below #[Value.ref b] s) (F0 m 1383 ls [])) : W p l e room_1 s m #[Value.ref b] below meth c H locs 200 20000 (lw_Z below #[Value.ref b] s) (F0 m 444 ls []) := by
  obtain ⟨hx, hb, hr, hml, hown, hts, hX, hbl, hlocks, hgv⟩ := id C0
  have hbA : ¬ (fun q : Nat => s.heap.size ≤ q) b := Nat.not_le.mpr hbl
  obtain ⟨r, IX2, IM2, e1, e2, e3⟩ := hs (xs (nI t + 1).toNatClampNeg) IX IM hI
  refine lv_aload_n hx hb d_law_444 rfl (lv_at hl 1 rfl) ?_
  refine lv_aload_n hx hb d_law_445 rfl (lv_at hl 0 rfl) ?_
  refine lv_iload_n hx hb d_law_446 rfl (lv_at hl 3 rfl) ?_
  refine lv_iconst (v := 1) hx hb d_law_447 (by decide) ?_
  refine lv_iadd hx hb d_law_448 ?_
  refine va_sld hx hb hX hbl hbA hW.2.2.2.2.2.2.2.1 (lw_in ht hL 1 (by decide)) d_law_449 ?_
  refine lw_callX (d := 100 + 1) (y := yGb_end) (asr := [xs (nI t + 1).toNatClampNeg]) (rest := []) (v := r) (I' := IX2) C0 d_law_450 s_yGb_end ml_41 rfl rfl (Nat.le_of_ble_eq_true rfl) (by decide) hl.1 (by decide) (by decide) rfl hW (c_Gb_end l 100 (xs (nI t + 1).toNatClampNeg) IX e1) (fun HX locsX hWX => ?_)
  refine lv_aload_n hx hb d_law_453 rfl (lv_at hl 2 rfl) ?_
  refine lv_aload_n hx hb d_law_454 rfl (lv_at hl 0 rfl) ?_
  refine lv_iload_n hx hb d_law_455 rfl (lv_at hl 3 rfl) ?_
  refine lv_iconst (v := 1) hx hb d_law_456 (by decide) ?_
  refine lv_iadd hx hb d_law_457 ?_
  refine va_sld hx hb hX hbl hbA hWX.2.2.2.2.2.2.2.1 (lw_in ht hL 1 (by decide)) d_law_458 ?_
  refine lw_callM (d := 100 + 1) (y := yMo_end) (asr := [xs (nI t + 1).toNatClampNeg]) (rest := [.int r]) (v := r) (I' := IM2) C0 d_law_459 s_yMo_end ml_45 rfl rfl (Nat.le_of_ble_eq_true rfl) (by decide) hl.1 (by decide) (by decide) rfl hWX (c_Mo_end l 100 (xs (nI t + 1).toNatClampNeg) IM e2) (fun HM locsM hWM => ?_)
  refine lv_icmp_eq (tgt := 1383) hx hb d_law_462 (by decide) (fun _ => ?_) (fun hc => absurd rfl hc)
  exact KK IX2 IM2 HM locsM e3 hWM
set_option maxRecDepth 8000 in
theorem lw_case_text {p : Program} {l : Launch} {e : Env} {s : State} {m : MethodId} {below : List Frame} {meth : Method} {c : Code} {b L : Nat} {xs : Nat → Int32} (hL : L ≤ 3072) (C0 : lw_At p s m meth c b L xs) {D : va_G} {cI cR : ClassId} {adX adM : Nat → Nat} {Inv : gb_Mem → gb_Mem → Prop} (hs : S_text Inv) {t : Nat} (ht : t + 6 ≤ L) {H : Heap} {locs : List Loc} {IX IM : gb_Mem} (hI : Inv IX IM) (hW : lw_W D cI cR adX adM s H locs IX IM) {ls : Array Slot} (hl : lv_has ls 4 [(0, .ref b), (1, .ref (adX 0)), (2, .ref (adM 0)), (3, .int (nI t))]) (KK : ∀ (IX2 IM2 : gb_Mem) (H2 : Heap) (locs2 : List Loc), Inv IX2 IM2 → lw_W D cI cR adX adM s H2 locs2 IX2 IM2 → W p l e room_1 s m #[Value.ref b] below meth c H2 locs2 200 20000 (lw_Z below #[Value.ref b] s) (F0 m 1383 ls [])) : W p l e room_1 s m #[Value.ref b] below meth c H locs 200 20000 (lw_Z below #[Value.ref b] s) (F0 m 467 ls []) := by
  obtain ⟨hx, hb, hr, hml, hown, hts, hX, hbl, hlocks, hgv⟩ := id C0
  have hbA : ¬ (fun q : Nat => s.heap.size ≤ q) b := Nat.not_le.mpr hbl
  obtain ⟨r, IX2, IM2, e1, e2, e3⟩ := hs (xs (nI t + 1).toNatClampNeg) IX IM hI
  refine lv_aload_n hx hb d_law_467 rfl (lv_at hl 1 rfl) ?_
  refine lv_aload_n hx hb d_law_468 rfl (lv_at hl 0 rfl) ?_
  refine lv_iload_n hx hb d_law_469 rfl (lv_at hl 3 rfl) ?_
  refine lv_iconst (v := 1) hx hb d_law_470 (by decide) ?_
  refine lv_iadd hx hb d_law_471 ?_
  refine va_sld hx hb hX hbl hbA hW.2.2.2.2.2.2.2.1 (lw_in ht hL 1 (by decide)) d_law_472 ?_
  refine lw_callX (d := 100 + 45) (y := yGb_text) (asr := [xs (nI t + 1).toNatClampNeg]) (rest := []) (v := r) (I' := IX2) C0 d_law_473 s_yGb_text ml_46 rfl rfl (Nat.le_of_ble_eq_true rfl) (by decide) hl.1 (by decide) (by decide) rfl hW (c_Gb_text l 100 (xs (nI t + 1).toNatClampNeg) IX e1) (fun HX locsX hWX => ?_)
  refine lv_aload_n hx hb d_law_476 rfl (lv_at hl 2 rfl) ?_
  refine lv_aload_n hx hb d_law_477 rfl (lv_at hl 0 rfl) ?_
  refine lv_iload_n hx hb d_law_478 rfl (lv_at hl 3 rfl) ?_
  refine lv_iconst (v := 1) hx hb d_law_479 (by decide) ?_
  refine lv_iadd hx hb d_law_480 ?_
  refine va_sld hx hb hX hbl hbA hWX.2.2.2.2.2.2.2.1 (lw_in ht hL 1 (by decide)) d_law_481 ?_
  refine lw_callM (d := 100 + 10) (y := yMo_text) (asr := [xs (nI t + 1).toNatClampNeg]) (rest := [.int r]) (v := r) (I' := IM2) C0 d_law_482 s_yMo_text ml_49 rfl rfl (Nat.le_of_ble_eq_true rfl) (by decide) hl.1 (by decide) (by decide) rfl hWX (c_Mo_text l 100 (xs (nI t + 1).toNatClampNeg) IM e2) (fun HM locsM hWM => ?_)
  refine lv_icmp_eq (tgt := 1383) hx hb d_law_485 (by decide) (fun _ => ?_) (fun hc => absurd rfl hc)
  exact KK IX2 IM2 HM locsM e3 hWM
set_option maxRecDepth 8000 in
theorem lw_case_fault {p : Program} {l : Launch} {e : Env} {s : State} {m : MethodId} {below : List Frame} {meth : Method} {c : Code} {b L : Nat} {xs : Nat → Int32} (hL : L ≤ 3072) (C0 : lw_At p s m meth c b L xs) {D : va_G} {cI cR : ClassId} {adX adM : Nat → Nat} {Inv : gb_Mem → gb_Mem → Prop} (hs : S_fault Inv) {t : Nat} (ht : t + 6 ≤ L) {H : Heap} {locs : List Loc} {IX IM : gb_Mem} (hI : Inv IX IM) (hW : lw_W D cI cR adX adM s H locs IX IM) {ls : Array Slot} (hl : lv_has ls 4 [(0, .ref b), (1, .ref (adX 0)), (2, .ref (adM 0)), (3, .int (nI t))]) (KK : ∀ (IX2 IM2 : gb_Mem) (H2 : Heap) (locs2 : List Loc), Inv IX2 IM2 → lw_W D cI cR adX adM s H2 locs2 IX2 IM2 → W p l e room_1 s m #[Value.ref b] below meth c H2 locs2 200 20000 (lw_Z below #[Value.ref b] s) (F0 m 1383 ls [])) : W p l e room_1 s m #[Value.ref b] below meth c H locs 200 20000 (lw_Z below #[Value.ref b] s) (F0 m 490 ls []) := by
  obtain ⟨hx, hb, hr, hml, hown, hts, hX, hbl, hlocks, hgv⟩ := id C0
  have hbA : ¬ (fun q : Nat => s.heap.size ≤ q) b := Nat.not_le.mpr hbl
  obtain ⟨r, IX2, IM2, e1, e2, e3⟩ := hs (xs (nI t + 1).toNatClampNeg) IX IM hI
  obtain ⟨e1, e4⟩ := e1
  subst e4
  subst e1
  refine lv_aload_n hx hb d_law_490 rfl (lv_at hl 1 rfl) ?_
  refine lv_aload_n hx hb d_law_491 rfl (lv_at hl 0 rfl) ?_
  refine lv_iload_n hx hb d_law_492 rfl (lv_at hl 3 rfl) ?_
  refine lv_iconst (v := 1) hx hb d_law_493 (by decide) ?_
  refine lv_iadd hx hb d_law_494 ?_
  refine va_sld hx hb hX hbl hbA hW.2.2.2.2.2.2.2.1 (lw_in ht hL 1 (by decide)) d_law_495 ?_
  refine lw_callX (d := 100 + 0) (y := yGb_fault) (asr := [xs (nI t + 1).toNatClampNeg]) (rest := []) (v := F_Gb_fault (xs (nI t + 1).toNatClampNeg) IX2) (I' := IX2) C0 d_law_496 s_yGb_fault ml_50 rfl rfl (Nat.le_of_ble_eq_true rfl) (by decide) hl.1 (by decide) (by decide) rfl hW (c_Gb_fault l 100 (xs (nI t + 1).toNatClampNeg) IX2) (fun HX locsX hWX => ?_)
  refine lv_aload_n hx hb d_law_499 rfl (lv_at hl 2 rfl) ?_
  refine lv_aload_n hx hb d_law_500 rfl (lv_at hl 0 rfl) ?_
  refine lv_iload_n hx hb d_law_501 rfl (lv_at hl 3 rfl) ?_
  refine lv_iconst (v := 1) hx hb d_law_502 (by decide) ?_
  refine lv_iadd hx hb d_law_503 ?_
  refine va_sld hx hb hX hbl hbA hWX.2.2.2.2.2.2.2.1 (lw_in ht hL 1 (by decide)) d_law_504 ?_
  refine lw_callM (d := 100 + 0) (y := yMo_fault) (asr := [xs (nI t + 1).toNatClampNeg]) (rest := [.int (F_Gb_fault (xs (nI t + 1).toNatClampNeg) IX2)]) (v := F_Gb_fault (xs (nI t + 1).toNatClampNeg) IX2) (I' := IM2) C0 d_law_505 s_yMo_fault ml_53 rfl rfl (Nat.le_of_ble_eq_true rfl) (by decide) hl.1 (by decide) (by decide) rfl hWX (c_Mo_fault l 100 (xs (nI t + 1).toNatClampNeg) IM e2) (fun HM locsM hWM => ?_)
  refine lv_icmp_eq (tgt := 1383) hx hb d_law_508 (by decide) (fun _ => ?_) (fun hc => absurd rfl hc)
  exact KK IX2 IM2 HM locsM e3 hWM
set_option maxRecDepth 8000 in
theorem lw_case_of {p : Program} {l : Launch} {e : Env} {s : State} {m : MethodId} {below : List Frame} {meth : Method} {c : Code} {b L : Nat} {xs : Nat → Int32} (hL : L ≤ 3072) (C0 : lw_At p s m meth c b L xs) {D : va_G} {cI cR : ClassId} {adX adM : Nat → Nat} {Inv : gb_Mem → gb_Mem → Prop} (hs : S_of Inv) {t : Nat} (ht : t + 6 ≤ L) {H : Heap} {locs : List Loc} {IX IM : gb_Mem} (hI : Inv IX IM) (hW : lw_W D cI cR adX adM s H locs IX IM) {ls : Array Slot} (hl : lv_has ls 4 [(0, .ref b), (1, .ref (adX 0)), (2, .ref (adM 0)), (3, .int (nI t))]) (KK : ∀ (IX2 IM2 : gb_Mem) (H2 : Heap) (locs2 : List Loc), Inv IX2 IM2 → lw_W D cI cR adX adM s H2 locs2 IX2 IM2 → W p l e room_1 s m #[Value.ref b] below meth c H2 locs2 200 20000 (lw_Z below #[Value.ref b] s) (F0 m 1383 ls [])) : W p l e room_1 s m #[Value.ref b] below meth c H locs 200 20000 (lw_Z below #[Value.ref b] s) (F0 m 513 ls []) := by
  obtain ⟨hx, hb, hr, hml, hown, hts, hX, hbl, hlocks, hgv⟩ := id C0
  have hbA : ¬ (fun q : Nat => s.heap.size ≤ q) b := Nat.not_le.mpr hbl
  obtain ⟨r, IX2, IM2, e1, e2, e3⟩ := hs (xs (nI t + 1).toNatClampNeg) (xs (nI t + 2).toNatClampNeg) IX IM hI
  refine lv_aload_n hx hb d_law_513 rfl (lv_at hl 1 rfl) ?_
  refine lv_aload_n hx hb d_law_514 rfl (lv_at hl 0 rfl) ?_
  refine lv_iload_n hx hb d_law_515 rfl (lv_at hl 3 rfl) ?_
  refine lv_iconst (v := 1) hx hb d_law_516 (by decide) ?_
  refine lv_iadd hx hb d_law_517 ?_
  refine va_sld hx hb hX hbl hbA hW.2.2.2.2.2.2.2.1 (lw_in ht hL 1 (by decide)) d_law_518 ?_
  refine lv_aload_n hx hb d_law_519 rfl (lv_at hl 0 rfl) ?_
  refine lv_iload_n hx hb d_law_520 rfl (lv_at hl 3 rfl) ?_
  refine lv_iconst (v := 2) hx hb d_law_521 (by decide) ?_
  refine lv_iadd hx hb d_law_522 ?_
  refine va_sld hx hb hX hbl hbA hW.2.2.2.2.2.2.2.1 (lw_in ht hL 2 (by decide)) d_law_523 ?_
  refine lw_callX (d := 100 + 5) (y := yGb_of) (asr := [xs (nI t + 1).toNatClampNeg, xs (nI t + 2).toNatClampNeg]) (rest := []) (v := r) (I' := IX2) C0 d_law_524 s_yGb_of ml_54 rfl rfl (Nat.le_of_ble_eq_true rfl) (by decide) hl.1 (by decide) (by decide) rfl hW (c_Gb_of l 100 (xs (nI t + 1).toNatClampNeg) (xs (nI t + 2).toNatClampNeg) IX e1) (fun HX locsX hWX => ?_)
  refine lv_aload_n hx hb d_law_527 rfl (lv_at hl 2 rfl) ?_
  refine lv_aload_n hx hb d_law_528 rfl (lv_at hl 0 rfl) ?_
  refine lv_iload_n hx hb d_law_529 rfl (lv_at hl 3 rfl) ?_
  refine lv_iconst (v := 1) hx hb d_law_530 (by decide) ?_
  refine lv_iadd hx hb d_law_531 ?_
  refine va_sld hx hb hX hbl hbA hWX.2.2.2.2.2.2.2.1 (lw_in ht hL 1 (by decide)) d_law_532 ?_
  refine lv_aload_n hx hb d_law_533 rfl (lv_at hl 0 rfl) ?_
  refine lv_iload_n hx hb d_law_534 rfl (lv_at hl 3 rfl) ?_
  refine lv_iconst (v := 2) hx hb d_law_535 (by decide) ?_
  refine lv_iadd hx hb d_law_536 ?_
  refine va_sld hx hb hX hbl hbA hWX.2.2.2.2.2.2.2.1 (lw_in ht hL 2 (by decide)) d_law_537 ?_
  refine lw_callM (d := 100 + 5) (y := yMo_of) (asr := [xs (nI t + 1).toNatClampNeg, xs (nI t + 2).toNatClampNeg]) (rest := [.int r]) (v := r) (I' := IM2) C0 d_law_538 s_yMo_of ml_58 rfl rfl (Nat.le_of_ble_eq_true rfl) (by decide) hl.1 (by decide) (by decide) rfl hWX (c_Mo_of l 100 (xs (nI t + 1).toNatClampNeg) (xs (nI t + 2).toNatClampNeg) IM e2) (fun HM locsM hWM => ?_)
  refine lv_icmp_eq (tgt := 1383) hx hb d_law_541 (by decide) (fun _ => ?_) (fun hc => absurd rfl hc)
  exact KK IX2 IM2 HM locsM e3 hWM
set_option maxRecDepth 8000 in
theorem lw_case_seat {p : Program} {l : Launch} {e : Env} {s : State} {m : MethodId} {below : List Frame} {meth : Method} {c : Code} {b L : Nat} {xs : Nat → Int32} (hL : L ≤ 3072) (C0 : lw_At p s m meth c b L xs) {D : va_G} {cI cR : ClassId} {adX adM : Nat → Nat} {Inv : gb_Mem → gb_Mem → Prop} (hs : S_seat Inv) {t : Nat} (ht : t + 6 ≤ L) {H : Heap} {locs : List Loc} {IX IM : gb_Mem} (hI : Inv IX IM) (hW : lw_W D cI cR adX adM s H locs IX IM) {ls : Array Slot} (hl : lv_has ls 4 [(0, .ref b), (1, .ref (adX 0)), (2, .ref (adM 0)), (3, .int (nI t))]) (KK : ∀ (IX2 IM2 : gb_Mem) (H2 : Heap) (locs2 : List Loc), Inv IX2 IM2 → lw_W D cI cR adX adM s H2 locs2 IX2 IM2 → W p l e room_1 s m #[Value.ref b] below meth c H2 locs2 200 20000 (lw_Z below #[Value.ref b] s) (F0 m 1383 ls [])) : W p l e room_1 s m #[Value.ref b] below meth c H locs 200 20000 (lw_Z below #[Value.ref b] s) (F0 m 546 ls []) := by
  obtain ⟨hx, hb, hr, hml, hown, hts, hX, hbl, hlocks, hgv⟩ := id C0
  have hbA : ¬ (fun q : Nat => s.heap.size ≤ q) b := Nat.not_le.mpr hbl
  obtain ⟨r, IX2, IM2, e1, e2, e3⟩ := hs (xs (nI t + 1).toNatClampNeg) (xs (nI t + 2).toNatClampNeg) IX IM hI
  obtain ⟨e1, e4⟩ := e1
  subst e4
  refine lv_aload_n hx hb d_law_546 rfl (lv_at hl 1 rfl) ?_
  refine lv_aload_n hx hb d_law_547 rfl (lv_at hl 0 rfl) ?_
  refine lv_iload_n hx hb d_law_548 rfl (lv_at hl 3 rfl) ?_
  refine lv_iconst (v := 1) hx hb d_law_549 (by decide) ?_
  refine lv_iadd hx hb d_law_550 ?_
  refine va_sld hx hb hX hbl hbA hW.2.2.2.2.2.2.2.1 (lw_in ht hL 1 (by decide)) d_law_551 ?_
  refine lv_aload_n hx hb d_law_552 rfl (lv_at hl 0 rfl) ?_
  refine lv_iload_n hx hb d_law_553 rfl (lv_at hl 3 rfl) ?_
  refine lv_iconst (v := 2) hx hb d_law_554 (by decide) ?_
  refine lv_iadd hx hb d_law_555 ?_
  refine va_sld hx hb hX hbl hbA hW.2.2.2.2.2.2.2.1 (lw_in ht hL 2 (by decide)) d_law_556 ?_
  refine lw_callX (d := 100 + 3) (y := yGb_seat) (asr := [xs (nI t + 1).toNatClampNeg, xs (nI t + 2).toNatClampNeg]) (rest := []) (v := r) (I' := IX2) C0 d_law_557 s_yGb_seat ml_59 rfl rfl (Nat.le_of_ble_eq_true rfl) (by decide) hl.1 (by decide) (by decide) rfl hW (c_Gb_seat l 100 (xs (nI t + 1).toNatClampNeg) (xs (nI t + 2).toNatClampNeg) IX2 e1) (fun HX locsX hWX => ?_)
  refine lv_aload_n hx hb d_law_560 rfl (lv_at hl 2 rfl) ?_
  refine lv_aload_n hx hb d_law_561 rfl (lv_at hl 0 rfl) ?_
  refine lv_iload_n hx hb d_law_562 rfl (lv_at hl 3 rfl) ?_
  refine lv_iconst (v := 1) hx hb d_law_563 (by decide) ?_
  refine lv_iadd hx hb d_law_564 ?_
  refine va_sld hx hb hX hbl hbA hWX.2.2.2.2.2.2.2.1 (lw_in ht hL 1 (by decide)) d_law_565 ?_
  refine lv_aload_n hx hb d_law_566 rfl (lv_at hl 0 rfl) ?_
  refine lv_iload_n hx hb d_law_567 rfl (lv_at hl 3 rfl) ?_
  refine lv_iconst (v := 2) hx hb d_law_568 (by decide) ?_
  refine lv_iadd hx hb d_law_569 ?_
  refine va_sld hx hb hX hbl hbA hWX.2.2.2.2.2.2.2.1 (lw_in ht hL 2 (by decide)) d_law_570 ?_
  refine lw_callM (d := 100 + 1) (y := yMo_seat) (asr := [xs (nI t + 1).toNatClampNeg, xs (nI t + 2).toNatClampNeg]) (rest := [.int r]) (v := r) (I' := IM2) C0 d_law_571 s_yMo_seat ml_62 rfl rfl (Nat.le_of_ble_eq_true rfl) (by decide) hl.1 (by decide) (by decide) rfl hWX (c_Mo_seat l 100 (xs (nI t + 1).toNatClampNeg) (xs (nI t + 2).toNatClampNeg) IM e2) (fun HM locsM hWM => ?_)
  refine lv_icmp_eq (tgt := 1383) hx hb d_law_574 (by decide) (fun _ => ?_) (fun hc => absurd rfl hc)
  exact KK IX2 IM2 HM locsM e3 hWM
set_option maxRecDepth 8000 in
theorem lw_case_got {p : Program} {l : Launch} {e : Env} {s : State} {m : MethodId} {below : List Frame} {meth : Method} {c : Code} {b L : Nat} {xs : Nat → Int32} (hL : L ≤ 3072) (C0 : lw_At p s m meth c b L xs) {D : va_G} {cI cR : ClassId} {adX adM : Nat → Nat} {Inv : gb_Mem → gb_Mem → Prop} (hs : S_got Inv) {t : Nat} (ht : t + 6 ≤ L) {H : Heap} {locs : List Loc} {IX IM : gb_Mem} (hI : Inv IX IM) (hW : lw_W D cI cR adX adM s H locs IX IM) {ls : Array Slot} (hl : lv_has ls 4 [(0, .ref b), (1, .ref (adX 0)), (2, .ref (adM 0)), (3, .int (nI t))]) (KK : ∀ (IX2 IM2 : gb_Mem) (H2 : Heap) (locs2 : List Loc), Inv IX2 IM2 → lw_W D cI cR adX adM s H2 locs2 IX2 IM2 → W p l e room_1 s m #[Value.ref b] below meth c H2 locs2 200 20000 (lw_Z below #[Value.ref b] s) (F0 m 1383 ls [])) : W p l e room_1 s m #[Value.ref b] below meth c H locs 200 20000 (lw_Z below #[Value.ref b] s) (F0 m 579 ls []) := by
  obtain ⟨hx, hb, hr, hml, hown, hts, hX, hbl, hlocks, hgv⟩ := id C0
  have hbA : ¬ (fun q : Nat => s.heap.size ≤ q) b := Nat.not_le.mpr hbl
  obtain ⟨r, IX2, IM2, e1, e2, e3⟩ := hs (xs (nI t + 1).toNatClampNeg) (xs (nI t + 2).toNatClampNeg) IX IM hI
  obtain ⟨e1, e4⟩ := e1
  subst e4
  refine lv_aload_n hx hb d_law_579 rfl (lv_at hl 1 rfl) ?_
  refine lv_aload_n hx hb d_law_580 rfl (lv_at hl 0 rfl) ?_
  refine lv_iload_n hx hb d_law_581 rfl (lv_at hl 3 rfl) ?_
  refine lv_iconst (v := 1) hx hb d_law_582 (by decide) ?_
  refine lv_iadd hx hb d_law_583 ?_
  refine va_sld hx hb hX hbl hbA hW.2.2.2.2.2.2.2.1 (lw_in ht hL 1 (by decide)) d_law_584 ?_
  refine lv_aload_n hx hb d_law_585 rfl (lv_at hl 0 rfl) ?_
  refine lv_iload_n hx hb d_law_586 rfl (lv_at hl 3 rfl) ?_
  refine lv_iconst (v := 2) hx hb d_law_587 (by decide) ?_
  refine lv_iadd hx hb d_law_588 ?_
  refine va_sld hx hb hX hbl hbA hW.2.2.2.2.2.2.2.1 (lw_in ht hL 2 (by decide)) d_law_589 ?_
  refine lw_callX (d := 100 + 2) (y := yGb_got) (asr := [xs (nI t + 1).toNatClampNeg, xs (nI t + 2).toNatClampNeg]) (rest := []) (v := r) (I' := IX2) C0 d_law_590 s_yGb_got ml_63 rfl rfl (Nat.le_of_ble_eq_true rfl) (by decide) hl.1 (by decide) (by decide) rfl hW (c_Gb_got l 100 (xs (nI t + 1).toNatClampNeg) (xs (nI t + 2).toNatClampNeg) IX2 e1) (fun HX locsX hWX => ?_)
  refine lv_aload_n hx hb d_law_593 rfl (lv_at hl 2 rfl) ?_
  refine lv_aload_n hx hb d_law_594 rfl (lv_at hl 0 rfl) ?_
  refine lv_iload_n hx hb d_law_595 rfl (lv_at hl 3 rfl) ?_
  refine lv_iconst (v := 1) hx hb d_law_596 (by decide) ?_
  refine lv_iadd hx hb d_law_597 ?_
  refine va_sld hx hb hX hbl hbA hWX.2.2.2.2.2.2.2.1 (lw_in ht hL 1 (by decide)) d_law_598 ?_
  refine lv_aload_n hx hb d_law_599 rfl (lv_at hl 0 rfl) ?_
  refine lv_iload_n hx hb d_law_600 rfl (lv_at hl 3 rfl) ?_
  refine lv_iconst (v := 2) hx hb d_law_601 (by decide) ?_
  refine lv_iadd hx hb d_law_602 ?_
  refine va_sld hx hb hX hbl hbA hWX.2.2.2.2.2.2.2.1 (lw_in ht hL 2 (by decide)) d_law_603 ?_
  refine lw_callM (d := 100 + 1) (y := yMo_got) (asr := [xs (nI t + 1).toNatClampNeg, xs (nI t + 2).toNatClampNeg]) (rest := [.int r]) (v := r) (I' := IM2) C0 d_law_604 s_yMo_got ml_66 rfl rfl (Nat.le_of_ble_eq_true rfl) (by decide) hl.1 (by decide) (by decide) rfl hWX (c_Mo_got l 100 (xs (nI t + 1).toNatClampNeg) (xs (nI t + 2).toNatClampNeg) IM e2) (fun HM locsM hWM => ?_)
  refine lv_icmp_eq (tgt := 1383) hx hb d_law_607 (by decide) (fun _ => ?_) (fun hc => absurd rfl hc)
  exact KK IX2 IM2 HM locsM e3 hWM
set_option maxRecDepth 8000 in
theorem lw_case_book {p : Program} {l : Launch} {e : Env} {s : State} {m : MethodId} {below : List Frame} {meth : Method} {c : Code} {b L : Nat} {xs : Nat → Int32} (hL : L ≤ 3072) (C0 : lw_At p s m meth c b L xs) {D : va_G} {cI cR : ClassId} {adX adM : Nat → Nat} {Inv : gb_Mem → gb_Mem → Prop} (hs : S_book Inv) {t : Nat} (ht : t + 6 ≤ L) {H : Heap} {locs : List Loc} {IX IM : gb_Mem} (hI : Inv IX IM) (hW : lw_W D cI cR adX adM s H locs IX IM) {ls : Array Slot} (hl : lv_has ls 4 [(0, .ref b), (1, .ref (adX 0)), (2, .ref (adM 0)), (3, .int (nI t))]) (KK : ∀ (IX2 IM2 : gb_Mem) (H2 : Heap) (locs2 : List Loc), Inv IX2 IM2 → lw_W D cI cR adX adM s H2 locs2 IX2 IM2 → W p l e room_1 s m #[Value.ref b] below meth c H2 locs2 200 20000 (lw_Z below #[Value.ref b] s) (F0 m 1383 ls [])) : W p l e room_1 s m #[Value.ref b] below meth c H locs 200 20000 (lw_Z below #[Value.ref b] s) (F0 m 612 ls []) := by
  obtain ⟨hx, hb, hr, hml, hown, hts, hX, hbl, hlocks, hgv⟩ := id C0
  have hbA : ¬ (fun q : Nat => s.heap.size ≤ q) b := Nat.not_le.mpr hbl
  obtain ⟨r, IX2, IM2, e1, e2, e3⟩ := hs (xs (nI t + 1).toNatClampNeg) (xs (nI t + 2).toNatClampNeg) IX IM hI
  obtain ⟨e1, e4⟩ := e1
  subst e4
  refine lv_aload_n hx hb d_law_612 rfl (lv_at hl 1 rfl) ?_
  refine lv_aload_n hx hb d_law_613 rfl (lv_at hl 0 rfl) ?_
  refine lv_iload_n hx hb d_law_614 rfl (lv_at hl 3 rfl) ?_
  refine lv_iconst (v := 1) hx hb d_law_615 (by decide) ?_
  refine lv_iadd hx hb d_law_616 ?_
  refine va_sld hx hb hX hbl hbA hW.2.2.2.2.2.2.2.1 (lw_in ht hL 1 (by decide)) d_law_617 ?_
  refine lv_aload_n hx hb d_law_618 rfl (lv_at hl 0 rfl) ?_
  refine lv_iload_n hx hb d_law_619 rfl (lv_at hl 3 rfl) ?_
  refine lv_iconst (v := 2) hx hb d_law_620 (by decide) ?_
  refine lv_iadd hx hb d_law_621 ?_
  refine va_sld hx hb hX hbl hbA hW.2.2.2.2.2.2.2.1 (lw_in ht hL 2 (by decide)) d_law_622 ?_
  refine lw_callX (d := 100 + 2) (y := yGb_book) (asr := [xs (nI t + 1).toNatClampNeg, xs (nI t + 2).toNatClampNeg]) (rest := []) (v := r) (I' := IX2) C0 d_law_623 s_yGb_book ml_67 rfl rfl (Nat.le_of_ble_eq_true rfl) (by decide) hl.1 (by decide) (by decide) rfl hW (c_Gb_book l 100 (xs (nI t + 1).toNatClampNeg) (xs (nI t + 2).toNatClampNeg) IX2 e1) (fun HX locsX hWX => ?_)
  refine lv_aload_n hx hb d_law_626 rfl (lv_at hl 2 rfl) ?_
  refine lv_aload_n hx hb d_law_627 rfl (lv_at hl 0 rfl) ?_
  refine lv_iload_n hx hb d_law_628 rfl (lv_at hl 3 rfl) ?_
  refine lv_iconst (v := 1) hx hb d_law_629 (by decide) ?_
  refine lv_iadd hx hb d_law_630 ?_
  refine va_sld hx hb hX hbl hbA hWX.2.2.2.2.2.2.2.1 (lw_in ht hL 1 (by decide)) d_law_631 ?_
  refine lv_aload_n hx hb d_law_632 rfl (lv_at hl 0 rfl) ?_
  refine lv_iload_n hx hb d_law_633 rfl (lv_at hl 3 rfl) ?_
  refine lv_iconst (v := 2) hx hb d_law_634 (by decide) ?_
  refine lv_iadd hx hb d_law_635 ?_
  refine va_sld hx hb hX hbl hbA hWX.2.2.2.2.2.2.2.1 (lw_in ht hL 2 (by decide)) d_law_636 ?_
  refine lw_callM (d := 100 + 1) (y := yMo_book) (asr := [xs (nI t + 1).toNatClampNeg, xs (nI t + 2).toNatClampNeg]) (rest := [.int r]) (v := r) (I' := IM2) C0 d_law_637 s_yMo_book ml_70 rfl rfl (Nat.le_of_ble_eq_true rfl) (by decide) hl.1 (by decide) (by decide) rfl hWX (c_Mo_book l 100 (xs (nI t + 1).toNatClampNeg) (xs (nI t + 2).toNatClampNeg) IM e2) (fun HM locsM hWM => ?_)
  refine lv_icmp_eq (tgt := 1383) hx hb d_law_640 (by decide) (fun _ => ?_) (fun hc => absurd rfl hc)
  exact KK IX2 IM2 HM locsM e3 hWM
set_option maxRecDepth 8000 in
theorem lw_case_goes {p : Program} {l : Launch} {e : Env} {s : State} {m : MethodId} {below : List Frame} {meth : Method} {c : Code} {b L : Nat} {xs : Nat → Int32} (hL : L ≤ 3072) (C0 : lw_At p s m meth c b L xs) {D : va_G} {cI cR : ClassId} {adX adM : Nat → Nat} {Inv : gb_Mem → gb_Mem → Prop} (hs : S_goes Inv) {t : Nat} (ht : t + 6 ≤ L) {H : Heap} {locs : List Loc} {IX IM : gb_Mem} (hI : Inv IX IM) (hW : lw_W D cI cR adX adM s H locs IX IM) {ls : Array Slot} (hl : lv_has ls 4 [(0, .ref b), (1, .ref (adX 0)), (2, .ref (adM 0)), (3, .int (nI t))]) (KK : ∀ (IX2 IM2 : gb_Mem) (H2 : Heap) (locs2 : List Loc), Inv IX2 IM2 → lw_W D cI cR adX adM s H2 locs2 IX2 IM2 → W p l e room_1 s m #[Value.ref b] below meth c H2 locs2 200 20000 (lw_Z below #[Value.ref b] s) (F0 m 1383 ls [])) : W p l e room_1 s m #[Value.ref b] below meth c H locs 200 20000 (lw_Z below #[Value.ref b] s) (F0 m 645 ls []) := by
  obtain ⟨hx, hb, hr, hml, hown, hts, hX, hbl, hlocks, hgv⟩ := id C0
  have hbA : ¬ (fun q : Nat => s.heap.size ≤ q) b := Nat.not_le.mpr hbl
  obtain ⟨r, IX2, IM2, e1, e2, e3⟩ := hs (xs (nI t + 1).toNatClampNeg) (xs (nI t + 2).toNatClampNeg) IX IM hI
  refine lv_aload_n hx hb d_law_645 rfl (lv_at hl 1 rfl) ?_
  refine lv_aload_n hx hb d_law_646 rfl (lv_at hl 0 rfl) ?_
  refine lv_iload_n hx hb d_law_647 rfl (lv_at hl 3 rfl) ?_
  refine lv_iconst (v := 1) hx hb d_law_648 (by decide) ?_
  refine lv_iadd hx hb d_law_649 ?_
  refine va_sld hx hb hX hbl hbA hW.2.2.2.2.2.2.2.1 (lw_in ht hL 1 (by decide)) d_law_650 ?_
  refine lv_aload_n hx hb d_law_651 rfl (lv_at hl 0 rfl) ?_
  refine lv_iload_n hx hb d_law_652 rfl (lv_at hl 3 rfl) ?_
  refine lv_iconst (v := 2) hx hb d_law_653 (by decide) ?_
  refine lv_iadd hx hb d_law_654 ?_
  refine va_sld hx hb hX hbl hbA hW.2.2.2.2.2.2.2.1 (lw_in ht hL 2 (by decide)) d_law_655 ?_
  refine lw_callX (d := 100 + 7) (y := yGb_goes) (asr := [xs (nI t + 1).toNatClampNeg, xs (nI t + 2).toNatClampNeg]) (rest := []) (v := r) (I' := IX2) C0 d_law_656 s_yGb_goes ml_71 rfl rfl (Nat.le_of_ble_eq_true rfl) (by decide) hl.1 (by decide) (by decide) rfl hW (c_Gb_goes l 100 (xs (nI t + 1).toNatClampNeg) (xs (nI t + 2).toNatClampNeg) IX e1) (fun HX locsX hWX => ?_)
  refine lv_aload_n hx hb d_law_659 rfl (lv_at hl 2 rfl) ?_
  refine lv_aload_n hx hb d_law_660 rfl (lv_at hl 0 rfl) ?_
  refine lv_iload_n hx hb d_law_661 rfl (lv_at hl 3 rfl) ?_
  refine lv_iconst (v := 1) hx hb d_law_662 (by decide) ?_
  refine lv_iadd hx hb d_law_663 ?_
  refine va_sld hx hb hX hbl hbA hWX.2.2.2.2.2.2.2.1 (lw_in ht hL 1 (by decide)) d_law_664 ?_
  refine lv_aload_n hx hb d_law_665 rfl (lv_at hl 0 rfl) ?_
  refine lv_iload_n hx hb d_law_666 rfl (lv_at hl 3 rfl) ?_
  refine lv_iconst (v := 2) hx hb d_law_667 (by decide) ?_
  refine lv_iadd hx hb d_law_668 ?_
  refine va_sld hx hb hX hbl hbA hWX.2.2.2.2.2.2.2.1 (lw_in ht hL 2 (by decide)) d_law_669 ?_
  refine lw_callM (d := 100 + 8) (y := yMo_goes) (asr := [xs (nI t + 1).toNatClampNeg, xs (nI t + 2).toNatClampNeg]) (rest := [.int r]) (v := r) (I' := IM2) C0 d_law_670 s_yMo_goes ml_74 rfl rfl (Nat.le_of_ble_eq_true rfl) (by decide) hl.1 (by decide) (by decide) rfl hWX (c_Mo_goes l 100 (xs (nI t + 1).toNatClampNeg) (xs (nI t + 2).toNatClampNeg) IM e2) (fun HM locsM hWM => ?_)
  refine lv_icmp_eq (tgt := 1383) hx hb d_law_673 (by decide) (fun _ => ?_) (fun hc => absurd rfl hc)
  exact KK IX2 IM2 HM locsM e3 hWM
set_option maxRecDepth 8000 in
theorem lw_case_brings {p : Program} {l : Launch} {e : Env} {s : State} {m : MethodId} {below : List Frame} {meth : Method} {c : Code} {b L : Nat} {xs : Nat → Int32} (hL : L ≤ 3072) (C0 : lw_At p s m meth c b L xs) {D : va_G} {cI cR : ClassId} {adX adM : Nat → Nat} {Inv : gb_Mem → gb_Mem → Prop} (hs : S_brings Inv) {t : Nat} (ht : t + 6 ≤ L) {H : Heap} {locs : List Loc} {IX IM : gb_Mem} (hI : Inv IX IM) (hW : lw_W D cI cR adX adM s H locs IX IM) {ls : Array Slot} (hl : lv_has ls 4 [(0, .ref b), (1, .ref (adX 0)), (2, .ref (adM 0)), (3, .int (nI t))]) (KK : ∀ (IX2 IM2 : gb_Mem) (H2 : Heap) (locs2 : List Loc), Inv IX2 IM2 → lw_W D cI cR adX adM s H2 locs2 IX2 IM2 → W p l e room_1 s m #[Value.ref b] below meth c H2 locs2 200 20000 (lw_Z below #[Value.ref b] s) (F0 m 1383 ls [])) : W p l e room_1 s m #[Value.ref b] below meth c H locs 200 20000 (lw_Z below #[Value.ref b] s) (F0 m 678 ls []) := by
  obtain ⟨hx, hb, hr, hml, hown, hts, hX, hbl, hlocks, hgv⟩ := id C0
  have hbA : ¬ (fun q : Nat => s.heap.size ≤ q) b := Nat.not_le.mpr hbl
  obtain ⟨r, IX2, IM2, e1, e2, e3⟩ := hs (xs (nI t + 1).toNatClampNeg) (xs (nI t + 2).toNatClampNeg) IX IM hI
  refine lv_aload_n hx hb d_law_678 rfl (lv_at hl 1 rfl) ?_
  refine lv_aload_n hx hb d_law_679 rfl (lv_at hl 0 rfl) ?_
  refine lv_iload_n hx hb d_law_680 rfl (lv_at hl 3 rfl) ?_
  refine lv_iconst (v := 1) hx hb d_law_681 (by decide) ?_
  refine lv_iadd hx hb d_law_682 ?_
  refine va_sld hx hb hX hbl hbA hW.2.2.2.2.2.2.2.1 (lw_in ht hL 1 (by decide)) d_law_683 ?_
  refine lv_aload_n hx hb d_law_684 rfl (lv_at hl 0 rfl) ?_
  refine lv_iload_n hx hb d_law_685 rfl (lv_at hl 3 rfl) ?_
  refine lv_iconst (v := 2) hx hb d_law_686 (by decide) ?_
  refine lv_iadd hx hb d_law_687 ?_
  refine va_sld hx hb hX hbl hbA hW.2.2.2.2.2.2.2.1 (lw_in ht hL 2 (by decide)) d_law_688 ?_
  refine lw_callX (d := 100 + 7) (y := yGb_brings) (asr := [xs (nI t + 1).toNatClampNeg, xs (nI t + 2).toNatClampNeg]) (rest := []) (v := r) (I' := IX2) C0 d_law_689 s_yGb_brings ml_75 rfl rfl (Nat.le_of_ble_eq_true rfl) (by decide) hl.1 (by decide) (by decide) rfl hW (c_Gb_brings l 100 (xs (nI t + 1).toNatClampNeg) (xs (nI t + 2).toNatClampNeg) IX e1) (fun HX locsX hWX => ?_)
  refine lv_aload_n hx hb d_law_692 rfl (lv_at hl 2 rfl) ?_
  refine lv_aload_n hx hb d_law_693 rfl (lv_at hl 0 rfl) ?_
  refine lv_iload_n hx hb d_law_694 rfl (lv_at hl 3 rfl) ?_
  refine lv_iconst (v := 1) hx hb d_law_695 (by decide) ?_
  refine lv_iadd hx hb d_law_696 ?_
  refine va_sld hx hb hX hbl hbA hWX.2.2.2.2.2.2.2.1 (lw_in ht hL 1 (by decide)) d_law_697 ?_
  refine lv_aload_n hx hb d_law_698 rfl (lv_at hl 0 rfl) ?_
  refine lv_iload_n hx hb d_law_699 rfl (lv_at hl 3 rfl) ?_
  refine lv_iconst (v := 2) hx hb d_law_700 (by decide) ?_
  refine lv_iadd hx hb d_law_701 ?_
  refine va_sld hx hb hX hbl hbA hWX.2.2.2.2.2.2.2.1 (lw_in ht hL 2 (by decide)) d_law_702 ?_
  refine lw_callM (d := 100 + 8) (y := yMo_brings) (asr := [xs (nI t + 1).toNatClampNeg, xs (nI t + 2).toNatClampNeg]) (rest := [.int r]) (v := r) (I' := IM2) C0 d_law_703 s_yMo_brings ml_78 rfl rfl (Nat.le_of_ble_eq_true rfl) (by decide) hl.1 (by decide) (by decide) rfl hWX (c_Mo_brings l 100 (xs (nI t + 1).toNatClampNeg) (xs (nI t + 2).toNatClampNeg) IM e2) (fun HM locsM hWM => ?_)
  refine lv_icmp_eq (tgt := 1383) hx hb d_law_706 (by decide) (fun _ => ?_) (fun hc => absurd rfl hc)
  exact KK IX2 IM2 HM locsM e3 hWM
set_option maxRecDepth 8000 in
theorem lw_case_hands {p : Program} {l : Launch} {e : Env} {s : State} {m : MethodId} {below : List Frame} {meth : Method} {c : Code} {b L : Nat} {xs : Nat → Int32} (hL : L ≤ 3072) (C0 : lw_At p s m meth c b L xs) {D : va_G} {cI cR : ClassId} {adX adM : Nat → Nat} {Inv : gb_Mem → gb_Mem → Prop} (hs : S_hands Inv) {t : Nat} (ht : t + 6 ≤ L) {H : Heap} {locs : List Loc} {IX IM : gb_Mem} (hI : Inv IX IM) (hW : lw_W D cI cR adX adM s H locs IX IM) {ls : Array Slot} (hl : lv_has ls 4 [(0, .ref b), (1, .ref (adX 0)), (2, .ref (adM 0)), (3, .int (nI t))]) (KK : ∀ (IX2 IM2 : gb_Mem) (H2 : Heap) (locs2 : List Loc), Inv IX2 IM2 → lw_W D cI cR adX adM s H2 locs2 IX2 IM2 → W p l e room_1 s m #[Value.ref b] below meth c H2 locs2 200 20000 (lw_Z below #[Value.ref b] s) (F0 m 1383 ls [])) : W p l e room_1 s m #[Value.ref b] below meth c H locs 200 20000 (lw_Z below #[Value.ref b] s) (F0 m 711 ls []) := by
  obtain ⟨hx, hb, hr, hml, hown, hts, hX, hbl, hlocks, hgv⟩ := id C0
  have hbA : ¬ (fun q : Nat => s.heap.size ≤ q) b := Nat.not_le.mpr hbl
  obtain ⟨r, IX2, IM2, e1, e2, e3⟩ := hs (xs (nI t + 1).toNatClampNeg) (xs (nI t + 2).toNatClampNeg) (xs (nI t + 3).toNatClampNeg) IX IM hI
  refine lv_aload_n hx hb d_law_711 rfl (lv_at hl 1 rfl) ?_
  refine lv_aload_n hx hb d_law_712 rfl (lv_at hl 0 rfl) ?_
  refine lv_iload_n hx hb d_law_713 rfl (lv_at hl 3 rfl) ?_
  refine lv_iconst (v := 1) hx hb d_law_714 (by decide) ?_
  refine lv_iadd hx hb d_law_715 ?_
  refine va_sld hx hb hX hbl hbA hW.2.2.2.2.2.2.2.1 (lw_in ht hL 1 (by decide)) d_law_716 ?_
  refine lv_aload_n hx hb d_law_717 rfl (lv_at hl 0 rfl) ?_
  refine lv_iload_n hx hb d_law_718 rfl (lv_at hl 3 rfl) ?_
  refine lv_iconst (v := 2) hx hb d_law_719 (by decide) ?_
  refine lv_iadd hx hb d_law_720 ?_
  refine va_sld hx hb hX hbl hbA hW.2.2.2.2.2.2.2.1 (lw_in ht hL 2 (by decide)) d_law_721 ?_
  refine lv_aload_n hx hb d_law_722 rfl (lv_at hl 0 rfl) ?_
  refine lv_iload_n hx hb d_law_723 rfl (lv_at hl 3 rfl) ?_
  refine lv_iconst (v := 3) hx hb d_law_724 (by decide) ?_
  refine lv_iadd hx hb d_law_725 ?_
  refine va_sld hx hb hX hbl hbA hW.2.2.2.2.2.2.2.1 (lw_in ht hL 3 (by decide)) d_law_726 ?_
  refine lw_callX (d := 100 + 5) (y := yGb_hands) (asr := [xs (nI t + 1).toNatClampNeg, xs (nI t + 2).toNatClampNeg, xs (nI t + 3).toNatClampNeg]) (rest := []) (v := r) (I' := IX2) C0 d_law_727 s_yGb_hands ml_79 rfl rfl (Nat.le_of_ble_eq_true rfl) (by decide) hl.1 (by decide) (by decide) rfl hW (c_Gb_hands l 100 (xs (nI t + 1).toNatClampNeg) (xs (nI t + 2).toNatClampNeg) (xs (nI t + 3).toNatClampNeg) IX e1) (fun HX locsX hWX => ?_)
  refine lv_aload_n hx hb d_law_730 rfl (lv_at hl 2 rfl) ?_
  refine lv_aload_n hx hb d_law_731 rfl (lv_at hl 0 rfl) ?_
  refine lv_iload_n hx hb d_law_732 rfl (lv_at hl 3 rfl) ?_
  refine lv_iconst (v := 1) hx hb d_law_733 (by decide) ?_
  refine lv_iadd hx hb d_law_734 ?_
  refine va_sld hx hb hX hbl hbA hWX.2.2.2.2.2.2.2.1 (lw_in ht hL 1 (by decide)) d_law_735 ?_
  refine lv_aload_n hx hb d_law_736 rfl (lv_at hl 0 rfl) ?_
  refine lv_iload_n hx hb d_law_737 rfl (lv_at hl 3 rfl) ?_
  refine lv_iconst (v := 2) hx hb d_law_738 (by decide) ?_
  refine lv_iadd hx hb d_law_739 ?_
  refine va_sld hx hb hX hbl hbA hWX.2.2.2.2.2.2.2.1 (lw_in ht hL 2 (by decide)) d_law_740 ?_
  refine lv_aload_n hx hb d_law_741 rfl (lv_at hl 0 rfl) ?_
  refine lv_iload_n hx hb d_law_742 rfl (lv_at hl 3 rfl) ?_
  refine lv_iconst (v := 3) hx hb d_law_743 (by decide) ?_
  refine lv_iadd hx hb d_law_744 ?_
  refine va_sld hx hb hX hbl hbA hWX.2.2.2.2.2.2.2.1 (lw_in ht hL 3 (by decide)) d_law_745 ?_
  refine lw_callM (d := 100 + 2) (y := yMo_hands) (asr := [xs (nI t + 1).toNatClampNeg, xs (nI t + 2).toNatClampNeg, xs (nI t + 3).toNatClampNeg]) (rest := [.int r]) (v := r) (I' := IM2) C0 d_law_746 s_yMo_hands ml_83 rfl rfl (Nat.le_of_ble_eq_true rfl) (by decide) hl.1 (by decide) (by decide) rfl hWX (c_Mo_hands l 100 (xs (nI t + 1).toNatClampNeg) (xs (nI t + 2).toNatClampNeg) (xs (nI t + 3).toNatClampNeg) IM e2) (fun HM locsM hWM => ?_)
  refine lv_icmp_eq (tgt := 1383) hx hb d_law_749 (by decide) (fun _ => ?_) (fun hc => absurd rfl hc)
  exact KK IX2 IM2 HM locsM e3 hWM
set_option maxRecDepth 8000 in
theorem lw_case_letter {p : Program} {l : Launch} {e : Env} {s : State} {m : MethodId} {below : List Frame} {meth : Method} {c : Code} {b L : Nat} {xs : Nat → Int32} (hL : L ≤ 3072) (C0 : lw_At p s m meth c b L xs) {D : va_G} {cI cR : ClassId} {adX adM : Nat → Nat} {Inv : gb_Mem → gb_Mem → Prop} (hs : S_letter Inv) {t : Nat} (ht : t + 6 ≤ L) {H : Heap} {locs : List Loc} {IX IM : gb_Mem} (hI : Inv IX IM) (hW : lw_W D cI cR adX adM s H locs IX IM) {ls : Array Slot} (hl : lv_has ls 4 [(0, .ref b), (1, .ref (adX 0)), (2, .ref (adM 0)), (3, .int (nI t))]) (KK : ∀ (IX2 IM2 : gb_Mem) (H2 : Heap) (locs2 : List Loc), Inv IX2 IM2 → lw_W D cI cR adX adM s H2 locs2 IX2 IM2 → W p l e room_1 s m #[Value.ref b] below meth c H2 locs2 200 20000 (lw_Z below #[Value.ref b] s) (F0 m 1383 ls [])) : W p l e room_1 s m #[Value.ref b] below meth c H locs 200 20000 (lw_Z below #[Value.ref b] s) (F0 m 754 ls []) := by
  obtain ⟨hx, hb, hr, hml, hown, hts, hX, hbl, hlocks, hgv⟩ := id C0
  have hbA : ¬ (fun q : Nat => s.heap.size ≤ q) b := Nat.not_le.mpr hbl
  obtain ⟨r, IX2, IM2, e1, e2, e3⟩ := hs (xs (nI t + 1).toNatClampNeg) (xs (nI t + 2).toNatClampNeg) IX IM hI
  refine lv_aload_n hx hb d_law_754 rfl (lv_at hl 1 rfl) ?_
  refine lv_aload_n hx hb d_law_755 rfl (lv_at hl 0 rfl) ?_
  refine lv_iload_n hx hb d_law_756 rfl (lv_at hl 3 rfl) ?_
  refine lv_iconst (v := 1) hx hb d_law_757 (by decide) ?_
  refine lv_iadd hx hb d_law_758 ?_
  refine va_sld hx hb hX hbl hbA hW.2.2.2.2.2.2.2.1 (lw_in ht hL 1 (by decide)) d_law_759 ?_
  refine lv_aload_n hx hb d_law_760 rfl (lv_at hl 0 rfl) ?_
  refine lv_iload_n hx hb d_law_761 rfl (lv_at hl 3 rfl) ?_
  refine lv_iconst (v := 2) hx hb d_law_762 (by decide) ?_
  refine lv_iadd hx hb d_law_763 ?_
  refine va_sld hx hb hX hbl hbA hW.2.2.2.2.2.2.2.1 (lw_in ht hL 2 (by decide)) d_law_764 ?_
  refine lw_callX (d := 100 + 2) (y := yGb_letter) (asr := [xs (nI t + 1).toNatClampNeg, xs (nI t + 2).toNatClampNeg]) (rest := []) (v := r) (I' := IX2) C0 d_law_765 s_yGb_letter ml_84 rfl rfl (Nat.le_of_ble_eq_true rfl) (by decide) hl.1 (by decide) (by decide) rfl hW (c_Gb_letter l 100 (xs (nI t + 1).toNatClampNeg) (xs (nI t + 2).toNatClampNeg) IX e1) (fun HX locsX hWX => ?_)
  refine lv_aload_n hx hb d_law_768 rfl (lv_at hl 2 rfl) ?_
  refine lv_aload_n hx hb d_law_769 rfl (lv_at hl 0 rfl) ?_
  refine lv_iload_n hx hb d_law_770 rfl (lv_at hl 3 rfl) ?_
  refine lv_iconst (v := 1) hx hb d_law_771 (by decide) ?_
  refine lv_iadd hx hb d_law_772 ?_
  refine va_sld hx hb hX hbl hbA hWX.2.2.2.2.2.2.2.1 (lw_in ht hL 1 (by decide)) d_law_773 ?_
  refine lv_aload_n hx hb d_law_774 rfl (lv_at hl 0 rfl) ?_
  refine lv_iload_n hx hb d_law_775 rfl (lv_at hl 3 rfl) ?_
  refine lv_iconst (v := 2) hx hb d_law_776 (by decide) ?_
  refine lv_iadd hx hb d_law_777 ?_
  refine va_sld hx hb hX hbl hbA hWX.2.2.2.2.2.2.2.1 (lw_in ht hL 2 (by decide)) d_law_778 ?_
  refine lw_callM (d := 100 + 1) (y := yMo_letter) (asr := [xs (nI t + 1).toNatClampNeg, xs (nI t + 2).toNatClampNeg]) (rest := [.int r]) (v := r) (I' := IM2) C0 d_law_779 s_yMo_letter ml_87 rfl rfl (Nat.le_of_ble_eq_true rfl) (by decide) hl.1 (by decide) (by decide) rfl hWX (c_Mo_letter l 100 (xs (nI t + 1).toNatClampNeg) (xs (nI t + 2).toNatClampNeg) IM e2) (fun HM locsM hWM => ?_)
  refine lv_icmp_eq (tgt := 1383) hx hb d_law_782 (by decide) (fun _ => ?_) (fun hc => absurd rfl hc)
  exact KK IX2 IM2 HM locsM e3 hWM
set_option maxRecDepth 8000 in
theorem lw_case_both {p : Program} {l : Launch} {e : Env} {s : State} {m : MethodId} {below : List Frame} {meth : Method} {c : Code} {b L : Nat} {xs : Nat → Int32} (hL : L ≤ 3072) (C0 : lw_At p s m meth c b L xs) {D : va_G} {cI cR : ClassId} {adX adM : Nat → Nat} {Inv : gb_Mem → gb_Mem → Prop} (hs : S_both Inv) {t : Nat} (ht : t + 6 ≤ L) {H : Heap} {locs : List Loc} {IX IM : gb_Mem} (hI : Inv IX IM) (hW : lw_W D cI cR adX adM s H locs IX IM) {ls : Array Slot} (hl : lv_has ls 4 [(0, .ref b), (1, .ref (adX 0)), (2, .ref (adM 0)), (3, .int (nI t))]) (KK : ∀ (IX2 IM2 : gb_Mem) (H2 : Heap) (locs2 : List Loc), Inv IX2 IM2 → lw_W D cI cR adX adM s H2 locs2 IX2 IM2 → W p l e room_1 s m #[Value.ref b] below meth c H2 locs2 200 20000 (lw_Z below #[Value.ref b] s) (F0 m 1383 ls [])) : W p l e room_1 s m #[Value.ref b] below meth c H locs 200 20000 (lw_Z below #[Value.ref b] s) (F0 m 787 ls []) := by
  obtain ⟨hx, hb, hr, hml, hown, hts, hX, hbl, hlocks, hgv⟩ := id C0
  have hbA : ¬ (fun q : Nat => s.heap.size ≤ q) b := Nat.not_le.mpr hbl
  obtain ⟨r, IX2, IM2, e1, e2, e3⟩ := hs (xs (nI t + 1).toNatClampNeg) IX IM hI
  refine lv_aload_n hx hb d_law_787 rfl (lv_at hl 1 rfl) ?_
  refine lv_aload_n hx hb d_law_788 rfl (lv_at hl 0 rfl) ?_
  refine lv_iload_n hx hb d_law_789 rfl (lv_at hl 3 rfl) ?_
  refine lv_iconst (v := 1) hx hb d_law_790 (by decide) ?_
  refine lv_iadd hx hb d_law_791 ?_
  refine va_sld hx hb hX hbl hbA hW.2.2.2.2.2.2.2.1 (lw_in ht hL 1 (by decide)) d_law_792 ?_
  refine lw_callX (d := 100 + 3) (y := yGb_both) (asr := [xs (nI t + 1).toNatClampNeg]) (rest := []) (v := r) (I' := IX2) C0 d_law_793 s_yGb_both ml_88 rfl rfl (Nat.le_of_ble_eq_true rfl) (by decide) hl.1 (by decide) (by decide) rfl hW (c_Gb_both l 100 (xs (nI t + 1).toNatClampNeg) IX e1) (fun HX locsX hWX => ?_)
  refine lv_aload_n hx hb d_law_796 rfl (lv_at hl 2 rfl) ?_
  refine lv_aload_n hx hb d_law_797 rfl (lv_at hl 0 rfl) ?_
  refine lv_iload_n hx hb d_law_798 rfl (lv_at hl 3 rfl) ?_
  refine lv_iconst (v := 1) hx hb d_law_799 (by decide) ?_
  refine lv_iadd hx hb d_law_800 ?_
  refine va_sld hx hb hX hbl hbA hWX.2.2.2.2.2.2.2.1 (lw_in ht hL 1 (by decide)) d_law_801 ?_
  refine lw_callM (d := 100 + 2) (y := yMo_both) (asr := [xs (nI t + 1).toNatClampNeg]) (rest := [.int r]) (v := r) (I' := IM2) C0 d_law_802 s_yMo_both ml_91 rfl rfl (Nat.le_of_ble_eq_true rfl) (by decide) hl.1 (by decide) (by decide) rfl hWX (c_Mo_both l 100 (xs (nI t + 1).toNatClampNeg) IM e2) (fun HM locsM hWM => ?_)
  refine lv_icmp_eq (tgt := 1383) hx hb d_law_805 (by decide) (fun _ => ?_) (fun hc => absurd rfl hc)
  exact KK IX2 IM2 HM locsM e3 hWM
set_option maxRecDepth 8000 in
theorem lw_case_candles {p : Program} {l : Launch} {e : Env} {s : State} {m : MethodId} {below : List Frame} {meth : Method} {c : Code} {b L : Nat} {xs : Nat → Int32} (hL : L ≤ 3072) (C0 : lw_At p s m meth c b L xs) {D : va_G} {cI cR : ClassId} {adX adM : Nat → Nat} {Inv : gb_Mem → gb_Mem → Prop} (hs : S_candles Inv) {t : Nat} (ht : t + 6 ≤ L) {H : Heap} {locs : List Loc} {IX IM : gb_Mem} (hI : Inv IX IM) (hW : lw_W D cI cR adX adM s H locs IX IM) {ls : Array Slot} (hl : lv_has ls 4 [(0, .ref b), (1, .ref (adX 0)), (2, .ref (adM 0)), (3, .int (nI t))]) (KK : ∀ (IX2 IM2 : gb_Mem) (H2 : Heap) (locs2 : List Loc), Inv IX2 IM2 → lw_W D cI cR adX adM s H2 locs2 IX2 IM2 → W p l e room_1 s m #[Value.ref b] below meth c H2 locs2 200 20000 (lw_Z below #[Value.ref b] s) (F0 m 1383 ls [])) : W p l e room_1 s m #[Value.ref b] below meth c H locs 200 20000 (lw_Z below #[Value.ref b] s) (F0 m 810 ls []) := by
  obtain ⟨hx, hb, hr, hml, hown, hts, hX, hbl, hlocks, hgv⟩ := id C0
  have hbA : ¬ (fun q : Nat => s.heap.size ≤ q) b := Nat.not_le.mpr hbl
  obtain ⟨r, IX2, IM2, e1, e2, e3⟩ := hs (xs (nI t + 1).toNatClampNeg) (xs (nI t + 2).toNatClampNeg) (xs (nI t + 3).toNatClampNeg) IX IM hI
  obtain ⟨e1, e4⟩ := e1
  subst e4
  refine lv_aload_n hx hb d_law_810 rfl (lv_at hl 1 rfl) ?_
  refine lv_aload_n hx hb d_law_811 rfl (lv_at hl 0 rfl) ?_
  refine lv_iload_n hx hb d_law_812 rfl (lv_at hl 3 rfl) ?_
  refine lv_iconst (v := 1) hx hb d_law_813 (by decide) ?_
  refine lv_iadd hx hb d_law_814 ?_
  refine va_sld hx hb hX hbl hbA hW.2.2.2.2.2.2.2.1 (lw_in ht hL 1 (by decide)) d_law_815 ?_
  refine lv_aload_n hx hb d_law_816 rfl (lv_at hl 0 rfl) ?_
  refine lv_iload_n hx hb d_law_817 rfl (lv_at hl 3 rfl) ?_
  refine lv_iconst (v := 2) hx hb d_law_818 (by decide) ?_
  refine lv_iadd hx hb d_law_819 ?_
  refine va_sld hx hb hX hbl hbA hW.2.2.2.2.2.2.2.1 (lw_in ht hL 2 (by decide)) d_law_820 ?_
  refine lv_aload_n hx hb d_law_821 rfl (lv_at hl 0 rfl) ?_
  refine lv_iload_n hx hb d_law_822 rfl (lv_at hl 3 rfl) ?_
  refine lv_iconst (v := 3) hx hb d_law_823 (by decide) ?_
  refine lv_iadd hx hb d_law_824 ?_
  refine va_sld hx hb hX hbl hbA hW.2.2.2.2.2.2.2.1 (lw_in ht hL 3 (by decide)) d_law_825 ?_
  refine lw_callX (d := 100 + 3) (y := yGb_candles) (asr := [xs (nI t + 1).toNatClampNeg, xs (nI t + 2).toNatClampNeg, xs (nI t + 3).toNatClampNeg]) (rest := []) (v := r) (I' := IX2) C0 d_law_826 s_yGb_candles ml_92 rfl rfl (Nat.le_of_ble_eq_true rfl) (by decide) hl.1 (by decide) (by decide) rfl hW (c_Gb_candles l 100 (xs (nI t + 1).toNatClampNeg) (xs (nI t + 2).toNatClampNeg) (xs (nI t + 3).toNatClampNeg) IX2 e1) (fun HX locsX hWX => ?_)
  refine lv_aload_n hx hb d_law_829 rfl (lv_at hl 2 rfl) ?_
  refine lv_aload_n hx hb d_law_830 rfl (lv_at hl 0 rfl) ?_
  refine lv_iload_n hx hb d_law_831 rfl (lv_at hl 3 rfl) ?_
  refine lv_iconst (v := 1) hx hb d_law_832 (by decide) ?_
  refine lv_iadd hx hb d_law_833 ?_
  refine va_sld hx hb hX hbl hbA hWX.2.2.2.2.2.2.2.1 (lw_in ht hL 1 (by decide)) d_law_834 ?_
  refine lv_aload_n hx hb d_law_835 rfl (lv_at hl 0 rfl) ?_
  refine lv_iload_n hx hb d_law_836 rfl (lv_at hl 3 rfl) ?_
  refine lv_iconst (v := 2) hx hb d_law_837 (by decide) ?_
  refine lv_iadd hx hb d_law_838 ?_
  refine va_sld hx hb hX hbl hbA hWX.2.2.2.2.2.2.2.1 (lw_in ht hL 2 (by decide)) d_law_839 ?_
  refine lv_aload_n hx hb d_law_840 rfl (lv_at hl 0 rfl) ?_
  refine lv_iload_n hx hb d_law_841 rfl (lv_at hl 3 rfl) ?_
  refine lv_iconst (v := 3) hx hb d_law_842 (by decide) ?_
  refine lv_iadd hx hb d_law_843 ?_
  refine va_sld hx hb hX hbl hbA hWX.2.2.2.2.2.2.2.1 (lw_in ht hL 3 (by decide)) d_law_844 ?_
  refine lw_callM (d := 100 + 2) (y := yMo_candles) (asr := [xs (nI t + 1).toNatClampNeg, xs (nI t + 2).toNatClampNeg, xs (nI t + 3).toNatClampNeg]) (rest := [.int r]) (v := r) (I' := IM2) C0 d_law_845 s_yMo_candles ml_95 rfl rfl (Nat.le_of_ble_eq_true rfl) (by decide) hl.1 (by decide) (by decide) rfl hWX (c_Mo_candles l 100 (xs (nI t + 1).toNatClampNeg) (xs (nI t + 2).toNatClampNeg) (xs (nI t + 3).toNatClampNeg) IM e2) (fun HM locsM hWM => ?_)
  refine lv_icmp_eq (tgt := 1383) hx hb d_law_848 (by decide) (fun _ => ?_) (fun hc => absurd rfl hc)
  exact KK IX2 IM2 HM locsM e3 hWM
set_option maxRecDepth 8000 in
theorem lw_case_stained {p : Program} {l : Launch} {e : Env} {s : State} {m : MethodId} {below : List Frame} {meth : Method} {c : Code} {b L : Nat} {xs : Nat → Int32} (hL : L ≤ 3072) (C0 : lw_At p s m meth c b L xs) {D : va_G} {cI cR : ClassId} {adX adM : Nat → Nat} {Inv : gb_Mem → gb_Mem → Prop} (hs : S_stained Inv) {t : Nat} (ht : t + 6 ≤ L) {H : Heap} {locs : List Loc} {IX IM : gb_Mem} (hI : Inv IX IM) (hW : lw_W D cI cR adX adM s H locs IX IM) {ls : Array Slot} (hl : lv_has ls 4 [(0, .ref b), (1, .ref (adX 0)), (2, .ref (adM 0)), (3, .int (nI t))]) (KK : ∀ (IX2 IM2 : gb_Mem) (H2 : Heap) (locs2 : List Loc), Inv IX2 IM2 → lw_W D cI cR adX adM s H2 locs2 IX2 IM2 → W p l e room_1 s m #[Value.ref b] below meth c H2 locs2 200 20000 (lw_Z below #[Value.ref b] s) (F0 m 1383 ls [])) : W p l e room_1 s m #[Value.ref b] below meth c H locs 200 20000 (lw_Z below #[Value.ref b] s) (F0 m 853 ls []) := by
  obtain ⟨hx, hb, hr, hml, hown, hts, hX, hbl, hlocks, hgv⟩ := id C0
  have hbA : ¬ (fun q : Nat => s.heap.size ≤ q) b := Nat.not_le.mpr hbl
  obtain ⟨r, IX2, IM2, e1, e2, e3⟩ := hs (xs (nI t + 1).toNatClampNeg) IX IM hI
  obtain ⟨e1, e4⟩ := e1
  subst e4
  refine lv_aload_n hx hb d_law_853 rfl (lv_at hl 1 rfl) ?_
  refine lv_aload_n hx hb d_law_854 rfl (lv_at hl 0 rfl) ?_
  refine lv_iload_n hx hb d_law_855 rfl (lv_at hl 3 rfl) ?_
  refine lv_iconst (v := 1) hx hb d_law_856 (by decide) ?_
  refine lv_iadd hx hb d_law_857 ?_
  refine va_sld hx hb hX hbl hbA hW.2.2.2.2.2.2.2.1 (lw_in ht hL 1 (by decide)) d_law_858 ?_
  refine lw_callX (d := 100 + 3) (y := yGb_stained) (asr := [xs (nI t + 1).toNatClampNeg]) (rest := []) (v := r) (I' := IX2) C0 d_law_859 s_yGb_stained ml_96 rfl rfl (Nat.le_of_ble_eq_true rfl) (by decide) hl.1 (by decide) (by decide) rfl hW (c_Gb_stained l 100 (xs (nI t + 1).toNatClampNeg) IX2 e1) (fun HX locsX hWX => ?_)
  refine lv_aload_n hx hb d_law_862 rfl (lv_at hl 2 rfl) ?_
  refine lv_aload_n hx hb d_law_863 rfl (lv_at hl 0 rfl) ?_
  refine lv_iload_n hx hb d_law_864 rfl (lv_at hl 3 rfl) ?_
  refine lv_iconst (v := 1) hx hb d_law_865 (by decide) ?_
  refine lv_iadd hx hb d_law_866 ?_
  refine va_sld hx hb hX hbl hbA hWX.2.2.2.2.2.2.2.1 (lw_in ht hL 1 (by decide)) d_law_867 ?_
  refine lw_callM (d := 100 + 1) (y := yMo_stained) (asr := [xs (nI t + 1).toNatClampNeg]) (rest := [.int r]) (v := r) (I' := IM2) C0 d_law_868 s_yMo_stained ml_99 rfl rfl (Nat.le_of_ble_eq_true rfl) (by decide) hl.1 (by decide) (by decide) rfl hWX (c_Mo_stained l 100 (xs (nI t + 1).toNatClampNeg) IM e2) (fun HM locsM hWM => ?_)
  refine lv_icmp_eq (tgt := 1383) hx hb d_law_871 (by decide) (fun _ => ?_) (fun hc => absurd rfl hc)
  exact KK IX2 IM2 HM locsM e3 hWM
set_option maxRecDepth 8000 in
theorem lw_case_convoy {p : Program} {l : Launch} {e : Env} {s : State} {m : MethodId} {below : List Frame} {meth : Method} {c : Code} {b L : Nat} {xs : Nat → Int32} (hL : L ≤ 3072) (C0 : lw_At p s m meth c b L xs) {D : va_G} {cI cR : ClassId} {adX adM : Nat → Nat} {Inv : gb_Mem → gb_Mem → Prop} (hs : S_convoy Inv) {t : Nat} (ht : t + 6 ≤ L) {H : Heap} {locs : List Loc} {IX IM : gb_Mem} (hI : Inv IX IM) (hW : lw_W D cI cR adX adM s H locs IX IM) {ls : Array Slot} (hl : lv_has ls 4 [(0, .ref b), (1, .ref (adX 0)), (2, .ref (adM 0)), (3, .int (nI t))]) (KK : ∀ (IX2 IM2 : gb_Mem) (H2 : Heap) (locs2 : List Loc), Inv IX2 IM2 → lw_W D cI cR adX adM s H2 locs2 IX2 IM2 → W p l e room_1 s m #[Value.ref b] below meth c H2 locs2 200 20000 (lw_Z below #[Value.ref b] s) (F0 m 1383 ls [])) : W p l e room_1 s m #[Value.ref b] below meth c H locs 200 20000 (lw_Z below #[Value.ref b] s) (F0 m 876 ls []) := by
  obtain ⟨hx, hb, hr, hml, hown, hts, hX, hbl, hlocks, hgv⟩ := id C0
  have hbA : ¬ (fun q : Nat => s.heap.size ≤ q) b := Nat.not_le.mpr hbl
  obtain ⟨r, IX2, IM2, e1, e2, e3⟩ := hs (xs (nI t + 1).toNatClampNeg) (xs (nI t + 2).toNatClampNeg) IX IM hI
  refine lv_aload_n hx hb d_law_876 rfl (lv_at hl 1 rfl) ?_
  refine lv_aload_n hx hb d_law_877 rfl (lv_at hl 0 rfl) ?_
  refine lv_iload_n hx hb d_law_878 rfl (lv_at hl 3 rfl) ?_
  refine lv_iconst (v := 1) hx hb d_law_879 (by decide) ?_
  refine lv_iadd hx hb d_law_880 ?_
  refine va_sld hx hb hX hbl hbA hW.2.2.2.2.2.2.2.1 (lw_in ht hL 1 (by decide)) d_law_881 ?_
  refine lv_aload_n hx hb d_law_882 rfl (lv_at hl 0 rfl) ?_
  refine lv_iload_n hx hb d_law_883 rfl (lv_at hl 3 rfl) ?_
  refine lv_iconst (v := 2) hx hb d_law_884 (by decide) ?_
  refine lv_iadd hx hb d_law_885 ?_
  refine va_sld hx hb hX hbl hbA hW.2.2.2.2.2.2.2.1 (lw_in ht hL 2 (by decide)) d_law_886 ?_
  refine lw_callX (d := 100 + 3) (y := yGb_convoy) (asr := [xs (nI t + 1).toNatClampNeg, xs (nI t + 2).toNatClampNeg]) (rest := []) (v := r) (I' := IX2) C0 d_law_887 s_yGb_convoy ml_100 rfl rfl (Nat.le_of_ble_eq_true rfl) (by decide) hl.1 (by decide) (by decide) rfl hW (c_Gb_convoy l 100 (xs (nI t + 1).toNatClampNeg) (xs (nI t + 2).toNatClampNeg) IX e1) (fun HX locsX hWX => ?_)
  refine lv_aload_n hx hb d_law_890 rfl (lv_at hl 2 rfl) ?_
  refine lv_aload_n hx hb d_law_891 rfl (lv_at hl 0 rfl) ?_
  refine lv_iload_n hx hb d_law_892 rfl (lv_at hl 3 rfl) ?_
  refine lv_iconst (v := 1) hx hb d_law_893 (by decide) ?_
  refine lv_iadd hx hb d_law_894 ?_
  refine va_sld hx hb hX hbl hbA hWX.2.2.2.2.2.2.2.1 (lw_in ht hL 1 (by decide)) d_law_895 ?_
  refine lv_aload_n hx hb d_law_896 rfl (lv_at hl 0 rfl) ?_
  refine lv_iload_n hx hb d_law_897 rfl (lv_at hl 3 rfl) ?_
  refine lv_iconst (v := 2) hx hb d_law_898 (by decide) ?_
  refine lv_iadd hx hb d_law_899 ?_
  refine va_sld hx hb hX hbl hbA hWX.2.2.2.2.2.2.2.1 (lw_in ht hL 2 (by decide)) d_law_900 ?_
  refine lw_callM (d := 100 + 1) (y := yMo_convoy) (asr := [xs (nI t + 1).toNatClampNeg, xs (nI t + 2).toNatClampNeg]) (rest := [.int r]) (v := r) (I' := IM2) C0 d_law_901 s_yMo_convoy ml_103 rfl rfl (Nat.le_of_ble_eq_true rfl) (by decide) hl.1 (by decide) (by decide) rfl hWX (c_Mo_convoy l 100 (xs (nI t + 1).toNatClampNeg) (xs (nI t + 2).toNatClampNeg) IM e2) (fun HM locsM hWM => ?_)
  refine lv_icmp_eq (tgt := 1383) hx hb d_law_904 (by decide) (fun _ => ?_) (fun hc => absurd rfl hc)
  exact KK IX2 IM2 HM locsM e3 hWM
set_option maxRecDepth 8000 in
theorem lw_case_meets {p : Program} {l : Launch} {e : Env} {s : State} {m : MethodId} {below : List Frame} {meth : Method} {c : Code} {b L : Nat} {xs : Nat → Int32} (hL : L ≤ 3072) (C0 : lw_At p s m meth c b L xs) {D : va_G} {cI cR : ClassId} {adX adM : Nat → Nat} {Inv : gb_Mem → gb_Mem → Prop} (hs : S_meets Inv) {t : Nat} (ht : t + 6 ≤ L) {H : Heap} {locs : List Loc} {IX IM : gb_Mem} (hI : Inv IX IM) (hW : lw_W D cI cR adX adM s H locs IX IM) {ls : Array Slot} (hl : lv_has ls 4 [(0, .ref b), (1, .ref (adX 0)), (2, .ref (adM 0)), (3, .int (nI t))]) (KK : ∀ (IX2 IM2 : gb_Mem) (H2 : Heap) (locs2 : List Loc), Inv IX2 IM2 → lw_W D cI cR adX adM s H2 locs2 IX2 IM2 → W p l e room_1 s m #[Value.ref b] below meth c H2 locs2 200 20000 (lw_Z below #[Value.ref b] s) (F0 m 1383 ls [])) : W p l e room_1 s m #[Value.ref b] below meth c H locs 200 20000 (lw_Z below #[Value.ref b] s) (F0 m 909 ls []) := by
  obtain ⟨hx, hb, hr, hml, hown, hts, hX, hbl, hlocks, hgv⟩ := id C0
  have hbA : ¬ (fun q : Nat => s.heap.size ≤ q) b := Nat.not_le.mpr hbl
  obtain ⟨r, IX2, IM2, e1, e2, e3⟩ := hs (xs (nI t + 1).toNatClampNeg) IX IM hI
  obtain ⟨e1, e4⟩ := e1
  subst e4
  refine lv_aload_n hx hb d_law_909 rfl (lv_at hl 1 rfl) ?_
  refine lv_aload_n hx hb d_law_910 rfl (lv_at hl 0 rfl) ?_
  refine lv_iload_n hx hb d_law_911 rfl (lv_at hl 3 rfl) ?_
  refine lv_iconst (v := 1) hx hb d_law_912 (by decide) ?_
  refine lv_iadd hx hb d_law_913 ?_
  refine va_sld hx hb hX hbl hbA hW.2.2.2.2.2.2.2.1 (lw_in ht hL 1 (by decide)) d_law_914 ?_
  refine lw_callX (d := 100 + 3) (y := yGb_meets) (asr := [xs (nI t + 1).toNatClampNeg]) (rest := []) (v := r) (I' := IX2) C0 d_law_915 s_yGb_meets ml_104 rfl rfl (Nat.le_of_ble_eq_true rfl) (by decide) hl.1 (by decide) (by decide) rfl hW (c_Gb_meets l 100 (xs (nI t + 1).toNatClampNeg) IX2 e1) (fun HX locsX hWX => ?_)
  refine lv_aload_n hx hb d_law_918 rfl (lv_at hl 2 rfl) ?_
  refine lv_aload_n hx hb d_law_919 rfl (lv_at hl 0 rfl) ?_
  refine lv_iload_n hx hb d_law_920 rfl (lv_at hl 3 rfl) ?_
  refine lv_iconst (v := 1) hx hb d_law_921 (by decide) ?_
  refine lv_iadd hx hb d_law_922 ?_
  refine va_sld hx hb hX hbl hbA hWX.2.2.2.2.2.2.2.1 (lw_in ht hL 1 (by decide)) d_law_923 ?_
  refine lw_callM (d := 100 + 1) (y := yMo_meets) (asr := [xs (nI t + 1).toNatClampNeg]) (rest := [.int r]) (v := r) (I' := IM2) C0 d_law_924 s_yMo_meets ml_107 rfl rfl (Nat.le_of_ble_eq_true rfl) (by decide) hl.1 (by decide) (by decide) rfl hWX (c_Mo_meets l 100 (xs (nI t + 1).toNatClampNeg) IM e2) (fun HM locsM hWM => ?_)
  refine lv_icmp_eq (tgt := 1383) hx hb d_law_927 (by decide) (fun _ => ?_) (fun hc => absurd rfl hc)
  exact KK IX2 IM2 HM locsM e3 hWM
set_option maxRecDepth 8000 in
theorem lw_case_flag {p : Program} {l : Launch} {e : Env} {s : State} {m : MethodId} {below : List Frame} {meth : Method} {c : Code} {b L : Nat} {xs : Nat → Int32} (hL : L ≤ 3072) (C0 : lw_At p s m meth c b L xs) {D : va_G} {cI cR : ClassId} {adX adM : Nat → Nat} {Inv : gb_Mem → gb_Mem → Prop} (hs : S_flag Inv) {t : Nat} (ht : t + 6 ≤ L) {H : Heap} {locs : List Loc} {IX IM : gb_Mem} (hI : Inv IX IM) (hW : lw_W D cI cR adX adM s H locs IX IM) {ls : Array Slot} (hl : lv_has ls 4 [(0, .ref b), (1, .ref (adX 0)), (2, .ref (adM 0)), (3, .int (nI t))]) (KK : ∀ (IX2 IM2 : gb_Mem) (H2 : Heap) (locs2 : List Loc), Inv IX2 IM2 → lw_W D cI cR adX adM s H2 locs2 IX2 IM2 → W p l e room_1 s m #[Value.ref b] below meth c H2 locs2 200 20000 (lw_Z below #[Value.ref b] s) (F0 m 1383 ls [])) : W p l e room_1 s m #[Value.ref b] below meth c H locs 200 20000 (lw_Z below #[Value.ref b] s) (F0 m 932 ls []) := by
  obtain ⟨hx, hb, hr, hml, hown, hts, hX, hbl, hlocks, hgv⟩ := id C0
  have hbA : ¬ (fun q : Nat => s.heap.size ≤ q) b := Nat.not_le.mpr hbl
  obtain ⟨r, IX2, IM2, e1, e2, e3⟩ := hs (xs (nI t + 1).toNatClampNeg) IX IM hI
  refine lv_aload_n hx hb d_law_932 rfl (lv_at hl 1 rfl) ?_
  refine lv_aload_n hx hb d_law_933 rfl (lv_at hl 0 rfl) ?_
  refine lv_iload_n hx hb d_law_934 rfl (lv_at hl 3 rfl) ?_
  refine lv_iconst (v := 1) hx hb d_law_935 (by decide) ?_
  refine lv_iadd hx hb d_law_936 ?_
  refine va_sld hx hb hX hbl hbA hW.2.2.2.2.2.2.2.1 (lw_in ht hL 1 (by decide)) d_law_937 ?_
  refine lw_callX (d := 100 + 2) (y := yGb_flag) (asr := [xs (nI t + 1).toNatClampNeg]) (rest := []) (v := r) (I' := IX2) C0 d_law_938 s_yGb_flag ml_108 rfl rfl (Nat.le_of_ble_eq_true rfl) (by decide) hl.1 (by decide) (by decide) rfl hW (c_Gb_flag l 100 (xs (nI t + 1).toNatClampNeg) IX e1) (fun HX locsX hWX => ?_)
  refine lv_aload_n hx hb d_law_941 rfl (lv_at hl 2 rfl) ?_
  refine lv_aload_n hx hb d_law_942 rfl (lv_at hl 0 rfl) ?_
  refine lv_iload_n hx hb d_law_943 rfl (lv_at hl 3 rfl) ?_
  refine lv_iconst (v := 1) hx hb d_law_944 (by decide) ?_
  refine lv_iadd hx hb d_law_945 ?_
  refine va_sld hx hb hX hbl hbA hWX.2.2.2.2.2.2.2.1 (lw_in ht hL 1 (by decide)) d_law_946 ?_
  refine lw_callM (d := 100 + 1) (y := yMo_flag) (asr := [xs (nI t + 1).toNatClampNeg]) (rest := [.int r]) (v := r) (I' := IM2) C0 d_law_947 s_yMo_flag ml_111 rfl rfl (Nat.le_of_ble_eq_true rfl) (by decide) hl.1 (by decide) (by decide) rfl hWX (c_Mo_flag l 100 (xs (nI t + 1).toNatClampNeg) IM e2) (fun HM locsM hWM => ?_)
  refine lv_icmp_eq (tgt := 1383) hx hb d_law_950 (by decide) (fun _ => ?_) (fun hc => absurd rfl hc)
  exact KK IX2 IM2 HM locsM e3 hWM
set_option maxRecDepth 8000 in
theorem lw_case_spoons {p : Program} {l : Launch} {e : Env} {s : State} {m : MethodId} {below : List Frame} {meth : Method} {c : Code} {b L : Nat} {xs : Nat → Int32} (hL : L ≤ 3072) (C0 : lw_At p s m meth c b L xs) {D : va_G} {cI cR : ClassId} {adX adM : Nat → Nat} {Inv : gb_Mem → gb_Mem → Prop} (hs : S_spoons Inv) {t : Nat} (ht : t + 6 ≤ L) {H : Heap} {locs : List Loc} {IX IM : gb_Mem} (hI : Inv IX IM) (hW : lw_W D cI cR adX adM s H locs IX IM) {ls : Array Slot} (hl : lv_has ls 4 [(0, .ref b), (1, .ref (adX 0)), (2, .ref (adM 0)), (3, .int (nI t))]) (KK : ∀ (IX2 IM2 : gb_Mem) (H2 : Heap) (locs2 : List Loc), Inv IX2 IM2 → lw_W D cI cR adX adM s H2 locs2 IX2 IM2 → W p l e room_1 s m #[Value.ref b] below meth c H2 locs2 200 20000 (lw_Z below #[Value.ref b] s) (F0 m 1383 ls [])) : W p l e room_1 s m #[Value.ref b] below meth c H locs 200 20000 (lw_Z below #[Value.ref b] s) (F0 m 955 ls []) := by
  obtain ⟨hx, hb, hr, hml, hown, hts, hX, hbl, hlocks, hgv⟩ := id C0
  have hbA : ¬ (fun q : Nat => s.heap.size ≤ q) b := Nat.not_le.mpr hbl
  obtain ⟨r, IX2, IM2, e1, e2, e3⟩ := hs (xs (nI t + 1).toNatClampNeg) (xs (nI t + 2).toNatClampNeg) IX IM hI
  obtain ⟨e1, e4⟩ := e1
  subst e4
  refine lv_aload_n hx hb d_law_955 rfl (lv_at hl 1 rfl) ?_
  refine lv_aload_n hx hb d_law_956 rfl (lv_at hl 0 rfl) ?_
  refine lv_iload_n hx hb d_law_957 rfl (lv_at hl 3 rfl) ?_
  refine lv_iconst (v := 1) hx hb d_law_958 (by decide) ?_
  refine lv_iadd hx hb d_law_959 ?_
  refine va_sld hx hb hX hbl hbA hW.2.2.2.2.2.2.2.1 (lw_in ht hL 1 (by decide)) d_law_960 ?_
  refine lv_aload_n hx hb d_law_961 rfl (lv_at hl 0 rfl) ?_
  refine lv_iload_n hx hb d_law_962 rfl (lv_at hl 3 rfl) ?_
  refine lv_iconst (v := 2) hx hb d_law_963 (by decide) ?_
  refine lv_iadd hx hb d_law_964 ?_
  refine va_sld hx hb hX hbl hbA hW.2.2.2.2.2.2.2.1 (lw_in ht hL 2 (by decide)) d_law_965 ?_
  refine lw_callX (d := 100 + 3) (y := yGb_spoons) (asr := [xs (nI t + 1).toNatClampNeg, xs (nI t + 2).toNatClampNeg]) (rest := []) (v := r) (I' := IX2) C0 d_law_966 s_yGb_spoons ml_112 rfl rfl (Nat.le_of_ble_eq_true rfl) (by decide) hl.1 (by decide) (by decide) rfl hW (c_Gb_spoons l 100 (xs (nI t + 1).toNatClampNeg) (xs (nI t + 2).toNatClampNeg) IX2 e1) (fun HX locsX hWX => ?_)
  refine lv_aload_n hx hb d_law_969 rfl (lv_at hl 2 rfl) ?_
  refine lv_aload_n hx hb d_law_970 rfl (lv_at hl 0 rfl) ?_
  refine lv_iload_n hx hb d_law_971 rfl (lv_at hl 3 rfl) ?_
  refine lv_iconst (v := 1) hx hb d_law_972 (by decide) ?_
  refine lv_iadd hx hb d_law_973 ?_
  refine va_sld hx hb hX hbl hbA hWX.2.2.2.2.2.2.2.1 (lw_in ht hL 1 (by decide)) d_law_974 ?_
  refine lv_aload_n hx hb d_law_975 rfl (lv_at hl 0 rfl) ?_
  refine lv_iload_n hx hb d_law_976 rfl (lv_at hl 3 rfl) ?_
  refine lv_iconst (v := 2) hx hb d_law_977 (by decide) ?_
  refine lv_iadd hx hb d_law_978 ?_
  refine va_sld hx hb hX hbl hbA hWX.2.2.2.2.2.2.2.1 (lw_in ht hL 2 (by decide)) d_law_979 ?_
  refine lw_callM (d := 100 + 2) (y := yMo_spoons) (asr := [xs (nI t + 1).toNatClampNeg, xs (nI t + 2).toNatClampNeg]) (rest := [.int r]) (v := r) (I' := IM2) C0 d_law_980 s_yMo_spoons ml_115 rfl rfl (Nat.le_of_ble_eq_true rfl) (by decide) hl.1 (by decide) (by decide) rfl hWX (c_Mo_spoons l 100 (xs (nI t + 1).toNatClampNeg) (xs (nI t + 2).toNatClampNeg) IM e2) (fun HM locsM hWM => ?_)
  refine lv_icmp_eq (tgt := 1383) hx hb d_law_983 (by decide) (fun _ => ?_) (fun hc => absurd rfl hc)
  exact KK IX2 IM2 HM locsM e3 hWM
set_option maxRecDepth 8000 in
theorem lw_case_treaty {p : Program} {l : Launch} {e : Env} {s : State} {m : MethodId} {below : List Frame} {meth : Method} {c : Code} {b L : Nat} {xs : Nat → Int32} (hL : L ≤ 3072) (C0 : lw_At p s m meth c b L xs) {D : va_G} {cI cR : ClassId} {adX adM : Nat → Nat} {Inv : gb_Mem → gb_Mem → Prop} (hs : S_treaty Inv) {t : Nat} (ht : t + 6 ≤ L) {H : Heap} {locs : List Loc} {IX IM : gb_Mem} (hI : Inv IX IM) (hW : lw_W D cI cR adX adM s H locs IX IM) {ls : Array Slot} (hl : lv_has ls 4 [(0, .ref b), (1, .ref (adX 0)), (2, .ref (adM 0)), (3, .int (nI t))]) (KK : ∀ (IX2 IM2 : gb_Mem) (H2 : Heap) (locs2 : List Loc), Inv IX2 IM2 → lw_W D cI cR adX adM s H2 locs2 IX2 IM2 → W p l e room_1 s m #[Value.ref b] below meth c H2 locs2 200 20000 (lw_Z below #[Value.ref b] s) (F0 m 1383 ls [])) : W p l e room_1 s m #[Value.ref b] below meth c H locs 200 20000 (lw_Z below #[Value.ref b] s) (F0 m 988 ls []) := by
  obtain ⟨hx, hb, hr, hml, hown, hts, hX, hbl, hlocks, hgv⟩ := id C0
  have hbA : ¬ (fun q : Nat => s.heap.size ≤ q) b := Nat.not_le.mpr hbl
  obtain ⟨r, IX2, IM2, e1, e2, e3⟩ := hs (xs (nI t + 1).toNatClampNeg) (xs (nI t + 2).toNatClampNeg) (xs (nI t + 3).toNatClampNeg) IX IM hI
  refine lv_aload_n hx hb d_law_988 rfl (lv_at hl 1 rfl) ?_
  refine lv_aload_n hx hb d_law_989 rfl (lv_at hl 0 rfl) ?_
  refine lv_iload_n hx hb d_law_990 rfl (lv_at hl 3 rfl) ?_
  refine lv_iconst (v := 1) hx hb d_law_991 (by decide) ?_
  refine lv_iadd hx hb d_law_992 ?_
  refine va_sld hx hb hX hbl hbA hW.2.2.2.2.2.2.2.1 (lw_in ht hL 1 (by decide)) d_law_993 ?_
  refine lv_aload_n hx hb d_law_994 rfl (lv_at hl 0 rfl) ?_
  refine lv_iload_n hx hb d_law_995 rfl (lv_at hl 3 rfl) ?_
  refine lv_iconst (v := 2) hx hb d_law_996 (by decide) ?_
  refine lv_iadd hx hb d_law_997 ?_
  refine va_sld hx hb hX hbl hbA hW.2.2.2.2.2.2.2.1 (lw_in ht hL 2 (by decide)) d_law_998 ?_
  refine lv_aload_n hx hb d_law_999 rfl (lv_at hl 0 rfl) ?_
  refine lv_iload_n hx hb d_law_1000 rfl (lv_at hl 3 rfl) ?_
  refine lv_iconst (v := 3) hx hb d_law_1001 (by decide) ?_
  refine lv_iadd hx hb d_law_1002 ?_
  refine va_sld hx hb hX hbl hbA hW.2.2.2.2.2.2.2.1 (lw_in ht hL 3 (by decide)) d_law_1003 ?_
  refine lw_callX (d := 100 + 2) (y := yGb_treaty) (asr := [xs (nI t + 1).toNatClampNeg, xs (nI t + 2).toNatClampNeg, xs (nI t + 3).toNatClampNeg]) (rest := []) (v := r) (I' := IX2) C0 d_law_1004 s_yGb_treaty ml_116 rfl rfl (Nat.le_of_ble_eq_true rfl) (by decide) hl.1 (by decide) (by decide) rfl hW (c_Gb_treaty l 100 (xs (nI t + 1).toNatClampNeg) (xs (nI t + 2).toNatClampNeg) (xs (nI t + 3).toNatClampNeg) IX e1) (fun HX locsX hWX => ?_)
  refine lv_aload_n hx hb d_law_1007 rfl (lv_at hl 2 rfl) ?_
  refine lv_aload_n hx hb d_law_1008 rfl (lv_at hl 0 rfl) ?_
  refine lv_iload_n hx hb d_law_1009 rfl (lv_at hl 3 rfl) ?_
  refine lv_iconst (v := 1) hx hb d_law_1010 (by decide) ?_
  refine lv_iadd hx hb d_law_1011 ?_
  refine va_sld hx hb hX hbl hbA hWX.2.2.2.2.2.2.2.1 (lw_in ht hL 1 (by decide)) d_law_1012 ?_
  refine lv_aload_n hx hb d_law_1013 rfl (lv_at hl 0 rfl) ?_
  refine lv_iload_n hx hb d_law_1014 rfl (lv_at hl 3 rfl) ?_
  refine lv_iconst (v := 2) hx hb d_law_1015 (by decide) ?_
  refine lv_iadd hx hb d_law_1016 ?_
  refine va_sld hx hb hX hbl hbA hWX.2.2.2.2.2.2.2.1 (lw_in ht hL 2 (by decide)) d_law_1017 ?_
  refine lv_aload_n hx hb d_law_1018 rfl (lv_at hl 0 rfl) ?_
  refine lv_iload_n hx hb d_law_1019 rfl (lv_at hl 3 rfl) ?_
  refine lv_iconst (v := 3) hx hb d_law_1020 (by decide) ?_
  refine lv_iadd hx hb d_law_1021 ?_
  refine va_sld hx hb hX hbl hbA hWX.2.2.2.2.2.2.2.1 (lw_in ht hL 3 (by decide)) d_law_1022 ?_
  refine lw_callM (d := 100 + 1) (y := yMo_treaty) (asr := [xs (nI t + 1).toNatClampNeg, xs (nI t + 2).toNatClampNeg, xs (nI t + 3).toNatClampNeg]) (rest := [.int r]) (v := r) (I' := IM2) C0 d_law_1023 s_yMo_treaty ml_119 rfl rfl (Nat.le_of_ble_eq_true rfl) (by decide) hl.1 (by decide) (by decide) rfl hWX (c_Mo_treaty l 100 (xs (nI t + 1).toNatClampNeg) (xs (nI t + 2).toNatClampNeg) (xs (nI t + 3).toNatClampNeg) IM e2) (fun HM locsM hWM => ?_)
  refine lv_icmp_eq (tgt := 1383) hx hb d_law_1026 (by decide) (fun _ => ?_) (fun hc => absurd rfl hc)
  exact KK IX2 IM2 HM locsM e3 hWM
set_option maxRecDepth 8000 in
theorem lw_case_gives {p : Program} {l : Launch} {e : Env} {s : State} {m : MethodId} {below : List Frame} {meth : Method} {c : Code} {b L : Nat} {xs : Nat → Int32} (hL : L ≤ 3072) (C0 : lw_At p s m meth c b L xs) {D : va_G} {cI cR : ClassId} {adX adM : Nat → Nat} {Inv : gb_Mem → gb_Mem → Prop} (hs : S_gives Inv) {t : Nat} (ht : t + 6 ≤ L) {H : Heap} {locs : List Loc} {IX IM : gb_Mem} (hI : Inv IX IM) (hW : lw_W D cI cR adX adM s H locs IX IM) {ls : Array Slot} (hl : lv_has ls 4 [(0, .ref b), (1, .ref (adX 0)), (2, .ref (adM 0)), (3, .int (nI t))]) (KK : ∀ (IX2 IM2 : gb_Mem) (H2 : Heap) (locs2 : List Loc), Inv IX2 IM2 → lw_W D cI cR adX adM s H2 locs2 IX2 IM2 → W p l e room_1 s m #[Value.ref b] below meth c H2 locs2 200 20000 (lw_Z below #[Value.ref b] s) (F0 m 1383 ls [])) : W p l e room_1 s m #[Value.ref b] below meth c H locs 200 20000 (lw_Z below #[Value.ref b] s) (F0 m 1031 ls []) := by
  obtain ⟨hx, hb, hr, hml, hown, hts, hX, hbl, hlocks, hgv⟩ := id C0
  have hbA : ¬ (fun q : Nat => s.heap.size ≤ q) b := Nat.not_le.mpr hbl
  obtain ⟨r, IX2, IM2, e1, e2, e3⟩ := hs (xs (nI t + 1).toNatClampNeg) (xs (nI t + 2).toNatClampNeg) IX IM hI
  refine lv_aload_n hx hb d_law_1031 rfl (lv_at hl 1 rfl) ?_
  refine lv_aload_n hx hb d_law_1032 rfl (lv_at hl 0 rfl) ?_
  refine lv_iload_n hx hb d_law_1033 rfl (lv_at hl 3 rfl) ?_
  refine lv_iconst (v := 1) hx hb d_law_1034 (by decide) ?_
  refine lv_iadd hx hb d_law_1035 ?_
  refine va_sld hx hb hX hbl hbA hW.2.2.2.2.2.2.2.1 (lw_in ht hL 1 (by decide)) d_law_1036 ?_
  refine lv_aload_n hx hb d_law_1037 rfl (lv_at hl 0 rfl) ?_
  refine lv_iload_n hx hb d_law_1038 rfl (lv_at hl 3 rfl) ?_
  refine lv_iconst (v := 2) hx hb d_law_1039 (by decide) ?_
  refine lv_iadd hx hb d_law_1040 ?_
  refine va_sld hx hb hX hbl hbA hW.2.2.2.2.2.2.2.1 (lw_in ht hL 2 (by decide)) d_law_1041 ?_
  refine lw_callX (d := 100 + 2) (y := yGb_gives) (asr := [xs (nI t + 1).toNatClampNeg, xs (nI t + 2).toNatClampNeg]) (rest := []) (v := r) (I' := IX2) C0 d_law_1042 s_yGb_gives ml_120 rfl rfl (Nat.le_of_ble_eq_true rfl) (by decide) hl.1 (by decide) (by decide) rfl hW (c_Gb_gives l 100 (xs (nI t + 1).toNatClampNeg) (xs (nI t + 2).toNatClampNeg) IX e1) (fun HX locsX hWX => ?_)
  refine lv_aload_n hx hb d_law_1045 rfl (lv_at hl 2 rfl) ?_
  refine lv_aload_n hx hb d_law_1046 rfl (lv_at hl 0 rfl) ?_
  refine lv_iload_n hx hb d_law_1047 rfl (lv_at hl 3 rfl) ?_
  refine lv_iconst (v := 1) hx hb d_law_1048 (by decide) ?_
  refine lv_iadd hx hb d_law_1049 ?_
  refine va_sld hx hb hX hbl hbA hWX.2.2.2.2.2.2.2.1 (lw_in ht hL 1 (by decide)) d_law_1050 ?_
  refine lv_aload_n hx hb d_law_1051 rfl (lv_at hl 0 rfl) ?_
  refine lv_iload_n hx hb d_law_1052 rfl (lv_at hl 3 rfl) ?_
  refine lv_iconst (v := 2) hx hb d_law_1053 (by decide) ?_
  refine lv_iadd hx hb d_law_1054 ?_
  refine va_sld hx hb hX hbl hbA hWX.2.2.2.2.2.2.2.1 (lw_in ht hL 2 (by decide)) d_law_1055 ?_
  refine lw_callM (d := 100 + 1) (y := yMo_gives) (asr := [xs (nI t + 1).toNatClampNeg, xs (nI t + 2).toNatClampNeg]) (rest := [.int r]) (v := r) (I' := IM2) C0 d_law_1056 s_yMo_gives ml_123 rfl rfl (Nat.le_of_ble_eq_true rfl) (by decide) hl.1 (by decide) (by decide) rfl hWX (c_Mo_gives l 100 (xs (nI t + 1).toNatClampNeg) (xs (nI t + 2).toNatClampNeg) IM e2) (fun HM locsM hWM => ?_)
  refine lv_icmp_eq (tgt := 1383) hx hb d_law_1059 (by decide) (fun _ => ?_) (fun hc => absurd rfl hc)
  exact KK IX2 IM2 HM locsM e3 hWM
set_option maxRecDepth 8000 in
theorem lw_case_way {p : Program} {l : Launch} {e : Env} {s : State} {m : MethodId} {below : List Frame} {meth : Method} {c : Code} {b L : Nat} {xs : Nat → Int32} (hL : L ≤ 3072) (C0 : lw_At p s m meth c b L xs) {D : va_G} {cI cR : ClassId} {adX adM : Nat → Nat} {Inv : gb_Mem → gb_Mem → Prop} (hs : S_way Inv) {t : Nat} (ht : t + 6 ≤ L) {H : Heap} {locs : List Loc} {IX IM : gb_Mem} (hI : Inv IX IM) (hW : lw_W D cI cR adX adM s H locs IX IM) {ls : Array Slot} (hl : lv_has ls 4 [(0, .ref b), (1, .ref (adX 0)), (2, .ref (adM 0)), (3, .int (nI t))]) (KK : ∀ (IX2 IM2 : gb_Mem) (H2 : Heap) (locs2 : List Loc), Inv IX2 IM2 → lw_W D cI cR adX adM s H2 locs2 IX2 IM2 → W p l e room_1 s m #[Value.ref b] below meth c H2 locs2 200 20000 (lw_Z below #[Value.ref b] s) (F0 m 1383 ls [])) : W p l e room_1 s m #[Value.ref b] below meth c H locs 200 20000 (lw_Z below #[Value.ref b] s) (F0 m 1064 ls []) := by
  obtain ⟨hx, hb, hr, hml, hown, hts, hX, hbl, hlocks, hgv⟩ := id C0
  have hbA : ¬ (fun q : Nat => s.heap.size ≤ q) b := Nat.not_le.mpr hbl
  obtain ⟨r, IX2, IM2, e1, e2, e3⟩ := hs (xs (nI t + 1).toNatClampNeg) IX IM hI
  obtain ⟨e1, e4⟩ := e1
  subst e4
  refine lv_aload_n hx hb d_law_1064 rfl (lv_at hl 1 rfl) ?_
  refine lv_aload_n hx hb d_law_1065 rfl (lv_at hl 0 rfl) ?_
  refine lv_iload_n hx hb d_law_1066 rfl (lv_at hl 3 rfl) ?_
  refine lv_iconst (v := 1) hx hb d_law_1067 (by decide) ?_
  refine lv_iadd hx hb d_law_1068 ?_
  refine va_sld hx hb hX hbl hbA hW.2.2.2.2.2.2.2.1 (lw_in ht hL 1 (by decide)) d_law_1069 ?_
  refine lw_callX (d := 100 + 3) (y := yGb_way) (asr := [xs (nI t + 1).toNatClampNeg]) (rest := []) (v := r) (I' := IX2) C0 d_law_1070 s_yGb_way ml_124 rfl rfl (Nat.le_of_ble_eq_true rfl) (by decide) hl.1 (by decide) (by decide) rfl hW (c_Gb_way l 100 (xs (nI t + 1).toNatClampNeg) IX2 e1) (fun HX locsX hWX => ?_)
  refine lv_aload_n hx hb d_law_1073 rfl (lv_at hl 2 rfl) ?_
  refine lv_aload_n hx hb d_law_1074 rfl (lv_at hl 0 rfl) ?_
  refine lv_iload_n hx hb d_law_1075 rfl (lv_at hl 3 rfl) ?_
  refine lv_iconst (v := 1) hx hb d_law_1076 (by decide) ?_
  refine lv_iadd hx hb d_law_1077 ?_
  refine va_sld hx hb hX hbl hbA hWX.2.2.2.2.2.2.2.1 (lw_in ht hL 1 (by decide)) d_law_1078 ?_
  refine lw_callM (d := 100 + 3) (y := yMo_way) (asr := [xs (nI t + 1).toNatClampNeg]) (rest := [.int r]) (v := r) (I' := IM2) C0 d_law_1079 s_yMo_way ml_127 rfl rfl (Nat.le_of_ble_eq_true rfl) (by decide) hl.1 (by decide) (by decide) rfl hWX (c_Mo_way l 100 (xs (nI t + 1).toNatClampNeg) IM e2) (fun HM locsM hWM => ?_)
  refine lv_icmp_eq (tgt := 1383) hx hb d_law_1082 (by decide) (fun _ => ?_) (fun hc => absurd rfl hc)
  exact KK IX2 IM2 HM locsM e3 hWM
set_option maxRecDepth 8000 in
theorem lw_case_cloth {p : Program} {l : Launch} {e : Env} {s : State} {m : MethodId} {below : List Frame} {meth : Method} {c : Code} {b L : Nat} {xs : Nat → Int32} (hL : L ≤ 3072) (C0 : lw_At p s m meth c b L xs) {D : va_G} {cI cR : ClassId} {adX adM : Nat → Nat} {Inv : gb_Mem → gb_Mem → Prop} (hs : S_cloth Inv) {t : Nat} (ht : t + 6 ≤ L) {H : Heap} {locs : List Loc} {IX IM : gb_Mem} (hI : Inv IX IM) (hW : lw_W D cI cR adX adM s H locs IX IM) {ls : Array Slot} (hl : lv_has ls 4 [(0, .ref b), (1, .ref (adX 0)), (2, .ref (adM 0)), (3, .int (nI t))]) (KK : ∀ (IX2 IM2 : gb_Mem) (H2 : Heap) (locs2 : List Loc), Inv IX2 IM2 → lw_W D cI cR adX adM s H2 locs2 IX2 IM2 → W p l e room_1 s m #[Value.ref b] below meth c H2 locs2 200 20000 (lw_Z below #[Value.ref b] s) (F0 m 1383 ls [])) : W p l e room_1 s m #[Value.ref b] below meth c H locs 200 20000 (lw_Z below #[Value.ref b] s) (F0 m 1087 ls []) := by
  obtain ⟨hx, hb, hr, hml, hown, hts, hX, hbl, hlocks, hgv⟩ := id C0
  have hbA : ¬ (fun q : Nat => s.heap.size ≤ q) b := Nat.not_le.mpr hbl
  obtain ⟨r, IX2, IM2, e1, e2, e3⟩ := hs (xs (nI t + 1).toNatClampNeg) (xs (nI t + 2).toNatClampNeg) IX IM hI
  refine lv_aload_n hx hb d_law_1087 rfl (lv_at hl 1 rfl) ?_
  refine lv_aload_n hx hb d_law_1088 rfl (lv_at hl 0 rfl) ?_
  refine lv_iload_n hx hb d_law_1089 rfl (lv_at hl 3 rfl) ?_
  refine lv_iconst (v := 1) hx hb d_law_1090 (by decide) ?_
  refine lv_iadd hx hb d_law_1091 ?_
  refine va_sld hx hb hX hbl hbA hW.2.2.2.2.2.2.2.1 (lw_in ht hL 1 (by decide)) d_law_1092 ?_
  refine lv_aload_n hx hb d_law_1093 rfl (lv_at hl 0 rfl) ?_
  refine lv_iload_n hx hb d_law_1094 rfl (lv_at hl 3 rfl) ?_
  refine lv_iconst (v := 2) hx hb d_law_1095 (by decide) ?_
  refine lv_iadd hx hb d_law_1096 ?_
  refine va_sld hx hb hX hbl hbA hW.2.2.2.2.2.2.2.1 (lw_in ht hL 2 (by decide)) d_law_1097 ?_
  refine lw_callX (d := 100 + 2) (y := yGb_cloth) (asr := [xs (nI t + 1).toNatClampNeg, xs (nI t + 2).toNatClampNeg]) (rest := []) (v := r) (I' := IX2) C0 d_law_1098 s_yGb_cloth ml_128 rfl rfl (Nat.le_of_ble_eq_true rfl) (by decide) hl.1 (by decide) (by decide) rfl hW (c_Gb_cloth l 100 (xs (nI t + 1).toNatClampNeg) (xs (nI t + 2).toNatClampNeg) IX e1) (fun HX locsX hWX => ?_)
  refine lv_aload_n hx hb d_law_1101 rfl (lv_at hl 2 rfl) ?_
  refine lv_aload_n hx hb d_law_1102 rfl (lv_at hl 0 rfl) ?_
  refine lv_iload_n hx hb d_law_1103 rfl (lv_at hl 3 rfl) ?_
  refine lv_iconst (v := 1) hx hb d_law_1104 (by decide) ?_
  refine lv_iadd hx hb d_law_1105 ?_
  refine va_sld hx hb hX hbl hbA hWX.2.2.2.2.2.2.2.1 (lw_in ht hL 1 (by decide)) d_law_1106 ?_
  refine lv_aload_n hx hb d_law_1107 rfl (lv_at hl 0 rfl) ?_
  refine lv_iload_n hx hb d_law_1108 rfl (lv_at hl 3 rfl) ?_
  refine lv_iconst (v := 2) hx hb d_law_1109 (by decide) ?_
  refine lv_iadd hx hb d_law_1110 ?_
  refine va_sld hx hb hX hbl hbA hWX.2.2.2.2.2.2.2.1 (lw_in ht hL 2 (by decide)) d_law_1111 ?_
  refine lw_callM (d := 100 + 1) (y := yMo_cloth) (asr := [xs (nI t + 1).toNatClampNeg, xs (nI t + 2).toNatClampNeg]) (rest := [.int r]) (v := r) (I' := IM2) C0 d_law_1112 s_yMo_cloth ml_131 rfl rfl (Nat.le_of_ble_eq_true rfl) (by decide) hl.1 (by decide) (by decide) rfl hWX (c_Mo_cloth l 100 (xs (nI t + 1).toNatClampNeg) (xs (nI t + 2).toNatClampNeg) IM e2) (fun HM locsM hWM => ?_)
  refine lv_icmp_eq (tgt := 1383) hx hb d_law_1115 (by decide) (fun _ => ?_) (fun hc => absurd rfl hc)
  exact KK IX2 IM2 HM locsM e3 hWM
set_option maxRecDepth 8000 in
theorem lw_case_free {p : Program} {l : Launch} {e : Env} {s : State} {m : MethodId} {below : List Frame} {meth : Method} {c : Code} {b L : Nat} {xs : Nat → Int32} (hL : L ≤ 3072) (C0 : lw_At p s m meth c b L xs) {D : va_G} {cI cR : ClassId} {adX adM : Nat → Nat} {Inv : gb_Mem → gb_Mem → Prop} (hs : S_free Inv) {t : Nat} (ht : t + 6 ≤ L) {H : Heap} {locs : List Loc} {IX IM : gb_Mem} (hI : Inv IX IM) (hW : lw_W D cI cR adX adM s H locs IX IM) {ls : Array Slot} (hl : lv_has ls 4 [(0, .ref b), (1, .ref (adX 0)), (2, .ref (adM 0)), (3, .int (nI t))]) (KK : ∀ (IX2 IM2 : gb_Mem) (H2 : Heap) (locs2 : List Loc), Inv IX2 IM2 → lw_W D cI cR adX adM s H2 locs2 IX2 IM2 → W p l e room_1 s m #[Value.ref b] below meth c H2 locs2 200 20000 (lw_Z below #[Value.ref b] s) (F0 m 1383 ls [])) : W p l e room_1 s m #[Value.ref b] below meth c H locs 200 20000 (lw_Z below #[Value.ref b] s) (F0 m 1120 ls []) := by
  obtain ⟨hx, hb, hr, hml, hown, hts, hX, hbl, hlocks, hgv⟩ := id C0
  have hbA : ¬ (fun q : Nat => s.heap.size ≤ q) b := Nat.not_le.mpr hbl
  obtain ⟨r, IX2, IM2, e1, e2, e3⟩ := hs (xs (nI t + 1).toNatClampNeg) (xs (nI t + 2).toNatClampNeg) IX IM hI
  obtain ⟨e1, e4⟩ := e1
  subst e4
  refine lv_aload_n hx hb d_law_1120 rfl (lv_at hl 1 rfl) ?_
  refine lv_aload_n hx hb d_law_1121 rfl (lv_at hl 0 rfl) ?_
  refine lv_iload_n hx hb d_law_1122 rfl (lv_at hl 3 rfl) ?_
  refine lv_iconst (v := 1) hx hb d_law_1123 (by decide) ?_
  refine lv_iadd hx hb d_law_1124 ?_
  refine va_sld hx hb hX hbl hbA hW.2.2.2.2.2.2.2.1 (lw_in ht hL 1 (by decide)) d_law_1125 ?_
  refine lv_aload_n hx hb d_law_1126 rfl (lv_at hl 0 rfl) ?_
  refine lv_iload_n hx hb d_law_1127 rfl (lv_at hl 3 rfl) ?_
  refine lv_iconst (v := 2) hx hb d_law_1128 (by decide) ?_
  refine lv_iadd hx hb d_law_1129 ?_
  refine va_sld hx hb hX hbl hbA hW.2.2.2.2.2.2.2.1 (lw_in ht hL 2 (by decide)) d_law_1130 ?_
  refine lw_callX (d := 100 + 4) (y := yGb_free) (asr := [xs (nI t + 1).toNatClampNeg, xs (nI t + 2).toNatClampNeg]) (rest := []) (v := r) (I' := IX2) C0 d_law_1131 s_yGb_free ml_132 rfl rfl (Nat.le_of_ble_eq_true rfl) (by decide) hl.1 (by decide) (by decide) rfl hW (c_Gb_free l 100 (xs (nI t + 1).toNatClampNeg) (xs (nI t + 2).toNatClampNeg) IX2 e1) (fun HX locsX hWX => ?_)
  refine lv_aload_n hx hb d_law_1134 rfl (lv_at hl 2 rfl) ?_
  refine lv_aload_n hx hb d_law_1135 rfl (lv_at hl 0 rfl) ?_
  refine lv_iload_n hx hb d_law_1136 rfl (lv_at hl 3 rfl) ?_
  refine lv_iconst (v := 1) hx hb d_law_1137 (by decide) ?_
  refine lv_iadd hx hb d_law_1138 ?_
  refine va_sld hx hb hX hbl hbA hWX.2.2.2.2.2.2.2.1 (lw_in ht hL 1 (by decide)) d_law_1139 ?_
  refine lv_aload_n hx hb d_law_1140 rfl (lv_at hl 0 rfl) ?_
  refine lv_iload_n hx hb d_law_1141 rfl (lv_at hl 3 rfl) ?_
  refine lv_iconst (v := 2) hx hb d_law_1142 (by decide) ?_
  refine lv_iadd hx hb d_law_1143 ?_
  refine va_sld hx hb hX hbl hbA hWX.2.2.2.2.2.2.2.1 (lw_in ht hL 2 (by decide)) d_law_1144 ?_
  refine lw_callM (d := 100 + 1) (y := yMo_free) (asr := [xs (nI t + 1).toNatClampNeg, xs (nI t + 2).toNatClampNeg]) (rest := [.int r]) (v := r) (I' := IM2) C0 d_law_1145 s_yMo_free ml_135 rfl rfl (Nat.le_of_ble_eq_true rfl) (by decide) hl.1 (by decide) (by decide) rfl hWX (c_Mo_free l 100 (xs (nI t + 1).toNatClampNeg) (xs (nI t + 2).toNatClampNeg) IM e2) (fun HM locsM hWM => ?_)
  refine lv_icmp_eq (tgt := 1383) hx hb d_law_1148 (by decide) (fun _ => ?_) (fun hc => absurd rfl hc)
  exact KK IX2 IM2 HM locsM e3 hWM
set_option maxRecDepth 8000 in
theorem lw_case_report {p : Program} {l : Launch} {e : Env} {s : State} {m : MethodId} {below : List Frame} {meth : Method} {c : Code} {b L : Nat} {xs : Nat → Int32} (hL : L ≤ 3072) (C0 : lw_At p s m meth c b L xs) {D : va_G} {cI cR : ClassId} {adX adM : Nat → Nat} {Inv : gb_Mem → gb_Mem → Prop} (hs : S_report Inv) {t : Nat} (ht : t + 6 ≤ L) {H : Heap} {locs : List Loc} {IX IM : gb_Mem} (hI : Inv IX IM) (hW : lw_W D cI cR adX adM s H locs IX IM) {ls : Array Slot} (hl : lv_has ls 4 [(0, .ref b), (1, .ref (adX 0)), (2, .ref (adM 0)), (3, .int (nI t))]) (KK : ∀ (IX2 IM2 : gb_Mem) (H2 : Heap) (locs2 : List Loc), Inv IX2 IM2 → lw_W D cI cR adX adM s H2 locs2 IX2 IM2 → W p l e room_1 s m #[Value.ref b] below meth c H2 locs2 200 20000 (lw_Z below #[Value.ref b] s) (F0 m 1383 ls [])) : W p l e room_1 s m #[Value.ref b] below meth c H locs 200 20000 (lw_Z below #[Value.ref b] s) (F0 m 1153 ls []) := by
  obtain ⟨hx, hb, hr, hml, hown, hts, hX, hbl, hlocks, hgv⟩ := id C0
  have hbA : ¬ (fun q : Nat => s.heap.size ≤ q) b := Nat.not_le.mpr hbl
  obtain ⟨r, IX2, IM2, e1, e2, e3⟩ := hs (xs (nI t + 1).toNatClampNeg) (xs (nI t + 2).toNatClampNeg) IX IM hI
  refine lv_aload_n hx hb d_law_1153 rfl (lv_at hl 1 rfl) ?_
  refine lv_aload_n hx hb d_law_1154 rfl (lv_at hl 0 rfl) ?_
  refine lv_iload_n hx hb d_law_1155 rfl (lv_at hl 3 rfl) ?_
  refine lv_iconst (v := 1) hx hb d_law_1156 (by decide) ?_
  refine lv_iadd hx hb d_law_1157 ?_
  refine va_sld hx hb hX hbl hbA hW.2.2.2.2.2.2.2.1 (lw_in ht hL 1 (by decide)) d_law_1158 ?_
  refine lv_aload_n hx hb d_law_1159 rfl (lv_at hl 0 rfl) ?_
  refine lv_iload_n hx hb d_law_1160 rfl (lv_at hl 3 rfl) ?_
  refine lv_iconst (v := 2) hx hb d_law_1161 (by decide) ?_
  refine lv_iadd hx hb d_law_1162 ?_
  refine va_sld hx hb hX hbl hbA hW.2.2.2.2.2.2.2.1 (lw_in ht hL 2 (by decide)) d_law_1163 ?_
  refine lw_callX (d := 100 + 2) (y := yGb_report) (asr := [xs (nI t + 1).toNatClampNeg, xs (nI t + 2).toNatClampNeg]) (rest := []) (v := r) (I' := IX2) C0 d_law_1164 s_yGb_report ml_136 rfl rfl (Nat.le_of_ble_eq_true rfl) (by decide) hl.1 (by decide) (by decide) rfl hW (c_Gb_report l 100 (xs (nI t + 1).toNatClampNeg) (xs (nI t + 2).toNatClampNeg) IX e1) (fun HX locsX hWX => ?_)
  refine lv_aload_n hx hb d_law_1167 rfl (lv_at hl 2 rfl) ?_
  refine lv_aload_n hx hb d_law_1168 rfl (lv_at hl 0 rfl) ?_
  refine lv_iload_n hx hb d_law_1169 rfl (lv_at hl 3 rfl) ?_
  refine lv_iconst (v := 1) hx hb d_law_1170 (by decide) ?_
  refine lv_iadd hx hb d_law_1171 ?_
  refine va_sld hx hb hX hbl hbA hWX.2.2.2.2.2.2.2.1 (lw_in ht hL 1 (by decide)) d_law_1172 ?_
  refine lv_aload_n hx hb d_law_1173 rfl (lv_at hl 0 rfl) ?_
  refine lv_iload_n hx hb d_law_1174 rfl (lv_at hl 3 rfl) ?_
  refine lv_iconst (v := 2) hx hb d_law_1175 (by decide) ?_
  refine lv_iadd hx hb d_law_1176 ?_
  refine va_sld hx hb hX hbl hbA hWX.2.2.2.2.2.2.2.1 (lw_in ht hL 2 (by decide)) d_law_1177 ?_
  refine lw_callM (d := 100 + 1) (y := yMo_report) (asr := [xs (nI t + 1).toNatClampNeg, xs (nI t + 2).toNatClampNeg]) (rest := [.int r]) (v := r) (I' := IM2) C0 d_law_1178 s_yMo_report ml_139 rfl rfl (Nat.le_of_ble_eq_true rfl) (by decide) hl.1 (by decide) (by decide) rfl hWX (c_Mo_report l 100 (xs (nI t + 1).toNatClampNeg) (xs (nI t + 2).toNatClampNeg) IM e2) (fun HM locsM hWM => ?_)
  refine lv_icmp_eq (tgt := 1383) hx hb d_law_1181 (by decide) (fun _ => ?_) (fun hc => absurd rfl hc)
  exact KK IX2 IM2 HM locsM e3 hWM
set_option maxRecDepth 8000 in
theorem lw_case_sprouts {p : Program} {l : Launch} {e : Env} {s : State} {m : MethodId} {below : List Frame} {meth : Method} {c : Code} {b L : Nat} {xs : Nat → Int32} (hL : L ≤ 3072) (C0 : lw_At p s m meth c b L xs) {D : va_G} {cI cR : ClassId} {adX adM : Nat → Nat} {Inv : gb_Mem → gb_Mem → Prop} (hs : S_sprouts Inv) {t : Nat} (ht : t + 6 ≤ L) {H : Heap} {locs : List Loc} {IX IM : gb_Mem} (hI : Inv IX IM) (hW : lw_W D cI cR adX adM s H locs IX IM) {ls : Array Slot} (hl : lv_has ls 4 [(0, .ref b), (1, .ref (adX 0)), (2, .ref (adM 0)), (3, .int (nI t))]) (KK : ∀ (IX2 IM2 : gb_Mem) (H2 : Heap) (locs2 : List Loc), Inv IX2 IM2 → lw_W D cI cR adX adM s H2 locs2 IX2 IM2 → W p l e room_1 s m #[Value.ref b] below meth c H2 locs2 200 20000 (lw_Z below #[Value.ref b] s) (F0 m 1383 ls [])) : W p l e room_1 s m #[Value.ref b] below meth c H locs 200 20000 (lw_Z below #[Value.ref b] s) (F0 m 1186 ls []) := by
  obtain ⟨hx, hb, hr, hml, hown, hts, hX, hbl, hlocks, hgv⟩ := id C0
  have hbA : ¬ (fun q : Nat => s.heap.size ≤ q) b := Nat.not_le.mpr hbl
  obtain ⟨r, IX2, IM2, e1, e2, e3⟩ := hs (xs (nI t + 1).toNatClampNeg) IX IM hI
  obtain ⟨e1, e4⟩ := e1
  subst e4
  refine lv_aload_n hx hb d_law_1186 rfl (lv_at hl 1 rfl) ?_
  refine lv_aload_n hx hb d_law_1187 rfl (lv_at hl 0 rfl) ?_
  refine lv_iload_n hx hb d_law_1188 rfl (lv_at hl 3 rfl) ?_
  refine lv_iconst (v := 1) hx hb d_law_1189 (by decide) ?_
  refine lv_iadd hx hb d_law_1190 ?_
  refine va_sld hx hb hX hbl hbA hW.2.2.2.2.2.2.2.1 (lw_in ht hL 1 (by decide)) d_law_1191 ?_
  refine lw_callX (d := 100 + 3) (y := yGb_sprouts) (asr := [xs (nI t + 1).toNatClampNeg]) (rest := []) (v := r) (I' := IX2) C0 d_law_1192 s_yGb_sprouts ml_140 rfl rfl (Nat.le_of_ble_eq_true rfl) (by decide) hl.1 (by decide) (by decide) rfl hW (c_Gb_sprouts l 100 (xs (nI t + 1).toNatClampNeg) IX2 e1) (fun HX locsX hWX => ?_)
  refine lv_aload_n hx hb d_law_1195 rfl (lv_at hl 2 rfl) ?_
  refine lv_aload_n hx hb d_law_1196 rfl (lv_at hl 0 rfl) ?_
  refine lv_iload_n hx hb d_law_1197 rfl (lv_at hl 3 rfl) ?_
  refine lv_iconst (v := 1) hx hb d_law_1198 (by decide) ?_
  refine lv_iadd hx hb d_law_1199 ?_
  refine va_sld hx hb hX hbl hbA hWX.2.2.2.2.2.2.2.1 (lw_in ht hL 1 (by decide)) d_law_1200 ?_
  refine lw_callM (d := 100 + 2) (y := yMo_sprouts) (asr := [xs (nI t + 1).toNatClampNeg]) (rest := [.int r]) (v := r) (I' := IM2) C0 d_law_1201 s_yMo_sprouts ml_143 rfl rfl (Nat.le_of_ble_eq_true rfl) (by decide) hl.1 (by decide) (by decide) rfl hWX (c_Mo_sprouts l 100 (xs (nI t + 1).toNatClampNeg) IM e2) (fun HM locsM hWM => ?_)
  refine lv_icmp_eq (tgt := 1383) hx hb d_law_1204 (by decide) (fun _ => ?_) (fun hc => absurd rfl hc)
  exact KK IX2 IM2 HM locsM e3 hWM
set_option maxRecDepth 8000 in
theorem lw_case_jar {p : Program} {l : Launch} {e : Env} {s : State} {m : MethodId} {below : List Frame} {meth : Method} {c : Code} {b L : Nat} {xs : Nat → Int32} (hL : L ≤ 3072) (C0 : lw_At p s m meth c b L xs) {D : va_G} {cI cR : ClassId} {adX adM : Nat → Nat} {Inv : gb_Mem → gb_Mem → Prop} (hs : S_jar Inv) {t : Nat} (ht : t + 6 ≤ L) {H : Heap} {locs : List Loc} {IX IM : gb_Mem} (hI : Inv IX IM) (hW : lw_W D cI cR adX adM s H locs IX IM) {ls : Array Slot} (hl : lv_has ls 4 [(0, .ref b), (1, .ref (adX 0)), (2, .ref (adM 0)), (3, .int (nI t))]) (KK : ∀ (IX2 IM2 : gb_Mem) (H2 : Heap) (locs2 : List Loc), Inv IX2 IM2 → lw_W D cI cR adX adM s H2 locs2 IX2 IM2 → W p l e room_1 s m #[Value.ref b] below meth c H2 locs2 200 20000 (lw_Z below #[Value.ref b] s) (F0 m 1383 ls [])) : W p l e room_1 s m #[Value.ref b] below meth c H locs 200 20000 (lw_Z below #[Value.ref b] s) (F0 m 1209 ls []) := by
  obtain ⟨hx, hb, hr, hml, hown, hts, hX, hbl, hlocks, hgv⟩ := id C0
  have hbA : ¬ (fun q : Nat => s.heap.size ≤ q) b := Nat.not_le.mpr hbl
  obtain ⟨r, IX2, IM2, e1, e2, e3⟩ := hs (xs (nI t + 1).toNatClampNeg) (xs (nI t + 2).toNatClampNeg) IX IM hI
  refine lv_aload_n hx hb d_law_1209 rfl (lv_at hl 1 rfl) ?_
  refine lv_aload_n hx hb d_law_1210 rfl (lv_at hl 0 rfl) ?_
  refine lv_iload_n hx hb d_law_1211 rfl (lv_at hl 3 rfl) ?_
  refine lv_iconst (v := 1) hx hb d_law_1212 (by decide) ?_
  refine lv_iadd hx hb d_law_1213 ?_
  refine va_sld hx hb hX hbl hbA hW.2.2.2.2.2.2.2.1 (lw_in ht hL 1 (by decide)) d_law_1214 ?_
  refine lv_aload_n hx hb d_law_1215 rfl (lv_at hl 0 rfl) ?_
  refine lv_iload_n hx hb d_law_1216 rfl (lv_at hl 3 rfl) ?_
  refine lv_iconst (v := 2) hx hb d_law_1217 (by decide) ?_
  refine lv_iadd hx hb d_law_1218 ?_
  refine va_sld hx hb hX hbl hbA hW.2.2.2.2.2.2.2.1 (lw_in ht hL 2 (by decide)) d_law_1219 ?_
  refine lw_callX (d := 100 + 2) (y := yGb_jar) (asr := [xs (nI t + 1).toNatClampNeg, xs (nI t + 2).toNatClampNeg]) (rest := []) (v := r) (I' := IX2) C0 d_law_1220 s_yGb_jar ml_144 rfl rfl (Nat.le_of_ble_eq_true rfl) (by decide) hl.1 (by decide) (by decide) rfl hW (c_Gb_jar l 100 (xs (nI t + 1).toNatClampNeg) (xs (nI t + 2).toNatClampNeg) IX e1) (fun HX locsX hWX => ?_)
  refine lv_aload_n hx hb d_law_1223 rfl (lv_at hl 2 rfl) ?_
  refine lv_aload_n hx hb d_law_1224 rfl (lv_at hl 0 rfl) ?_
  refine lv_iload_n hx hb d_law_1225 rfl (lv_at hl 3 rfl) ?_
  refine lv_iconst (v := 1) hx hb d_law_1226 (by decide) ?_
  refine lv_iadd hx hb d_law_1227 ?_
  refine va_sld hx hb hX hbl hbA hWX.2.2.2.2.2.2.2.1 (lw_in ht hL 1 (by decide)) d_law_1228 ?_
  refine lv_aload_n hx hb d_law_1229 rfl (lv_at hl 0 rfl) ?_
  refine lv_iload_n hx hb d_law_1230 rfl (lv_at hl 3 rfl) ?_
  refine lv_iconst (v := 2) hx hb d_law_1231 (by decide) ?_
  refine lv_iadd hx hb d_law_1232 ?_
  refine va_sld hx hb hX hbl hbA hWX.2.2.2.2.2.2.2.1 (lw_in ht hL 2 (by decide)) d_law_1233 ?_
  refine lw_callM (d := 100 + 1) (y := yMo_jar) (asr := [xs (nI t + 1).toNatClampNeg, xs (nI t + 2).toNatClampNeg]) (rest := [.int r]) (v := r) (I' := IM2) C0 d_law_1234 s_yMo_jar ml_147 rfl rfl (Nat.le_of_ble_eq_true rfl) (by decide) hl.1 (by decide) (by decide) rfl hWX (c_Mo_jar l 100 (xs (nI t + 1).toNatClampNeg) (xs (nI t + 2).toNatClampNeg) IM e2) (fun HM locsM hWM => ?_)
  refine lv_icmp_eq (tgt := 1383) hx hb d_law_1237 (by decide) (fun _ => ?_) (fun hc => absurd rfl hc)
  exact KK IX2 IM2 HM locsM e3 hWM
set_option maxRecDepth 8000 in
theorem lw_case_stowed {p : Program} {l : Launch} {e : Env} {s : State} {m : MethodId} {below : List Frame} {meth : Method} {c : Code} {b L : Nat} {xs : Nat → Int32} (hL : L ≤ 3072) (C0 : lw_At p s m meth c b L xs) {D : va_G} {cI cR : ClassId} {adX adM : Nat → Nat} {Inv : gb_Mem → gb_Mem → Prop} (hs : S_stowed Inv) {t : Nat} (ht : t + 6 ≤ L) {H : Heap} {locs : List Loc} {IX IM : gb_Mem} (hI : Inv IX IM) (hW : lw_W D cI cR adX adM s H locs IX IM) {ls : Array Slot} (hl : lv_has ls 4 [(0, .ref b), (1, .ref (adX 0)), (2, .ref (adM 0)), (3, .int (nI t))]) (KK : ∀ (IX2 IM2 : gb_Mem) (H2 : Heap) (locs2 : List Loc), Inv IX2 IM2 → lw_W D cI cR adX adM s H2 locs2 IX2 IM2 → W p l e room_1 s m #[Value.ref b] below meth c H2 locs2 200 20000 (lw_Z below #[Value.ref b] s) (F0 m 1383 ls [])) : W p l e room_1 s m #[Value.ref b] below meth c H locs 200 20000 (lw_Z below #[Value.ref b] s) (F0 m 1242 ls []) := by
  obtain ⟨hx, hb, hr, hml, hown, hts, hX, hbl, hlocks, hgv⟩ := id C0
  have hbA : ¬ (fun q : Nat => s.heap.size ≤ q) b := Nat.not_le.mpr hbl
  obtain ⟨r, IX2, IM2, e1, e2, e3⟩ := hs (xs (nI t + 1).toNatClampNeg) (xs (nI t + 2).toNatClampNeg) (xs (nI t + 3).toNatClampNeg) IX IM hI
  refine lv_aload_n hx hb d_law_1242 rfl (lv_at hl 1 rfl) ?_
  refine lv_aload_n hx hb d_law_1243 rfl (lv_at hl 0 rfl) ?_
  refine lv_iload_n hx hb d_law_1244 rfl (lv_at hl 3 rfl) ?_
  refine lv_iconst (v := 1) hx hb d_law_1245 (by decide) ?_
  refine lv_iadd hx hb d_law_1246 ?_
  refine va_sld hx hb hX hbl hbA hW.2.2.2.2.2.2.2.1 (lw_in ht hL 1 (by decide)) d_law_1247 ?_
  refine lv_aload_n hx hb d_law_1248 rfl (lv_at hl 0 rfl) ?_
  refine lv_iload_n hx hb d_law_1249 rfl (lv_at hl 3 rfl) ?_
  refine lv_iconst (v := 2) hx hb d_law_1250 (by decide) ?_
  refine lv_iadd hx hb d_law_1251 ?_
  refine va_sld hx hb hX hbl hbA hW.2.2.2.2.2.2.2.1 (lw_in ht hL 2 (by decide)) d_law_1252 ?_
  refine lv_aload_n hx hb d_law_1253 rfl (lv_at hl 0 rfl) ?_
  refine lv_iload_n hx hb d_law_1254 rfl (lv_at hl 3 rfl) ?_
  refine lv_iconst (v := 3) hx hb d_law_1255 (by decide) ?_
  refine lv_iadd hx hb d_law_1256 ?_
  refine va_sld hx hb hX hbl hbA hW.2.2.2.2.2.2.2.1 (lw_in ht hL 3 (by decide)) d_law_1257 ?_
  refine lw_callX (d := 100 + 3) (y := yGb_stowed) (asr := [xs (nI t + 1).toNatClampNeg, xs (nI t + 2).toNatClampNeg, xs (nI t + 3).toNatClampNeg]) (rest := []) (v := r) (I' := IX2) C0 d_law_1258 s_yGb_stowed ml_148 rfl rfl (Nat.le_of_ble_eq_true rfl) (by decide) hl.1 (by decide) (by decide) rfl hW (c_Gb_stowed l 100 (xs (nI t + 1).toNatClampNeg) (xs (nI t + 2).toNatClampNeg) (xs (nI t + 3).toNatClampNeg) IX e1) (fun HX locsX hWX => ?_)
  refine lv_aload_n hx hb d_law_1261 rfl (lv_at hl 2 rfl) ?_
  refine lv_aload_n hx hb d_law_1262 rfl (lv_at hl 0 rfl) ?_
  refine lv_iload_n hx hb d_law_1263 rfl (lv_at hl 3 rfl) ?_
  refine lv_iconst (v := 1) hx hb d_law_1264 (by decide) ?_
  refine lv_iadd hx hb d_law_1265 ?_
  refine va_sld hx hb hX hbl hbA hWX.2.2.2.2.2.2.2.1 (lw_in ht hL 1 (by decide)) d_law_1266 ?_
  refine lv_aload_n hx hb d_law_1267 rfl (lv_at hl 0 rfl) ?_
  refine lv_iload_n hx hb d_law_1268 rfl (lv_at hl 3 rfl) ?_
  refine lv_iconst (v := 2) hx hb d_law_1269 (by decide) ?_
  refine lv_iadd hx hb d_law_1270 ?_
  refine va_sld hx hb hX hbl hbA hWX.2.2.2.2.2.2.2.1 (lw_in ht hL 2 (by decide)) d_law_1271 ?_
  refine lv_aload_n hx hb d_law_1272 rfl (lv_at hl 0 rfl) ?_
  refine lv_iload_n hx hb d_law_1273 rfl (lv_at hl 3 rfl) ?_
  refine lv_iconst (v := 3) hx hb d_law_1274 (by decide) ?_
  refine lv_iadd hx hb d_law_1275 ?_
  refine va_sld hx hb hX hbl hbA hWX.2.2.2.2.2.2.2.1 (lw_in ht hL 3 (by decide)) d_law_1276 ?_
  refine lw_callM (d := 100 + 3) (y := yMo_stowed) (asr := [xs (nI t + 1).toNatClampNeg, xs (nI t + 2).toNatClampNeg, xs (nI t + 3).toNatClampNeg]) (rest := [.int r]) (v := r) (I' := IM2) C0 d_law_1277 s_yMo_stowed ml_151 rfl rfl (Nat.le_of_ble_eq_true rfl) (by decide) hl.1 (by decide) (by decide) rfl hWX (c_Mo_stowed l 100 (xs (nI t + 1).toNatClampNeg) (xs (nI t + 2).toNatClampNeg) (xs (nI t + 3).toNatClampNeg) IM e2) (fun HM locsM hWM => ?_)
  refine lv_icmp_eq (tgt := 1383) hx hb d_law_1280 (by decide) (fun _ => ?_) (fun hc => absurd rfl hc)
  exact KK IX2 IM2 HM locsM e3 hWM
set_option maxRecDepth 8000 in
theorem lw_case_game {p : Program} {l : Launch} {e : Env} {s : State} {m : MethodId} {below : List Frame} {meth : Method} {c : Code} {b L : Nat} {xs : Nat → Int32} (hL : L ≤ 3072) (C0 : lw_At p s m meth c b L xs) {D : va_G} {cI cR : ClassId} {adX adM : Nat → Nat} {Inv : gb_Mem → gb_Mem → Prop} (hs : S_game Inv) {t : Nat} (ht : t + 6 ≤ L) {H : Heap} {locs : List Loc} {IX IM : gb_Mem} (hI : Inv IX IM) (hW : lw_W D cI cR adX adM s H locs IX IM) {ls : Array Slot} (hl : lv_has ls 4 [(0, .ref b), (1, .ref (adX 0)), (2, .ref (adM 0)), (3, .int (nI t))]) (KK : ∀ (IX2 IM2 : gb_Mem) (H2 : Heap) (locs2 : List Loc), Inv IX2 IM2 → lw_W D cI cR adX adM s H2 locs2 IX2 IM2 → W p l e room_1 s m #[Value.ref b] below meth c H2 locs2 200 20000 (lw_Z below #[Value.ref b] s) (F0 m 1383 ls [])) : W p l e room_1 s m #[Value.ref b] below meth c H locs 200 20000 (lw_Z below #[Value.ref b] s) (F0 m 1285 ls []) := by
  obtain ⟨hx, hb, hr, hml, hown, hts, hX, hbl, hlocks, hgv⟩ := id C0
  have hbA : ¬ (fun q : Nat => s.heap.size ≤ q) b := Nat.not_le.mpr hbl
  obtain ⟨r, IX2, IM2, e1, e2, e3⟩ := hs (xs (nI t + 1).toNatClampNeg) IX IM hI
  obtain ⟨e1, e4⟩ := e1
  subst e4
  refine lv_aload_n hx hb d_law_1285 rfl (lv_at hl 1 rfl) ?_
  refine lv_aload_n hx hb d_law_1286 rfl (lv_at hl 0 rfl) ?_
  refine lv_iload_n hx hb d_law_1287 rfl (lv_at hl 3 rfl) ?_
  refine lv_iconst (v := 1) hx hb d_law_1288 (by decide) ?_
  refine lv_iadd hx hb d_law_1289 ?_
  refine va_sld hx hb hX hbl hbA hW.2.2.2.2.2.2.2.1 (lw_in ht hL 1 (by decide)) d_law_1290 ?_
  refine lw_callX (d := 100 + 3) (y := yGb_game) (asr := [xs (nI t + 1).toNatClampNeg]) (rest := []) (v := r) (I' := IX2) C0 d_law_1291 s_yGb_game ml_152 rfl rfl (Nat.le_of_ble_eq_true rfl) (by decide) hl.1 (by decide) (by decide) rfl hW (c_Gb_game l 100 (xs (nI t + 1).toNatClampNeg) IX2 e1) (fun HX locsX hWX => ?_)
  refine lv_aload_n hx hb d_law_1294 rfl (lv_at hl 2 rfl) ?_
  refine lv_aload_n hx hb d_law_1295 rfl (lv_at hl 0 rfl) ?_
  refine lv_iload_n hx hb d_law_1296 rfl (lv_at hl 3 rfl) ?_
  refine lv_iconst (v := 1) hx hb d_law_1297 (by decide) ?_
  refine lv_iadd hx hb d_law_1298 ?_
  refine va_sld hx hb hX hbl hbA hWX.2.2.2.2.2.2.2.1 (lw_in ht hL 1 (by decide)) d_law_1299 ?_
  refine lw_callM (d := 100 + 1) (y := yMo_game) (asr := [xs (nI t + 1).toNatClampNeg]) (rest := [.int r]) (v := r) (I' := IM2) C0 d_law_1300 s_yMo_game ml_155 rfl rfl (Nat.le_of_ble_eq_true rfl) (by decide) hl.1 (by decide) (by decide) rfl hWX (c_Mo_game l 100 (xs (nI t + 1).toNatClampNeg) IM e2) (fun HM locsM hWM => ?_)
  refine lv_icmp_eq (tgt := 1383) hx hb d_law_1303 (by decide) (fun _ => ?_) (fun hc => absurd rfl hc)
  exact KK IX2 IM2 HM locsM e3 hWM
set_option maxRecDepth 8000 in
theorem lw_case_undo {p : Program} {l : Launch} {e : Env} {s : State} {m : MethodId} {below : List Frame} {meth : Method} {c : Code} {b L : Nat} {xs : Nat → Int32} (hL : L ≤ 3072) (C0 : lw_At p s m meth c b L xs) {D : va_G} {cI cR : ClassId} {adX adM : Nat → Nat} {Inv : gb_Mem → gb_Mem → Prop} (hs : S_undo Inv) {t : Nat} (ht : t + 6 ≤ L) {H : Heap} {locs : List Loc} {IX IM : gb_Mem} (hI : Inv IX IM) (hW : lw_W D cI cR adX adM s H locs IX IM) {ls : Array Slot} (hl : lv_has ls 4 [(0, .ref b), (1, .ref (adX 0)), (2, .ref (adM 0)), (3, .int (nI t))]) (KK : ∀ (IX2 IM2 : gb_Mem) (H2 : Heap) (locs2 : List Loc), Inv IX2 IM2 → lw_W D cI cR adX adM s H2 locs2 IX2 IM2 → W p l e room_1 s m #[Value.ref b] below meth c H2 locs2 200 20000 (lw_Z below #[Value.ref b] s) (F0 m 1383 ls [])) : W p l e room_1 s m #[Value.ref b] below meth c H locs 200 20000 (lw_Z below #[Value.ref b] s) (F0 m 1308 ls []) := by
  obtain ⟨hx, hb, hr, hml, hown, hts, hX, hbl, hlocks, hgv⟩ := id C0
  have hbA : ¬ (fun q : Nat => s.heap.size ≤ q) b := Nat.not_le.mpr hbl
  obtain ⟨r, IX2, IM2, e1, e2, e3⟩ := hs  IX IM hI
  refine lv_aload_n hx hb d_law_1308 rfl (lv_at hl 1 rfl) ?_
  refine lw_callX (d := 100 + 3) (y := yGb_undo) (asr := []) (rest := []) (v := r) (I' := IX2) C0 d_law_1309 s_yGb_undo ml_156 rfl rfl (Nat.le_of_ble_eq_true rfl) (by decide) hl.1 (by decide) (by decide) rfl hW (c_Gb_undo l 100  IX e1) (fun HX locsX hWX => ?_)
  refine lv_aload_n hx hb d_law_1312 rfl (lv_at hl 2 rfl) ?_
  refine lw_callM (d := 100 + 0) (y := yMo_undo) (asr := []) (rest := [.int r]) (v := r) (I' := IM2) C0 d_law_1313 s_yMo_undo ml_160 rfl rfl (Nat.le_of_ble_eq_true rfl) (by decide) hl.1 (by decide) (by decide) rfl hWX (c_Mo_undo l 100  IM e2) (fun HM locsM hWM => ?_)
  refine lv_icmp_eq (tgt := 1383) hx hb d_law_1316 (by decide) (fun _ => ?_) (fun hc => absurd rfl hc)
  exact KK IX2 IM2 HM locsM e3 hWM
set_option maxRecDepth 8000 in
theorem lw_case_image {p : Program} {l : Launch} {e : Env} {s : State} {m : MethodId} {below : List Frame} {meth : Method} {c : Code} {b L : Nat} {xs : Nat → Int32} (hL : L ≤ 3072) (C0 : lw_At p s m meth c b L xs) {D : va_G} {cI cR : ClassId} {adX adM : Nat → Nat} {Inv : gb_Mem → gb_Mem → Prop} (hs : S_image Inv) {t : Nat} (ht : t + 6 ≤ L) {H : Heap} {locs : List Loc} {IX IM : gb_Mem} (hI : Inv IX IM) (hW : lw_W D cI cR adX adM s H locs IX IM) {ls : Array Slot} (hl : lv_has ls 4 [(0, .ref b), (1, .ref (adX 0)), (2, .ref (adM 0)), (3, .int (nI t))]) (KK : ∀ (IX2 IM2 : gb_Mem) (H2 : Heap) (locs2 : List Loc), Inv IX2 IM2 → lw_W D cI cR adX adM s H2 locs2 IX2 IM2 → W p l e room_1 s m #[Value.ref b] below meth c H2 locs2 200 20000 (lw_Z below #[Value.ref b] s) (F0 m 1383 ls [])) : W p l e room_1 s m #[Value.ref b] below meth c H locs 200 20000 (lw_Z below #[Value.ref b] s) (F0 m 1321 ls []) := by
  obtain ⟨hx, hb, hr, hml, hown, hts, hX, hbl, hlocks, hgv⟩ := id C0
  have hbA : ¬ (fun q : Nat => s.heap.size ≤ q) b := Nat.not_le.mpr hbl
  have hbo : (if xs (nI t + 1).toNatClampNeg = 0 then (0 : Int32) else 1) = 0 ∨ (if xs (nI t + 1).toNatClampNeg = 0 then (0 : Int32) else 1) = 1 := by by_cases h0 : xs (nI t + 1).toNatClampNeg = 0 <;> simp [h0]
  obtain ⟨r, IX2, IM2, e1, e2, e3⟩ := hs (if xs (nI t + 1).toNatClampNeg = 0 then 0 else 1) IX IM hbo hI
  generalize hz : xs (nI t + 1).toNatClampNeg = z at *
  refine lv_aload_n hx hb d_law_1321 rfl (lv_at hl 1 rfl) ?_
  refine lv_aload_n hx hb d_law_1322 rfl (lv_at hl 0 rfl) ?_
  refine lv_iload_n hx hb d_law_1323 rfl (lv_at hl 3 rfl) ?_
  refine lv_iconst (v := 1) hx hb d_law_1324 (by decide) ?_
  refine lv_iadd hx hb d_law_1325 ?_
  refine va_sld hx hb hX hbl hbA hW.2.2.2.2.2.2.2.1 (lw_in ht hL 1 (by decide)) d_law_1326 ?_
  have key : W p l e room_1 s m #[Value.ref b] below meth c H locs 200 20000 (lw_Z below #[Value.ref b] s) (F0 m 1335 ls [.int (if z = 0 then 0 else 1), .ref (adX 0)]) := by
    refine lw_callX (d := 100 + 3) (y := yGb_image) (asr := [(if z = 0 then 0 else 1)]) (rest := []) (v := r) (I' := IX2) C0 d_law_1335 s_yGb_image ml_161 rfl rfl (Nat.le_of_ble_eq_true rfl) (by decide) hl.1 (by decide) (by decide) rfl hW (c_Gb_image l 100 (if z = 0 then 0 else 1) IX e1) (fun HX locsX hWX => ?_)
    refine lv_aload_n hx hb d_law_1338 rfl (lv_at hl 2 rfl) ?_
    refine lv_aload_n hx hb d_law_1339 rfl (lv_at hl 0 rfl) ?_
    refine lv_iload_n hx hb d_law_1340 rfl (lv_at hl 3 rfl) ?_
    refine lv_iconst (v := 1) hx hb d_law_1341 (by decide) ?_
    refine lv_iadd hx hb d_law_1342 ?_
    refine va_sld hx hb hX hbl hbA hWX.2.2.2.2.2.2.2.1 (lw_in ht hL 1 (by decide)) d_law_1343 ?_
    have key2 : W p l e room_1 s m #[Value.ref b] below meth c HX locsX 200 20000 (lw_Z below #[Value.ref b] s) (F0 m 1352 ls [.int (if z = 0 then 0 else 1), .ref (adM 0), .int r]) := by
      refine lw_callM (d := 100 + 2) (y := yMo_image) (asr := [(if z = 0 then 0 else 1)]) (rest := [.int r]) (v := r) (I' := IM2) C0 d_law_1352 s_yMo_image ml_165 rfl rfl (Nat.le_of_ble_eq_true rfl) (by decide) hl.1 (by decide) (by decide) rfl hWX (c_Mo_image l 100 (if z = 0 then 0 else 1) IM e2) (fun HM locsM hWM => ?_)
      refine lv_icmp_eq (tgt := 1383) hx hb d_law_1355 (by decide) (fun _ => ?_) (fun hc => absurd rfl hc)
      exact KK IX2 IM2 HM locsM e3 hWM
    rw [show xs (nI t + 1).toNatClampNeg = z from hz]
    refine lv_if_eq (tgt := 1351) hx hb d_law_1344 (by decide) (fun h0 => ?_) (fun h0 => ?_)
    · refine lv_iconst (v := 0) hx hb d_law_1351 (by decide) ?_
      rw [if_pos h0] at key2; exact key2
    · refine lv_iconst (v := 1) hx hb d_law_1347 (by decide) ?_
      refine lv_goto (tgt := 1352) hx hb d_law_1348 (by decide) ?_
      rw [if_neg h0] at key2; exact key2
  rw [show xs (nI t + 1).toNatClampNeg = z from hz]
  refine lv_if_eq (tgt := 1334) hx hb d_law_1327 (by decide) (fun h0 => ?_) (fun h0 => ?_)
  · refine lv_iconst (v := 0) hx hb d_law_1334 (by decide) ?_
    rw [if_pos h0] at key; exact key
  · refine lv_iconst (v := 1) hx hb d_law_1330 (by decide) ?_
    refine lv_goto (tgt := 1335) hx hb d_law_1331 (by decide) ?_
    rw [if_neg h0] at key; exact key
set_option maxRecDepth 8000 in
theorem lw_case_look {p : Program} {l : Launch} {e : Env} {s : State} {m : MethodId} {below : List Frame} {meth : Method} {c : Code} {b L : Nat} {xs : Nat → Int32} (hL : L ≤ 3072) (C0 : lw_At p s m meth c b L xs) {D : va_G} {cI cR : ClassId} {adX adM : Nat → Nat} {Inv : gb_Mem → gb_Mem → Prop} (hs : S_look Inv) {t : Nat} (ht : t + 6 ≤ L) {H : Heap} {locs : List Loc} {IX IM : gb_Mem} (hI : Inv IX IM) (hW : lw_W D cI cR adX adM s H locs IX IM) {ls : Array Slot} (hl : lv_has ls 4 [(0, .ref b), (1, .ref (adX 0)), (2, .ref (adM 0)), (3, .int (nI t))]) (KK : ∀ (IX2 IM2 : gb_Mem) (H2 : Heap) (locs2 : List Loc), Inv IX2 IM2 → lw_W D cI cR adX adM s H2 locs2 IX2 IM2 → W p l e room_1 s m #[Value.ref b] below meth c H2 locs2 200 20000 (lw_Z below #[Value.ref b] s) (F0 m 1383 ls [])) : W p l e room_1 s m #[Value.ref b] below meth c H locs 200 20000 (lw_Z below #[Value.ref b] s) (F0 m 1360 ls []) := by
  obtain ⟨hx, hb, hr, hml, hown, hts, hX, hbl, hlocks, hgv⟩ := id C0
  have hbA : ¬ (fun q : Nat => s.heap.size ≤ q) b := Nat.not_le.mpr hbl
  obtain ⟨r, IX2, IM2, e1, e2, e3⟩ := hs (xs (nI t + 1).toNatClampNeg) IX IM hI
  obtain ⟨e1, e4⟩ := e1
  subst e4
  subst e1
  refine lv_aload_n hx hb d_law_1360 rfl (lv_at hl 1 rfl) ?_
  refine lv_aload_n hx hb d_law_1361 rfl (lv_at hl 0 rfl) ?_
  refine lv_iload_n hx hb d_law_1362 rfl (lv_at hl 3 rfl) ?_
  refine lv_iconst (v := 1) hx hb d_law_1363 (by decide) ?_
  refine lv_iadd hx hb d_law_1364 ?_
  refine va_sld hx hb hX hbl hbA hW.2.2.2.2.2.2.2.1 (lw_in ht hL 1 (by decide)) d_law_1365 ?_
  refine lw_callX (d := 100 + 0) (y := yGb_look) (asr := [xs (nI t + 1).toNatClampNeg]) (rest := []) (v := F_Gb_look (xs (nI t + 1).toNatClampNeg) IX2) (I' := IX2) C0 d_law_1366 s_yGb_look ml_166 rfl rfl (Nat.le_of_ble_eq_true rfl) (by decide) hl.1 (by decide) (by decide) rfl hW (c_Gb_look l 100 (xs (nI t + 1).toNatClampNeg) IX2) (fun HX locsX hWX => ?_)
  refine lv_aload_n hx hb d_law_1369 rfl (lv_at hl 2 rfl) ?_
  refine lv_aload_n hx hb d_law_1370 rfl (lv_at hl 0 rfl) ?_
  refine lv_iload_n hx hb d_law_1371 rfl (lv_at hl 3 rfl) ?_
  refine lv_iconst (v := 1) hx hb d_law_1372 (by decide) ?_
  refine lv_iadd hx hb d_law_1373 ?_
  refine va_sld hx hb hX hbl hbA hWX.2.2.2.2.2.2.2.1 (lw_in ht hL 1 (by decide)) d_law_1374 ?_
  refine lw_callM (d := 100 + 0) (y := yMo_look) (asr := [xs (nI t + 1).toNatClampNeg]) (rest := [.int (F_Gb_look (xs (nI t + 1).toNatClampNeg) IX2)]) (v := F_Gb_look (xs (nI t + 1).toNatClampNeg) IX2) (I' := IM2) C0 d_law_1375 s_yMo_look ml_169 rfl rfl (Nat.le_of_ble_eq_true rfl) (by decide) hl.1 (by decide) (by decide) rfl hWX (c_Mo_look l 100 (xs (nI t + 1).toNatClampNeg) IM e2) (fun HM locsM hWM => ?_)
  refine lv_icmp_eq (tgt := 1383) hx hb d_law_1378 (by decide) (fun _ => ?_) (fun hc => absurd rfl hc)
  exact KK IX2 IM2 HM locsM e3 hWM
