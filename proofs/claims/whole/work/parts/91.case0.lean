/-! the law, case by case -/
theorem ndC {ad : Nat → Nat} {C : CF} {M : Mem} : va_nd ((List.range (WS 20 ad C M).length).map (fun i => 43 + i)) = true := by rw [WS_len]; decide
theorem ndM {ad : Nat → Nat} {C : CF} {M : Mem} : va_nd ((List.range (WS 43 ad C M).length).map (fun i => 20 + i)) = true := by rw [WS_len]; decide
theorem s_in {j L : Nat} (hj : j + 6 ≤ L) (hL : L ≤ 3072) (k : Nat) (hk : k ≤ 5) : vp_in (nI j + nI k) L := by
  rw [addN]
  exact nI_in (by omega) (by omega)
section LC
variable {p : Program} {l : Launch} {e : Env} {s : State} {m : MethodId} {below : List Frame} {meth : Method} {c : Code} {H : Heap} {locs : List Loc} {cells slots b L j : Nat} {xs : Nat → Int32} {Q : State → Prop} {ls : Array Slot} {D : va_G} {A : Nat → Prop} {cy : Nat → ClassId} {adC adM : Nat → Nat} {Mc Mm : Mem}
theorem lc_0 (X : Cx p s m #[Value.ref b] c cL_law 4 RL D cy) (hXs : va_X b L xs s s.heap) (hbl : b < s.heap.size) (hbA : ¬ A b) (hZ : SZ A s s.heap) (hA : ∀ q, s.heap.size ≤ q → A q) (hW : WL D A s.heap (WS 43 adC (CC adC cy) Mc ++ WS 20 adM (CM adM cy) Mm) H locs) (hS : Sim Mc Mm) (hj : j + 6 ≤ L) (hL : L ≤ 3072) (hl : lv_has ls 4 [(3, .int (nI j)), (2, .ref (adM 0)), (1, .ref (adC 0)), (0, .ref b)]) (hcs : cells ≤ 600000 ∧ slots ≤ 7302250)
    (kk : ∀ (Mc' Mm' : Mem) (H1 : Heap) (locs1 : List Loc), Sim Mc' Mm' → WL D A s.heap (WS 43 adC (CC adC cy) Mc' ++ WS 20 adM (CM adM cy) Mm') H1 locs1 → W p l e room_1 s m #[Value.ref b] below meth c H1 locs1 cells slots Q (F0 m 1341 ls [])) : W p l e room_1 s m #[Value.ref b] below meth c H locs cells slots Q (F0 m 208 ls []) := by
  have hx := X.1
  have hb := X.2.1
  obtain ⟨r, Mc', Mm', e1, e2, hS'⟩ := tt_row hS (xs (nI j + 1).toNatClampNeg) (xs (nI j + 2).toNatClampNeg)
  refine lv_aload_n hx hb dL_law_208 rfl (lv_at hl 2 rfl) ?_
  refine lv_aload_n hx hb dL_law_209 rfl (lv_at hl 3 rfl) ?_
  refine lv_iload_n hx hb dL_law_210 rfl (lv_at hl 0 rfl) ?_
  refine lv_iconst (v := 1) hx hb dL_law_211 (by decide) ?_
  refine lv_iadd hx hb dL_law_212 ?_
  refine va_sld hx hb hXs hbl hbA hW.2.2 (show vp_in (nI j + 1) L from s_in hj hL 1 (by decide)) dL_law_213 ?_
  refine lv_aload_n hx hb dL_law_214 rfl (lv_at hl 3 rfl) ?_
  refine lv_iload_n hx hb dL_law_215 rfl (lv_at hl 0 rfl) ?_
  refine lv_iconst (v := 2) hx hb dL_law_216 (by decide) ?_
  refine lv_iadd hx hb dL_law_217 ?_
  refine va_sld hx hb hXs hbl hbA hW.2.2 (show vp_in (nI j + 2) L from s_in hj hL 2 (by decide)) dL_law_218 ?_
  refine k_calli X hl.1 hZ hA hW ndC hcs (c_X1_row l D cy adC e1) cw_X1_row ql_L_13 iO_X1 rfl ⟨by decide, by decide⟩ rfl (Nat.le_of_ble_eq_true rfl) dL_law_219 (fun H locs hW => ?_)
  refine lv_aload_n hx hb dL_law_222 rfl (lv_at hl 1 rfl) ?_
  refine lv_aload_n hx hb dL_law_223 rfl (lv_at hl 3 rfl) ?_
  refine lv_iload_n hx hb dL_law_224 rfl (lv_at hl 0 rfl) ?_
  refine lv_iconst (v := 1) hx hb dL_law_225 (by decide) ?_
  refine lv_iadd hx hb dL_law_226 ?_
  refine va_sld hx hb hXs hbl hbA hW.2.2 (show vp_in (nI j + 1) L from s_in hj hL 1 (by decide)) dL_law_227 ?_
  refine lv_aload_n hx hb dL_law_228 rfl (lv_at hl 3 rfl) ?_
  refine lv_iload_n hx hb dL_law_229 rfl (lv_at hl 0 rfl) ?_
  refine lv_iconst (v := 2) hx hb dL_law_230 (by decide) ?_
  refine lv_iadd hx hb dL_law_231 ?_
  refine va_sld hx hb hXs hbl hbA hW.2.2 (show vp_in (nI j + 2) L from s_in hj hL 2 (by decide)) dL_law_232 ?_
  refine k_calli X hl.1 hZ hA hW.swap ndM hcs (c_X2_row l D cy adM e2) cw_X2_row ql_L_17 iO_X2 rfl ⟨by decide, by decide⟩ rfl (Nat.le_of_ble_eq_true rfl) dL_law_233 (fun H locs hW => ?_)
  refine lv_icmp_eq (tgt := 1341) hx hb dL_law_236 (by decide) (fun hc => ?_) (fun hc => absurd rfl hc)
  exact kk Mc' Mm' H locs hS' hW.swap
theorem lc_1 (X : Cx p s m #[Value.ref b] c cL_law 4 RL D cy) (hXs : va_X b L xs s s.heap) (hbl : b < s.heap.size) (hbA : ¬ A b) (hZ : SZ A s s.heap) (hA : ∀ q, s.heap.size ≤ q → A q) (hW : WL D A s.heap (WS 43 adC (CC adC cy) Mc ++ WS 20 adM (CM adM cy) Mm) H locs) (hS : Sim Mc Mm) (hj : j + 6 ≤ L) (hL : L ≤ 3072) (hl : lv_has ls 4 [(3, .int (nI j)), (2, .ref (adM 0)), (1, .ref (adC 0)), (0, .ref b)]) (hcs : cells ≤ 600000 ∧ slots ≤ 7302250)
    (kk : ∀ (Mc' Mm' : Mem) (H1 : Heap) (locs1 : List Loc), Sim Mc' Mm' → WL D A s.heap (WS 43 adC (CC adC cy) Mc' ++ WS 20 adM (CM adM cy) Mm') H1 locs1 → W p l e room_1 s m #[Value.ref b] below meth c H1 locs1 cells slots Q (F0 m 1341 ls [])) : W p l e room_1 s m #[Value.ref b] below meth c H locs cells slots Q (F0 m 241 ls []) := by
  have hx := X.1
  have hb := X.2.1
  obtain ⟨r, Mc', Mm', e1, e2, hS'⟩ := tt_lay hS (xs (nI j + 1).toNatClampNeg) (xs (nI j + 2).toNatClampNeg) (xs (nI j + 3).toNatClampNeg)
  refine lv_aload_n hx hb dL_law_241 rfl (lv_at hl 2 rfl) ?_
  refine lv_aload_n hx hb dL_law_242 rfl (lv_at hl 3 rfl) ?_
  refine lv_iload_n hx hb dL_law_243 rfl (lv_at hl 0 rfl) ?_
  refine lv_iconst (v := 1) hx hb dL_law_244 (by decide) ?_
  refine lv_iadd hx hb dL_law_245 ?_
  refine va_sld hx hb hXs hbl hbA hW.2.2 (show vp_in (nI j + 1) L from s_in hj hL 1 (by decide)) dL_law_246 ?_
  refine lv_aload_n hx hb dL_law_247 rfl (lv_at hl 3 rfl) ?_
  refine lv_iload_n hx hb dL_law_248 rfl (lv_at hl 0 rfl) ?_
  refine lv_iconst (v := 2) hx hb dL_law_249 (by decide) ?_
  refine lv_iadd hx hb dL_law_250 ?_
  refine va_sld hx hb hXs hbl hbA hW.2.2 (show vp_in (nI j + 2) L from s_in hj hL 2 (by decide)) dL_law_251 ?_
  refine lv_aload_n hx hb dL_law_252 rfl (lv_at hl 3 rfl) ?_
  refine lv_iload_n hx hb dL_law_253 rfl (lv_at hl 0 rfl) ?_
  refine lv_iconst (v := 3) hx hb dL_law_254 (by decide) ?_
  refine lv_iadd hx hb dL_law_255 ?_
  refine va_sld hx hb hXs hbl hbA hW.2.2 (show vp_in (nI j + 3) L from s_in hj hL 3 (by decide)) dL_law_256 ?_
  refine k_calli X hl.1 hZ hA hW ndC hcs (c_X1_lay l D cy adC e1) cw_X1_lay ql_L_18 iO_X1 rfl ⟨by decide, by decide⟩ rfl (Nat.le_of_ble_eq_true rfl) dL_law_257 (fun H locs hW => ?_)
  refine lv_aload_n hx hb dL_law_260 rfl (lv_at hl 1 rfl) ?_
  refine lv_aload_n hx hb dL_law_261 rfl (lv_at hl 3 rfl) ?_
  refine lv_iload_n hx hb dL_law_262 rfl (lv_at hl 0 rfl) ?_
  refine lv_iconst (v := 1) hx hb dL_law_263 (by decide) ?_
  refine lv_iadd hx hb dL_law_264 ?_
  refine va_sld hx hb hXs hbl hbA hW.2.2 (show vp_in (nI j + 1) L from s_in hj hL 1 (by decide)) dL_law_265 ?_
  refine lv_aload_n hx hb dL_law_266 rfl (lv_at hl 3 rfl) ?_
  refine lv_iload_n hx hb dL_law_267 rfl (lv_at hl 0 rfl) ?_
  refine lv_iconst (v := 2) hx hb dL_law_268 (by decide) ?_
  refine lv_iadd hx hb dL_law_269 ?_
  refine va_sld hx hb hXs hbl hbA hW.2.2 (show vp_in (nI j + 2) L from s_in hj hL 2 (by decide)) dL_law_270 ?_
  refine lv_aload_n hx hb dL_law_271 rfl (lv_at hl 3 rfl) ?_
  refine lv_iload_n hx hb dL_law_272 rfl (lv_at hl 0 rfl) ?_
  refine lv_iconst (v := 3) hx hb dL_law_273 (by decide) ?_
  refine lv_iadd hx hb dL_law_274 ?_
  refine va_sld hx hb hXs hbl hbA hW.2.2 (show vp_in (nI j + 3) L from s_in hj hL 3 (by decide)) dL_law_275 ?_
  refine k_calli X hl.1 hZ hA hW.swap ndM hcs (c_X2_lay l D cy adM e2) cw_X2_lay ql_L_22 iO_X2 rfl ⟨by decide, by decide⟩ rfl (Nat.le_of_ble_eq_true rfl) dL_law_276 (fun H locs hW => ?_)
  refine lv_icmp_eq (tgt := 1341) hx hb dL_law_279 (by decide) (fun hc => ?_) (fun hc => absurd rfl hc)
  exact kk Mc' Mm' H locs hS' hW.swap
theorem lc_2 (X : Cx p s m #[Value.ref b] c cL_law 4 RL D cy) (hXs : va_X b L xs s s.heap) (hbl : b < s.heap.size) (hbA : ¬ A b) (hZ : SZ A s s.heap) (hA : ∀ q, s.heap.size ≤ q → A q) (hW : WL D A s.heap (WS 43 adC (CC adC cy) Mc ++ WS 20 adM (CM adM cy) Mm) H locs) (hS : Sim Mc Mm) (hj : j + 6 ≤ L) (hL : L ≤ 3072) (hl : lv_has ls 4 [(3, .int (nI j)), (2, .ref (adM 0)), (1, .ref (adC 0)), (0, .ref b)]) (hcs : cells ≤ 600000 ∧ slots ≤ 7302250)
    (kk : ∀ (Mc' Mm' : Mem) (H1 : Heap) (locs1 : List Loc), Sim Mc' Mm' → WL D A s.heap (WS 43 adC (CC adC cy) Mc' ++ WS 20 adM (CM adM cy) Mm') H1 locs1 → W p l e room_1 s m #[Value.ref b] below meth c H1 locs1 cells slots Q (F0 m 1341 ls [])) : W p l e room_1 s m #[Value.ref b] below meth c H locs cells slots Q (F0 m 284 ls []) := by
  have hx := X.1
  have hb := X.2.1
  obtain ⟨r, Mc', Mm', e1, e2, hS'⟩ := tt_at hS (xs (nI j + 1).toNatClampNeg) (xs (nI j + 2).toNatClampNeg)
  refine lv_aload_n hx hb dL_law_284 rfl (lv_at hl 2 rfl) ?_
  refine lv_aload_n hx hb dL_law_285 rfl (lv_at hl 3 rfl) ?_
  refine lv_iload_n hx hb dL_law_286 rfl (lv_at hl 0 rfl) ?_
  refine lv_iconst (v := 1) hx hb dL_law_287 (by decide) ?_
  refine lv_iadd hx hb dL_law_288 ?_
  refine va_sld hx hb hXs hbl hbA hW.2.2 (show vp_in (nI j + 1) L from s_in hj hL 1 (by decide)) dL_law_289 ?_
  refine lv_aload_n hx hb dL_law_290 rfl (lv_at hl 3 rfl) ?_
  refine lv_iload_n hx hb dL_law_291 rfl (lv_at hl 0 rfl) ?_
  refine lv_iconst (v := 2) hx hb dL_law_292 (by decide) ?_
  refine lv_iadd hx hb dL_law_293 ?_
  refine va_sld hx hb hXs hbl hbA hW.2.2 (show vp_in (nI j + 2) L from s_in hj hL 2 (by decide)) dL_law_294 ?_
  refine k_calli X hl.1 hZ hA hW ndC hcs (c_X1_at l D cy adC e1) cw_X1_at ql_L_23 iO_X1 rfl ⟨by decide, by decide⟩ rfl (Nat.le_of_ble_eq_true rfl) dL_law_295 (fun H locs hW => ?_)
  refine lv_aload_n hx hb dL_law_298 rfl (lv_at hl 1 rfl) ?_
  refine lv_aload_n hx hb dL_law_299 rfl (lv_at hl 3 rfl) ?_
  refine lv_iload_n hx hb dL_law_300 rfl (lv_at hl 0 rfl) ?_
  refine lv_iconst (v := 1) hx hb dL_law_301 (by decide) ?_
  refine lv_iadd hx hb dL_law_302 ?_
  refine va_sld hx hb hXs hbl hbA hW.2.2 (show vp_in (nI j + 1) L from s_in hj hL 1 (by decide)) dL_law_303 ?_
  refine lv_aload_n hx hb dL_law_304 rfl (lv_at hl 3 rfl) ?_
  refine lv_iload_n hx hb dL_law_305 rfl (lv_at hl 0 rfl) ?_
  refine lv_iconst (v := 2) hx hb dL_law_306 (by decide) ?_
  refine lv_iadd hx hb dL_law_307 ?_
  refine va_sld hx hb hXs hbl hbA hW.2.2 (show vp_in (nI j + 2) L from s_in hj hL 2 (by decide)) dL_law_308 ?_
  refine k_calli X hl.1 hZ hA hW.swap ndM hcs (c_X2_at l D cy adM e2) cw_X2_at ql_L_26 iO_X2 rfl ⟨by decide, by decide⟩ rfl (Nat.le_of_ble_eq_true rfl) dL_law_309 (fun H locs hW => ?_)
  refine lv_icmp_eq (tgt := 1341) hx hb dL_law_312 (by decide) (fun hc => ?_) (fun hc => absurd rfl hc)
  exact kk Mc' Mm' H locs hS' hW.swap
theorem lc_3 (X : Cx p s m #[Value.ref b] c cL_law 4 RL D cy) (hXs : va_X b L xs s s.heap) (hbl : b < s.heap.size) (hbA : ¬ A b) (hZ : SZ A s s.heap) (hA : ∀ q, s.heap.size ≤ q → A q) (hW : WL D A s.heap (WS 43 adC (CC adC cy) Mc ++ WS 20 adM (CM adM cy) Mm) H locs) (hS : Sim Mc Mm) (hj : j + 6 ≤ L) (hL : L ≤ 3072) (hl : lv_has ls 4 [(3, .int (nI j)), (2, .ref (adM 0)), (1, .ref (adC 0)), (0, .ref b)]) (hcs : cells ≤ 600000 ∧ slots ≤ 7302250)
    (kk : ∀ (Mc' Mm' : Mem) (H1 : Heap) (locs1 : List Loc), Sim Mc' Mm' → WL D A s.heap (WS 43 adC (CC adC cy) Mc' ++ WS 20 adM (CM adM cy) Mm') H1 locs1 → W p l e room_1 s m #[Value.ref b] below meth c H1 locs1 cells slots Q (F0 m 1341 ls [])) : W p l e room_1 s m #[Value.ref b] below meth c H locs cells slots Q (F0 m 317 ls []) := by
  have hx := X.1
  have hb := X.2.1
  obtain ⟨r, Mc', Mm', e1, e2, hS'⟩ := tt_tear hS (xs (nI j + 1).toNatClampNeg)
  refine lv_aload_n hx hb dL_law_317 rfl (lv_at hl 2 rfl) ?_
  refine lv_aload_n hx hb dL_law_318 rfl (lv_at hl 3 rfl) ?_
  refine lv_iload_n hx hb dL_law_319 rfl (lv_at hl 0 rfl) ?_
  refine lv_iconst (v := 1) hx hb dL_law_320 (by decide) ?_
  refine lv_iadd hx hb dL_law_321 ?_
  refine va_sld hx hb hXs hbl hbA hW.2.2 (show vp_in (nI j + 1) L from s_in hj hL 1 (by decide)) dL_law_322 ?_
  refine k_calli X hl.1 hZ hA hW ndC hcs (c_X1_tear l D cy adC e1) cw_X1_tear ql_L_27 iO_X1 rfl ⟨by decide, by decide⟩ rfl (Nat.le_of_ble_eq_true rfl) dL_law_323 (fun H locs hW => ?_)
  refine lv_aload_n hx hb dL_law_326 rfl (lv_at hl 1 rfl) ?_
  refine lv_aload_n hx hb dL_law_327 rfl (lv_at hl 3 rfl) ?_
  refine lv_iload_n hx hb dL_law_328 rfl (lv_at hl 0 rfl) ?_
  refine lv_iconst (v := 1) hx hb dL_law_329 (by decide) ?_
  refine lv_iadd hx hb dL_law_330 ?_
  refine va_sld hx hb hXs hbl hbA hW.2.2 (show vp_in (nI j + 1) L from s_in hj hL 1 (by decide)) dL_law_331 ?_
  refine k_calli X hl.1 hZ hA hW.swap ndM hcs (c_X2_tear l D cy adM e2) cw_X2_tear ql_L_31 iO_X2 rfl ⟨by decide, by decide⟩ rfl (Nat.le_of_ble_eq_true rfl) dL_law_332 (fun H locs hW => ?_)
  refine lv_icmp_eq (tgt := 1341) hx hb dL_law_335 (by decide) (fun hc => ?_) (fun hc => absurd rfl hc)
  exact kk Mc' Mm' H locs hS' hW.swap
theorem lc_4 (X : Cx p s m #[Value.ref b] c cL_law 4 RL D cy) (hXs : va_X b L xs s s.heap) (hbl : b < s.heap.size) (hbA : ¬ A b) (hZ : SZ A s s.heap) (hA : ∀ q, s.heap.size ≤ q → A q) (hW : WL D A s.heap (WS 43 adC (CC adC cy) Mc ++ WS 20 adM (CM adM cy) Mm) H locs) (hS : Sim Mc Mm) (hj : j + 6 ≤ L) (hL : L ≤ 3072) (hl : lv_has ls 4 [(3, .int (nI j)), (2, .ref (adM 0)), (1, .ref (adC 0)), (0, .ref b)]) (hcs : cells ≤ 600000 ∧ slots ≤ 7302250)
    (kk : ∀ (Mc' Mm' : Mem) (H1 : Heap) (locs1 : List Loc), Sim Mc' Mm' → WL D A s.heap (WS 43 adC (CC adC cy) Mc' ++ WS 20 adM (CM adM cy) Mm') H1 locs1 → W p l e room_1 s m #[Value.ref b] below meth c H1 locs1 cells slots Q (F0 m 1341 ls [])) : W p l e room_1 s m #[Value.ref b] below meth c H locs cells slots Q (F0 m 340 ls []) := by
  have hx := X.1
  have hb := X.2.1
  obtain ⟨r, Mc', Mm', e1, e2, hS'⟩ := tt_copy hS (xs (nI j + 1).toNatClampNeg) (xs (nI j + 2).toNatClampNeg) (xs (nI j + 3).toNatClampNeg) (xs (nI j + 4).toNatClampNeg) (xs (nI j + 5).toNatClampNeg)
  refine lv_aload_n hx hb dL_law_340 rfl (lv_at hl 2 rfl) ?_
  refine lv_aload_n hx hb dL_law_341 rfl (lv_at hl 3 rfl) ?_
  refine lv_iload_n hx hb dL_law_342 rfl (lv_at hl 0 rfl) ?_
  refine lv_iconst (v := 1) hx hb dL_law_343 (by decide) ?_
  refine lv_iadd hx hb dL_law_344 ?_
  refine va_sld hx hb hXs hbl hbA hW.2.2 (show vp_in (nI j + 1) L from s_in hj hL 1 (by decide)) dL_law_345 ?_
  refine lv_aload_n hx hb dL_law_346 rfl (lv_at hl 3 rfl) ?_
  refine lv_iload_n hx hb dL_law_347 rfl (lv_at hl 0 rfl) ?_
  refine lv_iconst (v := 2) hx hb dL_law_348 (by decide) ?_
  refine lv_iadd hx hb dL_law_349 ?_
  refine va_sld hx hb hXs hbl hbA hW.2.2 (show vp_in (nI j + 2) L from s_in hj hL 2 (by decide)) dL_law_350 ?_
  refine lv_aload_n hx hb dL_law_351 rfl (lv_at hl 3 rfl) ?_
  refine lv_iload_n hx hb dL_law_352 rfl (lv_at hl 0 rfl) ?_
  refine lv_iconst (v := 3) hx hb dL_law_353 (by decide) ?_
  refine lv_iadd hx hb dL_law_354 ?_
  refine va_sld hx hb hXs hbl hbA hW.2.2 (show vp_in (nI j + 3) L from s_in hj hL 3 (by decide)) dL_law_355 ?_
  refine lv_aload_n hx hb dL_law_356 rfl (lv_at hl 3 rfl) ?_
  refine lv_iload_n hx hb dL_law_357 rfl (lv_at hl 0 rfl) ?_
  refine lv_iconst (v := 4) hx hb dL_law_358 (by decide) ?_
  refine lv_iadd hx hb dL_law_359 ?_
  refine va_sld hx hb hXs hbl hbA hW.2.2 (show vp_in (nI j + 4) L from s_in hj hL 4 (by decide)) dL_law_360 ?_
  refine lv_aload_n hx hb dL_law_361 rfl (lv_at hl 3 rfl) ?_
  refine lv_iload_n hx hb dL_law_362 rfl (lv_at hl 0 rfl) ?_
  refine lv_iconst (v := 5) hx hb dL_law_363 (by decide) ?_
  refine lv_iadd hx hb dL_law_364 ?_
  refine va_sld hx hb hXs hbl hbA hW.2.2 (show vp_in (nI j + 5) L from s_in hj hL 5 (by decide)) dL_law_365 ?_
  refine k_calli X hl.1 hZ hA hW ndC hcs (c_X1_copy l D cy adC e1) cw_X1_copy ql_L_32 iO_X1 rfl ⟨by decide, by decide⟩ rfl (Nat.le_of_ble_eq_true rfl) dL_law_366 (fun H locs hW => ?_)
  refine lv_aload_n hx hb dL_law_369 rfl (lv_at hl 1 rfl) ?_
  refine lv_aload_n hx hb dL_law_370 rfl (lv_at hl 3 rfl) ?_
  refine lv_iload_n hx hb dL_law_371 rfl (lv_at hl 0 rfl) ?_
  refine lv_iconst (v := 1) hx hb dL_law_372 (by decide) ?_
  refine lv_iadd hx hb dL_law_373 ?_
  refine va_sld hx hb hXs hbl hbA hW.2.2 (show vp_in (nI j + 1) L from s_in hj hL 1 (by decide)) dL_law_374 ?_
  refine lv_aload_n hx hb dL_law_375 rfl (lv_at hl 3 rfl) ?_
  refine lv_iload_n hx hb dL_law_376 rfl (lv_at hl 0 rfl) ?_
  refine lv_iconst (v := 2) hx hb dL_law_377 (by decide) ?_
  refine lv_iadd hx hb dL_law_378 ?_
  refine va_sld hx hb hXs hbl hbA hW.2.2 (show vp_in (nI j + 2) L from s_in hj hL 2 (by decide)) dL_law_379 ?_
  refine lv_aload_n hx hb dL_law_380 rfl (lv_at hl 3 rfl) ?_
  refine lv_iload_n hx hb dL_law_381 rfl (lv_at hl 0 rfl) ?_
  refine lv_iconst (v := 3) hx hb dL_law_382 (by decide) ?_
  refine lv_iadd hx hb dL_law_383 ?_
  refine va_sld hx hb hXs hbl hbA hW.2.2 (show vp_in (nI j + 3) L from s_in hj hL 3 (by decide)) dL_law_384 ?_
  refine lv_aload_n hx hb dL_law_385 rfl (lv_at hl 3 rfl) ?_
  refine lv_iload_n hx hb dL_law_386 rfl (lv_at hl 0 rfl) ?_
  refine lv_iconst (v := 4) hx hb dL_law_387 (by decide) ?_
  refine lv_iadd hx hb dL_law_388 ?_
  refine va_sld hx hb hXs hbl hbA hW.2.2 (show vp_in (nI j + 4) L from s_in hj hL 4 (by decide)) dL_law_389 ?_
  refine lv_aload_n hx hb dL_law_390 rfl (lv_at hl 3 rfl) ?_
  refine lv_iload_n hx hb dL_law_391 rfl (lv_at hl 0 rfl) ?_
  refine lv_iconst (v := 5) hx hb dL_law_392 (by decide) ?_
  refine lv_iadd hx hb dL_law_393 ?_
  refine va_sld hx hb hXs hbl hbA hW.2.2 (show vp_in (nI j + 5) L from s_in hj hL 5 (by decide)) dL_law_394 ?_
  refine k_calli X hl.1 hZ hA hW.swap ndM hcs (c_X2_copy l D cy adM e2) cw_X2_copy ql_L_36 iO_X2 rfl ⟨by decide, by decide⟩ rfl (Nat.le_of_ble_eq_true rfl) dL_law_395 (fun H locs hW => ?_)
  refine lv_icmp_eq (tgt := 1341) hx hb dL_law_398 (by decide) (fun hc => ?_) (fun hc => absurd rfl hc)
  exact kk Mc' Mm' H locs hS' hW.swap
theorem lc_5 (X : Cx p s m #[Value.ref b] c cL_law 4 RL D cy) (hXs : va_X b L xs s s.heap) (hbl : b < s.heap.size) (hbA : ¬ A b) (hZ : SZ A s s.heap) (hA : ∀ q, s.heap.size ≤ q → A q) (hW : WL D A s.heap (WS 43 adC (CC adC cy) Mc ++ WS 20 adM (CM adM cy) Mm) H locs) (hS : Sim Mc Mm) (hj : j + 6 ≤ L) (hL : L ≤ 3072) (hl : lv_has ls 4 [(3, .int (nI j)), (2, .ref (adM 0)), (1, .ref (adC 0)), (0, .ref b)]) (hcs : cells ≤ 600000 ∧ slots ≤ 7302250)
    (kk : ∀ (Mc' Mm' : Mem) (H1 : Heap) (locs1 : List Loc), Sim Mc' Mm' → WL D A s.heap (WS 43 adC (CC adC cy) Mc' ++ WS 20 adM (CM adM cy) Mm') H1 locs1 → W p l e room_1 s m #[Value.ref b] below meth c H1 locs1 cells slots Q (F0 m 1341 ls [])) : W p l e room_1 s m #[Value.ref b] below meth c H locs cells slots Q (F0 m 403 ls []) := by
  have hx := X.1
  have hb := X.2.1
  obtain ⟨r, Mc', Mm', e1, e2, hS'⟩ := tt_mean hS (xs (nI j + 1).toNatClampNeg)
  refine lv_aload_n hx hb dL_law_403 rfl (lv_at hl 2 rfl) ?_
  refine lv_aload_n hx hb dL_law_404 rfl (lv_at hl 3 rfl) ?_
  refine lv_iload_n hx hb dL_law_405 rfl (lv_at hl 0 rfl) ?_
  refine lv_iconst (v := 1) hx hb dL_law_406 (by decide) ?_
  refine lv_iadd hx hb dL_law_407 ?_
  refine va_sld hx hb hXs hbl hbA hW.2.2 (show vp_in (nI j + 1) L from s_in hj hL 1 (by decide)) dL_law_408 ?_
  refine k_calli X hl.1 hZ hA hW ndC hcs (c_X1_mean l D cy adC e1) cw_X1_mean ql_L_37 iO_X1 rfl ⟨by decide, by decide⟩ rfl (Nat.le_of_ble_eq_true rfl) dL_law_409 (fun H locs hW => ?_)
  refine lv_aload_n hx hb dL_law_412 rfl (lv_at hl 1 rfl) ?_
  refine lv_aload_n hx hb dL_law_413 rfl (lv_at hl 3 rfl) ?_
  refine lv_iload_n hx hb dL_law_414 rfl (lv_at hl 0 rfl) ?_
  refine lv_iconst (v := 1) hx hb dL_law_415 (by decide) ?_
  refine lv_iadd hx hb dL_law_416 ?_
  refine va_sld hx hb hXs hbl hbA hW.2.2 (show vp_in (nI j + 1) L from s_in hj hL 1 (by decide)) dL_law_417 ?_
  refine k_calli X hl.1 hZ hA hW.swap ndM hcs (c_X2_mean l D cy adM e2) cw_X2_mean ql_L_40 iO_X2 rfl ⟨by decide, by decide⟩ rfl (Nat.le_of_ble_eq_true rfl) dL_law_418 (fun H locs hW => ?_)
  refine lv_icmp_eq (tgt := 1341) hx hb dL_law_421 (by decide) (fun hc => ?_) (fun hc => absurd rfl hc)
  exact kk Mc' Mm' H locs hS' hW.swap
theorem lc_6 (X : Cx p s m #[Value.ref b] c cL_law 4 RL D cy) (hXs : va_X b L xs s s.heap) (hbl : b < s.heap.size) (hbA : ¬ A b) (hZ : SZ A s s.heap) (hA : ∀ q, s.heap.size ≤ q → A q) (hW : WL D A s.heap (WS 43 adC (CC adC cy) Mc ++ WS 20 adM (CM adM cy) Mm) H locs) (hS : Sim Mc Mm) (hj : j + 6 ≤ L) (hL : L ≤ 3072) (hl : lv_has ls 4 [(3, .int (nI j)), (2, .ref (adM 0)), (1, .ref (adC 0)), (0, .ref b)]) (hcs : cells ≤ 600000 ∧ slots ≤ 7302250)
    (kk : ∀ (Mc' Mm' : Mem) (H1 : Heap) (locs1 : List Loc), Sim Mc' Mm' → WL D A s.heap (WS 43 adC (CC adC cy) Mc' ++ WS 20 adM (CM adM cy) Mm') H1 locs1 → W p l e room_1 s m #[Value.ref b] below meth c H1 locs1 cells slots Q (F0 m 1341 ls [])) : W p l e room_1 s m #[Value.ref b] below meth c H locs cells slots Q (F0 m 426 ls []) := by
  have hx := X.1
  have hb := X.2.1
  obtain ⟨r, Mc', Mm', e1, e2, hS'⟩ := tt_text hS (xs (nI j + 1).toNatClampNeg) (xs (nI j + 2).toNatClampNeg)
  refine lv_aload_n hx hb dL_law_426 rfl (lv_at hl 2 rfl) ?_
  refine lv_aload_n hx hb dL_law_427 rfl (lv_at hl 3 rfl) ?_
  refine lv_iload_n hx hb dL_law_428 rfl (lv_at hl 0 rfl) ?_
  refine lv_iconst (v := 1) hx hb dL_law_429 (by decide) ?_
  refine lv_iadd hx hb dL_law_430 ?_
  refine va_sld hx hb hXs hbl hbA hW.2.2 (show vp_in (nI j + 1) L from s_in hj hL 1 (by decide)) dL_law_431 ?_
  refine lv_aload_n hx hb dL_law_432 rfl (lv_at hl 3 rfl) ?_
  refine lv_iload_n hx hb dL_law_433 rfl (lv_at hl 0 rfl) ?_
  refine lv_iconst (v := 2) hx hb dL_law_434 (by decide) ?_
  refine lv_iadd hx hb dL_law_435 ?_
  refine va_sld hx hb hXs hbl hbA hW.2.2 (show vp_in (nI j + 2) L from s_in hj hL 2 (by decide)) dL_law_436 ?_
  refine k_calli X hl.1 hZ hA hW ndC hcs (c_X1_text l D cy adC e1) cw_X1_text ql_L_41 iO_X1 rfl ⟨by decide, by decide⟩ rfl (Nat.le_of_ble_eq_true rfl) dL_law_437 (fun H locs hW => ?_)
  refine lv_aload_n hx hb dL_law_440 rfl (lv_at hl 1 rfl) ?_
  refine lv_aload_n hx hb dL_law_441 rfl (lv_at hl 3 rfl) ?_
  refine lv_iload_n hx hb dL_law_442 rfl (lv_at hl 0 rfl) ?_
  refine lv_iconst (v := 1) hx hb dL_law_443 (by decide) ?_
  refine lv_iadd hx hb dL_law_444 ?_
  refine va_sld hx hb hXs hbl hbA hW.2.2 (show vp_in (nI j + 1) L from s_in hj hL 1 (by decide)) dL_law_445 ?_
  refine lv_aload_n hx hb dL_law_446 rfl (lv_at hl 3 rfl) ?_
  refine lv_iload_n hx hb dL_law_447 rfl (lv_at hl 0 rfl) ?_
  refine lv_iconst (v := 2) hx hb dL_law_448 (by decide) ?_
  refine lv_iadd hx hb dL_law_449 ?_
  refine va_sld hx hb hXs hbl hbA hW.2.2 (show vp_in (nI j + 2) L from s_in hj hL 2 (by decide)) dL_law_450 ?_
  refine k_calli X hl.1 hZ hA hW.swap ndM hcs (c_X2_text l D cy adM e2) cw_X2_text ql_L_44 iO_X2 rfl ⟨by decide, by decide⟩ rfl (Nat.le_of_ble_eq_true rfl) dL_law_451 (fun H locs hW => ?_)
  refine lv_icmp_eq (tgt := 1341) hx hb dL_law_454 (by decide) (fun hc => ?_) (fun hc => absurd rfl hc)
  exact kk Mc' Mm' H locs hS' hW.swap
theorem lc_7 (X : Cx p s m #[Value.ref b] c cL_law 4 RL D cy) (hXs : va_X b L xs s s.heap) (hbl : b < s.heap.size) (hbA : ¬ A b) (hZ : SZ A s s.heap) (hA : ∀ q, s.heap.size ≤ q → A q) (hW : WL D A s.heap (WS 43 adC (CC adC cy) Mc ++ WS 20 adM (CM adM cy) Mm) H locs) (hS : Sim Mc Mm) (hj : j + 6 ≤ L) (hL : L ≤ 3072) (hl : lv_has ls 4 [(3, .int (nI j)), (2, .ref (adM 0)), (1, .ref (adC 0)), (0, .ref b)]) (hcs : cells ≤ 600000 ∧ slots ≤ 7302250)
    (kk : ∀ (Mc' Mm' : Mem) (H1 : Heap) (locs1 : List Loc), Sim Mc' Mm' → WL D A s.heap (WS 43 adC (CC adC cy) Mc' ++ WS 20 adM (CM adM cy) Mm') H1 locs1 → W p l e room_1 s m #[Value.ref b] below meth c H1 locs1 cells slots Q (F0 m 1341 ls [])) : W p l e room_1 s m #[Value.ref b] below meth c H locs cells slots Q (F0 m 459 ls []) := by
  have hx := X.1
  have hb := X.2.1
  obtain ⟨r, Mc', Mm', e1, e2, hS'⟩ := tt_put hS (xs (nI j + 1).toNatClampNeg) (xs (nI j + 2).toNatClampNeg) (xs (nI j + 3).toNatClampNeg)
  refine lv_aload_n hx hb dL_law_459 rfl (lv_at hl 2 rfl) ?_
  refine lv_aload_n hx hb dL_law_460 rfl (lv_at hl 3 rfl) ?_
  refine lv_iload_n hx hb dL_law_461 rfl (lv_at hl 0 rfl) ?_
  refine lv_iconst (v := 1) hx hb dL_law_462 (by decide) ?_
  refine lv_iadd hx hb dL_law_463 ?_
  refine va_sld hx hb hXs hbl hbA hW.2.2 (show vp_in (nI j + 1) L from s_in hj hL 1 (by decide)) dL_law_464 ?_
  refine lv_aload_n hx hb dL_law_465 rfl (lv_at hl 3 rfl) ?_
  refine lv_iload_n hx hb dL_law_466 rfl (lv_at hl 0 rfl) ?_
  refine lv_iconst (v := 2) hx hb dL_law_467 (by decide) ?_
  refine lv_iadd hx hb dL_law_468 ?_
  refine va_sld hx hb hXs hbl hbA hW.2.2 (show vp_in (nI j + 2) L from s_in hj hL 2 (by decide)) dL_law_469 ?_
  refine lv_aload_n hx hb dL_law_470 rfl (lv_at hl 3 rfl) ?_
  refine lv_iload_n hx hb dL_law_471 rfl (lv_at hl 0 rfl) ?_
  refine lv_iconst (v := 3) hx hb dL_law_472 (by decide) ?_
  refine lv_iadd hx hb dL_law_473 ?_
  refine va_sld hx hb hXs hbl hbA hW.2.2 (show vp_in (nI j + 3) L from s_in hj hL 3 (by decide)) dL_law_474 ?_
  refine k_calli X hl.1 hZ hA hW ndC hcs (c_X1_put l D cy adC e1) cw_X1_put ql_L_45 iO_X1 rfl ⟨by decide, by decide⟩ rfl (Nat.le_of_ble_eq_true rfl) dL_law_475 (fun H locs hW => ?_)
  refine lv_aload_n hx hb dL_law_478 rfl (lv_at hl 1 rfl) ?_
  refine lv_aload_n hx hb dL_law_479 rfl (lv_at hl 3 rfl) ?_
  refine lv_iload_n hx hb dL_law_480 rfl (lv_at hl 0 rfl) ?_
  refine lv_iconst (v := 1) hx hb dL_law_481 (by decide) ?_
  refine lv_iadd hx hb dL_law_482 ?_
  refine va_sld hx hb hXs hbl hbA hW.2.2 (show vp_in (nI j + 1) L from s_in hj hL 1 (by decide)) dL_law_483 ?_
  refine lv_aload_n hx hb dL_law_484 rfl (lv_at hl 3 rfl) ?_
  refine lv_iload_n hx hb dL_law_485 rfl (lv_at hl 0 rfl) ?_
  refine lv_iconst (v := 2) hx hb dL_law_486 (by decide) ?_
  refine lv_iadd hx hb dL_law_487 ?_
  refine va_sld hx hb hXs hbl hbA hW.2.2 (show vp_in (nI j + 2) L from s_in hj hL 2 (by decide)) dL_law_488 ?_
  refine lv_aload_n hx hb dL_law_489 rfl (lv_at hl 3 rfl) ?_
  refine lv_iload_n hx hb dL_law_490 rfl (lv_at hl 0 rfl) ?_
  refine lv_iconst (v := 3) hx hb dL_law_491 (by decide) ?_
  refine lv_iadd hx hb dL_law_492 ?_
  refine va_sld hx hb hXs hbl hbA hW.2.2 (show vp_in (nI j + 3) L from s_in hj hL 3 (by decide)) dL_law_493 ?_
  refine k_calli X hl.1 hZ hA hW.swap ndM hcs (c_X2_put l D cy adM e2) cw_X2_put ql_L_48 iO_X2 rfl ⟨by decide, by decide⟩ rfl (Nat.le_of_ble_eq_true rfl) dL_law_494 (fun H locs hW => ?_)
  refine lv_icmp_eq (tgt := 1341) hx hb dL_law_497 (by decide) (fun hc => ?_) (fun hc => absurd rfl hc)
  exact kk Mc' Mm' H locs hS' hW.swap
end LC
