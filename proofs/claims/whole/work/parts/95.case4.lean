/-! the law, case by case -/
section LC
variable {p : Program} {l : Launch} {e : Env} {s : State} {m : MethodId} {below : List Frame} {meth : Method} {c : Code} {H : Heap} {locs : List Loc} {cells slots b L j : Nat} {xs : Nat → Int32} {Q : State → Prop} {ls : Array Slot} {D : va_G} {A : Nat → Prop} {cy : Nat → ClassId} {adC adM : Nat → Nat} {Mc Mm : Mem}
theorem lc_32 (X : Cx p s m #[Value.ref b] c cL_law 4 RL D cy) (hXs : va_X b L xs s s.heap) (hbl : b < s.heap.size) (hbA : ¬ A b) (hZ : SZ A s s.heap) (hA : ∀ q, s.heap.size ≤ q → A q) (hW : WL D A s.heap (WS 43 adC (CC adC cy) Mc ++ WS 20 adM (CM adM cy) Mm) H locs) (hS : Sim Mc Mm) (hj : j + 6 ≤ L) (hL : L ≤ 3072) (hl : lv_has ls 4 [(3, .int (nI j)), (2, .ref (adM 0)), (1, .ref (adC 0)), (0, .ref b)]) (hcs : cells ≤ 600000 ∧ slots ≤ 7302250)
    (kk : ∀ (Mc' Mm' : Mem) (H1 : Heap) (locs1 : List Loc), Sim Mc' Mm' → WL D A s.heap (WS 43 adC (CC adC cy) Mc' ++ WS 20 adM (CM adM cy) Mm') H1 locs1 → W p l e room_1 s m #[Value.ref b] below meth c H1 locs1 cells slots Q (F0 m 1341 ls [])) : W p l e room_1 s m #[Value.ref b] below meth c H locs cells slots Q (F0 m 1194 ls []) := by
  have hx := X.1
  have hb := X.2.1
  obtain ⟨r, Mc', Mm', e1, e2, hS'⟩ := tt_lots hS (xs (nI j + 1).toNatClampNeg) (xs (nI j + 2).toNatClampNeg)
  refine lv_aload_n hx hb dL_law_1194 rfl (lv_at hl 2 rfl) ?_
  refine lv_aload_n hx hb dL_law_1195 rfl (lv_at hl 3 rfl) ?_
  refine lv_iload_n hx hb dL_law_1196 rfl (lv_at hl 0 rfl) ?_
  refine lv_iconst (v := 1) hx hb dL_law_1197 (by decide) ?_
  refine lv_iadd hx hb dL_law_1198 ?_
  refine va_sld hx hb hXs hbl hbA hW.2.2 (show vp_in (nI j + 1) L from s_in hj hL 1 (by decide)) dL_law_1199 ?_
  refine lv_aload_n hx hb dL_law_1200 rfl (lv_at hl 3 rfl) ?_
  refine lv_iload_n hx hb dL_law_1201 rfl (lv_at hl 0 rfl) ?_
  refine lv_iconst (v := 2) hx hb dL_law_1202 (by decide) ?_
  refine lv_iadd hx hb dL_law_1203 ?_
  refine va_sld hx hb hXs hbl hbA hW.2.2 (show vp_in (nI j + 2) L from s_in hj hL 2 (by decide)) dL_law_1204 ?_
  refine k_calli X hl.1 hZ hA hW ndC hcs (c_X1_lots l D cy adC e1) cw_X1_lots ql_L_146 iO_X1 rfl ⟨by decide, by decide⟩ rfl (Nat.le_of_ble_eq_true rfl) dL_law_1205 (fun H locs hW => ?_)
  refine lv_aload_n hx hb dL_law_1208 rfl (lv_at hl 1 rfl) ?_
  refine lv_aload_n hx hb dL_law_1209 rfl (lv_at hl 3 rfl) ?_
  refine lv_iload_n hx hb dL_law_1210 rfl (lv_at hl 0 rfl) ?_
  refine lv_iconst (v := 1) hx hb dL_law_1211 (by decide) ?_
  refine lv_iadd hx hb dL_law_1212 ?_
  refine va_sld hx hb hXs hbl hbA hW.2.2 (show vp_in (nI j + 1) L from s_in hj hL 1 (by decide)) dL_law_1213 ?_
  refine lv_aload_n hx hb dL_law_1214 rfl (lv_at hl 3 rfl) ?_
  refine lv_iload_n hx hb dL_law_1215 rfl (lv_at hl 0 rfl) ?_
  refine lv_iconst (v := 2) hx hb dL_law_1216 (by decide) ?_
  refine lv_iadd hx hb dL_law_1217 ?_
  refine va_sld hx hb hXs hbl hbA hW.2.2 (show vp_in (nI j + 2) L from s_in hj hL 2 (by decide)) dL_law_1218 ?_
  refine k_calli X hl.1 hZ hA hW.swap ndM hcs (c_X2_lots l D cy adM e2) cw_X2_lots ql_L_149 iO_X2 rfl ⟨by decide, by decide⟩ rfl (Nat.le_of_ble_eq_true rfl) dL_law_1219 (fun H locs hW => ?_)
  refine lv_icmp_eq (tgt := 1341) hx hb dL_law_1222 (by decide) (fun hc => ?_) (fun hc => absurd rfl hc)
  exact kk Mc' Mm' H locs hS' hW.swap
theorem lc_33 (X : Cx p s m #[Value.ref b] c cL_law 4 RL D cy) (hXs : va_X b L xs s s.heap) (hbl : b < s.heap.size) (hbA : ¬ A b) (hZ : SZ A s s.heap) (hA : ∀ q, s.heap.size ≤ q → A q) (hW : WL D A s.heap (WS 43 adC (CC adC cy) Mc ++ WS 20 adM (CM adM cy) Mm) H locs) (hS : Sim Mc Mm) (hj : j + 6 ≤ L) (hL : L ≤ 3072) (hl : lv_has ls 4 [(3, .int (nI j)), (2, .ref (adM 0)), (1, .ref (adC 0)), (0, .ref b)]) (hcs : cells ≤ 600000 ∧ slots ≤ 7302250)
    (kk : ∀ (Mc' Mm' : Mem) (H1 : Heap) (locs1 : List Loc), Sim Mc' Mm' → WL D A s.heap (WS 43 adC (CC adC cy) Mc' ++ WS 20 adM (CM adM cy) Mm') H1 locs1 → W p l e room_1 s m #[Value.ref b] below meth c H1 locs1 cells slots Q (F0 m 1341 ls [])) : W p l e room_1 s m #[Value.ref b] below meth c H locs cells slots Q (F0 m 1227 ls []) := by
  have hx := X.1
  have hb := X.2.1
  obtain ⟨r, e1, e2⟩ := tt_asked hS 
  refine lv_aload_n hx hb dL_law_1227 rfl (lv_at hl 2 rfl) ?_
  refine k_calli X hl.1 hZ hA hW ndC hcs (c_X1_asked l D cy adC e1) cw_X1_asked ql_L_150 iO_X1 rfl ⟨by decide, by decide⟩ rfl (Nat.le_of_ble_eq_true rfl) dL_law_1228 (fun H locs hW => ?_)
  refine lv_aload_n hx hb dL_law_1231 rfl (lv_at hl 1 rfl) ?_
  refine k_calli X hl.1 hZ hA hW.swap ndM hcs (c_X2_asked l D cy adM e2) cw_X2_asked ql_L_153 iO_X2 rfl ⟨by decide, by decide⟩ rfl (Nat.le_of_ble_eq_true rfl) dL_law_1232 (fun H locs hW => ?_)
  refine lv_icmp_eq (tgt := 1341) hx hb dL_law_1235 (by decide) (fun hc => ?_) (fun hc => absurd rfl hc)
  exact kk Mc Mm H locs hS hW.swap
theorem lc_34 (X : Cx p s m #[Value.ref b] c cL_law 4 RL D cy) (hXs : va_X b L xs s s.heap) (hbl : b < s.heap.size) (hbA : ¬ A b) (hZ : SZ A s s.heap) (hA : ∀ q, s.heap.size ≤ q → A q) (hW : WL D A s.heap (WS 43 adC (CC adC cy) Mc ++ WS 20 adM (CM adM cy) Mm) H locs) (hS : Sim Mc Mm) (hj : j + 6 ≤ L) (hL : L ≤ 3072) (hl : lv_has ls 4 [(3, .int (nI j)), (2, .ref (adM 0)), (1, .ref (adC 0)), (0, .ref b)]) (hcs : cells ≤ 600000 ∧ slots ≤ 7302250)
    (kk : ∀ (Mc' Mm' : Mem) (H1 : Heap) (locs1 : List Loc), Sim Mc' Mm' → WL D A s.heap (WS 43 adC (CC adC cy) Mc' ++ WS 20 adM (CM adM cy) Mm') H1 locs1 → W p l e room_1 s m #[Value.ref b] below meth c H1 locs1 cells slots Q (F0 m 1341 ls [])) : W p l e room_1 s m #[Value.ref b] below meth c H locs cells slots Q (F0 m 1240 ls []) := by
  have hx := X.1
  have hb := X.2.1
  obtain ⟨r, e1, e2⟩ := tt_upper hS 
  refine lv_aload_n hx hb dL_law_1240 rfl (lv_at hl 2 rfl) ?_
  refine k_calll X hl.1 hZ hA hW ndC hcs (c_X1_upper l D cy adC e1) cw_X1_upper ql_L_154 iO_X1 rfl ⟨by decide, by decide⟩ rfl (Nat.le_of_ble_eq_true rfl) dL_law_1241 (fun H locs hW => ?_)
  refine lv_aload_n hx hb dL_law_1244 rfl (lv_at hl 1 rfl) ?_
  refine k_calll X hl.1 hZ hA hW.swap ndM hcs (c_X2_upper l D cy adM e2) cw_X2_upper ql_L_158 iO_X2 rfl ⟨by decide, by decide⟩ rfl (Nat.le_of_ble_eq_true rfl) dL_law_1245 (fun H locs hW => ?_)
  refine W.lcmp hx hb dL_law_1248 ?_
  refine lv_if_eq (tgt := 1341) hx hb dL_law_1249 (by decide) (fun hc => ?_) (fun hc => absurd ((lg_cmp_eq _ _).mpr rfl) hc)
  exact kk Mc Mm H locs hS hW.swap
theorem lc_35 (X : Cx p s m #[Value.ref b] c cL_law 4 RL D cy) (hXs : va_X b L xs s s.heap) (hbl : b < s.heap.size) (hbA : ¬ A b) (hZ : SZ A s s.heap) (hA : ∀ q, s.heap.size ≤ q → A q) (hW : WL D A s.heap (WS 43 adC (CC adC cy) Mc ++ WS 20 adM (CM adM cy) Mm) H locs) (hS : Sim Mc Mm) (hj : j + 6 ≤ L) (hL : L ≤ 3072) (hl : lv_has ls 4 [(3, .int (nI j)), (2, .ref (adM 0)), (1, .ref (adC 0)), (0, .ref b)]) (hcs : cells ≤ 600000 ∧ slots ≤ 7302250)
    (kk : ∀ (Mc' Mm' : Mem) (H1 : Heap) (locs1 : List Loc), Sim Mc' Mm' → WL D A s.heap (WS 43 adC (CC adC cy) Mc' ++ WS 20 adM (CM adM cy) Mm') H1 locs1 → W p l e room_1 s m #[Value.ref b] below meth c H1 locs1 cells slots Q (F0 m 1341 ls [])) : W p l e room_1 s m #[Value.ref b] below meth c H locs cells slots Q (F0 m 1254 ls []) := by
  have hx := X.1
  have hb := X.2.1
  obtain ⟨r, e1, e2⟩ := tt_lower hS 
  refine lv_aload_n hx hb dL_law_1254 rfl (lv_at hl 2 rfl) ?_
  refine k_calll X hl.1 hZ hA hW ndC hcs (c_X1_lower l D cy adC e1) cw_X1_lower ql_L_159 iO_X1 rfl ⟨by decide, by decide⟩ rfl (Nat.le_of_ble_eq_true rfl) dL_law_1255 (fun H locs hW => ?_)
  refine lv_aload_n hx hb dL_law_1258 rfl (lv_at hl 1 rfl) ?_
  refine k_calll X hl.1 hZ hA hW.swap ndM hcs (c_X2_lower l D cy adM e2) cw_X2_lower ql_L_162 iO_X2 rfl ⟨by decide, by decide⟩ rfl (Nat.le_of_ble_eq_true rfl) dL_law_1259 (fun H locs hW => ?_)
  refine W.lcmp hx hb dL_law_1262 ?_
  refine lv_if_eq (tgt := 1341) hx hb dL_law_1263 (by decide) (fun hc => ?_) (fun hc => absurd ((lg_cmp_eq _ _).mpr rfl) hc)
  exact kk Mc Mm H locs hS hW.swap
theorem lc_36 (X : Cx p s m #[Value.ref b] c cL_law 4 RL D cy) (hXs : va_X b L xs s s.heap) (hbl : b < s.heap.size) (hbA : ¬ A b) (hZ : SZ A s s.heap) (hA : ∀ q, s.heap.size ≤ q → A q) (hW : WL D A s.heap (WS 43 adC (CC adC cy) Mc ++ WS 20 adM (CM adM cy) Mm) H locs) (hS : Sim Mc Mm) (hj : j + 6 ≤ L) (hL : L ≤ 3072) (hl : lv_has ls 4 [(3, .int (nI j)), (2, .ref (adM 0)), (1, .ref (adC 0)), (0, .ref b)]) (hcs : cells ≤ 600000 ∧ slots ≤ 7302250)
    (kk : ∀ (Mc' Mm' : Mem) (H1 : Heap) (locs1 : List Loc), Sim Mc' Mm' → WL D A s.heap (WS 43 adC (CC adC cy) Mc' ++ WS 20 adM (CM adM cy) Mm') H1 locs1 → W p l e room_1 s m #[Value.ref b] below meth c H1 locs1 cells slots Q (F0 m 1341 ls [])) : W p l e room_1 s m #[Value.ref b] below meth c H locs cells slots Q (F0 m 1268 ls []) := by
  have hx := X.1
  have hb := X.2.1
  obtain ⟨r, e1, e2⟩ := tt_count hS (xs (nI j + 1).toNatClampNeg)
  refine lv_aload_n hx hb dL_law_1268 rfl (lv_at hl 2 rfl) ?_
  refine lv_aload_n hx hb dL_law_1269 rfl (lv_at hl 3 rfl) ?_
  refine lv_iload_n hx hb dL_law_1270 rfl (lv_at hl 0 rfl) ?_
  refine lv_iconst (v := 1) hx hb dL_law_1271 (by decide) ?_
  refine lv_iadd hx hb dL_law_1272 ?_
  refine va_sld hx hb hXs hbl hbA hW.2.2 (show vp_in (nI j + 1) L from s_in hj hL 1 (by decide)) dL_law_1273 ?_
  refine k_calli X hl.1 hZ hA hW ndC hcs (c_X1_count l D cy adC e1) cw_X1_count ql_L_163 iO_X1 rfl ⟨by decide, by decide⟩ rfl (Nat.le_of_ble_eq_true rfl) dL_law_1274 (fun H locs hW => ?_)
  refine lv_aload_n hx hb dL_law_1277 rfl (lv_at hl 1 rfl) ?_
  refine lv_aload_n hx hb dL_law_1278 rfl (lv_at hl 3 rfl) ?_
  refine lv_iload_n hx hb dL_law_1279 rfl (lv_at hl 0 rfl) ?_
  refine lv_iconst (v := 1) hx hb dL_law_1280 (by decide) ?_
  refine lv_iadd hx hb dL_law_1281 ?_
  refine va_sld hx hb hXs hbl hbA hW.2.2 (show vp_in (nI j + 1) L from s_in hj hL 1 (by decide)) dL_law_1282 ?_
  refine k_calli X hl.1 hZ hA hW.swap ndM hcs (c_X2_count l D cy adM e2) cw_X2_count ql_L_166 iO_X2 rfl ⟨by decide, by decide⟩ rfl (Nat.le_of_ble_eq_true rfl) dL_law_1283 (fun H locs hW => ?_)
  refine lv_icmp_eq (tgt := 1341) hx hb dL_law_1286 (by decide) (fun hc => ?_) (fun hc => absurd rfl hc)
  exact kk Mc Mm H locs hS hW.swap
theorem lc_37 (X : Cx p s m #[Value.ref b] c cL_law 4 RL D cy) (hXs : va_X b L xs s s.heap) (hbl : b < s.heap.size) (hbA : ¬ A b) (hZ : SZ A s s.heap) (hA : ∀ q, s.heap.size ≤ q → A q) (hW : WL D A s.heap (WS 43 adC (CC adC cy) Mc ++ WS 20 adM (CM adM cy) Mm) H locs) (hS : Sim Mc Mm) (hj : j + 6 ≤ L) (hL : L ≤ 3072) (hl : lv_has ls 4 [(3, .int (nI j)), (2, .ref (adM 0)), (1, .ref (adC 0)), (0, .ref b)]) (hcs : cells ≤ 600000 ∧ slots ≤ 7302250)
    (kk : ∀ (Mc' Mm' : Mem) (H1 : Heap) (locs1 : List Loc), Sim Mc' Mm' → WL D A s.heap (WS 43 adC (CC adC cy) Mc' ++ WS 20 adM (CM adM cy) Mm') H1 locs1 → W p l e room_1 s m #[Value.ref b] below meth c H1 locs1 cells slots Q (F0 m 1341 ls [])) : W p l e room_1 s m #[Value.ref b] below meth c H locs cells slots Q (F0 m 1291 ls []) := by
  have hx := X.1
  have hb := X.2.1
  obtain ⟨r, e1, e2⟩ := tt_finding hS 
  refine lv_aload_n hx hb dL_law_1291 rfl (lv_at hl 2 rfl) ?_
  refine k_calli X hl.1 hZ hA hW ndC hcs (c_X1_finding l D cy adC e1) cw_X1_finding ql_L_167 iO_X1 rfl ⟨by decide, by decide⟩ rfl (Nat.le_of_ble_eq_true rfl) dL_law_1292 (fun H locs hW => ?_)
  refine lv_aload_n hx hb dL_law_1295 rfl (lv_at hl 1 rfl) ?_
  refine k_calli X hl.1 hZ hA hW.swap ndM hcs (c_X2_finding l D cy adM e2) cw_X2_finding ql_L_170 iO_X2 rfl ⟨by decide, by decide⟩ rfl (Nat.le_of_ble_eq_true rfl) dL_law_1296 (fun H locs hW => ?_)
  refine lv_icmp_eq (tgt := 1341) hx hb dL_law_1299 (by decide) (fun hc => ?_) (fun hc => absurd rfl hc)
  exact kk Mc Mm H locs hS hW.swap
theorem lc_38 (X : Cx p s m #[Value.ref b] c cL_law 4 RL D cy) (hXs : va_X b L xs s s.heap) (hbl : b < s.heap.size) (hbA : ¬ A b) (hZ : SZ A s s.heap) (hA : ∀ q, s.heap.size ≤ q → A q) (hW : WL D A s.heap (WS 43 adC (CC adC cy) Mc ++ WS 20 adM (CM adM cy) Mm) H locs) (hS : Sim Mc Mm) (hj : j + 6 ≤ L) (hL : L ≤ 3072) (hl : lv_has ls 4 [(3, .int (nI j)), (2, .ref (adM 0)), (1, .ref (adC 0)), (0, .ref b)]) (hcs : cells ≤ 600000 ∧ slots ≤ 7302250)
    (kk : ∀ (Mc' Mm' : Mem) (H1 : Heap) (locs1 : List Loc), Sim Mc' Mm' → WL D A s.heap (WS 43 adC (CC adC cy) Mc' ++ WS 20 adM (CM adM cy) Mm') H1 locs1 → W p l e room_1 s m #[Value.ref b] below meth c H1 locs1 cells slots Q (F0 m 1341 ls [])) : W p l e room_1 s m #[Value.ref b] below meth c H locs cells slots Q (F0 m 1304 ls []) := by
  have hx := X.1
  have hb := X.2.1
  obtain ⟨r, e1, e2⟩ := tt_findings hS (xs (nI j + 1).toNatClampNeg)
  refine lv_aload_n hx hb dL_law_1304 rfl (lv_at hl 2 rfl) ?_
  refine lv_aload_n hx hb dL_law_1305 rfl (lv_at hl 3 rfl) ?_
  refine lv_iload_n hx hb dL_law_1306 rfl (lv_at hl 0 rfl) ?_
  refine lv_iconst (v := 1) hx hb dL_law_1307 (by decide) ?_
  refine lv_iadd hx hb dL_law_1308 ?_
  refine va_sld hx hb hXs hbl hbA hW.2.2 (show vp_in (nI j + 1) L from s_in hj hL 1 (by decide)) dL_law_1309 ?_
  refine k_calli X hl.1 hZ hA hW ndC hcs (c_X1_findings l D cy adC e1) cw_X1_findings ql_L_171 iO_X1 rfl ⟨by decide, by decide⟩ rfl (Nat.le_of_ble_eq_true rfl) dL_law_1310 (fun H locs hW => ?_)
  refine lv_aload_n hx hb dL_law_1313 rfl (lv_at hl 1 rfl) ?_
  refine lv_aload_n hx hb dL_law_1314 rfl (lv_at hl 3 rfl) ?_
  refine lv_iload_n hx hb dL_law_1315 rfl (lv_at hl 0 rfl) ?_
  refine lv_iconst (v := 1) hx hb dL_law_1316 (by decide) ?_
  refine lv_iadd hx hb dL_law_1317 ?_
  refine va_sld hx hb hXs hbl hbA hW.2.2 (show vp_in (nI j + 1) L from s_in hj hL 1 (by decide)) dL_law_1318 ?_
  refine k_calli X hl.1 hZ hA hW.swap ndM hcs (c_X2_findings l D cy adM e2) cw_X2_findings ql_L_174 iO_X2 rfl ⟨by decide, by decide⟩ rfl (Nat.le_of_ble_eq_true rfl) dL_law_1319 (fun H locs hW => ?_)
  refine lv_icmp_eq (tgt := 1341) hx hb dL_law_1322 (by decide) (fun hc => ?_) (fun hc => absurd rfl hc)
  exact kk Mc Mm H locs hS hW.swap
theorem lc_39 (X : Cx p s m #[Value.ref b] c cL_law 4 RL D cy) (hXs : va_X b L xs s s.heap) (hbl : b < s.heap.size) (hbA : ¬ A b) (hZ : SZ A s s.heap) (hA : ∀ q, s.heap.size ≤ q → A q) (hW : WL D A s.heap (WS 43 adC (CC adC cy) Mc ++ WS 20 adM (CM adM cy) Mm) H locs) (hS : Sim Mc Mm) (hj : j + 6 ≤ L) (hL : L ≤ 3072) (hl : lv_has ls 4 [(3, .int (nI j)), (2, .ref (adM 0)), (1, .ref (adC 0)), (0, .ref b)]) (hcs : cells ≤ 600000 ∧ slots ≤ 7302250)
    (kk : ∀ (Mc' Mm' : Mem) (H1 : Heap) (locs1 : List Loc), Sim Mc' Mm' → WL D A s.heap (WS 43 adC (CC adC cy) Mc' ++ WS 20 adM (CM adM cy) Mm') H1 locs1 → W p l e room_1 s m #[Value.ref b] below meth c H1 locs1 cells slots Q (F0 m 1341 ls [])) : W p l e room_1 s m #[Value.ref b] below meth c H locs cells slots Q (F0 m 1327 ls []) := by
  have hx := X.1
  have hb := X.2.1
  obtain ⟨r, e1, e2⟩ := tt_digest hS
  refine lv_aload_n hx hb dL_law_1327 rfl (lv_at hl 2 rfl) ?_
  refine k_calll X hl.1 hZ hA hW ndC hcs (c_X1_digest l D cy adC e1) cw_X1_digest ql_L_175 iO_X1 rfl ⟨by decide, by decide⟩ rfl (Nat.le_of_ble_eq_true rfl) dL_law_1328 (fun H locs hW => ?_)
  refine lv_aload_n hx hb dL_law_1331 rfl (lv_at hl 1 rfl) ?_
  refine k_calll X hl.1 hZ hA hW.swap ndM hcs (c_X2_digest l D cy adM e2) cw_X2_digest ql_L_178 iO_X2 rfl ⟨by decide, by decide⟩ rfl (Nat.le_of_ble_eq_true rfl) dL_law_1332 (fun H locs hW => ?_)
  refine W.lcmp hx hb dL_law_1335 ?_
  refine lv_if_eq (tgt := 1341) hx hb dL_law_1336 (by decide) (fun hc => ?_) (fun hc => absurd ((lg_cmp_eq _ _).mpr rfl) hc)
  exact kk Mc Mm H locs hS hW.swap
end LC
