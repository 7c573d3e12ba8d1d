/-! the law, case by case -/
section LC
variable {p : Program} {l : Launch} {e : Env} {s : State} {m : MethodId} {below : List Frame} {meth : Method} {c : Code} {H : Heap} {locs : List Loc} {cells slots b L j : Nat} {xs : Nat → Int32} {Q : State → Prop} {ls : Array Slot} {D : va_G} {A : Nat → Prop} {cy : Nat → ClassId} {adC adM : Nat → Nat} {Mc Mm : Mem}
theorem lc_24 (X : Cx p s m #[Value.ref b] c cL_law 4 RL D cy) (hXs : va_X b L xs s s.heap) (hbl : b < s.heap.size) (hbA : ¬ A b) (hZ : SZ A s s.heap) (hA : ∀ q, s.heap.size ≤ q → A q) (hW : WL D A s.heap (WS 43 adC (CC adC cy) Mc ++ WS 20 adM (CM adM cy) Mm) H locs) (hS : Sim Mc Mm) (hj : j + 6 ≤ L) (hL : L ≤ 3072) (hl : lv_has ls 4 [(3, .int (nI j)), (2, .ref (adM 0)), (1, .ref (adC 0)), (0, .ref b)]) (hcs : cells ≤ 600000 ∧ slots ≤ 7302250)
    (kk : ∀ (Mc' Mm' : Mem) (H1 : Heap) (locs1 : List Loc), Sim Mc' Mm' → WL D A s.heap (WS 43 adC (CC adC cy) Mc' ++ WS 20 adM (CM adM cy) Mm') H1 locs1 → W p l e room_1 s m #[Value.ref b] below meth c H1 locs1 cells slots Q (F0 m 1341 ls [])) : W p l e room_1 s m #[Value.ref b] below meth c H locs cells slots Q (F0 m 950 ls []) := by
  have hx := X.1
  have hb := X.2.1
  obtain ⟨r, Mc', Mm', e1, e2, hS'⟩ := tt_best hS (xs (nI j + 1).toNatClampNeg)
  refine lv_aload_n hx hb dL_law_950 rfl (lv_at hl 2 rfl) ?_
  refine lv_aload_n hx hb dL_law_951 rfl (lv_at hl 3 rfl) ?_
  refine lv_iload_n hx hb dL_law_952 rfl (lv_at hl 0 rfl) ?_
  refine lv_iconst (v := 1) hx hb dL_law_953 (by decide) ?_
  refine lv_iadd hx hb dL_law_954 ?_
  refine va_sld hx hb hXs hbl hbA hW.2.2 (show vp_in (nI j + 1) L from s_in hj hL 1 (by decide)) dL_law_955 ?_
  refine k_calli X hl.1 hZ hA hW ndC hcs (c_X1_best l D cy adC e1) cw_X1_best ql_L_114 iO_X1 rfl ⟨by decide, by decide⟩ rfl (Nat.le_of_ble_eq_true rfl) dL_law_956 (fun H locs hW => ?_)
  refine lv_aload_n hx hb dL_law_959 rfl (lv_at hl 1 rfl) ?_
  refine lv_aload_n hx hb dL_law_960 rfl (lv_at hl 3 rfl) ?_
  refine lv_iload_n hx hb dL_law_961 rfl (lv_at hl 0 rfl) ?_
  refine lv_iconst (v := 1) hx hb dL_law_962 (by decide) ?_
  refine lv_iadd hx hb dL_law_963 ?_
  refine va_sld hx hb hXs hbl hbA hW.2.2 (show vp_in (nI j + 1) L from s_in hj hL 1 (by decide)) dL_law_964 ?_
  refine k_calli X hl.1 hZ hA hW.swap ndM hcs (c_X2_best l D cy adM e2) cw_X2_best ql_L_117 iO_X2 rfl ⟨by decide, by decide⟩ rfl (Nat.le_of_ble_eq_true rfl) dL_law_965 (fun H locs hW => ?_)
  refine lv_icmp_eq (tgt := 1341) hx hb dL_law_968 (by decide) (fun hc => ?_) (fun hc => absurd rfl hc)
  exact kk Mc' Mm' H locs hS' hW.swap
theorem lc_25 (X : Cx p s m #[Value.ref b] c cL_law 4 RL D cy) (hXs : va_X b L xs s s.heap) (hbl : b < s.heap.size) (hbA : ¬ A b) (hZ : SZ A s s.heap) (hA : ∀ q, s.heap.size ≤ q → A q) (hW : WL D A s.heap (WS 43 adC (CC adC cy) Mc ++ WS 20 adM (CM adM cy) Mm) H locs) (hS : Sim Mc Mm) (hj : j + 6 ≤ L) (hL : L ≤ 3072) (hl : lv_has ls 4 [(3, .int (nI j)), (2, .ref (adM 0)), (1, .ref (adC 0)), (0, .ref b)]) (hcs : cells ≤ 600000 ∧ slots ≤ 7302250)
    (kk : ∀ (Mc' Mm' : Mem) (H1 : Heap) (locs1 : List Loc), Sim Mc' Mm' → WL D A s.heap (WS 43 adC (CC adC cy) Mc' ++ WS 20 adM (CM adM cy) Mm') H1 locs1 → W p l e room_1 s m #[Value.ref b] below meth c H1 locs1 cells slots Q (F0 m 1341 ls [])) : W p l e room_1 s m #[Value.ref b] below meth c H locs cells slots Q (F0 m 973 ls []) := by
  have hx := X.1
  have hb := X.2.1
  obtain ⟨r, Mc', Mm', e1, e2, hS'⟩ := tt_safest hS (xs (nI j + 1).toNatClampNeg)
  refine lv_aload_n hx hb dL_law_973 rfl (lv_at hl 2 rfl) ?_
  refine lv_aload_n hx hb dL_law_974 rfl (lv_at hl 3 rfl) ?_
  refine lv_iload_n hx hb dL_law_975 rfl (lv_at hl 0 rfl) ?_
  refine lv_iconst (v := 1) hx hb dL_law_976 (by decide) ?_
  refine lv_iadd hx hb dL_law_977 ?_
  refine va_sld hx hb hXs hbl hbA hW.2.2 (show vp_in (nI j + 1) L from s_in hj hL 1 (by decide)) dL_law_978 ?_
  refine k_calli X hl.1 hZ hA hW ndC hcs (c_X1_safest l D cy adC e1) cw_X1_safest ql_L_118 iO_X1 rfl ⟨by decide, by decide⟩ rfl (Nat.le_of_ble_eq_true rfl) dL_law_979 (fun H locs hW => ?_)
  refine lv_aload_n hx hb dL_law_982 rfl (lv_at hl 1 rfl) ?_
  refine lv_aload_n hx hb dL_law_983 rfl (lv_at hl 3 rfl) ?_
  refine lv_iload_n hx hb dL_law_984 rfl (lv_at hl 0 rfl) ?_
  refine lv_iconst (v := 1) hx hb dL_law_985 (by decide) ?_
  refine lv_iadd hx hb dL_law_986 ?_
  refine va_sld hx hb hXs hbl hbA hW.2.2 (show vp_in (nI j + 1) L from s_in hj hL 1 (by decide)) dL_law_987 ?_
  refine k_calli X hl.1 hZ hA hW.swap ndM hcs (c_X2_safest l D cy adM e2) cw_X2_safest ql_L_121 iO_X2 rfl ⟨by decide, by decide⟩ rfl (Nat.le_of_ble_eq_true rfl) dL_law_988 (fun H locs hW => ?_)
  refine lv_icmp_eq (tgt := 1341) hx hb dL_law_991 (by decide) (fun hc => ?_) (fun hc => absurd rfl hc)
  exact kk Mc' Mm' H locs hS' hW.swap
theorem lc_26 (X : Cx p s m #[Value.ref b] c cL_law 4 RL D cy) (hXs : va_X b L xs s s.heap) (hbl : b < s.heap.size) (hbA : ¬ A b) (hZ : SZ A s s.heap) (hA : ∀ q, s.heap.size ≤ q → A q) (hW : WL D A s.heap (WS 43 adC (CC adC cy) Mc ++ WS 20 adM (CM adM cy) Mm) H locs) (hS : Sim Mc Mm) (hj : j + 6 ≤ L) (hL : L ≤ 3072) (hl : lv_has ls 4 [(3, .int (nI j)), (2, .ref (adM 0)), (1, .ref (adC 0)), (0, .ref b)]) (hcs : cells ≤ 600000 ∧ slots ≤ 7302250)
    (kk : ∀ (Mc' Mm' : Mem) (H1 : Heap) (locs1 : List Loc), Sim Mc' Mm' → WL D A s.heap (WS 43 adC (CC adC cy) Mc' ++ WS 20 adM (CM adM cy) Mm') H1 locs1 → W p l e room_1 s m #[Value.ref b] below meth c H1 locs1 cells slots Q (F0 m 1341 ls [])) : W p l e room_1 s m #[Value.ref b] below meth c H locs cells slots Q (F0 m 996 ls []) := by
  have hx := X.1
  have hb := X.2.1
  obtain ⟨r, Mc', Mm', e1, e2, hS'⟩ := tt_kinds hS (xs (nI j + 1).toNatClampNeg) (xs (nI j + 2).toNatClampNeg)
  refine lv_aload_n hx hb dL_law_996 rfl (lv_at hl 2 rfl) ?_
  refine lv_aload_n hx hb dL_law_997 rfl (lv_at hl 3 rfl) ?_
  refine lv_iload_n hx hb dL_law_998 rfl (lv_at hl 0 rfl) ?_
  refine lv_iconst (v := 1) hx hb dL_law_999 (by decide) ?_
  refine lv_iadd hx hb dL_law_1000 ?_
  refine va_sld hx hb hXs hbl hbA hW.2.2 (show vp_in (nI j + 1) L from s_in hj hL 1 (by decide)) dL_law_1001 ?_
  refine lv_aload_n hx hb dL_law_1002 rfl (lv_at hl 3 rfl) ?_
  refine lv_iload_n hx hb dL_law_1003 rfl (lv_at hl 0 rfl) ?_
  refine lv_iconst (v := 2) hx hb dL_law_1004 (by decide) ?_
  refine lv_iadd hx hb dL_law_1005 ?_
  refine va_sld hx hb hXs hbl hbA hW.2.2 (show vp_in (nI j + 2) L from s_in hj hL 2 (by decide)) dL_law_1006 ?_
  refine k_calli X hl.1 hZ hA hW ndC hcs (c_X1_kinds l D cy adC e1) cw_X1_kinds ql_L_122 iO_X1 rfl ⟨by decide, by decide⟩ rfl (Nat.le_of_ble_eq_true rfl) dL_law_1007 (fun H locs hW => ?_)
  refine lv_aload_n hx hb dL_law_1010 rfl (lv_at hl 1 rfl) ?_
  refine lv_aload_n hx hb dL_law_1011 rfl (lv_at hl 3 rfl) ?_
  refine lv_iload_n hx hb dL_law_1012 rfl (lv_at hl 0 rfl) ?_
  refine lv_iconst (v := 1) hx hb dL_law_1013 (by decide) ?_
  refine lv_iadd hx hb dL_law_1014 ?_
  refine va_sld hx hb hXs hbl hbA hW.2.2 (show vp_in (nI j + 1) L from s_in hj hL 1 (by decide)) dL_law_1015 ?_
  refine lv_aload_n hx hb dL_law_1016 rfl (lv_at hl 3 rfl) ?_
  refine lv_iload_n hx hb dL_law_1017 rfl (lv_at hl 0 rfl) ?_
  refine lv_iconst (v := 2) hx hb dL_law_1018 (by decide) ?_
  refine lv_iadd hx hb dL_law_1019 ?_
  refine va_sld hx hb hXs hbl hbA hW.2.2 (show vp_in (nI j + 2) L from s_in hj hL 2 (by decide)) dL_law_1020 ?_
  refine k_calli X hl.1 hZ hA hW.swap ndM hcs (c_X2_kinds l D cy adM e2) cw_X2_kinds ql_L_125 iO_X2 rfl ⟨by decide, by decide⟩ rfl (Nat.le_of_ble_eq_true rfl) dL_law_1021 (fun H locs hW => ?_)
  refine lv_icmp_eq (tgt := 1341) hx hb dL_law_1024 (by decide) (fun hc => ?_) (fun hc => absurd rfl hc)
  exact kk Mc' Mm' H locs hS' hW.swap
theorem lc_27 (X : Cx p s m #[Value.ref b] c cL_law 4 RL D cy) (hXs : va_X b L xs s s.heap) (hbl : b < s.heap.size) (hbA : ¬ A b) (hZ : SZ A s s.heap) (hA : ∀ q, s.heap.size ≤ q → A q) (hW : WL D A s.heap (WS 43 adC (CC adC cy) Mc ++ WS 20 adM (CM adM cy) Mm) H locs) (hS : Sim Mc Mm) (hj : j + 6 ≤ L) (hL : L ≤ 3072) (hl : lv_has ls 4 [(3, .int (nI j)), (2, .ref (adM 0)), (1, .ref (adC 0)), (0, .ref b)]) (hcs : cells ≤ 600000 ∧ slots ≤ 7302250)
    (kk : ∀ (Mc' Mm' : Mem) (H1 : Heap) (locs1 : List Loc), Sim Mc' Mm' → WL D A s.heap (WS 43 adC (CC adC cy) Mc' ++ WS 20 adM (CM adM cy) Mm') H1 locs1 → W p l e room_1 s m #[Value.ref b] below meth c H1 locs1 cells slots Q (F0 m 1341 ls [])) : W p l e room_1 s m #[Value.ref b] below meth c H locs cells slots Q (F0 m 1029 ls []) := by
  have hx := X.1
  have hb := X.2.1
  obtain ⟨r, Mc', Mm', e1, e2, hS'⟩ := tt_words hS (xs (nI j + 1).toNatClampNeg) (xs (nI j + 2).toNatClampNeg)
  refine lv_aload_n hx hb dL_law_1029 rfl (lv_at hl 2 rfl) ?_
  refine lv_aload_n hx hb dL_law_1030 rfl (lv_at hl 3 rfl) ?_
  refine lv_iload_n hx hb dL_law_1031 rfl (lv_at hl 0 rfl) ?_
  refine lv_iconst (v := 1) hx hb dL_law_1032 (by decide) ?_
  refine lv_iadd hx hb dL_law_1033 ?_
  refine va_sld hx hb hXs hbl hbA hW.2.2 (show vp_in (nI j + 1) L from s_in hj hL 1 (by decide)) dL_law_1034 ?_
  refine lv_aload_n hx hb dL_law_1035 rfl (lv_at hl 3 rfl) ?_
  refine lv_iload_n hx hb dL_law_1036 rfl (lv_at hl 0 rfl) ?_
  refine lv_iconst (v := 2) hx hb dL_law_1037 (by decide) ?_
  refine lv_iadd hx hb dL_law_1038 ?_
  refine va_sld hx hb hXs hbl hbA hW.2.2 (show vp_in (nI j + 2) L from s_in hj hL 2 (by decide)) dL_law_1039 ?_
  refine k_calli X hl.1 hZ hA hW ndC hcs (c_X1_words l D cy adC e1) cw_X1_words ql_L_126 iO_X1 rfl ⟨by decide, by decide⟩ rfl (Nat.le_of_ble_eq_true rfl) dL_law_1040 (fun H locs hW => ?_)
  refine lv_aload_n hx hb dL_law_1043 rfl (lv_at hl 1 rfl) ?_
  refine lv_aload_n hx hb dL_law_1044 rfl (lv_at hl 3 rfl) ?_
  refine lv_iload_n hx hb dL_law_1045 rfl (lv_at hl 0 rfl) ?_
  refine lv_iconst (v := 1) hx hb dL_law_1046 (by decide) ?_
  refine lv_iadd hx hb dL_law_1047 ?_
  refine va_sld hx hb hXs hbl hbA hW.2.2 (show vp_in (nI j + 1) L from s_in hj hL 1 (by decide)) dL_law_1048 ?_
  refine lv_aload_n hx hb dL_law_1049 rfl (lv_at hl 3 rfl) ?_
  refine lv_iload_n hx hb dL_law_1050 rfl (lv_at hl 0 rfl) ?_
  refine lv_iconst (v := 2) hx hb dL_law_1051 (by decide) ?_
  refine lv_iadd hx hb dL_law_1052 ?_
  refine va_sld hx hb hXs hbl hbA hW.2.2 (show vp_in (nI j + 2) L from s_in hj hL 2 (by decide)) dL_law_1053 ?_
  refine k_calli X hl.1 hZ hA hW.swap ndM hcs (c_X2_words l D cy adM e2) cw_X2_words ql_L_129 iO_X2 rfl ⟨by decide, by decide⟩ rfl (Nat.le_of_ble_eq_true rfl) dL_law_1054 (fun H locs hW => ?_)
  refine lv_icmp_eq (tgt := 1341) hx hb dL_law_1057 (by decide) (fun hc => ?_) (fun hc => absurd rfl hc)
  exact kk Mc' Mm' H locs hS' hW.swap
theorem lc_28 (X : Cx p s m #[Value.ref b] c cL_law 4 RL D cy) (hXs : va_X b L xs s s.heap) (hbl : b < s.heap.size) (hbA : ¬ A b) (hZ : SZ A s s.heap) (hA : ∀ q, s.heap.size ≤ q → A q) (hW : WL D A s.heap (WS 43 adC (CC adC cy) Mc ++ WS 20 adM (CM adM cy) Mm) H locs) (hS : Sim Mc Mm) (hj : j + 6 ≤ L) (hL : L ≤ 3072) (hl : lv_has ls 4 [(3, .int (nI j)), (2, .ref (adM 0)), (1, .ref (adC 0)), (0, .ref b)]) (hcs : cells ≤ 600000 ∧ slots ≤ 7302250)
    (kk : ∀ (Mc' Mm' : Mem) (H1 : Heap) (locs1 : List Loc), Sim Mc' Mm' → WL D A s.heap (WS 43 adC (CC adC cy) Mc' ++ WS 20 adM (CM adM cy) Mm') H1 locs1 → W p l e room_1 s m #[Value.ref b] below meth c H1 locs1 cells slots Q (F0 m 1341 ls [])) : W p l e room_1 s m #[Value.ref b] below meth c H locs cells slots Q (F0 m 1062 ls []) := by
  have hx := X.1
  have hb := X.2.1
  obtain ⟨r, Mc', Mm', e1, e2, hS'⟩ := tt_test hS (xs (nI j + 1).toNatClampNeg) (xs (nI j + 2).toNatClampNeg)
  refine lv_aload_n hx hb dL_law_1062 rfl (lv_at hl 2 rfl) ?_
  refine lv_aload_n hx hb dL_law_1063 rfl (lv_at hl 3 rfl) ?_
  refine lv_iload_n hx hb dL_law_1064 rfl (lv_at hl 0 rfl) ?_
  refine lv_iconst (v := 1) hx hb dL_law_1065 (by decide) ?_
  refine lv_iadd hx hb dL_law_1066 ?_
  refine va_sld hx hb hXs hbl hbA hW.2.2 (show vp_in (nI j + 1) L from s_in hj hL 1 (by decide)) dL_law_1067 ?_
  refine lv_aload_n hx hb dL_law_1068 rfl (lv_at hl 3 rfl) ?_
  refine lv_iload_n hx hb dL_law_1069 rfl (lv_at hl 0 rfl) ?_
  refine lv_iconst (v := 2) hx hb dL_law_1070 (by decide) ?_
  refine lv_iadd hx hb dL_law_1071 ?_
  refine va_sld hx hb hXs hbl hbA hW.2.2 (show vp_in (nI j + 2) L from s_in hj hL 2 (by decide)) dL_law_1072 ?_
  refine k_calli X hl.1 hZ hA hW ndC hcs (c_X1_test l D cy adC e1) cw_X1_test ql_L_130 iO_X1 rfl ⟨by decide, by decide⟩ rfl (Nat.le_of_ble_eq_true rfl) dL_law_1073 (fun H locs hW => ?_)
  refine lv_aload_n hx hb dL_law_1076 rfl (lv_at hl 1 rfl) ?_
  refine lv_aload_n hx hb dL_law_1077 rfl (lv_at hl 3 rfl) ?_
  refine lv_iload_n hx hb dL_law_1078 rfl (lv_at hl 0 rfl) ?_
  refine lv_iconst (v := 1) hx hb dL_law_1079 (by decide) ?_
  refine lv_iadd hx hb dL_law_1080 ?_
  refine va_sld hx hb hXs hbl hbA hW.2.2 (show vp_in (nI j + 1) L from s_in hj hL 1 (by decide)) dL_law_1081 ?_
  refine lv_aload_n hx hb dL_law_1082 rfl (lv_at hl 3 rfl) ?_
  refine lv_iload_n hx hb dL_law_1083 rfl (lv_at hl 0 rfl) ?_
  refine lv_iconst (v := 2) hx hb dL_law_1084 (by decide) ?_
  refine lv_iadd hx hb dL_law_1085 ?_
  refine va_sld hx hb hXs hbl hbA hW.2.2 (show vp_in (nI j + 2) L from s_in hj hL 2 (by decide)) dL_law_1086 ?_
  refine k_calli X hl.1 hZ hA hW.swap ndM hcs (c_X2_test l D cy adM e2) cw_X2_test ql_L_133 iO_X2 rfl ⟨by decide, by decide⟩ rfl (Nat.le_of_ble_eq_true rfl) dL_law_1087 (fun H locs hW => ?_)
  refine lv_icmp_eq (tgt := 1341) hx hb dL_law_1090 (by decide) (fun hc => ?_) (fun hc => absurd rfl hc)
  exact kk Mc' Mm' H locs hS' hW.swap
theorem lc_29 (X : Cx p s m #[Value.ref b] c cL_law 4 RL D cy) (hXs : va_X b L xs s s.heap) (hbl : b < s.heap.size) (hbA : ¬ A b) (hZ : SZ A s s.heap) (hA : ∀ q, s.heap.size ≤ q → A q) (hW : WL D A s.heap (WS 43 adC (CC adC cy) Mc ++ WS 20 adM (CM adM cy) Mm) H locs) (hS : Sim Mc Mm) (hj : j + 6 ≤ L) (hL : L ≤ 3072) (hl : lv_has ls 4 [(3, .int (nI j)), (2, .ref (adM 0)), (1, .ref (adC 0)), (0, .ref b)]) (hcs : cells ≤ 600000 ∧ slots ≤ 7302250)
    (kk : ∀ (Mc' Mm' : Mem) (H1 : Heap) (locs1 : List Loc), Sim Mc' Mm' → WL D A s.heap (WS 43 adC (CC adC cy) Mc' ++ WS 20 adM (CM adM cy) Mm') H1 locs1 → W p l e room_1 s m #[Value.ref b] below meth c H1 locs1 cells slots Q (F0 m 1341 ls [])) : W p l e room_1 s m #[Value.ref b] below meth c H locs cells slots Q (F0 m 1095 ls []) := by
  have hx := X.1
  have hb := X.2.1
  obtain ⟨r, Mc', Mm', e1, e2, hS'⟩ := tt_duel hS (xs (nI j + 1).toNatClampNeg)
  refine lv_aload_n hx hb dL_law_1095 rfl (lv_at hl 2 rfl) ?_
  refine lv_aload_n hx hb dL_law_1096 rfl (lv_at hl 3 rfl) ?_
  refine lv_iload_n hx hb dL_law_1097 rfl (lv_at hl 0 rfl) ?_
  refine lv_iconst (v := 1) hx hb dL_law_1098 (by decide) ?_
  refine lv_iadd hx hb dL_law_1099 ?_
  refine va_sld hx hb hXs hbl hbA hW.2.2 (show vp_in (nI j + 1) L from s_in hj hL 1 (by decide)) dL_law_1100 ?_
  refine k_calli X hl.1 hZ hA hW ndC hcs (c_X1_duel l D cy adC e1) cw_X1_duel ql_L_134 iO_X1 rfl ⟨by decide, by decide⟩ rfl (Nat.le_of_ble_eq_true rfl) dL_law_1101 (fun H locs hW => ?_)
  refine lv_aload_n hx hb dL_law_1104 rfl (lv_at hl 1 rfl) ?_
  refine lv_aload_n hx hb dL_law_1105 rfl (lv_at hl 3 rfl) ?_
  refine lv_iload_n hx hb dL_law_1106 rfl (lv_at hl 0 rfl) ?_
  refine lv_iconst (v := 1) hx hb dL_law_1107 (by decide) ?_
  refine lv_iadd hx hb dL_law_1108 ?_
  refine va_sld hx hb hXs hbl hbA hW.2.2 (show vp_in (nI j + 1) L from s_in hj hL 1 (by decide)) dL_law_1109 ?_
  refine k_calli X hl.1 hZ hA hW.swap ndM hcs (c_X2_duel l D cy adM e2) cw_X2_duel ql_L_137 iO_X2 rfl ⟨by decide, by decide⟩ rfl (Nat.le_of_ble_eq_true rfl) dL_law_1110 (fun H locs hW => ?_)
  refine lv_icmp_eq (tgt := 1341) hx hb dL_law_1113 (by decide) (fun hc => ?_) (fun hc => absurd rfl hc)
  exact kk Mc' Mm' H locs hS' hW.swap
theorem lc_30 (X : Cx p s m #[Value.ref b] c cL_law 4 RL D cy) (hXs : va_X b L xs s s.heap) (hbl : b < s.heap.size) (hbA : ¬ A b) (hZ : SZ A s s.heap) (hA : ∀ q, s.heap.size ≤ q → A q) (hW : WL D A s.heap (WS 43 adC (CC adC cy) Mc ++ WS 20 adM (CM adM cy) Mm) H locs) (hS : Sim Mc Mm) (hj : j + 6 ≤ L) (hL : L ≤ 3072) (hl : lv_has ls 4 [(3, .int (nI j)), (2, .ref (adM 0)), (1, .ref (adC 0)), (0, .ref b)]) (hcs : cells ≤ 600000 ∧ slots ≤ 7302250)
    (kk : ∀ (Mc' Mm' : Mem) (H1 : Heap) (locs1 : List Loc), Sim Mc' Mm' → WL D A s.heap (WS 43 adC (CC adC cy) Mc' ++ WS 20 adM (CM adM cy) Mm') H1 locs1 → W p l e room_1 s m #[Value.ref b] below meth c H1 locs1 cells slots Q (F0 m 1341 ls [])) : W p l e room_1 s m #[Value.ref b] below meth c H locs cells slots Q (F0 m 1118 ls []) := by
  have hx := X.1
  have hb := X.2.1
  obtain ⟨r, Mc', Mm', e1, e2, hS'⟩ := tt_odds hS (xs (nI j + 1).toNatClampNeg) (xs (nI j + 2).toNatClampNeg) (xs (nI j + 3).toNatClampNeg)
  refine lv_aload_n hx hb dL_law_1118 rfl (lv_at hl 2 rfl) ?_
  refine lv_aload_n hx hb dL_law_1119 rfl (lv_at hl 3 rfl) ?_
  refine lv_iload_n hx hb dL_law_1120 rfl (lv_at hl 0 rfl) ?_
  refine lv_iconst (v := 1) hx hb dL_law_1121 (by decide) ?_
  refine lv_iadd hx hb dL_law_1122 ?_
  refine va_sld hx hb hXs hbl hbA hW.2.2 (show vp_in (nI j + 1) L from s_in hj hL 1 (by decide)) dL_law_1123 ?_
  refine lv_aload_n hx hb dL_law_1124 rfl (lv_at hl 3 rfl) ?_
  refine lv_iload_n hx hb dL_law_1125 rfl (lv_at hl 0 rfl) ?_
  refine lv_iconst (v := 2) hx hb dL_law_1126 (by decide) ?_
  refine lv_iadd hx hb dL_law_1127 ?_
  refine va_sld hx hb hXs hbl hbA hW.2.2 (show vp_in (nI j + 2) L from s_in hj hL 2 (by decide)) dL_law_1128 ?_
  refine lv_aload_n hx hb dL_law_1129 rfl (lv_at hl 3 rfl) ?_
  refine lv_iload_n hx hb dL_law_1130 rfl (lv_at hl 0 rfl) ?_
  refine lv_iconst (v := 3) hx hb dL_law_1131 (by decide) ?_
  refine lv_iadd hx hb dL_law_1132 ?_
  refine va_sld hx hb hXs hbl hbA hW.2.2 (show vp_in (nI j + 3) L from s_in hj hL 3 (by decide)) dL_law_1133 ?_
  refine k_calli X hl.1 hZ hA hW ndC hcs (c_X1_odds l D cy adC e1) cw_X1_odds ql_L_138 iO_X1 rfl ⟨by decide, by decide⟩ rfl (Nat.le_of_ble_eq_true rfl) dL_law_1134 (fun H locs hW => ?_)
  refine lv_aload_n hx hb dL_law_1137 rfl (lv_at hl 1 rfl) ?_
  refine lv_aload_n hx hb dL_law_1138 rfl (lv_at hl 3 rfl) ?_
  refine lv_iload_n hx hb dL_law_1139 rfl (lv_at hl 0 rfl) ?_
  refine lv_iconst (v := 1) hx hb dL_law_1140 (by decide) ?_
  refine lv_iadd hx hb dL_law_1141 ?_
  refine va_sld hx hb hXs hbl hbA hW.2.2 (show vp_in (nI j + 1) L from s_in hj hL 1 (by decide)) dL_law_1142 ?_
  refine lv_aload_n hx hb dL_law_1143 rfl (lv_at hl 3 rfl) ?_
  refine lv_iload_n hx hb dL_law_1144 rfl (lv_at hl 0 rfl) ?_
  refine lv_iconst (v := 2) hx hb dL_law_1145 (by decide) ?_
  refine lv_iadd hx hb dL_law_1146 ?_
  refine va_sld hx hb hXs hbl hbA hW.2.2 (show vp_in (nI j + 2) L from s_in hj hL 2 (by decide)) dL_law_1147 ?_
  refine lv_aload_n hx hb dL_law_1148 rfl (lv_at hl 3 rfl) ?_
  refine lv_iload_n hx hb dL_law_1149 rfl (lv_at hl 0 rfl) ?_
  refine lv_iconst (v := 3) hx hb dL_law_1150 (by decide) ?_
  refine lv_iadd hx hb dL_law_1151 ?_
  refine va_sld hx hb hXs hbl hbA hW.2.2 (show vp_in (nI j + 3) L from s_in hj hL 3 (by decide)) dL_law_1152 ?_
  refine k_calli X hl.1 hZ hA hW.swap ndM hcs (c_X2_odds l D cy adM e2) cw_X2_odds ql_L_141 iO_X2 rfl ⟨by decide, by decide⟩ rfl (Nat.le_of_ble_eq_true rfl) dL_law_1153 (fun H locs hW => ?_)
  refine lv_icmp_eq (tgt := 1341) hx hb dL_law_1156 (by decide) (fun hc => ?_) (fun hc => absurd rfl hc)
  exact kk Mc' Mm' H locs hS' hW.swap
theorem lc_31 (X : Cx p s m #[Value.ref b] c cL_law 4 RL D cy) (hXs : va_X b L xs s s.heap) (hbl : b < s.heap.size) (hbA : ¬ A b) (hZ : SZ A s s.heap) (hA : ∀ q, s.heap.size ≤ q → A q) (hW : WL D A s.heap (WS 43 adC (CC adC cy) Mc ++ WS 20 adM (CM adM cy) Mm) H locs) (hS : Sim Mc Mm) (hj : j + 6 ≤ L) (hL : L ≤ 3072) (hl : lv_has ls 4 [(3, .int (nI j)), (2, .ref (adM 0)), (1, .ref (adC 0)), (0, .ref b)]) (hcs : cells ≤ 600000 ∧ slots ≤ 7302250)
    (kk : ∀ (Mc' Mm' : Mem) (H1 : Heap) (locs1 : List Loc), Sim Mc' Mm' → WL D A s.heap (WS 43 adC (CC adC cy) Mc' ++ WS 20 adM (CM adM cy) Mm') H1 locs1 → W p l e room_1 s m #[Value.ref b] below meth c H1 locs1 cells slots Q (F0 m 1341 ls [])) : W p l e room_1 s m #[Value.ref b] below meth c H locs cells slots Q (F0 m 1161 ls []) := by
  have hx := X.1
  have hb := X.2.1
  obtain ⟨r, Mc', Mm', e1, e2, hS'⟩ := tt_mid hS (xs (nI j + 1).toNatClampNeg) (xs (nI j + 2).toNatClampNeg)
  refine lv_aload_n hx hb dL_law_1161 rfl (lv_at hl 2 rfl) ?_
  refine lv_aload_n hx hb dL_law_1162 rfl (lv_at hl 3 rfl) ?_
  refine lv_iload_n hx hb dL_law_1163 rfl (lv_at hl 0 rfl) ?_
  refine lv_iconst (v := 1) hx hb dL_law_1164 (by decide) ?_
  refine lv_iadd hx hb dL_law_1165 ?_
  refine va_sld hx hb hXs hbl hbA hW.2.2 (show vp_in (nI j + 1) L from s_in hj hL 1 (by decide)) dL_law_1166 ?_
  refine lv_aload_n hx hb dL_law_1167 rfl (lv_at hl 3 rfl) ?_
  refine lv_iload_n hx hb dL_law_1168 rfl (lv_at hl 0 rfl) ?_
  refine lv_iconst (v := 2) hx hb dL_law_1169 (by decide) ?_
  refine lv_iadd hx hb dL_law_1170 ?_
  refine va_sld hx hb hXs hbl hbA hW.2.2 (show vp_in (nI j + 2) L from s_in hj hL 2 (by decide)) dL_law_1171 ?_
  refine k_calli X hl.1 hZ hA hW ndC hcs (c_X1_mid l D cy adC e1) cw_X1_mid ql_L_142 iO_X1 rfl ⟨by decide, by decide⟩ rfl (Nat.le_of_ble_eq_true rfl) dL_law_1172 (fun H locs hW => ?_)
  refine lv_aload_n hx hb dL_law_1175 rfl (lv_at hl 1 rfl) ?_
  refine lv_aload_n hx hb dL_law_1176 rfl (lv_at hl 3 rfl) ?_
  refine lv_iload_n hx hb dL_law_1177 rfl (lv_at hl 0 rfl) ?_
  refine lv_iconst (v := 1) hx hb dL_law_1178 (by decide) ?_
  refine lv_iadd hx hb dL_law_1179 ?_
  refine va_sld hx hb hXs hbl hbA hW.2.2 (show vp_in (nI j + 1) L from s_in hj hL 1 (by decide)) dL_law_1180 ?_
  refine lv_aload_n hx hb dL_law_1181 rfl (lv_at hl 3 rfl) ?_
  refine lv_iload_n hx hb dL_law_1182 rfl (lv_at hl 0 rfl) ?_
  refine lv_iconst (v := 2) hx hb dL_law_1183 (by decide) ?_
  refine lv_iadd hx hb dL_law_1184 ?_
  refine va_sld hx hb hXs hbl hbA hW.2.2 (show vp_in (nI j + 2) L from s_in hj hL 2 (by decide)) dL_law_1185 ?_
  refine k_calli X hl.1 hZ hA hW.swap ndM hcs (c_X2_mid l D cy adM e2) cw_X2_mid ql_L_145 iO_X2 rfl ⟨by decide, by decide⟩ rfl (Nat.le_of_ble_eq_true rfl) dL_law_1186 (fun H locs hW => ?_)
  refine lv_icmp_eq (tgt := 1341) hx hb dL_law_1189 (by decide) (fun hc => ?_) (fun hc => absurd rfl hc)
  exact kk Mc' Mm' H locs hS' hW.swap
end LC
