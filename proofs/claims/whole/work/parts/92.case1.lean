/-! the law, case by case -/
section LC
variable {p : Program} {l : Launch} {e : Env} {s : State} {m : MethodId} {below : List Frame} {meth : Method} {c : Code} {H : Heap} {locs : List Loc} {cells slots b L j : Nat} {xs : Nat → Int32} {Q : State → Prop} {ls : Array Slot} {D : va_G} {A : Nat → Prop} {cy : Nat → ClassId} {adC adM : Nat → Nat} {Mc Mm : Mem}
theorem lc_8 (X : Cx p s m #[Value.ref b] c cL_law 4 RL D cy) (hXs : va_X b L xs s s.heap) (hbl : b < s.heap.size) (hbA : ¬ A b) (hZ : SZ A s s.heap) (hA : ∀ q, s.heap.size ≤ q → A q) (hW : WL D A s.heap (WS 43 adC (CC adC cy) Mc ++ WS 20 adM (CM adM cy) Mm) H locs) (hS : Sim Mc Mm) (hj : j + 6 ≤ L) (hL : L ≤ 3072) (hl : lv_has ls 4 [(3, .int (nI j)), (2, .ref (adM 0)), (1, .ref (adC 0)), (0, .ref b)]) (hcs : cells ≤ 600000 ∧ slots ≤ 7302250)
    (kk : ∀ (Mc' Mm' : Mem) (H1 : Heap) (locs1 : List Loc), Sim Mc' Mm' → WL D A s.heap (WS 43 adC (CC adC cy) Mc' ++ WS 20 adM (CM adM cy) Mm') H1 locs1 → W p l e room_1 s m #[Value.ref b] below meth c H1 locs1 cells slots Q (F0 m 1341 ls [])) : W p l e room_1 s m #[Value.ref b] below meth c H locs cells slots Q (F0 m 502 ls []) := by
  have hx := X.1
  have hb := X.2.1
  obtain ⟨r, Mc', Mm', e1, e2, hS'⟩ := tt_fault hS (xs (nI j + 1).toNatClampNeg)
  refine lv_aload_n hx hb dL_law_502 rfl (lv_at hl 2 rfl) ?_
  refine lv_aload_n hx hb dL_law_503 rfl (lv_at hl 3 rfl) ?_
  refine lv_iload_n hx hb dL_law_504 rfl (lv_at hl 0 rfl) ?_
  refine lv_iconst (v := 1) hx hb dL_law_505 (by decide) ?_
  refine lv_iadd hx hb dL_law_506 ?_
  refine va_sld hx hb hXs hbl hbA hW.2.2 (show vp_in (nI j + 1) L from s_in hj hL 1 (by decide)) dL_law_507 ?_
  refine k_calli X hl.1 hZ hA hW ndC hcs (c_X1_fault l D cy adC e1) cw_X1_fault ql_L_49 iO_X1 rfl ⟨by decide, by decide⟩ rfl (Nat.le_of_ble_eq_true rfl) dL_law_508 (fun H locs hW => ?_)
  refine lv_aload_n hx hb dL_law_511 rfl (lv_at hl 1 rfl) ?_
  refine lv_aload_n hx hb dL_law_512 rfl (lv_at hl 3 rfl) ?_
  refine lv_iload_n hx hb dL_law_513 rfl (lv_at hl 0 rfl) ?_
  refine lv_iconst (v := 1) hx hb dL_law_514 (by decide) ?_
  refine lv_iadd hx hb dL_law_515 ?_
  refine va_sld hx hb hXs hbl hbA hW.2.2 (show vp_in (nI j + 1) L from s_in hj hL 1 (by decide)) dL_law_516 ?_
  refine k_calli X hl.1 hZ hA hW.swap ndM hcs (c_X2_fault l D cy adM e2) cw_X2_fault ql_L_52 iO_X2 rfl ⟨by decide, by decide⟩ rfl (Nat.le_of_ble_eq_true rfl) dL_law_517 (fun H locs hW => ?_)
  refine lv_icmp_eq (tgt := 1341) hx hb dL_law_520 (by decide) (fun hc => ?_) (fun hc => absurd rfl hc)
  exact kk Mc' Mm' H locs hS' hW.swap
theorem lc_9 (X : Cx p s m #[Value.ref b] c cL_law 4 RL D cy) (hXs : va_X b L xs s s.heap) (hbl : b < s.heap.size) (hbA : ¬ A b) (hZ : SZ A s s.heap) (hA : ∀ q, s.heap.size ≤ q → A q) (hW : WL D A s.heap (WS 43 adC (CC adC cy) Mc ++ WS 20 adM (CM adM cy) Mm) H locs) (hS : Sim Mc Mm) (hj : j + 6 ≤ L) (hL : L ≤ 3072) (hl : lv_has ls 4 [(3, .int (nI j)), (2, .ref (adM 0)), (1, .ref (adC 0)), (0, .ref b)]) (hcs : cells ≤ 600000 ∧ slots ≤ 7302250)
    (kk : ∀ (Mc' Mm' : Mem) (H1 : Heap) (locs1 : List Loc), Sim Mc' Mm' → WL D A s.heap (WS 43 adC (CC adC cy) Mc' ++ WS 20 adM (CM adM cy) Mm') H1 locs1 → W p l e room_1 s m #[Value.ref b] below meth c H1 locs1 cells slots Q (F0 m 1341 ls [])) : W p l e room_1 s m #[Value.ref b] below meth c H locs cells slots Q (F0 m 525 ls []) := by
  have hx := X.1
  have hb := X.2.1
  obtain ⟨r, Mc', Mm', e1, e2, hS'⟩ := tt_store hS (xs (nI j + 1).toNatClampNeg)
  refine lv_aload_n hx hb dL_law_525 rfl (lv_at hl 2 rfl) ?_
  refine lv_aload_n hx hb dL_law_526 rfl (lv_at hl 3 rfl) ?_
  refine lv_iload_n hx hb dL_law_527 rfl (lv_at hl 0 rfl) ?_
  refine lv_iconst (v := 1) hx hb dL_law_528 (by decide) ?_
  refine lv_iadd hx hb dL_law_529 ?_
  refine va_sld hx hb hXs hbl hbA hW.2.2 (show vp_in (nI j + 1) L from s_in hj hL 1 (by decide)) dL_law_530 ?_
  refine k_calli X hl.1 hZ hA hW ndC hcs (c_X1_store l D cy adC e1) cw_X1_store ql_L_53 iO_X1 rfl ⟨by decide, by decide⟩ rfl (Nat.le_of_ble_eq_true rfl) dL_law_531 (fun H locs hW => ?_)
  refine lv_aload_n hx hb dL_law_534 rfl (lv_at hl 1 rfl) ?_
  refine lv_aload_n hx hb dL_law_535 rfl (lv_at hl 3 rfl) ?_
  refine lv_iload_n hx hb dL_law_536 rfl (lv_at hl 0 rfl) ?_
  refine lv_iconst (v := 1) hx hb dL_law_537 (by decide) ?_
  refine lv_iadd hx hb dL_law_538 ?_
  refine va_sld hx hb hXs hbl hbA hW.2.2 (show vp_in (nI j + 1) L from s_in hj hL 1 (by decide)) dL_law_539 ?_
  refine k_calli X hl.1 hZ hA hW.swap ndM hcs (c_X2_store l D cy adM e2) cw_X2_store ql_L_56 iO_X2 rfl ⟨by decide, by decide⟩ rfl (Nat.le_of_ble_eq_true rfl) dL_law_540 (fun H locs hW => ?_)
  refine lv_icmp_eq (tgt := 1341) hx hb dL_law_543 (by decide) (fun hc => ?_) (fun hc => absurd rfl hc)
  exact kk Mc' Mm' H locs hS' hW.swap
theorem lc_10 (X : Cx p s m #[Value.ref b] c cL_law 4 RL D cy) (hXs : va_X b L xs s s.heap) (hbl : b < s.heap.size) (hbA : ¬ A b) (hZ : SZ A s s.heap) (hA : ∀ q, s.heap.size ≤ q → A q) (hW : WL D A s.heap (WS 43 adC (CC adC cy) Mc ++ WS 20 adM (CM adM cy) Mm) H locs) (hS : Sim Mc Mm) (hj : j + 6 ≤ L) (hL : L ≤ 3072) (hl : lv_has ls 4 [(3, .int (nI j)), (2, .ref (adM 0)), (1, .ref (adC 0)), (0, .ref b)]) (hcs : cells ≤ 600000 ∧ slots ≤ 7302250)
    (kk : ∀ (Mc' Mm' : Mem) (H1 : Heap) (locs1 : List Loc), Sim Mc' Mm' → WL D A s.heap (WS 43 adC (CC adC cy) Mc' ++ WS 20 adM (CM adM cy) Mm') H1 locs1 → W p l e room_1 s m #[Value.ref b] below meth c H1 locs1 cells slots Q (F0 m 1341 ls [])) : W p l e room_1 s m #[Value.ref b] below meth c H locs cells slots Q (F0 m 548 ls []) := by
  have hx := X.1
  have hb := X.2.1
  obtain ⟨r, Mc', Mm', e1, e2, hS'⟩ := tt_tube hS (xs (nI j + 1).toNatClampNeg) (xs (nI j + 2).toNatClampNeg)
  refine lv_aload_n hx hb dL_law_548 rfl (lv_at hl 2 rfl) ?_
  refine lv_aload_n hx hb dL_law_549 rfl (lv_at hl 3 rfl) ?_
  refine lv_iload_n hx hb dL_law_550 rfl (lv_at hl 0 rfl) ?_
  refine lv_iconst (v := 1) hx hb dL_law_551 (by decide) ?_
  refine lv_iadd hx hb dL_law_552 ?_
  refine va_sld hx hb hXs hbl hbA hW.2.2 (show vp_in (nI j + 1) L from s_in hj hL 1 (by decide)) dL_law_553 ?_
  refine lv_aload_n hx hb dL_law_554 rfl (lv_at hl 3 rfl) ?_
  refine lv_iload_n hx hb dL_law_555 rfl (lv_at hl 0 rfl) ?_
  refine lv_iconst (v := 2) hx hb dL_law_556 (by decide) ?_
  refine lv_iadd hx hb dL_law_557 ?_
  refine va_sld hx hb hXs hbl hbA hW.2.2 (show vp_in (nI j + 2) L from s_in hj hL 2 (by decide)) dL_law_558 ?_
  refine k_calli X hl.1 hZ hA hW ndC hcs (c_X1_tube l D cy adC e1) cw_X1_tube ql_L_57 iO_X1 rfl ⟨by decide, by decide⟩ rfl (Nat.le_of_ble_eq_true rfl) dL_law_559 (fun H locs hW => ?_)
  refine lv_aload_n hx hb dL_law_562 rfl (lv_at hl 1 rfl) ?_
  refine lv_aload_n hx hb dL_law_563 rfl (lv_at hl 3 rfl) ?_
  refine lv_iload_n hx hb dL_law_564 rfl (lv_at hl 0 rfl) ?_
  refine lv_iconst (v := 1) hx hb dL_law_565 (by decide) ?_
  refine lv_iadd hx hb dL_law_566 ?_
  refine va_sld hx hb hXs hbl hbA hW.2.2 (show vp_in (nI j + 1) L from s_in hj hL 1 (by decide)) dL_law_567 ?_
  refine lv_aload_n hx hb dL_law_568 rfl (lv_at hl 3 rfl) ?_
  refine lv_iload_n hx hb dL_law_569 rfl (lv_at hl 0 rfl) ?_
  refine lv_iconst (v := 2) hx hb dL_law_570 (by decide) ?_
  refine lv_iadd hx hb dL_law_571 ?_
  refine va_sld hx hb hXs hbl hbA hW.2.2 (show vp_in (nI j + 2) L from s_in hj hL 2 (by decide)) dL_law_572 ?_
  refine k_calli X hl.1 hZ hA hW.swap ndM hcs (c_X2_tube l D cy adM e2) cw_X2_tube ql_L_60 iO_X2 rfl ⟨by decide, by decide⟩ rfl (Nat.le_of_ble_eq_true rfl) dL_law_573 (fun H locs hW => ?_)
  refine lv_icmp_eq (tgt := 1341) hx hb dL_law_576 (by decide) (fun hc => ?_) (fun hc => absurd rfl hc)
  exact kk Mc' Mm' H locs hS' hW.swap
theorem lc_11 (X : Cx p s m #[Value.ref b] c cL_law 4 RL D cy) (hXs : va_X b L xs s s.heap) (hbl : b < s.heap.size) (hbA : ¬ A b) (hZ : SZ A s s.heap) (hA : ∀ q, s.heap.size ≤ q → A q) (hW : WL D A s.heap (WS 43 adC (CC adC cy) Mc ++ WS 20 adM (CM adM cy) Mm) H locs) (hS : Sim Mc Mm) (hj : j + 6 ≤ L) (hL : L ≤ 3072) (hl : lv_has ls 4 [(3, .int (nI j)), (2, .ref (adM 0)), (1, .ref (adC 0)), (0, .ref b)]) (hcs : cells ≤ 600000 ∧ slots ≤ 7302250)
    (kk : ∀ (Mc' Mm' : Mem) (H1 : Heap) (locs1 : List Loc), Sim Mc' Mm' → WL D A s.heap (WS 43 adC (CC adC cy) Mc' ++ WS 20 adM (CM adM cy) Mm') H1 locs1 → W p l e room_1 s m #[Value.ref b] below meth c H1 locs1 cells slots Q (F0 m 1341 ls [])) : W p l e room_1 s m #[Value.ref b] below meth c H locs cells slots Q (F0 m 581 ls []) := by
  have hx := X.1
  have hb := X.2.1
  obtain ⟨r, Mc', Mm', e1, e2, hS'⟩ := tt_mark hS (xs (nI j + 1).toNatClampNeg) (xs (nI j + 2).toNatClampNeg)
  refine lv_aload_n hx hb dL_law_581 rfl (lv_at hl 2 rfl) ?_
  refine lv_aload_n hx hb dL_law_582 rfl (lv_at hl 3 rfl) ?_
  refine lv_iload_n hx hb dL_law_583 rfl (lv_at hl 0 rfl) ?_
  refine lv_iconst (v := 1) hx hb dL_law_584 (by decide) ?_
  refine lv_iadd hx hb dL_law_585 ?_
  refine va_sld hx hb hXs hbl hbA hW.2.2 (show vp_in (nI j + 1) L from s_in hj hL 1 (by decide)) dL_law_586 ?_
  refine lv_aload_n hx hb dL_law_587 rfl (lv_at hl 3 rfl) ?_
  refine lv_iload_n hx hb dL_law_588 rfl (lv_at hl 0 rfl) ?_
  refine lv_iconst (v := 2) hx hb dL_law_589 (by decide) ?_
  refine lv_iadd hx hb dL_law_590 ?_
  refine va_sld hx hb hXs hbl hbA hW.2.2 (show vp_in (nI j + 2) L from s_in hj hL 2 (by decide)) dL_law_591 ?_
  refine k_calli X hl.1 hZ hA hW ndC hcs (c_X1_mark l D cy adC e1) cw_X1_mark ql_L_61 iO_X1 rfl ⟨by decide, by decide⟩ rfl (Nat.le_of_ble_eq_true rfl) dL_law_592 (fun H locs hW => ?_)
  refine lv_aload_n hx hb dL_law_595 rfl (lv_at hl 1 rfl) ?_
  refine lv_aload_n hx hb dL_law_596 rfl (lv_at hl 3 rfl) ?_
  refine lv_iload_n hx hb dL_law_597 rfl (lv_at hl 0 rfl) ?_
  refine lv_iconst (v := 1) hx hb dL_law_598 (by decide) ?_
  refine lv_iadd hx hb dL_law_599 ?_
  refine va_sld hx hb hXs hbl hbA hW.2.2 (show vp_in (nI j + 1) L from s_in hj hL 1 (by decide)) dL_law_600 ?_
  refine lv_aload_n hx hb dL_law_601 rfl (lv_at hl 3 rfl) ?_
  refine lv_iload_n hx hb dL_law_602 rfl (lv_at hl 0 rfl) ?_
  refine lv_iconst (v := 2) hx hb dL_law_603 (by decide) ?_
  refine lv_iadd hx hb dL_law_604 ?_
  refine va_sld hx hb hXs hbl hbA hW.2.2 (show vp_in (nI j + 2) L from s_in hj hL 2 (by decide)) dL_law_605 ?_
  refine k_calli X hl.1 hZ hA hW.swap ndM hcs (c_X2_mark l D cy adM e2) cw_X2_mark ql_L_64 iO_X2 rfl ⟨by decide, by decide⟩ rfl (Nat.le_of_ble_eq_true rfl) dL_law_606 (fun H locs hW => ?_)
  refine lv_icmp_eq (tgt := 1341) hx hb dL_law_609 (by decide) (fun hc => ?_) (fun hc => absurd rfl hc)
  exact kk Mc' Mm' H locs hS' hW.swap
theorem lc_12 (X : Cx p s m #[Value.ref b] c cL_law 4 RL D cy) (hXs : va_X b L xs s s.heap) (hbl : b < s.heap.size) (hbA : ¬ A b) (hZ : SZ A s s.heap) (hA : ∀ q, s.heap.size ≤ q → A q) (hW : WL D A s.heap (WS 43 adC (CC adC cy) Mc ++ WS 20 adM (CM adM cy) Mm) H locs) (hS : Sim Mc Mm) (hj : j + 6 ≤ L) (hL : L ≤ 3072) (hl : lv_has ls 4 [(3, .int (nI j)), (2, .ref (adM 0)), (1, .ref (adC 0)), (0, .ref b)]) (hcs : cells ≤ 600000 ∧ slots ≤ 7302250)
    (kk : ∀ (Mc' Mm' : Mem) (H1 : Heap) (locs1 : List Loc), Sim Mc' Mm' → WL D A s.heap (WS 43 adC (CC adC cy) Mc' ++ WS 20 adM (CM adM cy) Mm') H1 locs1 → W p l e room_1 s m #[Value.ref b] below meth c H1 locs1 cells slots Q (F0 m 1341 ls [])) : W p l e room_1 s m #[Value.ref b] below meth c H locs cells slots Q (F0 m 614 ls []) := by
  have hx := X.1
  have hb := X.2.1
  obtain ⟨r, Mc', Mm', e1, e2, hS'⟩ := tt_tick hS 
  refine lv_aload_n hx hb dL_law_614 rfl (lv_at hl 2 rfl) ?_
  refine k_calli X hl.1 hZ hA hW ndC hcs (c_X1_tick l D cy adC e1) cw_X1_tick ql_L_65 iO_X1 rfl ⟨by decide, by decide⟩ rfl (Nat.le_of_ble_eq_true rfl) dL_law_615 (fun H locs hW => ?_)
  refine lv_aload_n hx hb dL_law_618 rfl (lv_at hl 1 rfl) ?_
  refine k_calli X hl.1 hZ hA hW.swap ndM hcs (c_X2_tick l D cy adM e2) cw_X2_tick ql_L_69 iO_X2 rfl ⟨by decide, by decide⟩ rfl (Nat.le_of_ble_eq_true rfl) dL_law_619 (fun H locs hW => ?_)
  refine lv_icmp_eq (tgt := 1341) hx hb dL_law_622 (by decide) (fun hc => ?_) (fun hc => absurd rfl hc)
  exact kk Mc' Mm' H locs hS' hW.swap
theorem lc_13 (X : Cx p s m #[Value.ref b] c cL_law 4 RL D cy) (hXs : va_X b L xs s s.heap) (hbl : b < s.heap.size) (hbA : ¬ A b) (hZ : SZ A s s.heap) (hA : ∀ q, s.heap.size ≤ q → A q) (hW : WL D A s.heap (WS 43 adC (CC adC cy) Mc ++ WS 20 adM (CM adM cy) Mm) H locs) (hS : Sim Mc Mm) (hj : j + 6 ≤ L) (hL : L ≤ 3072) (hl : lv_has ls 4 [(3, .int (nI j)), (2, .ref (adM 0)), (1, .ref (adC 0)), (0, .ref b)]) (hcs : cells ≤ 600000 ∧ slots ≤ 7302250)
    (kk : ∀ (Mc' Mm' : Mem) (H1 : Heap) (locs1 : List Loc), Sim Mc' Mm' → WL D A s.heap (WS 43 adC (CC adC cy) Mc' ++ WS 20 adM (CM adM cy) Mm') H1 locs1 → W p l e room_1 s m #[Value.ref b] below meth c H1 locs1 cells slots Q (F0 m 1341 ls [])) : W p l e room_1 s m #[Value.ref b] below meth c H locs cells slots Q (F0 m 627 ls []) := by
  have hx := X.1
  have hb := X.2.1
  obtain ⟨r, Mc', Mm', e1, e2, hS'⟩ := tt_set hS (xs (nI j + 1).toNatClampNeg) (xs (nI j + 2).toNatClampNeg)
  refine lv_aload_n hx hb dL_law_627 rfl (lv_at hl 2 rfl) ?_
  refine lv_aload_n hx hb dL_law_628 rfl (lv_at hl 3 rfl) ?_
  refine lv_iload_n hx hb dL_law_629 rfl (lv_at hl 0 rfl) ?_
  refine lv_iconst (v := 1) hx hb dL_law_630 (by decide) ?_
  refine lv_iadd hx hb dL_law_631 ?_
  refine va_sld hx hb hXs hbl hbA hW.2.2 (show vp_in (nI j + 1) L from s_in hj hL 1 (by decide)) dL_law_632 ?_
  refine lv_aload_n hx hb dL_law_633 rfl (lv_at hl 3 rfl) ?_
  refine lv_iload_n hx hb dL_law_634 rfl (lv_at hl 0 rfl) ?_
  refine lv_iconst (v := 2) hx hb dL_law_635 (by decide) ?_
  refine lv_iadd hx hb dL_law_636 ?_
  refine va_sld hx hb hXs hbl hbA hW.2.2 (show vp_in (nI j + 2) L from s_in hj hL 2 (by decide)) dL_law_637 ?_
  refine k_calli X hl.1 hZ hA hW ndC hcs (c_X1_set l D cy adC e1) cw_X1_set ql_L_70 iO_X1 rfl ⟨by decide, by decide⟩ rfl (Nat.le_of_ble_eq_true rfl) dL_law_638 (fun H locs hW => ?_)
  refine lv_aload_n hx hb dL_law_641 rfl (lv_at hl 1 rfl) ?_
  refine lv_aload_n hx hb dL_law_642 rfl (lv_at hl 3 rfl) ?_
  refine lv_iload_n hx hb dL_law_643 rfl (lv_at hl 0 rfl) ?_
  refine lv_iconst (v := 1) hx hb dL_law_644 (by decide) ?_
  refine lv_iadd hx hb dL_law_645 ?_
  refine va_sld hx hb hXs hbl hbA hW.2.2 (show vp_in (nI j + 1) L from s_in hj hL 1 (by decide)) dL_law_646 ?_
  refine lv_aload_n hx hb dL_law_647 rfl (lv_at hl 3 rfl) ?_
  refine lv_iload_n hx hb dL_law_648 rfl (lv_at hl 0 rfl) ?_
  refine lv_iconst (v := 2) hx hb dL_law_649 (by decide) ?_
  refine lv_iadd hx hb dL_law_650 ?_
  refine va_sld hx hb hXs hbl hbA hW.2.2 (show vp_in (nI j + 2) L from s_in hj hL 2 (by decide)) dL_law_651 ?_
  refine k_calli X hl.1 hZ hA hW.swap ndM hcs (c_X2_set l D cy adM e2) cw_X2_set ql_L_73 iO_X2 rfl ⟨by decide, by decide⟩ rfl (Nat.le_of_ble_eq_true rfl) dL_law_652 (fun H locs hW => ?_)
  refine lv_icmp_eq (tgt := 1341) hx hb dL_law_655 (by decide) (fun hc => ?_) (fun hc => absurd rfl hc)
  exact kk Mc' Mm' H locs hS' hW.swap
theorem lc_14 (X : Cx p s m #[Value.ref b] c cL_law 4 RL D cy) (hXs : va_X b L xs s s.heap) (hbl : b < s.heap.size) (hbA : ¬ A b) (hZ : SZ A s s.heap) (hA : ∀ q, s.heap.size ≤ q → A q) (hW : WL D A s.heap (WS 43 adC (CC adC cy) Mc ++ WS 20 adM (CM adM cy) Mm) H locs) (hS : Sim Mc Mm) (hj : j + 6 ≤ L) (hL : L ≤ 3072) (hl : lv_has ls 4 [(3, .int (nI j)), (2, .ref (adM 0)), (1, .ref (adC 0)), (0, .ref b)]) (hcs : cells ≤ 600000 ∧ slots ≤ 7302250)
    (kk : ∀ (Mc' Mm' : Mem) (H1 : Heap) (locs1 : List Loc), Sim Mc' Mm' → WL D A s.heap (WS 43 adC (CC adC cy) Mc' ++ WS 20 adM (CM adM cy) Mm') H1 locs1 → W p l e room_1 s m #[Value.ref b] below meth c H1 locs1 cells slots Q (F0 m 1341 ls [])) : W p l e room_1 s m #[Value.ref b] below meth c H locs cells slots Q (F0 m 660 ls []) := by
  have hx := X.1
  have hb := X.2.1
  obtain ⟨r, Mc', Mm', e1, e2, hS'⟩ := tt_swap hS (xs (nI j + 1).toNatClampNeg) (xs (nI j + 2).toNatClampNeg)
  refine lv_aload_n hx hb dL_law_660 rfl (lv_at hl 2 rfl) ?_
  refine lv_aload_n hx hb dL_law_661 rfl (lv_at hl 3 rfl) ?_
  refine lv_iload_n hx hb dL_law_662 rfl (lv_at hl 0 rfl) ?_
  refine lv_iconst (v := 1) hx hb dL_law_663 (by decide) ?_
  refine lv_iadd hx hb dL_law_664 ?_
  refine va_sld hx hb hXs hbl hbA hW.2.2 (show vp_in (nI j + 1) L from s_in hj hL 1 (by decide)) dL_law_665 ?_
  refine lv_aload_n hx hb dL_law_666 rfl (lv_at hl 3 rfl) ?_
  refine lv_iload_n hx hb dL_law_667 rfl (lv_at hl 0 rfl) ?_
  refine lv_iconst (v := 2) hx hb dL_law_668 (by decide) ?_
  refine lv_iadd hx hb dL_law_669 ?_
  refine va_sld hx hb hXs hbl hbA hW.2.2 (show vp_in (nI j + 2) L from s_in hj hL 2 (by decide)) dL_law_670 ?_
  refine k_calli X hl.1 hZ hA hW ndC hcs (c_X1_swap l D cy adC e1) cw_X1_swap ql_L_74 iO_X1 rfl ⟨by decide, by decide⟩ rfl (Nat.le_of_ble_eq_true rfl) dL_law_671 (fun H locs hW => ?_)
  refine lv_aload_n hx hb dL_law_674 rfl (lv_at hl 1 rfl) ?_
  refine lv_aload_n hx hb dL_law_675 rfl (lv_at hl 3 rfl) ?_
  refine lv_iload_n hx hb dL_law_676 rfl (lv_at hl 0 rfl) ?_
  refine lv_iconst (v := 1) hx hb dL_law_677 (by decide) ?_
  refine lv_iadd hx hb dL_law_678 ?_
  refine va_sld hx hb hXs hbl hbA hW.2.2 (show vp_in (nI j + 1) L from s_in hj hL 1 (by decide)) dL_law_679 ?_
  refine lv_aload_n hx hb dL_law_680 rfl (lv_at hl 3 rfl) ?_
  refine lv_iload_n hx hb dL_law_681 rfl (lv_at hl 0 rfl) ?_
  refine lv_iconst (v := 2) hx hb dL_law_682 (by decide) ?_
  refine lv_iadd hx hb dL_law_683 ?_
  refine va_sld hx hb hXs hbl hbA hW.2.2 (show vp_in (nI j + 2) L from s_in hj hL 2 (by decide)) dL_law_684 ?_
  refine k_calli X hl.1 hZ hA hW.swap ndM hcs (c_X2_swap l D cy adM e2) cw_X2_swap ql_L_77 iO_X2 rfl ⟨by decide, by decide⟩ rfl (Nat.le_of_ble_eq_true rfl) dL_law_685 (fun H locs hW => ?_)
  refine lv_icmp_eq (tgt := 1341) hx hb dL_law_688 (by decide) (fun hc => ?_) (fun hc => absurd rfl hc)
  exact kk Mc' Mm' H locs hS' hW.swap
theorem lc_15 (X : Cx p s m #[Value.ref b] c cL_law 4 RL D cy) (hXs : va_X b L xs s s.heap) (hbl : b < s.heap.size) (hbA : ¬ A b) (hZ : SZ A s s.heap) (hA : ∀ q, s.heap.size ≤ q → A q) (hW : WL D A s.heap (WS 43 adC (CC adC cy) Mc ++ WS 20 adM (CM adM cy) Mm) H locs) (hS : Sim Mc Mm) (hj : j + 6 ≤ L) (hL : L ≤ 3072) (hl : lv_has ls 4 [(3, .int (nI j)), (2, .ref (adM 0)), (1, .ref (adC 0)), (0, .ref b)]) (hcs : cells ≤ 600000 ∧ slots ≤ 7302250)
    (kk : ∀ (Mc' Mm' : Mem) (H1 : Heap) (locs1 : List Loc), Sim Mc' Mm' → WL D A s.heap (WS 43 adC (CC adC cy) Mc' ++ WS 20 adM (CM adM cy) Mm') H1 locs1 → W p l e room_1 s m #[Value.ref b] below meth c H1 locs1 cells slots Q (F0 m 1341 ls [])) : W p l e room_1 s m #[Value.ref b] below meth c H locs cells slots Q (F0 m 693 ls []) := by
  have hx := X.1
  have hb := X.2.1
  obtain ⟨r, Mc', Mm', e1, e2, hS'⟩ := tt_word hS (xs (nI j + 1).toNatClampNeg) (xs (nI j + 2).toNatClampNeg)
  refine lv_aload_n hx hb dL_law_693 rfl (lv_at hl 2 rfl) ?_
  refine lv_aload_n hx hb dL_law_694 rfl (lv_at hl 3 rfl) ?_
  refine lv_iload_n hx hb dL_law_695 rfl (lv_at hl 0 rfl) ?_
  refine lv_iconst (v := 1) hx hb dL_law_696 (by decide) ?_
  refine lv_iadd hx hb dL_law_697 ?_
  refine va_sld hx hb hXs hbl hbA hW.2.2 (show vp_in (nI j + 1) L from s_in hj hL 1 (by decide)) dL_law_698 ?_
  refine lv_aload_n hx hb dL_law_699 rfl (lv_at hl 3 rfl) ?_
  refine lv_iload_n hx hb dL_law_700 rfl (lv_at hl 0 rfl) ?_
  refine lv_iconst (v := 2) hx hb dL_law_701 (by decide) ?_
  refine lv_iadd hx hb dL_law_702 ?_
  refine va_sld hx hb hXs hbl hbA hW.2.2 (show vp_in (nI j + 2) L from s_in hj hL 2 (by decide)) dL_law_703 ?_
  refine k_calli X hl.1 hZ hA hW ndC hcs (c_X1_word l D cy adC e1) cw_X1_word ql_L_78 iO_X1 rfl ⟨by decide, by decide⟩ rfl (Nat.le_of_ble_eq_true rfl) dL_law_704 (fun H locs hW => ?_)
  refine lv_aload_n hx hb dL_law_707 rfl (lv_at hl 1 rfl) ?_
  refine lv_aload_n hx hb dL_law_708 rfl (lv_at hl 3 rfl) ?_
  refine lv_iload_n hx hb dL_law_709 rfl (lv_at hl 0 rfl) ?_
  refine lv_iconst (v := 1) hx hb dL_law_710 (by decide) ?_
  refine lv_iadd hx hb dL_law_711 ?_
  refine va_sld hx hb hXs hbl hbA hW.2.2 (show vp_in (nI j + 1) L from s_in hj hL 1 (by decide)) dL_law_712 ?_
  refine lv_aload_n hx hb dL_law_713 rfl (lv_at hl 3 rfl) ?_
  refine lv_iload_n hx hb dL_law_714 rfl (lv_at hl 0 rfl) ?_
  refine lv_iconst (v := 2) hx hb dL_law_715 (by decide) ?_
  refine lv_iadd hx hb dL_law_716 ?_
  refine va_sld hx hb hXs hbl hbA hW.2.2 (show vp_in (nI j + 2) L from s_in hj hL 2 (by decide)) dL_law_717 ?_
  refine k_calli X hl.1 hZ hA hW.swap ndM hcs (c_X2_word l D cy adM e2) cw_X2_word ql_L_81 iO_X2 rfl ⟨by decide, by decide⟩ rfl (Nat.le_of_ble_eq_true rfl) dL_law_718 (fun H locs hW => ?_)
  refine lv_icmp_eq (tgt := 1341) hx hb dL_law_721 (by decide) (fun hc => ?_) (fun hc => absurd rfl hc)
  exact kk Mc' Mm' H locs hS' hW.swap
end LC
