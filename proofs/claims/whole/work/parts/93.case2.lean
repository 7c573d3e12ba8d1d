/-! the law, case by case -/
section LC
variable {p : Program} {l : Launch} {e : Env} {s : State} {m : MethodId} {below : List Frame} {meth : Method} {c : Code} {H : Heap} {locs : List Loc} {cells slots b L j : Nat} {xs : Nat → Int32} {Q : State → Prop} {ls : Array Slot} {D : va_G} {A : Nat → Prop} {cy : Nat → ClassId} {adC adM : Nat → Nat} {Mc Mm : Mem}
theorem lc_16 (X : Cx p s m #[Value.ref b] c cL_law 4 RL D cy) (hXs : va_X b L xs s s.heap) (hbl : b < s.heap.size) (hbA : ¬ A b) (hZ : SZ A s s.heap) (hA : ∀ q, s.heap.size ≤ q → A q) (hW : WL D A s.heap (WS 43 adC (CC adC cy) Mc ++ WS 20 adM (CM adM cy) Mm) H locs) (hS : Sim Mc Mm) (hj : j + 6 ≤ L) (hL : L ≤ 3072) (hl : lv_has ls 4 [(3, .int (nI j)), (2, .ref (adM 0)), (1, .ref (adC 0)), (0, .ref b)]) (hcs : cells ≤ 600000 ∧ slots ≤ 7302250)
    (kk : ∀ (Mc' Mm' : Mem) (H1 : Heap) (locs1 : List Loc), Sim Mc' Mm' → WL D A s.heap (WS 43 adC (CC adC cy) Mc' ++ WS 20 adM (CM adM cy) Mm') H1 locs1 → W p l e room_1 s m #[Value.ref b] below meth c H1 locs1 cells slots Q (F0 m 1341 ls [])) : W p l e room_1 s m #[Value.ref b] below meth c H locs cells slots Q (F0 m 726 ls []) := by
  have hx := X.1
  have hb := X.2.1
  obtain ⟨r, Mc', Mm', e1, e2, hS'⟩ := tt_undo hS (xs (nI j + 1).toNatClampNeg)
  refine lv_aload_n hx hb dL_law_726 rfl (lv_at hl 2 rfl) ?_
  refine lv_aload_n hx hb dL_law_727 rfl (lv_at hl 3 rfl) ?_
  refine lv_iload_n hx hb dL_law_728 rfl (lv_at hl 0 rfl) ?_
  refine lv_iconst (v := 1) hx hb dL_law_729 (by decide) ?_
  refine lv_iadd hx hb dL_law_730 ?_
  refine va_sld hx hb hXs hbl hbA hW.2.2 (show vp_in (nI j + 1) L from s_in hj hL 1 (by decide)) dL_law_731 ?_
  refine k_calli X hl.1 hZ hA hW ndC hcs (c_X1_undo l D cy adC e1) cw_X1_undo ql_L_82 iO_X1 rfl ⟨by decide, by decide⟩ rfl (Nat.le_of_ble_eq_true rfl) dL_law_732 (fun H locs hW => ?_)
  refine lv_aload_n hx hb dL_law_735 rfl (lv_at hl 1 rfl) ?_
  refine lv_aload_n hx hb dL_law_736 rfl (lv_at hl 3 rfl) ?_
  refine lv_iload_n hx hb dL_law_737 rfl (lv_at hl 0 rfl) ?_
  refine lv_iconst (v := 1) hx hb dL_law_738 (by decide) ?_
  refine lv_iadd hx hb dL_law_739 ?_
  refine va_sld hx hb hXs hbl hbA hW.2.2 (show vp_in (nI j + 1) L from s_in hj hL 1 (by decide)) dL_law_740 ?_
  refine k_calli X hl.1 hZ hA hW.swap ndM hcs (c_X2_undo l D cy adM e2) cw_X2_undo ql_L_85 iO_X2 rfl ⟨by decide, by decide⟩ rfl (Nat.le_of_ble_eq_true rfl) dL_law_741 (fun H locs hW => ?_)
  refine lv_icmp_eq (tgt := 1341) hx hb dL_law_744 (by decide) (fun hc => ?_) (fun hc => absurd rfl hc)
  exact kk Mc' Mm' H locs hS' hW.swap
theorem lc_17 (X : Cx p s m #[Value.ref b] c cL_law 4 RL D cy) (hXs : va_X b L xs s s.heap) (hbl : b < s.heap.size) (hbA : ¬ A b) (hZ : SZ A s s.heap) (hA : ∀ q, s.heap.size ≤ q → A q) (hW : WL D A s.heap (WS 43 adC (CC adC cy) Mc ++ WS 20 adM (CM adM cy) Mm) H locs) (hS : Sim Mc Mm) (hj : j + 6 ≤ L) (hL : L ≤ 3072) (hl : lv_has ls 4 [(3, .int (nI j)), (2, .ref (adM 0)), (1, .ref (adC 0)), (0, .ref b)]) (hcs : cells ≤ 600000 ∧ slots ≤ 7302250)
    (kk : ∀ (Mc' Mm' : Mem) (H1 : Heap) (locs1 : List Loc), Sim Mc' Mm' → WL D A s.heap (WS 43 adC (CC adC cy) Mc' ++ WS 20 adM (CM adM cy) Mm') H1 locs1 → W p l e room_1 s m #[Value.ref b] below meth c H1 locs1 cells slots Q (F0 m 1341 ls [])) : W p l e room_1 s m #[Value.ref b] below meth c H locs cells slots Q (F0 m 749 ls []) := by
  have hx := X.1
  have hb := X.2.1
  obtain ⟨r, Mc', Mm', e1, e2, hS'⟩ := tt_keep hS (xs (nI j + 1).toNatClampNeg)
  refine lv_aload_n hx hb dL_law_749 rfl (lv_at hl 2 rfl) ?_
  refine lv_aload_n hx hb dL_law_750 rfl (lv_at hl 3 rfl) ?_
  refine lv_iload_n hx hb dL_law_751 rfl (lv_at hl 0 rfl) ?_
  refine lv_iconst (v := 1) hx hb dL_law_752 (by decide) ?_
  refine lv_iadd hx hb dL_law_753 ?_
  refine va_sld hx hb hXs hbl hbA hW.2.2 (show vp_in (nI j + 1) L from s_in hj hL 1 (by decide)) dL_law_754 ?_
  refine k_calli X hl.1 hZ hA hW ndC hcs (c_X1_keep l D cy adC e1) cw_X1_keep ql_L_86 iO_X1 rfl ⟨by decide, by decide⟩ rfl (Nat.le_of_ble_eq_true rfl) dL_law_755 (fun H locs hW => ?_)
  refine lv_aload_n hx hb dL_law_758 rfl (lv_at hl 1 rfl) ?_
  refine lv_aload_n hx hb dL_law_759 rfl (lv_at hl 3 rfl) ?_
  refine lv_iload_n hx hb dL_law_760 rfl (lv_at hl 0 rfl) ?_
  refine lv_iconst (v := 1) hx hb dL_law_761 (by decide) ?_
  refine lv_iadd hx hb dL_law_762 ?_
  refine va_sld hx hb hXs hbl hbA hW.2.2 (show vp_in (nI j + 1) L from s_in hj hL 1 (by decide)) dL_law_763 ?_
  refine k_calli X hl.1 hZ hA hW.swap ndM hcs (c_X2_keep l D cy adM e2) cw_X2_keep ql_L_89 iO_X2 rfl ⟨by decide, by decide⟩ rfl (Nat.le_of_ble_eq_true rfl) dL_law_764 (fun H locs hW => ?_)
  refine lv_icmp_eq (tgt := 1341) hx hb dL_law_767 (by decide) (fun hc => ?_) (fun hc => absurd rfl hc)
  exact kk Mc' Mm' H locs hS' hW.swap
theorem lc_18 (X : Cx p s m #[Value.ref b] c cL_law 4 RL D cy) (hXs : va_X b L xs s s.heap) (hbl : b < s.heap.size) (hbA : ¬ A b) (hZ : SZ A s s.heap) (hA : ∀ q, s.heap.size ≤ q → A q) (hW : WL D A s.heap (WS 43 adC (CC adC cy) Mc ++ WS 20 adM (CM adM cy) Mm) H locs) (hS : Sim Mc Mm) (hj : j + 6 ≤ L) (hL : L ≤ 3072) (hl : lv_has ls 4 [(3, .int (nI j)), (2, .ref (adM 0)), (1, .ref (adC 0)), (0, .ref b)]) (hcs : cells ≤ 600000 ∧ slots ≤ 7302250)
    (kk : ∀ (Mc' Mm' : Mem) (H1 : Heap) (locs1 : List Loc), Sim Mc' Mm' → WL D A s.heap (WS 43 adC (CC adC cy) Mc' ++ WS 20 adM (CM adM cy) Mm') H1 locs1 → W p l e room_1 s m #[Value.ref b] below meth c H1 locs1 cells slots Q (F0 m 1341 ls [])) : W p l e room_1 s m #[Value.ref b] below meth c H locs cells slots Q (F0 m 772 ls []) := by
  have hx := X.1
  have hb := X.2.1
  obtain ⟨r, Mc', Mm', e1, e2, hS'⟩ := tt_on hS (xs (nI j + 1).toNatClampNeg)
  refine lv_aload_n hx hb dL_law_772 rfl (lv_at hl 2 rfl) ?_
  refine lv_aload_n hx hb dL_law_773 rfl (lv_at hl 3 rfl) ?_
  refine lv_iload_n hx hb dL_law_774 rfl (lv_at hl 0 rfl) ?_
  refine lv_iconst (v := 1) hx hb dL_law_775 (by decide) ?_
  refine lv_iadd hx hb dL_law_776 ?_
  refine va_sld hx hb hXs hbl hbA hW.2.2 (show vp_in (nI j + 1) L from s_in hj hL 1 (by decide)) dL_law_777 ?_
  refine k_calli X hl.1 hZ hA hW ndC hcs (c_X1_on l D cy adC e1) cw_X1_on ql_L_90 iO_X1 rfl ⟨by decide, by decide⟩ rfl (Nat.le_of_ble_eq_true rfl) dL_law_778 (fun H locs hW => ?_)
  refine lv_aload_n hx hb dL_law_781 rfl (lv_at hl 1 rfl) ?_
  refine lv_aload_n hx hb dL_law_782 rfl (lv_at hl 3 rfl) ?_
  refine lv_iload_n hx hb dL_law_783 rfl (lv_at hl 0 rfl) ?_
  refine lv_iconst (v := 1) hx hb dL_law_784 (by decide) ?_
  refine lv_iadd hx hb dL_law_785 ?_
  refine va_sld hx hb hXs hbl hbA hW.2.2 (show vp_in (nI j + 1) L from s_in hj hL 1 (by decide)) dL_law_786 ?_
  refine k_calli X hl.1 hZ hA hW.swap ndM hcs (c_X2_on l D cy adM e2) cw_X2_on ql_L_93 iO_X2 rfl ⟨by decide, by decide⟩ rfl (Nat.le_of_ble_eq_true rfl) dL_law_787 (fun H locs hW => ?_)
  refine lv_icmp_eq (tgt := 1341) hx hb dL_law_790 (by decide) (fun hc => ?_) (fun hc => absurd rfl hc)
  exact kk Mc' Mm' H locs hS' hW.swap
theorem lc_19 (X : Cx p s m #[Value.ref b] c cL_law 4 RL D cy) (hXs : va_X b L xs s s.heap) (hbl : b < s.heap.size) (hbA : ¬ A b) (hZ : SZ A s s.heap) (hA : ∀ q, s.heap.size ≤ q → A q) (hW : WL D A s.heap (WS 43 adC (CC adC cy) Mc ++ WS 20 adM (CM adM cy) Mm) H locs) (hS : Sim Mc Mm) (hj : j + 6 ≤ L) (hL : L ≤ 3072) (hl : lv_has ls 4 [(3, .int (nI j)), (2, .ref (adM 0)), (1, .ref (adC 0)), (0, .ref b)]) (hcs : cells ≤ 600000 ∧ slots ≤ 7302250)
    (kk : ∀ (Mc' Mm' : Mem) (H1 : Heap) (locs1 : List Loc), Sim Mc' Mm' → WL D A s.heap (WS 43 adC (CC adC cy) Mc' ++ WS 20 adM (CM adM cy) Mm') H1 locs1 → W p l e room_1 s m #[Value.ref b] below meth c H1 locs1 cells slots Q (F0 m 1341 ls [])) : W p l e room_1 s m #[Value.ref b] below meth c H locs cells slots Q (F0 m 795 ls []) := by
  have hx := X.1
  have hb := X.2.1
  obtain ⟨r, Mc', Mm', e1, e2, hS'⟩ := tt_later hS (xs (nI j + 1).toNatClampNeg) (xs (nI j + 2).toNatClampNeg)
  refine lv_aload_n hx hb dL_law_795 rfl (lv_at hl 2 rfl) ?_
  refine lv_aload_n hx hb dL_law_796 rfl (lv_at hl 3 rfl) ?_
  refine lv_iload_n hx hb dL_law_797 rfl (lv_at hl 0 rfl) ?_
  refine lv_iconst (v := 1) hx hb dL_law_798 (by decide) ?_
  refine lv_iadd hx hb dL_law_799 ?_
  refine va_sld hx hb hXs hbl hbA hW.2.2 (show vp_in (nI j + 1) L from s_in hj hL 1 (by decide)) dL_law_800 ?_
  refine lv_aload_n hx hb dL_law_801 rfl (lv_at hl 3 rfl) ?_
  refine lv_iload_n hx hb dL_law_802 rfl (lv_at hl 0 rfl) ?_
  refine lv_iconst (v := 2) hx hb dL_law_803 (by decide) ?_
  refine lv_iadd hx hb dL_law_804 ?_
  refine va_sld hx hb hXs hbl hbA hW.2.2 (show vp_in (nI j + 2) L from s_in hj hL 2 (by decide)) dL_law_805 ?_
  refine k_calli X hl.1 hZ hA hW ndC hcs (c_X1_later l D cy adC e1) cw_X1_later ql_L_94 iO_X1 rfl ⟨by decide, by decide⟩ rfl (Nat.le_of_ble_eq_true rfl) dL_law_806 (fun H locs hW => ?_)
  refine lv_aload_n hx hb dL_law_809 rfl (lv_at hl 1 rfl) ?_
  refine lv_aload_n hx hb dL_law_810 rfl (lv_at hl 3 rfl) ?_
  refine lv_iload_n hx hb dL_law_811 rfl (lv_at hl 0 rfl) ?_
  refine lv_iconst (v := 1) hx hb dL_law_812 (by decide) ?_
  refine lv_iadd hx hb dL_law_813 ?_
  refine va_sld hx hb hXs hbl hbA hW.2.2 (show vp_in (nI j + 1) L from s_in hj hL 1 (by decide)) dL_law_814 ?_
  refine lv_aload_n hx hb dL_law_815 rfl (lv_at hl 3 rfl) ?_
  refine lv_iload_n hx hb dL_law_816 rfl (lv_at hl 0 rfl) ?_
  refine lv_iconst (v := 2) hx hb dL_law_817 (by decide) ?_
  refine lv_iadd hx hb dL_law_818 ?_
  refine va_sld hx hb hXs hbl hbA hW.2.2 (show vp_in (nI j + 2) L from s_in hj hL 2 (by decide)) dL_law_819 ?_
  refine k_calli X hl.1 hZ hA hW.swap ndM hcs (c_X2_later l D cy adM e2) cw_X2_later ql_L_97 iO_X2 rfl ⟨by decide, by decide⟩ rfl (Nat.le_of_ble_eq_true rfl) dL_law_820 (fun H locs hW => ?_)
  refine lv_icmp_eq (tgt := 1341) hx hb dL_law_823 (by decide) (fun hc => ?_) (fun hc => absurd rfl hc)
  exact kk Mc' Mm' H locs hS' hW.swap
theorem lc_20 (X : Cx p s m #[Value.ref b] c cL_law 4 RL D cy) (hXs : va_X b L xs s s.heap) (hbl : b < s.heap.size) (hbA : ¬ A b) (hZ : SZ A s s.heap) (hA : ∀ q, s.heap.size ≤ q → A q) (hW : WL D A s.heap (WS 43 adC (CC adC cy) Mc ++ WS 20 adM (CM adM cy) Mm) H locs) (hS : Sim Mc Mm) (hj : j + 6 ≤ L) (hL : L ≤ 3072) (hl : lv_has ls 4 [(3, .int (nI j)), (2, .ref (adM 0)), (1, .ref (adC 0)), (0, .ref b)]) (hcs : cells ≤ 600000 ∧ slots ≤ 7302250)
    (kk : ∀ (Mc' Mm' : Mem) (H1 : Heap) (locs1 : List Loc), Sim Mc' Mm' → WL D A s.heap (WS 43 adC (CC adC cy) Mc' ++ WS 20 adM (CM adM cy) Mm') H1 locs1 → W p l e room_1 s m #[Value.ref b] below meth c H1 locs1 cells slots Q (F0 m 1341 ls [])) : W p l e room_1 s m #[Value.ref b] below meth c H locs cells slots Q (F0 m 828 ls []) := by
  have hx := X.1
  have hb := X.2.1
  obtain ⟨r, Mc', Mm', e1, e2, hS'⟩ := tt_hears hS (xs (nI j + 1).toNatClampNeg) (xs (nI j + 2).toNatClampNeg) (xs (nI j + 3).toNatClampNeg)
  refine lv_aload_n hx hb dL_law_828 rfl (lv_at hl 2 rfl) ?_
  refine lv_aload_n hx hb dL_law_829 rfl (lv_at hl 3 rfl) ?_
  refine lv_iload_n hx hb dL_law_830 rfl (lv_at hl 0 rfl) ?_
  refine lv_iconst (v := 1) hx hb dL_law_831 (by decide) ?_
  refine lv_iadd hx hb dL_law_832 ?_
  refine va_sld hx hb hXs hbl hbA hW.2.2 (show vp_in (nI j + 1) L from s_in hj hL 1 (by decide)) dL_law_833 ?_
  refine lv_aload_n hx hb dL_law_834 rfl (lv_at hl 3 rfl) ?_
  refine lv_iload_n hx hb dL_law_835 rfl (lv_at hl 0 rfl) ?_
  refine lv_iconst (v := 2) hx hb dL_law_836 (by decide) ?_
  refine lv_iadd hx hb dL_law_837 ?_
  refine va_sld hx hb hXs hbl hbA hW.2.2 (show vp_in (nI j + 2) L from s_in hj hL 2 (by decide)) dL_law_838 ?_
  refine lv_aload_n hx hb dL_law_839 rfl (lv_at hl 3 rfl) ?_
  refine lv_iload_n hx hb dL_law_840 rfl (lv_at hl 0 rfl) ?_
  refine lv_iconst (v := 3) hx hb dL_law_841 (by decide) ?_
  refine lv_iadd hx hb dL_law_842 ?_
  refine va_sld hx hb hXs hbl hbA hW.2.2 (show vp_in (nI j + 3) L from s_in hj hL 3 (by decide)) dL_law_843 ?_
  refine k_calli X hl.1 hZ hA hW ndC hcs (c_X1_hears l D cy adC e1) cw_X1_hears ql_L_98 iO_X1 rfl ⟨by decide, by decide⟩ rfl (Nat.le_of_ble_eq_true rfl) dL_law_844 (fun H locs hW => ?_)
  refine lv_aload_n hx hb dL_law_847 rfl (lv_at hl 1 rfl) ?_
  refine lv_aload_n hx hb dL_law_848 rfl (lv_at hl 3 rfl) ?_
  refine lv_iload_n hx hb dL_law_849 rfl (lv_at hl 0 rfl) ?_
  refine lv_iconst (v := 1) hx hb dL_law_850 (by decide) ?_
  refine lv_iadd hx hb dL_law_851 ?_
  refine va_sld hx hb hXs hbl hbA hW.2.2 (show vp_in (nI j + 1) L from s_in hj hL 1 (by decide)) dL_law_852 ?_
  refine lv_aload_n hx hb dL_law_853 rfl (lv_at hl 3 rfl) ?_
  refine lv_iload_n hx hb dL_law_854 rfl (lv_at hl 0 rfl) ?_
  refine lv_iconst (v := 2) hx hb dL_law_855 (by decide) ?_
  refine lv_iadd hx hb dL_law_856 ?_
  refine va_sld hx hb hXs hbl hbA hW.2.2 (show vp_in (nI j + 2) L from s_in hj hL 2 (by decide)) dL_law_857 ?_
  refine lv_aload_n hx hb dL_law_858 rfl (lv_at hl 3 rfl) ?_
  refine lv_iload_n hx hb dL_law_859 rfl (lv_at hl 0 rfl) ?_
  refine lv_iconst (v := 3) hx hb dL_law_860 (by decide) ?_
  refine lv_iadd hx hb dL_law_861 ?_
  refine va_sld hx hb hXs hbl hbA hW.2.2 (show vp_in (nI j + 3) L from s_in hj hL 3 (by decide)) dL_law_862 ?_
  refine k_calli X hl.1 hZ hA hW.swap ndM hcs (c_X2_hears l D cy adM e2) cw_X2_hears ql_L_101 iO_X2 rfl ⟨by decide, by decide⟩ rfl (Nat.le_of_ble_eq_true rfl) dL_law_863 (fun H locs hW => ?_)
  refine lv_icmp_eq (tgt := 1341) hx hb dL_law_866 (by decide) (fun hc => ?_) (fun hc => absurd rfl hc)
  exact kk Mc' Mm' H locs hS' hW.swap
theorem lc_21 (X : Cx p s m #[Value.ref b] c cL_law 4 RL D cy) (hXs : va_X b L xs s s.heap) (hbl : b < s.heap.size) (hbA : ¬ A b) (hZ : SZ A s s.heap) (hA : ∀ q, s.heap.size ≤ q → A q) (hW : WL D A s.heap (WS 43 adC (CC adC cy) Mc ++ WS 20 adM (CM adM cy) Mm) H locs) (hS : Sim Mc Mm) (hj : j + 6 ≤ L) (hL : L ≤ 3072) (hl : lv_has ls 4 [(3, .int (nI j)), (2, .ref (adM 0)), (1, .ref (adC 0)), (0, .ref b)]) (hcs : cells ≤ 600000 ∧ slots ≤ 7302250)
    (kk : ∀ (Mc' Mm' : Mem) (H1 : Heap) (locs1 : List Loc), Sim Mc' Mm' → WL D A s.heap (WS 43 adC (CC adC cy) Mc' ++ WS 20 adM (CM adM cy) Mm') H1 locs1 → W p l e room_1 s m #[Value.ref b] below meth c H1 locs1 cells slots Q (F0 m 1341 ls [])) : W p l e room_1 s m #[Value.ref b] below meth c H locs cells slots Q (F0 m 871 ls []) := by
  have hx := X.1
  have hb := X.2.1
  obtain ⟨r, Mc', Mm', e1, e2, hS'⟩ := tt_finds hS (xs (nI j + 1).toNatClampNeg) (xs (nI j + 2).toNatClampNeg) (xs (nI j + 3).toNatClampNeg)
  refine lv_aload_n hx hb dL_law_871 rfl (lv_at hl 2 rfl) ?_
  refine lv_aload_n hx hb dL_law_872 rfl (lv_at hl 3 rfl) ?_
  refine lv_iload_n hx hb dL_law_873 rfl (lv_at hl 0 rfl) ?_
  refine lv_iconst (v := 1) hx hb dL_law_874 (by decide) ?_
  refine lv_iadd hx hb dL_law_875 ?_
  refine va_sld hx hb hXs hbl hbA hW.2.2 (show vp_in (nI j + 1) L from s_in hj hL 1 (by decide)) dL_law_876 ?_
  refine lv_aload_n hx hb dL_law_877 rfl (lv_at hl 3 rfl) ?_
  refine lv_iload_n hx hb dL_law_878 rfl (lv_at hl 0 rfl) ?_
  refine lv_iconst (v := 2) hx hb dL_law_879 (by decide) ?_
  refine lv_iadd hx hb dL_law_880 ?_
  refine va_sld hx hb hXs hbl hbA hW.2.2 (show vp_in (nI j + 2) L from s_in hj hL 2 (by decide)) dL_law_881 ?_
  refine lv_aload_n hx hb dL_law_882 rfl (lv_at hl 3 rfl) ?_
  refine lv_iload_n hx hb dL_law_883 rfl (lv_at hl 0 rfl) ?_
  refine lv_iconst (v := 3) hx hb dL_law_884 (by decide) ?_
  refine lv_iadd hx hb dL_law_885 ?_
  refine va_sld hx hb hXs hbl hbA hW.2.2 (show vp_in (nI j + 3) L from s_in hj hL 3 (by decide)) dL_law_886 ?_
  refine k_calli X hl.1 hZ hA hW ndC hcs (c_X1_finds l D cy adC e1) cw_X1_finds ql_L_102 iO_X1 rfl ⟨by decide, by decide⟩ rfl (Nat.le_of_ble_eq_true rfl) dL_law_887 (fun H locs hW => ?_)
  refine lv_aload_n hx hb dL_law_890 rfl (lv_at hl 1 rfl) ?_
  refine lv_aload_n hx hb dL_law_891 rfl (lv_at hl 3 rfl) ?_
  refine lv_iload_n hx hb dL_law_892 rfl (lv_at hl 0 rfl) ?_
  refine lv_iconst (v := 1) hx hb dL_law_893 (by decide) ?_
  refine lv_iadd hx hb dL_law_894 ?_
  refine va_sld hx hb hXs hbl hbA hW.2.2 (show vp_in (nI j + 1) L from s_in hj hL 1 (by decide)) dL_law_895 ?_
  refine lv_aload_n hx hb dL_law_896 rfl (lv_at hl 3 rfl) ?_
  refine lv_iload_n hx hb dL_law_897 rfl (lv_at hl 0 rfl) ?_
  refine lv_iconst (v := 2) hx hb dL_law_898 (by decide) ?_
  refine lv_iadd hx hb dL_law_899 ?_
  refine va_sld hx hb hXs hbl hbA hW.2.2 (show vp_in (nI j + 2) L from s_in hj hL 2 (by decide)) dL_law_900 ?_
  refine lv_aload_n hx hb dL_law_901 rfl (lv_at hl 3 rfl) ?_
  refine lv_iload_n hx hb dL_law_902 rfl (lv_at hl 0 rfl) ?_
  refine lv_iconst (v := 3) hx hb dL_law_903 (by decide) ?_
  refine lv_iadd hx hb dL_law_904 ?_
  refine va_sld hx hb hXs hbl hbA hW.2.2 (show vp_in (nI j + 3) L from s_in hj hL 3 (by decide)) dL_law_905 ?_
  refine k_calli X hl.1 hZ hA hW.swap ndM hcs (c_X2_finds l D cy adM e2) cw_X2_finds ql_L_105 iO_X2 rfl ⟨by decide, by decide⟩ rfl (Nat.le_of_ble_eq_true rfl) dL_law_906 (fun H locs hW => ?_)
  refine lv_icmp_eq (tgt := 1341) hx hb dL_law_909 (by decide) (fun hc => ?_) (fun hc => absurd rfl hc)
  exact kk Mc' Mm' H locs hS' hW.swap
theorem lc_22 (X : Cx p s m #[Value.ref b] c cL_law 4 RL D cy) (hXs : va_X b L xs s s.heap) (hbl : b < s.heap.size) (hbA : ¬ A b) (hZ : SZ A s s.heap) (hA : ∀ q, s.heap.size ≤ q → A q) (hW : WL D A s.heap (WS 43 adC (CC adC cy) Mc ++ WS 20 adM (CM adM cy) Mm) H locs) (hS : Sim Mc Mm) (hj : j + 6 ≤ L) (hL : L ≤ 3072) (hl : lv_has ls 4 [(3, .int (nI j)), (2, .ref (adM 0)), (1, .ref (adC 0)), (0, .ref b)]) (hcs : cells ≤ 600000 ∧ slots ≤ 7302250)
    (kk : ∀ (Mc' Mm' : Mem) (H1 : Heap) (locs1 : List Loc), Sim Mc' Mm' → WL D A s.heap (WS 43 adC (CC adC cy) Mc' ++ WS 20 adM (CM adM cy) Mm') H1 locs1 → W p l e room_1 s m #[Value.ref b] below meth c H1 locs1 cells slots Q (F0 m 1341 ls [])) : W p l e room_1 s m #[Value.ref b] below meth c H locs cells slots Q (F0 m 914 ls []) := by
  have hx := X.1
  have hb := X.2.1
  obtain ⟨r, Mc', Mm', e1, e2, hS'⟩ := tt_round hS 
  refine lv_aload_n hx hb dL_law_914 rfl (lv_at hl 2 rfl) ?_
  refine k_calli X hl.1 hZ hA hW ndC hcs (c_X1_round l D cy adC e1) cw_X1_round ql_L_106 iO_X1 rfl ⟨by decide, by decide⟩ rfl (Nat.le_of_ble_eq_true rfl) dL_law_915 (fun H locs hW => ?_)
  refine lv_aload_n hx hb dL_law_918 rfl (lv_at hl 1 rfl) ?_
  refine k_calli X hl.1 hZ hA hW.swap ndM hcs (c_X2_round l D cy adM e2) cw_X2_round ql_L_109 iO_X2 rfl ⟨by decide, by decide⟩ rfl (Nat.le_of_ble_eq_true rfl) dL_law_919 (fun H locs hW => ?_)
  refine lv_icmp_eq (tgt := 1341) hx hb dL_law_922 (by decide) (fun hc => ?_) (fun hc => absurd rfl hc)
  exact kk Mc' Mm' H locs hS' hW.swap
theorem lc_23 (X : Cx p s m #[Value.ref b] c cL_law 4 RL D cy) (hXs : va_X b L xs s s.heap) (hbl : b < s.heap.size) (hbA : ¬ A b) (hZ : SZ A s s.heap) (hA : ∀ q, s.heap.size ≤ q → A q) (hW : WL D A s.heap (WS 43 adC (CC adC cy) Mc ++ WS 20 adM (CM adM cy) Mm) H locs) (hS : Sim Mc Mm) (hj : j + 6 ≤ L) (hL : L ≤ 3072) (hl : lv_has ls 4 [(3, .int (nI j)), (2, .ref (adM 0)), (1, .ref (adC 0)), (0, .ref b)]) (hcs : cells ≤ 600000 ∧ slots ≤ 7302250)
    (kk : ∀ (Mc' Mm' : Mem) (H1 : Heap) (locs1 : List Loc), Sim Mc' Mm' → WL D A s.heap (WS 43 adC (CC adC cy) Mc' ++ WS 20 adM (CM adM cy) Mm') H1 locs1 → W p l e room_1 s m #[Value.ref b] below meth c H1 locs1 cells slots Q (F0 m 1341 ls [])) : W p l e room_1 s m #[Value.ref b] below meth c H locs cells slots Q (F0 m 927 ls []) := by
  have hx := X.1
  have hb := X.2.1
  obtain ⟨r, Mc', Mm', e1, e2, hS'⟩ := tt_left hS (xs (nI j + 1).toNatClampNeg)
  refine lv_aload_n hx hb dL_law_927 rfl (lv_at hl 2 rfl) ?_
  refine lv_aload_n hx hb dL_law_928 rfl (lv_at hl 3 rfl) ?_
  refine lv_iload_n hx hb dL_law_929 rfl (lv_at hl 0 rfl) ?_
  refine lv_iconst (v := 1) hx hb dL_law_930 (by decide) ?_
  refine lv_iadd hx hb dL_law_931 ?_
  refine va_sld hx hb hXs hbl hbA hW.2.2 (show vp_in (nI j + 1) L from s_in hj hL 1 (by decide)) dL_law_932 ?_
  refine k_calli X hl.1 hZ hA hW ndC hcs (c_X1_left l D cy adC e1) cw_X1_left ql_L_110 iO_X1 rfl ⟨by decide, by decide⟩ rfl (Nat.le_of_ble_eq_true rfl) dL_law_933 (fun H locs hW => ?_)
  refine lv_aload_n hx hb dL_law_936 rfl (lv_at hl 1 rfl) ?_
  refine lv_aload_n hx hb dL_law_937 rfl (lv_at hl 3 rfl) ?_
  refine lv_iload_n hx hb dL_law_938 rfl (lv_at hl 0 rfl) ?_
  refine lv_iconst (v := 1) hx hb dL_law_939 (by decide) ?_
  refine lv_iadd hx hb dL_law_940 ?_
  refine va_sld hx hb hXs hbl hbA hW.2.2 (show vp_in (nI j + 1) L from s_in hj hL 1 (by decide)) dL_law_941 ?_
  refine k_calli X hl.1 hZ hA hW.swap ndM hcs (c_X2_left l D cy adM e2) cw_X2_left ql_L_113 iO_X2 rfl ⟨by decide, by decide⟩ rfl (Nat.le_of_ble_eq_true rfl) dL_law_942 (fun H locs hW => ?_)
  refine lv_icmp_eq (tgt := 1341) hx hb dL_law_945 (by decide) (fun hc => ?_) (fun hc => absurd rfl hc)
  exact kk Mc' Mm' H locs hS' hW.swap
end LC
