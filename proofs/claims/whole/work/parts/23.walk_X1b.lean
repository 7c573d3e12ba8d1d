/-! walks, by program out of the listing: 23.walk_X1b -/
def f_X1_tube (v1 : Int32) (v2 : Int32) (M : Mem) : Option (Int32 × Mem) :=
  (bR (f_X0_has 15 v1 M) (fun r5 => (if r5 = 0 then (some ((-1), M)) else (bR (f_X1_isWithin v2 0 6 M) (fun r15 => (if r15 = 0 then (some ((-1), M)) else (bR (f_X0_fact 15 v1 v2 M) (fun r30 => (lt (sI M 0 13 r30) (fun M33 => (some (1, M33))))))))))))
set_option maxHeartbeats 4000000 in
set_option maxRecDepth 100000 in
theorem c_X1_tube (l : Launch) (D : va_G) (cy : Nat → ClassId) (ad : Nat → Nat)   {v1 : Int32} {v2 : Int32} {M M' : Mem} {r : Int32} (hf : f_X1_tube v1 v2 M = some (r, M')) : MetX l 43 (CC ad cy) D cy ad yX1_tube cX1_tube 3 (some .int) 4 [.ref (ad 0), .int v1, .int v2] M (fun A => QI r M' 43 (CC ad cy) D cy ad A) := by
  refine MetX.of (own := RX1) (by decide) rfl (Nat.le_of_ble_eq_true rfl) ?_
  intro p e s m below meth c A Q ls X hr hlk hZ hA hQ hW hl
  have hl : lv_has ls 3 [(0, .ref (ad 0)), (1, .int v1), (2, .int v2)] := hl
  have hx := X.1
  have hb := X.2.1
  obtain ⟨H, hH⟩ : ∃ H, H = s.heap := ⟨_, rfl⟩
  obtain ⟨locs, hlo⟩ : ∃ q : List Loc, q = [] := ⟨_, rfl⟩
  have hW : Wd D 43 ad (CC ad cy) A s.heap M H locs := by rw [hH, hlo]; exact hW
  suffices hh : W p l e (rmD 4) s m ([.ref (ad 0), .int v1, .int v2] : List Value).toArray below meth c H locs 0 0 Q (F0 m 0 ls []) by rw [hH, hlo] at hh; exact hh
  unfold f_X1_tube at hf
  refine lv_aload_n hx hb dX1_tube_0 rfl (lv_at hl 0 rfl) ?_
  refine gf_X1_29 X hW dX1_tube_1 ?_
  refine lv_iload_n hx hb dX1_tube_4 rfl (lv_at hl 1 rfl) ?_
  obtain ⟨r5, h5, hf⟩ := bR_some hf
  refine g_calliN (host := "TubeWords") X hl.1 hZ hA hW (c_X0_has l D cy ad isSt15 h5) cw_X0_has (by decide +kernel) (iO_st isSt15) rfl (by decide) rfl (Nat.le_of_ble_eq_true rfl) dX1_tube_5 (fun H locs hW => ?_)
  refine lv_if_eq (tgt := 21) hx hb dX1_tube_8 (by decide) (fun hc => ?_) (fun hc => ?_)
  · replace hf := ifp hc hf
    refine lv_iconst (v := (-1)) hx hb dX1_tube_21 (by decide) ?_
    exact g_iret X hr hlk hQ hW dX1_tube_22 hf
  · replace hf := ifn hc hf
    refine lv_iload_n hx hb dX1_tube_11 rfl (lv_at hl 2 rfl) ?_
    refine lv_iconst (v := 0) hx hb dX1_tube_12 (by decide) ?_
    refine lv_bipush (v := 6) hx hb dX1_tube_13 (by decide) ?_
    obtain ⟨r15, h15, hf⟩ := bR_some hf
    refine g_calliS X hl.1 hZ hA hW (c_X1_isWithin l D cy ad h15) cs_X1_isWithin ql_X1_114 rfl (by decide) rfl (Nat.le_of_ble_eq_true rfl) dX1_tube_15 (fun H locs hW => ?_)
    refine lv_if_ne (tgt := 23) hx hb dX1_tube_18 (by decide) (fun hc => ?_) (fun hc => ?_)
    · replace hf := ifn hc hf
      refine lv_aload_n hx hb dX1_tube_23 rfl (lv_at hl 0 rfl) ?_
      refine lv_aload_n hx hb dX1_tube_24 rfl (lv_at hl 0 rfl) ?_
      refine gf_X1_29 X hW dX1_tube_25 ?_
      refine lv_iload_n hx hb dX1_tube_28 rfl (lv_at hl 1 rfl) ?_
      refine lv_iload_n hx hb dX1_tube_29 rfl (lv_at hl 2 rfl) ?_
      obtain ⟨r30, h30, hf⟩ := bR_some hf
      refine g_calliN (host := "TubeWords") X hl.1 hZ hA hW (c_X0_fact l D cy ad isSt15 h30) cw_X0_fact (by decide +kernel) (iO_st isSt15) rfl (by decide) rfl (Nat.le_of_ble_eq_true rfl) dX1_tube_30 (fun H locs hW => ?_)
      refine gp_X1_58 X hW dX1_tube_33 (fun H locs hW => ?_)
      obtain ⟨M33, e33, hf⟩ := lt_some hf
      have hW : Wd D 43 ad (CC ad cy) A s.heap M33 H locs := by rw [e33]; exact hW
      refine lv_iconst (v := 1) hx hb dX1_tube_36 (by decide) ?_
      exact g_iret X hr hlk hQ hW dX1_tube_37 hf
    · replace hf := ifp hc hf
      refine lv_iconst (v := (-1)) hx hb dX1_tube_21 (by decide) ?_
      exact g_iret X hr hlk hQ hW dX1_tube_22 hf

def f_X1_mark (v1 : Int32) (v2 : Int32) (M : Mem) : Option (Int32 × Mem) :=
  (bR (f_X0_has 15 v1 M) (fun r5 => (if r5 = 0 then (some ((-1), M)) else (bR (f_X1_isWithin v2 1 5 M) (fun r14 => (if r14 = 0 then (some ((-1), M)) else (bR (f_X0_isOf 15 v1 v2 M) (fun r28 => (if r28 = 0 then (bI (f_X1_refuse 3 M) (fun r36 M36 => (some (r36, M36)))) else (bR (f_X0_tells 15 v1 v2 M) (fun r46 => (some (r46, M)))))))))))))
set_option maxHeartbeats 4000000 in
set_option maxRecDepth 100000 in
theorem c_X1_mark (l : Launch) (D : va_G) (cy : Nat → ClassId) (ad : Nat → Nat)   {v1 : Int32} {v2 : Int32} {M M' : Mem} {r : Int32} (hf : f_X1_mark v1 v2 M = some (r, M')) : MetX l 43 (CC ad cy) D cy ad yX1_mark cX1_mark 3 (some .int) 4 [.ref (ad 0), .int v1, .int v2] M (fun A => QI r M' 43 (CC ad cy) D cy ad A) := by
  refine MetX.of (own := RX1) (by decide) rfl (Nat.le_of_ble_eq_true rfl) ?_
  intro p e s m below meth c A Q ls X hr hlk hZ hA hQ hW hl
  have hl : lv_has ls 3 [(0, .ref (ad 0)), (1, .int v1), (2, .int v2)] := hl
  have hx := X.1
  have hb := X.2.1
  obtain ⟨H, hH⟩ : ∃ H, H = s.heap := ⟨_, rfl⟩
  obtain ⟨locs, hlo⟩ : ∃ q : List Loc, q = [] := ⟨_, rfl⟩
  have hW : Wd D 43 ad (CC ad cy) A s.heap M H locs := by rw [hH, hlo]; exact hW
  suffices hh : W p l e (rmD 4) s m ([.ref (ad 0), .int v1, .int v2] : List Value).toArray below meth c H locs 0 0 Q (F0 m 0 ls []) by rw [hH, hlo] at hh; exact hh
  unfold f_X1_mark at hf
  refine lv_aload_n hx hb dX1_mark_0 rfl (lv_at hl 0 rfl) ?_
  refine gf_X1_29 X hW dX1_mark_1 ?_
  refine lv_iload_n hx hb dX1_mark_4 rfl (lv_at hl 1 rfl) ?_
  obtain ⟨r5, h5, hf⟩ := bR_some hf
  refine g_calliN (host := "TubeWords") X hl.1 hZ hA hW (c_X0_has l D cy ad isSt15 h5) cw_X0_has (by decide +kernel) (iO_st isSt15) rfl (by decide) rfl (Nat.le_of_ble_eq_true rfl) dX1_mark_5 (fun H locs hW => ?_)
  refine lv_if_eq (tgt := 20) hx hb dX1_mark_8 (by decide) (fun hc => ?_) (fun hc => ?_)
  · replace hf := ifp hc hf
    refine lv_iconst (v := (-1)) hx hb dX1_mark_20 (by decide) ?_
    exact g_iret X hr hlk hQ hW dX1_mark_21 hf
  · replace hf := ifn hc hf
    refine lv_iload_n hx hb dX1_mark_11 rfl (lv_at hl 2 rfl) ?_
    refine lv_iconst (v := 1) hx hb dX1_mark_12 (by decide) ?_
    refine lv_iconst (v := 5) hx hb dX1_mark_13 (by decide) ?_
    obtain ⟨r14, h14, hf⟩ := bR_some hf
    refine g_calliS X hl.1 hZ hA hW (c_X1_isWithin l D cy ad h14) cs_X1_isWithin ql_X1_114 rfl (by decide) rfl (Nat.le_of_ble_eq_true rfl) dX1_mark_14 (fun H locs hW => ?_)
    refine lv_if_ne (tgt := 22) hx hb dX1_mark_17 (by decide) (fun hc => ?_) (fun hc => ?_)
    · replace hf := ifn hc hf
      refine lv_aload_n hx hb dX1_mark_22 rfl (lv_at hl 0 rfl) ?_
      refine gf_X1_29 X hW dX1_mark_23 ?_
      refine lv_iload_n hx hb dX1_mark_26 rfl (lv_at hl 1 rfl) ?_
      refine lv_iload_n hx hb dX1_mark_27 rfl (lv_at hl 2 rfl) ?_
      obtain ⟨r28, h28, hf⟩ := bR_some hf
      refine g_calliN (host := "TubeWords") X hl.1 hZ hA hW (c_X0_isOf l D cy ad isSt15 h28) cw_X0_isOf (by decide +kernel) (iO_st isSt15) rfl (by decide) rfl (Nat.le_of_ble_eq_true rfl) dX1_mark_28 (fun H locs hW => ?_)
      refine lv_if_ne (tgt := 40) hx hb dX1_mark_31 (by decide) (fun hc => ?_) (fun hc => ?_)
      · replace hf := ifn hc hf
        refine lv_aload_n hx hb dX1_mark_40 rfl (lv_at hl 0 rfl) ?_
        refine gf_X1_29 X hW dX1_mark_41 ?_
        refine lv_iload_n hx hb dX1_mark_44 rfl (lv_at hl 1 rfl) ?_
        refine lv_iload_n hx hb dX1_mark_45 rfl (lv_at hl 2 rfl) ?_
        obtain ⟨r46, h46, hf⟩ := bR_some hf
        refine g_calliN (host := "TubeWords") X hl.1 hZ hA hW (c_X0_tells l D cy ad isSt15 h46) cw_X0_tells (by decide +kernel) (iO_st isSt15) rfl (by decide) rfl (Nat.le_of_ble_eq_true rfl) dX1_mark_46 (fun H locs hW => ?_)
        exact g_iret X hr hlk hQ hW dX1_mark_49 hf
      · replace hf := ifp hc hf
        refine lv_aload_n hx hb dX1_mark_34 rfl (lv_at hl 0 rfl) ?_
        refine lv_iconst (v := 3) hx hb dX1_mark_35 (by decide) ?_
        obtain ⟨r36, M36, h36, hf⟩ := bI_some hf
        refine g_calliV X hl.1 hZ hA hW (c_X1_refuse l D cy ad h36) cw_X1_refuse ql_X1_72 iO_X1 rfl (by decide) rfl (Nat.le_of_ble_eq_true rfl) dX1_mark_36 (fun H locs hW => ?_)
        exact g_iret X hr hlk hQ hW dX1_mark_39 hf
    · replace hf := ifp hc hf
      refine lv_iconst (v := (-1)) hx hb dX1_mark_20 (by decide) ?_
      exact g_iret X hr hlk hQ hW dX1_mark_21 hf

def f_X1_hasRoomFor (v1 : Int32) (M : Mem) : Option Int32 :=
  (if 40 < ((M.1 0 7) + v1) then (some 0) else (some 1))
set_option maxHeartbeats 4000000 in
set_option maxRecDepth 100000 in
theorem c_X1_hasRoomFor (l : Launch) (D : va_G) (cy : Nat → ClassId) (ad : Nat → Nat)   {v1 : Int32} {M : Mem} {r : Int32} (hf : f_X1_hasRoomFor v1 M = some r) : MetX l 43 (CC ad cy) D cy ad yX1_hasRoomFor cX1_hasRoomFor 2 (some .boolean) 0 [.ref (ad 0), .int v1] M (fun A => QI r M 43 (CC ad cy) D cy ad A) := by
  refine MetX.of (own := RX1) (by decide) rfl (Nat.le_of_ble_eq_true rfl) ?_
  intro p e s m below meth c A Q ls X hr hlk hZ hA hQ hW hl
  have hl : lv_has ls 2 [(0, .ref (ad 0)), (1, .int v1)] := hl
  have hx := X.1
  have hb := X.2.1
  obtain ⟨H, hH⟩ : ∃ H, H = s.heap := ⟨_, rfl⟩
  obtain ⟨locs, hlo⟩ : ∃ q : List Loc, q = [] := ⟨_, rfl⟩
  have hW : Wd D 43 ad (CC ad cy) A s.heap M H locs := by rw [hH, hlo]; exact hW
  suffices hh : W p l e (rmD 0) s m ([.ref (ad 0), .int v1] : List Value).toArray below meth c H locs 0 0 Q (F0 m 0 ls []) by rw [hH, hlo] at hh; exact hh
  unfold f_X1_hasRoomFor at hf
  refine lv_aload_n hx hb dX1_hasRoomFor_0 rfl (lv_at hl 0 rfl) ?_
  refine gf_X1_39 X hW dX1_hasRoomFor_1 ?_
  refine lv_iload_n hx hb dX1_hasRoomFor_4 rfl (lv_at hl 1 rfl) ?_
  refine lv_iadd hx hb dX1_hasRoomFor_5 ?_
  refine lv_bipush (v := 40) hx hb dX1_hasRoomFor_6 (by decide) ?_
  refine lv_icmp_gt (tgt := 15) hx hb dX1_hasRoomFor_8 (by decide) (fun hc => ?_) (fun hc => ?_)
  · replace hf := ifp hc hf
    refine lv_iconst (v := 0) hx hb dX1_hasRoomFor_15 (by decide) ?_
    exact g_zret X hr hlk hQ hW dX1_hasRoomFor_16 (by decide) (rd_some hf)
  · replace hf := ifn hc hf
    refine lv_iconst (v := 1) hx hb dX1_hasRoomFor_11 (by decide) ?_
    refine lv_goto (tgt := 16) hx hb dX1_hasRoomFor_12 (by decide) ?_
    exact g_zret X hr hlk hQ hW dX1_hasRoomFor_16 (by decide) (rd_some hf)

def f_X1_perform (v1 : Int32) (M : Mem) : Option Mem :=
  (if (shr v1 12) = 0 then (bR (f_X0_letPass 15 M) (fun M52 => (some M52))) else (if (shr v1 12) = 1 then (bR (f_X0_turnSlot 15 ((shr v1 9) &&& 7) (v1 &&& 511) M) (fun M64 => (some M64))) else (if (shr v1 12) = 2 then (bR (f_X0_swapWays 15 ((shr v1 9) &&& 7) (v1 &&& 511) M) (fun M76 => (some M76))) else (if (shr v1 12) = 3 then (bR (f_X0_putWord 15 ((shr v1 9) &&& 7) (v1 &&& 511) M) (fun M88 => (some M88))) else (some M)))))
set_option maxHeartbeats 4000000 in
set_option maxRecDepth 100000 in
theorem c_X1_perform (l : Launch) (D : va_G) (cy : Nat → ClassId) (ad : Nat → Nat)   {v1 : Int32} {M M' : Mem} (hf : f_X1_perform v1 M = some M') : MetX l 43 (CC ad cy) D cy ad yX1_perform cX1_perform 4 none 3 [.ref (ad 0), .int v1] M (fun A => QV M' 43 (CC ad cy) D cy ad A) := by
  refine MetX.of (own := RX1) (by decide) rfl (Nat.le_of_ble_eq_true rfl) ?_
  intro p e s m below meth c A Q ls X hr hlk hZ hA hQ hW hl
  have hl : lv_has ls 4 [(0, .ref (ad 0)), (1, .int v1)] := hl
  have hx := X.1
  have hb := X.2.1
  obtain ⟨H, hH⟩ : ∃ H, H = s.heap := ⟨_, rfl⟩
  obtain ⟨locs, hlo⟩ : ∃ q : List Loc, q = [] := ⟨_, rfl⟩
  have hW : Wd D 43 ad (CC ad cy) A s.heap M H locs := by rw [hH, hlo]; exact hW
  suffices hh : W p l e (rmD 3) s m ([.ref (ad 0), .int v1] : List Value).toArray below meth c H locs 0 0 Q (F0 m 0 ls []) by rw [hH, hlo] at hh; exact hh
  unfold f_X1_perform at hf
  refine lv_iload_n hx hb dX1_perform_0 rfl (lv_at hl 1 rfl) ?_
  refine lv_bipush (v := 9) hx hb dX1_perform_1 (by decide) ?_
  refine r_ishr hx hb dX1_perform_3 ?_
  refine lv_bipush (v := 7) hx hb dX1_perform_4 (by decide) ?_
  refine lv_iand hx hb dX1_perform_6 ?_
  refine lv_istore_n (lv' := [(2, .int ((shr v1 9) &&& 7)), (0, .ref (ad 0)), (1, .int v1)]) hx hb dX1_perform_7 rfl hl (by decide) rfl (fun ls hl => ?_)
  refine lv_iload_n hx hb dX1_perform_8 rfl (lv_at hl 2 rfl) ?_
  refine lv_sipush (v := 511) hx hb dX1_perform_9 (by decide) ?_
  refine lv_iand hx hb dX1_perform_12 ?_
  refine lv_istore_n (lv' := [(3, .int (v1 &&& 511)), (2, .int ((shr v1 9) &&& 7)), (0, .ref (ad 0)), (1, .int v1)]) hx hb dX1_perform_13 rfl hl (by decide) rfl (fun ls hl => ?_)
  refine lv_iload_n hx hb dX1_perform_14 rfl (lv_at hl 3 rfl) ?_
  refine lv_bipush (v := 12) hx hb dX1_perform_15 (by decide) ?_
  refine r_ishr hx hb dX1_perform_17 ?_
  by_cases hc0 : (shr v1 12) = 0
  · replace hf := ifp hc0 hf
    refine lv_tableIn (tgt := 48) hx hb dX1_perform_18 (by rw [hc0]; decide) (by rw [hc0]; decide) (by rw [hc0]; rfl) (by decide) ?_
    refine lv_aload_n hx hb dX1_perform_48 rfl (lv_at hl 2 rfl) ?_
    refine gf_X1_29 X hW dX1_perform_49 ?_
    obtain ⟨M52, h52, hf⟩ := bR_some hf
    refine g_callvN (host := "TubeWords") X hl.1 hZ hA hW (c_X0_letPass l D cy ad isSt15 h52) cw_X0_letPass (by decide +kernel) (iO_st isSt15) rfl (by decide) rfl (Nat.le_of_ble_eq_true rfl) dX1_perform_52 (fun H locs hW => ?_)
    refine lv_goto (tgt := 94) hx hb dX1_perform_55 (by decide) ?_
    exact g_vret X hr hlk hQ hW dX1_perform_94 hf
  · replace hf := ifn hc0 hf
    by_cases hc1 : (shr v1 12) = 1
    · replace hf := ifp hc1 hf
      refine lv_tableIn (tgt := 58) hx hb dX1_perform_18 (by rw [hc1]; decide) (by rw [hc1]; decide) (by rw [hc1]; rfl) (by decide) ?_
      refine lv_aload_n hx hb dX1_perform_58 rfl (lv_at hl 2 rfl) ?_
      refine gf_X1_29 X hW dX1_perform_59 ?_
      refine lv_iload_n hx hb dX1_perform_62 rfl (lv_at hl 1 rfl) ?_
      refine lv_iload_n hx hb dX1_perform_63 rfl (lv_at hl 0 rfl) ?_
      obtain ⟨M64, h64, hf⟩ := bR_some hf
      refine g_callvN (host := "TubeWords") X hl.1 hZ hA hW (c_X0_turnSlot l D cy ad isSt15 h64) cw_X0_turnSlot (by decide +kernel) (iO_st isSt15) rfl (by decide) rfl (Nat.le_of_ble_eq_true rfl) dX1_perform_64 (fun H locs hW => ?_)
      refine lv_goto (tgt := 94) hx hb dX1_perform_67 (by decide) ?_
      exact g_vret X hr hlk hQ hW dX1_perform_94 hf
    · replace hf := ifn hc1 hf
      by_cases hc2 : (shr v1 12) = 2
      · replace hf := ifp hc2 hf
        refine lv_tableIn (tgt := 70) hx hb dX1_perform_18 (by rw [hc2]; decide) (by rw [hc2]; decide) (by rw [hc2]; rfl) (by decide) ?_
        refine lv_aload_n hx hb dX1_perform_70 rfl (lv_at hl 2 rfl) ?_
        refine gf_X1_29 X hW dX1_perform_71 ?_
        refine lv_iload_n hx hb dX1_perform_74 rfl (lv_at hl 1 rfl) ?_
        refine lv_iload_n hx hb dX1_perform_75 rfl (lv_at hl 0 rfl) ?_
        obtain ⟨M76, h76, hf⟩ := bR_some hf
        refine g_callvN (host := "TubeWords") X hl.1 hZ hA hW (c_X0_swapWays l D cy ad isSt15 h76) cw_X0_swapWays (by decide +kernel) (iO_st isSt15) rfl (by decide) rfl (Nat.le_of_ble_eq_true rfl) dX1_perform_76 (fun H locs hW => ?_)
        refine lv_goto (tgt := 94) hx hb dX1_perform_79 (by decide) ?_
        exact g_vret X hr hlk hQ hW dX1_perform_94 hf
      · replace hf := ifn hc2 hf
        by_cases hc3 : (shr v1 12) = 3
        · replace hf := ifp hc3 hf
          refine lv_tableIn (tgt := 82) hx hb dX1_perform_18 (by rw [hc3]; decide) (by rw [hc3]; decide) (by rw [hc3]; rfl) (by decide) ?_
          refine lv_aload_n hx hb dX1_perform_82 rfl (lv_at hl 2 rfl) ?_
          refine gf_X1_29 X hW dX1_perform_83 ?_
          refine lv_iload_n hx hb dX1_perform_86 rfl (lv_at hl 1 rfl) ?_
          refine lv_iload_n hx hb dX1_perform_87 rfl (lv_at hl 0 rfl) ?_
          obtain ⟨M88, h88, hf⟩ := bR_some hf
          refine g_callvN (host := "TubeWords") X hl.1 hZ hA hW (c_X0_putWord l D cy ad isSt15 h88) cw_X0_putWord (by decide +kernel) (iO_st isSt15) rfl (by decide) rfl (Nat.le_of_ble_eq_true rfl) dX1_perform_88 (fun H locs hW => ?_)
          refine lv_goto (tgt := 94) hx hb dX1_perform_91 (by decide) ?_
          exact g_vret X hr hlk hQ hW dX1_perform_94 hf
        · replace hf := ifn hc3 hf
          refine lv_tableOut (tgt := 94) hx hb dX1_perform_18 (by have q0 := sw_ne (a := 0) hc0 (by decide); have q1 := sw_ne (a := 1) hc1 (by decide); have q2 := sw_ne (a := 2) hc2 (by decide); have q3 := sw_ne (a := 3) hc3 (by decide); omega) (by decide) ?_
          exact g_vret X hr hlk hQ hW dX1_perform_94 hf

def f_X1_addDeed (v1 : Int32) (v2 : Int32) (v3 : Int32) (M : Mem) : Option Mem :=
  (bR (f_X1_hasRoomFor 1 M) (fun r2 => (if r2 = 0 then (some M) else (grd (inb (M.1 0 7) 40) (lt (sI M 29 (ix (M.1 0 7)) (((shl v1 12) ||| (shl v2 9)) ||| v3)) (fun M32 => (lt (sI M32 0 7 ((M32.1 0 7) + 1)) (fun M40 => (bR (f_X1_perform (((shl v1 12) ||| (shl v2 9)) ||| v3) M40) (fun M46 => (some M46)))))))))))
set_option maxHeartbeats 4000000 in
set_option maxRecDepth 100000 in
theorem c_X1_addDeed (l : Launch) (D : va_G) (cy : Nat → ClassId) (ad : Nat → Nat)   {v1 : Int32} {v2 : Int32} {v3 : Int32} {M M' : Mem} (hf : f_X1_addDeed v1 v2 v3 M = some M') : MetX l 43 (CC ad cy) D cy ad yX1_addDeed cX1_addDeed 5 none 4 [.ref (ad 0), .int v1, .int v2, .int v3] M (fun A => QV M' 43 (CC ad cy) D cy ad A) := by
  refine MetX.of (own := RX1) (by decide) rfl (Nat.le_of_ble_eq_true rfl) ?_
  intro p e s m below meth c A Q ls X hr hlk hZ hA hQ hW hl
  have hl : lv_has ls 5 [(0, .ref (ad 0)), (1, .int v1), (2, .int v2), (3, .int v3)] := hl
  have hx := X.1
  have hb := X.2.1
  obtain ⟨H, hH⟩ : ∃ H, H = s.heap := ⟨_, rfl⟩
  obtain ⟨locs, hlo⟩ : ∃ q : List Loc, q = [] := ⟨_, rfl⟩
  have hW : Wd D 43 ad (CC ad cy) A s.heap M H locs := by rw [hH, hlo]; exact hW
  suffices hh : W p l e (rmD 4) s m ([.ref (ad 0), .int v1, .int v2, .int v3] : List Value).toArray below meth c H locs 0 0 Q (F0 m 0 ls []) by rw [hH, hlo] at hh; exact hh
  unfold f_X1_addDeed at hf
  refine lv_aload_n hx hb dX1_addDeed_0 rfl (lv_at hl 0 rfl) ?_
  refine lv_iconst (v := 1) hx hb dX1_addDeed_1 (by decide) ?_
  obtain ⟨r2, h2, hf⟩ := bR_some hf
  refine g_calliV X hl.1 hZ hA hW (c_X1_hasRoomFor l D cy ad h2) cw_X1_hasRoomFor ql_X1_130 iO_X1 rfl (by decide) rfl (Nat.le_of_ble_eq_true rfl) dX1_addDeed_2 (fun H locs hW => ?_)
  refine lv_if_ne (tgt := 9) hx hb dX1_addDeed_5 (by decide) (fun hc => ?_) (fun hc => ?_)
  · replace hf := ifn hc hf
    refine lv_iload_n hx hb dX1_addDeed_9 rfl (lv_at hl 1 rfl) ?_
    refine lv_bipush (v := 12) hx hb dX1_addDeed_10 (by decide) ?_
    refine r_ishl hx hb dX1_addDeed_12 ?_
    refine lv_iload_n hx hb dX1_addDeed_13 rfl (lv_at hl 2 rfl) ?_
    refine lv_bipush (v := 9) hx hb dX1_addDeed_14 (by decide) ?_
    refine r_ishl hx hb dX1_addDeed_16 ?_
    refine lv_ior hx hb dX1_addDeed_17 ?_
    refine lv_iload_n hx hb dX1_addDeed_18 rfl (lv_at hl 3 rfl) ?_
    refine lv_ior hx hb dX1_addDeed_19 ?_
    refine lv_istore (lv' := [(4, .int (((shl v1 12) ||| (shl v2 9)) ||| v3)), (0, .ref (ad 0)), (1, .int v1), (2, .int v2), (3, .int v3)]) hx hb dX1_addDeed_20 hl (by decide) rfl (fun ls hl => ?_)
    refine lv_aload_n hx hb dX1_addDeed_22 rfl (lv_at hl 1 rfl) ?_
    refine gf_X1_36 X hW dX1_addDeed_23 ?_
    refine lv_aload_n hx hb dX1_addDeed_26 rfl (lv_at hl 1 rfl) ?_
    refine gf_X1_39 X hW dX1_addDeed_27 ?_
    refine lv_iload hx hb dX1_addDeed_30 (lv_at hl 0 rfl) ?_
    obtain ⟨hi32, hf⟩ := grd_some hf
    refine g_iast X hW iA_deeds hi32 dX1_addDeed_32 (fun H locs hW => ?_)
    obtain ⟨M32, e32, hf⟩ := lt_some hf
    have hW : Wd D 43 ad (CC ad cy) A s.heap M32 H locs := by rw [e32]; exact hW
    refine lv_aload_n hx hb dX1_addDeed_33 rfl (lv_at hl 1 rfl) ?_
    refine lv_dup hx hb dX1_addDeed_34 rfl ?_
    refine gf_X1_39 X hW dX1_addDeed_35 ?_
    refine lv_iconst (v := 1) hx hb dX1_addDeed_38 (by decide) ?_
    refine lv_iadd hx hb dX1_addDeed_39 ?_
    refine gp_X1_39 X hW dX1_addDeed_40 (fun H locs hW => ?_)
    obtain ⟨M40, e40, hf⟩ := lt_some hf
    have hW : Wd D 43 ad (CC ad cy) A s.heap M40 H locs := by rw [e40]; exact hW
    refine lv_aload_n hx hb dX1_addDeed_43 rfl (lv_at hl 1 rfl) ?_
    refine lv_iload hx hb dX1_addDeed_44 (lv_at hl 0 rfl) ?_
    obtain ⟨M46, h46, hf⟩ := bR_some hf
    refine g_callvV X hl.1 hZ hA hW (c_X1_perform l D cy ad h46) cw_X1_perform ql_X1_231 iO_X1 rfl (by decide) rfl (Nat.le_of_ble_eq_true rfl) dX1_addDeed_46 (fun H locs hW => ?_)
    exact g_vret X hr hlk hQ hW dX1_addDeed_49 hf
  · replace hf := ifp hc hf
    exact g_vret X hr hlk hQ hW dX1_addDeed_8 hf

def f_X1_tick (M : Mem) : Option (Int32 × Mem) :=
  (if (M.1 15 6) = 0 then (some ((-4), M)) else (if (M.1 15 7) < 99 then (bR (f_X1_hasRoomFor 1 M) (fun r27 => (if r27 = 0 then (some ((-2), M)) else (bR (f_X1_addDeed 0 0 0 M) (fun M40 => (bR (f_X0_pulses 15 M40) (fun r47 => (some (r47, M40))))))))) else (some ((-4), M))))
set_option maxHeartbeats 4000000 in
set_option maxRecDepth 100000 in
theorem c_X1_tick (l : Launch) (D : va_G) (cy : Nat → ClassId) (ad : Nat → Nat)    {M M' : Mem} {r : Int32} (hf : f_X1_tick M = some (r, M')) : MetX l 43 (CC ad cy) D cy ad yX1_tick cX1_tick 1 (some .int) 5 [.ref (ad 0)] M (fun A => QI r M' 43 (CC ad cy) D cy ad A) := by
  refine MetX.of (own := RX1) (by decide) rfl (Nat.le_of_ble_eq_true rfl) ?_
  intro p e s m below meth c A Q ls X hr hlk hZ hA hQ hW hl
  have hl : lv_has ls 1 [(0, .ref (ad 0))] := hl
  have hx := X.1
  have hb := X.2.1
  obtain ⟨H, hH⟩ : ∃ H, H = s.heap := ⟨_, rfl⟩
  obtain ⟨locs, hlo⟩ : ∃ q : List Loc, q = [] := ⟨_, rfl⟩
  have hW : Wd D 43 ad (CC ad cy) A s.heap M H locs := by rw [hH, hlo]; exact hW
  suffices hh : W p l e (rmD 5) s m ([.ref (ad 0)] : List Value).toArray below meth c H locs 0 0 Q (F0 m 0 ls []) by rw [hH, hlo] at hh; exact hh
  unfold f_X1_tick at hf
  refine lv_aload_n hx hb dX1_tick_0 rfl (lv_at hl 0 rfl) ?_
  refine gf_X1_29 X hW dX1_tick_1 ?_
  refine gf_X1_108 isSt15 X hW dX1_tick_4 ?_
  refine lv_if_eq (tgt := 22) hx hb dX1_tick_7 (by decide) (fun hc => ?_) (fun hc => ?_)
  · replace hf := ifp hc hf
    refine lv_bipush (v := (-4)) hx hb dX1_tick_22 (by decide) ?_
    exact g_iret X hr hlk hQ hW dX1_tick_24 hf
  · replace hf := ifn hc hf
    refine lv_aload_n hx hb dX1_tick_10 rfl (lv_at hl 0 rfl) ?_
    refine gf_X1_29 X hW dX1_tick_11 ?_
    refine gf_X1_127 isSt15 X hW dX1_tick_14 ?_
    refine lv_bipush (v := 99) hx hb dX1_tick_17 (by decide) ?_
    refine lv_icmp_lt (tgt := 25) hx hb dX1_tick_19 (by decide) (fun hc => ?_) (fun hc => ?_)
    · replace hf := ifp hc hf
      refine lv_aload_n hx hb dX1_tick_25 rfl (lv_at hl 0 rfl) ?_
      refine lv_iconst (v := 1) hx hb dX1_tick_26 (by decide) ?_
      obtain ⟨r27, h27, hf⟩ := bR_some hf
      refine g_calliV X hl.1 hZ hA hW (c_X1_hasRoomFor l D cy ad h27) cw_X1_hasRoomFor ql_X1_130 iO_X1 rfl (by decide) rfl (Nat.le_of_ble_eq_true rfl) dX1_tick_27 (fun H locs hW => ?_)
      refine lv_if_ne (tgt := 36) hx hb dX1_tick_30 (by decide) (fun hc => ?_) (fun hc => ?_)
      · replace hf := ifn hc hf
        refine lv_aload_n hx hb dX1_tick_36 rfl (lv_at hl 0 rfl) ?_
        refine lv_iconst (v := 0) hx hb dX1_tick_37 (by decide) ?_
        refine lv_iconst (v := 0) hx hb dX1_tick_38 (by decide) ?_
        refine lv_iconst (v := 0) hx hb dX1_tick_39 (by decide) ?_
        obtain ⟨M40, h40, hf⟩ := bR_some hf
        refine g_callvV X hl.1 hZ hA hW (c_X1_addDeed l D cy ad h40) cw_X1_addDeed ql_X1_133 iO_X1 rfl (by decide) rfl (Nat.le_of_ble_eq_true rfl) dX1_tick_40 (fun H locs hW => ?_)
        refine lv_aload_n hx hb dX1_tick_43 rfl (lv_at hl 0 rfl) ?_
        refine gf_X1_29 X hW dX1_tick_44 ?_
        obtain ⟨r47, h47, hf⟩ := bR_some hf
        refine g_calliN (host := "TubeWords") X hl.1 hZ hA hW (c_X0_pulses l D cy ad isSt15 h47) cw_X0_pulses (by decide +kernel) (iO_st isSt15) rfl (by decide) rfl (Nat.le_of_ble_eq_true rfl) dX1_tick_47 (fun H locs hW => ?_)
        exact g_iret X hr hlk hQ hW dX1_tick_50 hf
      · replace hf := ifp hc hf
        refine lv_bipush (v := (-2)) hx hb dX1_tick_33 (by decide) ?_
        exact g_iret X hr hlk hQ hW dX1_tick_35 hf
    · replace hf := ifn hc hf
      refine lv_bipush (v := (-4)) hx hb dX1_tick_22 (by decide) ?_
      exact g_iret X hr hlk hQ hW dX1_tick_24 hf

def f_X1_set (v1 : Int32) (v2 : Int32) (M : Mem) : Option (Int32 × Mem) :=
  (bR (f_X0_has 15 v1 M) (fun r5 => (if r5 = 0 then (some ((-1), M)) else (grd (inb v1 7) (bR (f_X1_isWithin v2 0 ((M.1 (15 + 2) (ix v1)) - 1) M) (fun r24 => (if r24 = 0 then (some ((-1), M)) else (bR (f_X1_hasRoomFor 1 M) (fun r34 => (if r34 = 0 then (some ((-2), M)) else (bR (f_X1_addDeed 1 v1 v2 M) (fun M47 => (grd (inb v1 7) (some ((M47.1 (15 + 4) (ix v1)), M47)))))))))))))))
set_option maxHeartbeats 4000000 in
set_option maxRecDepth 100000 in
theorem c_X1_set (l : Launch) (D : va_G) (cy : Nat → ClassId) (ad : Nat → Nat)   {v1 : Int32} {v2 : Int32} {M M' : Mem} {r : Int32} (hf : f_X1_set v1 v2 M = some (r, M')) : MetX l 43 (CC ad cy) D cy ad yX1_set cX1_set 3 (some .int) 5 [.ref (ad 0), .int v1, .int v2] M (fun A => QI r M' 43 (CC ad cy) D cy ad A) := by
  refine MetX.of (own := RX1) (by decide) rfl (Nat.le_of_ble_eq_true rfl) ?_
  intro p e s m below meth c A Q ls X hr hlk hZ hA hQ hW hl
  have hl : lv_has ls 3 [(0, .ref (ad 0)), (1, .int v1), (2, .int v2)] := hl
  have hx := X.1
  have hb := X.2.1
  obtain ⟨H, hH⟩ : ∃ H, H = s.heap := ⟨_, rfl⟩
  obtain ⟨locs, hlo⟩ : ∃ q : List Loc, q = [] := ⟨_, rfl⟩
  have hW : Wd D 43 ad (CC ad cy) A s.heap M H locs := by rw [hH, hlo]; exact hW
  suffices hh : W p l e (rmD 5) s m ([.ref (ad 0), .int v1, .int v2] : List Value).toArray below meth c H locs 0 0 Q (F0 m 0 ls []) by rw [hH, hlo] at hh; exact hh
  unfold f_X1_set at hf
  refine lv_aload_n hx hb dX1_set_0 rfl (lv_at hl 0 rfl) ?_
  refine gf_X1_29 X hW dX1_set_1 ?_
  refine lv_iload_n hx hb dX1_set_4 rfl (lv_at hl 1 rfl) ?_
  obtain ⟨r5, h5, hf⟩ := bR_some hf
  refine g_calliN (host := "TubeWords") X hl.1 hZ hA hW (c_X0_has l D cy ad isSt15 h5) cw_X0_has (by decide +kernel) (iO_st isSt15) rfl (by decide) rfl (Nat.le_of_ble_eq_true rfl) dX1_set_5 (fun H locs hW => ?_)
  refine lv_if_eq (tgt := 30) hx hb dX1_set_8 (by decide) (fun hc => ?_) (fun hc => ?_)
  · replace hf := ifp hc hf
    refine lv_iconst (v := (-1)) hx hb dX1_set_30 (by decide) ?_
    exact g_iret X hr hlk hQ hW dX1_set_31 hf
  · replace hf := ifn hc hf
    refine lv_iload_n hx hb dX1_set_11 rfl (lv_at hl 2 rfl) ?_
    refine lv_iconst (v := 0) hx hb dX1_set_12 (by decide) ?_
    refine lv_aload_n hx hb dX1_set_13 rfl (lv_at hl 0 rfl) ?_
    refine gf_X1_29 X hW dX1_set_14 ?_
    refine gf_X1_141 isSt15 X hW dX1_set_17 ?_
    refine lv_iload_n hx hb dX1_set_20 rfl (lv_at hl 1 rfl) ?_
    obtain ⟨hi21, hf⟩ := grd_some hf
    refine g_iald X hW (iA_st2 isSt15) hi21 dX1_set_21 ?_
    refine lv_iconst (v := 1) hx hb dX1_set_22 (by decide) ?_
    refine lv_isub hx hb dX1_set_23 ?_
    obtain ⟨r24, h24, hf⟩ := bR_some hf
    refine g_calliS X hl.1 hZ hA hW (c_X1_isWithin l D cy ad h24) cs_X1_isWithin ql_X1_114 rfl (by decide) rfl (Nat.le_of_ble_eq_true rfl) dX1_set_24 (fun H locs hW => ?_)
    refine lv_if_ne (tgt := 32) hx hb dX1_set_27 (by decide) (fun hc => ?_) (fun hc => ?_)
    · replace hf := ifn hc hf
      refine lv_aload_n hx hb dX1_set_32 rfl (lv_at hl 0 rfl) ?_
      refine lv_iconst (v := 1) hx hb dX1_set_33 (by decide) ?_
      obtain ⟨r34, h34, hf⟩ := bR_some hf
      refine g_calliV X hl.1 hZ hA hW (c_X1_hasRoomFor l D cy ad h34) cw_X1_hasRoomFor ql_X1_130 iO_X1 rfl (by decide) rfl (Nat.le_of_ble_eq_true rfl) dX1_set_34 (fun H locs hW => ?_)
      refine lv_if_ne (tgt := 43) hx hb dX1_set_37 (by decide) (fun hc => ?_) (fun hc => ?_)
      · replace hf := ifn hc hf
        refine lv_aload_n hx hb dX1_set_43 rfl (lv_at hl 0 rfl) ?_
        refine lv_iconst (v := 1) hx hb dX1_set_44 (by decide) ?_
        refine lv_iload_n hx hb dX1_set_45 rfl (lv_at hl 1 rfl) ?_
        refine lv_iload_n hx hb dX1_set_46 rfl (lv_at hl 2 rfl) ?_
        obtain ⟨M47, h47, hf⟩ := bR_some hf
        refine g_callvV X hl.1 hZ hA hW (c_X1_addDeed l D cy ad h47) cw_X1_addDeed ql_X1_133 iO_X1 rfl (by decide) rfl (Nat.le_of_ble_eq_true rfl) dX1_set_47 (fun H locs hW => ?_)
        refine lv_aload_n hx hb dX1_set_50 rfl (lv_at hl 0 rfl) ?_
        refine gf_X1_29 X hW dX1_set_51 ?_
        refine gf_X1_144 isSt15 X hW dX1_set_54 ?_
        refine lv_iload_n hx hb dX1_set_57 rfl (lv_at hl 1 rfl) ?_
        obtain ⟨hi58, hf⟩ := grd_some hf
        refine g_iald X hW (iA_st4 isSt15) hi58 dX1_set_58 ?_
        exact g_iret X hr hlk hQ hW dX1_set_59 hf
      · replace hf := ifp hc hf
        refine lv_bipush (v := (-2)) hx hb dX1_set_40 (by decide) ?_
        exact g_iret X hr hlk hQ hW dX1_set_42 hf
    · replace hf := ifp hc hf
      refine lv_iconst (v := (-1)) hx hb dX1_set_30 (by decide) ?_
      exact g_iret X hr hlk hQ hW dX1_set_31 hf

def f_X1_swap (v1 : Int32) (v2 : Int32) (M : Mem) : Option (Int32 × Mem) :=
  (bR (f_X0_has 15 v1 M) (fun r5 => (if r5 = 0 then (some ((-1), M)) else (bR (f_X0_has 15 v2 M) (fun r16 => (if r16 = 0 then (some ((-1), M)) else (if v1 = v2 then (some ((-1), M)) else (bR (f_X1_hasRoomFor 1 M) (fun r31 => (if r31 = 0 then (some ((-2), M)) else (bR (f_X1_addDeed 2 v1 v2 M) (fun M44 => (grd (inb v1 7) (some ((M44.1 (15 + 5) (ix v1)), M44)))))))))))))))
set_option maxHeartbeats 4000000 in
set_option maxRecDepth 100000 in
theorem c_X1_swap (l : Launch) (D : va_G) (cy : Nat → ClassId) (ad : Nat → Nat)   {v1 : Int32} {v2 : Int32} {M M' : Mem} {r : Int32} (hf : f_X1_swap v1 v2 M = some (r, M')) : MetX l 43 (CC ad cy) D cy ad yX1_swap cX1_swap 3 (some .int) 5 [.ref (ad 0), .int v1, .int v2] M (fun A => QI r M' 43 (CC ad cy) D cy ad A) := by
  refine MetX.of (own := RX1) (by decide) rfl (Nat.le_of_ble_eq_true rfl) ?_
  intro p e s m below meth c A Q ls X hr hlk hZ hA hQ hW hl
  have hl : lv_has ls 3 [(0, .ref (ad 0)), (1, .int v1), (2, .int v2)] := hl
  have hx := X.1
  have hb := X.2.1
  obtain ⟨H, hH⟩ : ∃ H, H = s.heap := ⟨_, rfl⟩
  obtain ⟨locs, hlo⟩ : ∃ q : List Loc, q = [] := ⟨_, rfl⟩
  have hW : Wd D 43 ad (CC ad cy) A s.heap M H locs := by rw [hH, hlo]; exact hW
  suffices hh : W p l e (rmD 5) s m ([.ref (ad 0), .int v1, .int v2] : List Value).toArray below meth c H locs 0 0 Q (F0 m 0 ls []) by rw [hH, hlo] at hh; exact hh
  unfold f_X1_swap at hf
  refine lv_aload_n hx hb dX1_swap_0 rfl (lv_at hl 0 rfl) ?_
  refine gf_X1_29 X hW dX1_swap_1 ?_
  refine lv_iload_n hx hb dX1_swap_4 rfl (lv_at hl 1 rfl) ?_
  obtain ⟨r5, h5, hf⟩ := bR_some hf
  refine g_calliN (host := "TubeWords") X hl.1 hZ hA hW (c_X0_has l D cy ad isSt15 h5) cw_X0_has (by decide +kernel) (iO_st isSt15) rfl (by decide) rfl (Nat.le_of_ble_eq_true rfl) dX1_swap_5 (fun H locs hW => ?_)
  refine lv_if_eq (tgt := 27) hx hb dX1_swap_8 (by decide) (fun hc => ?_) (fun hc => ?_)
  · replace hf := ifp hc hf
    refine lv_iconst (v := (-1)) hx hb dX1_swap_27 (by decide) ?_
    exact g_iret X hr hlk hQ hW dX1_swap_28 hf
  · replace hf := ifn hc hf
    refine lv_aload_n hx hb dX1_swap_11 rfl (lv_at hl 0 rfl) ?_
    refine gf_X1_29 X hW dX1_swap_12 ?_
    refine lv_iload_n hx hb dX1_swap_15 rfl (lv_at hl 2 rfl) ?_
    obtain ⟨r16, h16, hf⟩ := bR_some hf
    refine g_calliN (host := "TubeWords") X hl.1 hZ hA hW (c_X0_has l D cy ad isSt15 h16) cw_X0_has (by decide +kernel) (iO_st isSt15) rfl (by decide) rfl (Nat.le_of_ble_eq_true rfl) dX1_swap_16 (fun H locs hW => ?_)
    refine lv_if_eq (tgt := 27) hx hb dX1_swap_19 (by decide) (fun hc => ?_) (fun hc => ?_)
    · replace hf := ifp hc hf
      refine lv_iconst (v := (-1)) hx hb dX1_swap_27 (by decide) ?_
      exact g_iret X hr hlk hQ hW dX1_swap_28 hf
    · replace hf := ifn hc hf
      refine lv_iload_n hx hb dX1_swap_22 rfl (lv_at hl 1 rfl) ?_
      refine lv_iload_n hx hb dX1_swap_23 rfl (lv_at hl 2 rfl) ?_
      refine lv_icmp_ne (tgt := 29) hx hb dX1_swap_24 (by decide) (fun hc => ?_) (fun hc => ?_)
      · replace hf := ifn hc hf
        refine lv_aload_n hx hb dX1_swap_29 rfl (lv_at hl 0 rfl) ?_
        refine lv_iconst (v := 1) hx hb dX1_swap_30 (by decide) ?_
        obtain ⟨r31, h31, hf⟩ := bR_some hf
        refine g_calliV X hl.1 hZ hA hW (c_X1_hasRoomFor l D cy ad h31) cw_X1_hasRoomFor ql_X1_130 iO_X1 rfl (by decide) rfl (Nat.le_of_ble_eq_true rfl) dX1_swap_31 (fun H locs hW => ?_)
        refine lv_if_ne (tgt := 40) hx hb dX1_swap_34 (by decide) (fun hc => ?_) (fun hc => ?_)
        · replace hf := ifn hc hf
          refine lv_aload_n hx hb dX1_swap_40 rfl (lv_at hl 0 rfl) ?_
          refine lv_iconst (v := 2) hx hb dX1_swap_41 (by decide) ?_
          refine lv_iload_n hx hb dX1_swap_42 rfl (lv_at hl 1 rfl) ?_
          refine lv_iload_n hx hb dX1_swap_43 rfl (lv_at hl 2 rfl) ?_
          obtain ⟨M44, h44, hf⟩ := bR_some hf
          refine g_callvV X hl.1 hZ hA hW (c_X1_addDeed l D cy ad h44) cw_X1_addDeed ql_X1_133 iO_X1 rfl (by decide) rfl (Nat.le_of_ble_eq_true rfl) dX1_swap_44 (fun H locs hW => ?_)
          refine lv_aload_n hx hb dX1_swap_47 rfl (lv_at hl 0 rfl) ?_
          refine gf_X1_29 X hW dX1_swap_48 ?_
          refine gf_X1_147 isSt15 X hW dX1_swap_51 ?_
          refine lv_iload_n hx hb dX1_swap_54 rfl (lv_at hl 1 rfl) ?_
          obtain ⟨hi55, hf⟩ := grd_some hf
          refine g_iald X hW (iA_st5 isSt15) hi55 dX1_swap_55 ?_
          exact g_iret X hr hlk hQ hW dX1_swap_56 hf
        · replace hf := ifp hc hf
          refine lv_bipush (v := (-2)) hx hb dX1_swap_37 (by decide) ?_
          exact g_iret X hr hlk hQ hW dX1_swap_39 hf
      · replace hf := ifp hc hf
        refine lv_iconst (v := (-1)) hx hb dX1_swap_27 (by decide) ?_
        exact g_iret X hr hlk hQ hW dX1_swap_28 hf

def f_X1_word (v1 : Int32) (v2 : Int32) (M : Mem) : Option (Int32 × Mem) :=
  (bR (f_X0_has 15 v1 M) (fun r5 => (if r5 = 0 then (some ((-1), M)) else (bR (f_X0_canHave 15 v1 v2 M) (fun r17 => (if r17 = 0 then (some ((-1), M)) else (grd (inb v1 7) (if (M.1 (15 + 4) (ix v1)) = v2 then (some ((-4), M)) else (bR (f_X1_hasRoomFor 1 M) (fun r45 => (if r45 = 0 then (some ((-2), M)) else (bR (f_X1_addDeed 3 v1 v2 M) (fun M58 => (some ((M.1 (15 + 4) (ix v1)), M58)))))))))))))))
set_option maxHeartbeats 4000000 in
set_option maxRecDepth 100000 in
theorem c_X1_word (l : Launch) (D : va_G) (cy : Nat → ClassId) (ad : Nat → Nat)   {v1 : Int32} {v2 : Int32} {M M' : Mem} {r : Int32} (hf : f_X1_word v1 v2 M = some (r, M')) : MetX l 43 (CC ad cy) D cy ad yX1_word cX1_word 4 (some .int) 5 [.ref (ad 0), .int v1, .int v2] M (fun A => QI r M' 43 (CC ad cy) D cy ad A) := by
  refine MetX.of (own := RX1) (by decide) rfl (Nat.le_of_ble_eq_true rfl) ?_
  intro p e s m below meth c A Q ls X hr hlk hZ hA hQ hW hl
  have hl : lv_has ls 4 [(0, .ref (ad 0)), (1, .int v1), (2, .int v2)] := hl
  have hx := X.1
  have hb := X.2.1
  obtain ⟨H, hH⟩ : ∃ H, H = s.heap := ⟨_, rfl⟩
  obtain ⟨locs, hlo⟩ : ∃ q : List Loc, q = [] := ⟨_, rfl⟩
  have hW : Wd D 43 ad (CC ad cy) A s.heap M H locs := by rw [hH, hlo]; exact hW
  suffices hh : W p l e (rmD 5) s m ([.ref (ad 0), .int v1, .int v2] : List Value).toArray below meth c H locs 0 0 Q (F0 m 0 ls []) by rw [hH, hlo] at hh; exact hh
  unfold f_X1_word at hf
  refine lv_aload_n hx hb dX1_word_0 rfl (lv_at hl 0 rfl) ?_
  refine gf_X1_29 X hW dX1_word_1 ?_
  refine lv_iload_n hx hb dX1_word_4 rfl (lv_at hl 1 rfl) ?_
  obtain ⟨r5, h5, hf⟩ := bR_some hf
  refine g_calliN (host := "TubeWords") X hl.1 hZ hA hW (c_X0_has l D cy ad isSt15 h5) cw_X0_has (by decide +kernel) (iO_st isSt15) rfl (by decide) rfl (Nat.le_of_ble_eq_true rfl) dX1_word_5 (fun H locs hW => ?_)
  refine lv_if_eq (tgt := 23) hx hb dX1_word_8 (by decide) (fun hc => ?_) (fun hc => ?_)
  · replace hf := ifp hc hf
    refine lv_iconst (v := (-1)) hx hb dX1_word_23 (by decide) ?_
    exact g_iret X hr hlk hQ hW dX1_word_24 hf
  · replace hf := ifn hc hf
    refine lv_aload_n hx hb dX1_word_11 rfl (lv_at hl 0 rfl) ?_
    refine gf_X1_29 X hW dX1_word_12 ?_
    refine lv_iload_n hx hb dX1_word_15 rfl (lv_at hl 1 rfl) ?_
    refine lv_iload_n hx hb dX1_word_16 rfl (lv_at hl 2 rfl) ?_
    obtain ⟨r17, h17, hf⟩ := bR_some hf
    refine g_calliN (host := "TubeWords") X hl.1 hZ hA hW (c_X0_canHave l D cy ad isSt15 h17) cw_X0_canHave (by decide +kernel) (iO_st isSt15) rfl (by decide) rfl (Nat.le_of_ble_eq_true rfl) dX1_word_17 (fun H locs hW => ?_)
    refine lv_if_ne (tgt := 25) hx hb dX1_word_20 (by decide) (fun hc => ?_) (fun hc => ?_)
    · replace hf := ifn hc hf
      refine lv_aload_n hx hb dX1_word_25 rfl (lv_at hl 0 rfl) ?_
      refine gf_X1_29 X hW dX1_word_26 ?_
      refine gf_X1_144 isSt15 X hW dX1_word_29 ?_
      refine lv_iload_n hx hb dX1_word_32 rfl (lv_at hl 1 rfl) ?_
      obtain ⟨hi33, hf⟩ := grd_some hf
      refine g_iald X hW (iA_st4 isSt15) hi33 dX1_word_33 ?_
      refine lv_istore_n (lv' := [(3, .int (M.1 (15 + 4) (ix v1))), (0, .ref (ad 0)), (1, .int v1), (2, .int v2)]) hx hb dX1_word_34 rfl hl (by decide) rfl (fun ls hl => ?_)
      refine lv_iload_n hx hb dX1_word_35 rfl (lv_at hl 0 rfl) ?_
      refine lv_iload_n hx hb dX1_word_36 rfl (lv_at hl 3 rfl) ?_
      refine lv_icmp_ne (tgt := 43) hx hb dX1_word_37 (by decide) (fun hc => ?_) (fun hc => ?_)
      · replace hf := ifn hc hf
        refine lv_aload_n hx hb dX1_word_43 rfl (lv_at hl 1 rfl) ?_
        refine lv_iconst (v := 1) hx hb dX1_word_44 (by decide) ?_
        obtain ⟨r45, h45, hf⟩ := bR_some hf
        refine g_calliV X hl.1 hZ hA hW (c_X1_hasRoomFor l D cy ad h45) cw_X1_hasRoomFor ql_X1_130 iO_X1 rfl (by decide) rfl (Nat.le_of_ble_eq_true rfl) dX1_word_45 (fun H locs hW => ?_)
        refine lv_if_ne (tgt := 54) hx hb dX1_word_48 (by decide) (fun hc => ?_) (fun hc => ?_)
        · replace hf := ifn hc hf
          refine lv_aload_n hx hb dX1_word_54 rfl (lv_at hl 1 rfl) ?_
          refine lv_iconst (v := 3) hx hb dX1_word_55 (by decide) ?_
          refine lv_iload_n hx hb dX1_word_56 rfl (lv_at hl 2 rfl) ?_
          refine lv_iload_n hx hb dX1_word_57 rfl (lv_at hl 3 rfl) ?_
          obtain ⟨M58, h58, hf⟩ := bR_some hf
          refine g_callvV X hl.1 hZ hA hW (c_X1_addDeed l D cy ad h58) cw_X1_addDeed ql_X1_133 iO_X1 rfl (by decide) rfl (Nat.le_of_ble_eq_true rfl) dX1_word_58 (fun H locs hW => ?_)
          refine lv_iload_n hx hb dX1_word_61 rfl (lv_at hl 0 rfl) ?_
          exact g_iret X hr hlk hQ hW dX1_word_62 hf
        · replace hf := ifp hc hf
          refine lv_bipush (v := (-2)) hx hb dX1_word_51 (by decide) ?_
          exact g_iret X hr hlk hQ hW dX1_word_53 hf
      · replace hf := ifp hc hf
        refine lv_bipush (v := (-4)) hx hb dX1_word_40 (by decide) ?_
        exact g_iret X hr hlk hQ hW dX1_word_42 hf
    · replace hf := ifp hc hf
      refine lv_iconst (v := (-1)) hx hb dX1_word_23 (by decide) ?_
      exact g_iret X hr hlk hQ hW dX1_word_24 hf

def f_X1_doAgain_L9  : Nat → Int32 → Mem → Option Mem
  | 0, _, _ => none
  | n + 1, v1_L9, M_L9 => (if (M_L9.1 0 7) ≤ v1_L9 then (some M_L9) else (grd (inb v1_L9 40) (bR (f_X1_perform (M_L9.1 29 (ix v1_L9)) M_L9) (fun M24 => (f_X1_doAgain_L9 n (v1_L9 + 1) M24)))))
def f_X1_doAgain (M : Mem) : Option Mem :=
  (bR (f_X0_beginAnew 15 M) (fun M4 => (f_X1_doAgain_L9 FU 0 M4)))
set_option maxHeartbeats 4000000 in
set_option maxRecDepth 100000 in
theorem c_X1_doAgain (l : Launch) (D : va_G) (cy : Nat → ClassId) (ad : Nat → Nat)    {M M' : Mem} (hf : f_X1_doAgain M = some M') : MetX l 43 (CC ad cy) D cy ad yX1_doAgain cX1_doAgain 2 none 4 [.ref (ad 0)] M (fun A => QV M' 43 (CC ad cy) D cy ad A) := by
  refine MetX.of (own := RX1) (by decide) rfl (Nat.le_of_ble_eq_true rfl) ?_
  intro p e s m below meth c A Q ls X hr hlk hZ hA hQ hW hl
  have hl : lv_has ls 2 [(0, .ref (ad 0))] := hl
  have hx := X.1
  have hb := X.2.1
  have hL9 : ∀   (n : Nat) (v1_L9 : Int32) (M_L9 : Mem) (H : Heap) (locs : List Loc) (ls : Array Slot), f_X1_doAgain_L9 n v1_L9 M_L9 = some M' → Wd D 43 ad (CC ad cy) A s.heap M_L9 H locs → lv_has ls 2 [(0, .ref (ad 0)), (1, .int v1_L9)] → W p l e (rmD 4) s m ([.ref (ad 0)] : List Value).toArray below meth c H locs 0 0 Q (F0 m 9 ls []) := by
    intro  n
    induction n with
    | zero =>
      intro v1_L9 M_L9 H locs ls hf
      cases (show (none : Option Mem) = some M' from hf)
    | succ n ih =>
      intro v1_L9 M_L9 H locs ls hf hW hl
      rw [f_X1_doAgain_L9] at hf
      refine lv_iload_n hx hb dX1_doAgain_9 rfl (lv_at hl 1 rfl) ?_
      refine lv_aload_n hx hb dX1_doAgain_10 rfl (lv_at hl 0 rfl) ?_
      refine gf_X1_39 X hW dX1_doAgain_11 ?_
      refine lv_icmp_ge (tgt := 33) hx hb dX1_doAgain_14 (by decide) (fun hc => ?_) (fun hc => ?_)
      · replace hf := ifp hc hf
        exact g_vret X hr hlk hQ hW dX1_doAgain_33 hf
      · replace hf := ifn hc hf
        refine lv_aload_n hx hb dX1_doAgain_17 rfl (lv_at hl 0 rfl) ?_
        refine lv_aload_n hx hb dX1_doAgain_18 rfl (lv_at hl 0 rfl) ?_
        refine gf_X1_36 X hW dX1_doAgain_19 ?_
        refine lv_iload_n hx hb dX1_doAgain_22 rfl (lv_at hl 1 rfl) ?_
        obtain ⟨hi23, hf⟩ := grd_some hf
        refine g_iald X hW iA_deeds hi23 dX1_doAgain_23 ?_
        obtain ⟨M24, h24, hf⟩ := bR_some hf
        refine g_callvV X hl.1 hZ hA hW (c_X1_perform l D cy ad h24) cw_X1_perform ql_X1_231 iO_X1 rfl (by decide) rfl (Nat.le_of_ble_eq_true rfl) dX1_doAgain_24 (fun H locs hW => ?_)
        refine lv_iinc (v := (v1_L9 + 1)) (lv' := [(1, .int (v1_L9 + 1)), (0, .ref (ad 0))]) hx hb dX1_doAgain_27 hl (k := 1) rfl rfl (by decide) rfl (fun ls hl => ?_)
        refine lv_goto (tgt := 9) hx hb dX1_doAgain_30 (by decide) ?_
        exact ih (v1_L9 + 1) M24 H locs ls hf hW (lv_sub hl [1, 0] rfl)
  obtain ⟨H, hH⟩ : ∃ H, H = s.heap := ⟨_, rfl⟩
  obtain ⟨locs, hlo⟩ : ∃ q : List Loc, q = [] := ⟨_, rfl⟩
  have hW : Wd D 43 ad (CC ad cy) A s.heap M H locs := by rw [hH, hlo]; exact hW
  suffices hh : W p l e (rmD 4) s m ([.ref (ad 0)] : List Value).toArray below meth c H locs 0 0 Q (F0 m 0 ls []) by rw [hH, hlo] at hh; exact hh
  unfold f_X1_doAgain at hf
  refine lv_aload_n hx hb dX1_doAgain_0 rfl (lv_at hl 0 rfl) ?_
  refine gf_X1_29 X hW dX1_doAgain_1 ?_
  obtain ⟨M4, h4, hf⟩ := bR_some hf
  refine g_callvN (host := "TubeWords") X hl.1 hZ hA hW (c_X0_beginAnew l D cy ad isSt15 h4) cw_X0_beginAnew (by decide +kernel) (iO_st isSt15) rfl (by decide) rfl (Nat.le_of_ble_eq_true rfl) dX1_doAgain_4 (fun H locs hW => ?_)
  refine lv_iconst (v := 0) hx hb dX1_doAgain_7 (by decide) ?_
  refine lv_istore_n (lv' := [(1, .int 0), (0, .ref (ad 0))]) hx hb dX1_doAgain_8 rfl hl (by decide) rfl (fun ls hl => ?_)
  exact hL9  FU 0 M4 H locs ls hf hW (lv_sub hl [1, 0] rfl)

def f_X1_undo (v1 : Int32) (M : Mem) : Option (Int32 × Mem) :=
  (bR (f_X1_isWithin v1 0 (M.1 0 7) M) (fun r6 => (if r6 = 0 then (some ((-1), M)) else (lt (sI M 0 7 v1) (fun M23 => (bR (f_X1_doAgain M23) (fun M27 => (some (((M.1 0 7) - v1), M27)))))))))
set_option maxHeartbeats 4000000 in
set_option maxRecDepth 100000 in
theorem c_X1_undo (l : Launch) (D : va_G) (cy : Nat → ClassId) (ad : Nat → Nat)   {v1 : Int32} {M M' : Mem} {r : Int32} (hf : f_X1_undo v1 M = some (r, M')) : MetX l 43 (CC ad cy) D cy ad yX1_undo cX1_undo 3 (some .int) 5 [.ref (ad 0), .int v1] M (fun A => QI r M' 43 (CC ad cy) D cy ad A) := by
  refine MetX.of (own := RX1) (by decide) rfl (Nat.le_of_ble_eq_true rfl) ?_
  intro p e s m below meth c A Q ls X hr hlk hZ hA hQ hW hl
  have hl : lv_has ls 3 [(0, .ref (ad 0)), (1, .int v1)] := hl
  have hx := X.1
  have hb := X.2.1
  obtain ⟨H, hH⟩ : ∃ H, H = s.heap := ⟨_, rfl⟩
  obtain ⟨locs, hlo⟩ : ∃ q : List Loc, q = [] := ⟨_, rfl⟩
  have hW : Wd D 43 ad (CC ad cy) A s.heap M H locs := by rw [hH, hlo]; exact hW
  suffices hh : W p l e (rmD 5) s m ([.ref (ad 0), .int v1] : List Value).toArray below meth c H locs 0 0 Q (F0 m 0 ls []) by rw [hH, hlo] at hh; exact hh
  unfold f_X1_undo at hf
  refine lv_iload_n hx hb dX1_undo_0 rfl (lv_at hl 1 rfl) ?_
  refine lv_iconst (v := 0) hx hb dX1_undo_1 (by decide) ?_
  refine lv_aload_n hx hb dX1_undo_2 rfl (lv_at hl 0 rfl) ?_
  refine gf_X1_39 X hW dX1_undo_3 ?_
  obtain ⟨r6, h6, hf⟩ := bR_some hf
  refine g_calliS X hl.1 hZ hA hW (c_X1_isWithin l D cy ad h6) cs_X1_isWithin ql_X1_114 rfl (by decide) rfl (Nat.le_of_ble_eq_true rfl) dX1_undo_6 (fun H locs hW => ?_)
  refine lv_if_ne (tgt := 14) hx hb dX1_undo_9 (by decide) (fun hc => ?_) (fun hc => ?_)
  · replace hf := ifn hc hf
    refine lv_aload_n hx hb dX1_undo_14 rfl (lv_at hl 0 rfl) ?_
    refine gf_X1_39 X hW dX1_undo_15 ?_
    refine lv_iload_n hx hb dX1_undo_18 rfl (lv_at hl 1 rfl) ?_
    refine lv_isub hx hb dX1_undo_19 ?_
    refine lv_istore_n (lv' := [(2, .int ((M.1 0 7) - v1)), (0, .ref (ad 0)), (1, .int v1)]) hx hb dX1_undo_20 rfl hl (by decide) rfl (fun ls hl => ?_)
    refine lv_aload_n hx hb dX1_undo_21 rfl (lv_at hl 1 rfl) ?_
    refine lv_iload_n hx hb dX1_undo_22 rfl (lv_at hl 2 rfl) ?_
    refine gp_X1_39 X hW dX1_undo_23 (fun H locs hW => ?_)
    obtain ⟨M23, e23, hf⟩ := lt_some hf
    have hW : Wd D 43 ad (CC ad cy) A s.heap M23 H locs := by rw [e23]; exact hW
    refine lv_aload_n hx hb dX1_undo_26 rfl (lv_at hl 1 rfl) ?_
    obtain ⟨M27, h27, hf⟩ := bR_some hf
    refine g_callvV X hl.1 hZ hA hW (c_X1_doAgain l D cy ad h27) cw_X1_doAgain ql_X1_153 iO_X1 rfl (by decide) rfl (Nat.le_of_ble_eq_true rfl) dX1_undo_27 (fun H locs hW => ?_)
    refine lv_iload_n hx hb dX1_undo_30 rfl (lv_at hl 0 rfl) ?_
    exact g_iret X hr hlk hQ hW dX1_undo_31 hf
  · replace hf := ifp hc hf
    refine lv_iconst (v := (-1)) hx hb dX1_undo_12 (by decide) ?_
    exact g_iret X hr hlk hQ hW dX1_undo_13 hf

def f_X1_isPlaceToKeep (v0 : Int32) (M : Mem) : Option Int32 :=
  (bR (f_X1_isWithin v0 0 2 M) (fun r3 => (grd (isB r3) (some r3))))
set_option maxHeartbeats 4000000 in
set_option maxRecDepth 100000 in
theorem c_X1_isPlaceToKeep (l : Launch) (D : va_G) (cy : Nat → ClassId) (ad : Nat → Nat)   {v0 : Int32} {M : Mem} {r : Int32} (hf : f_X1_isPlaceToKeep v0 M = some r) : MetX l 43 (CC ad cy) D cy ad yX1_isPlaceToKeep cX1_isPlaceToKeep 1 (some .boolean) 1 [.int v0] M (fun A => QI r M 43 (CC ad cy) D cy ad A) := by
  refine MetX.of (own := RX1) (by decide) rfl (Nat.le_of_ble_eq_true rfl) ?_
  intro p e s m below meth c A Q ls X hr hlk hZ hA hQ hW hl
  have hl : lv_has ls 1 [(0, .int v0)] := hl
  have hx := X.1
  have hb := X.2.1
  obtain ⟨H, hH⟩ : ∃ H, H = s.heap := ⟨_, rfl⟩
  obtain ⟨locs, hlo⟩ : ∃ q : List Loc, q = [] := ⟨_, rfl⟩
  have hW : Wd D 43 ad (CC ad cy) A s.heap M H locs := by rw [hH, hlo]; exact hW
  suffices hh : W p l e (rmD 1) s m ([.int v0] : List Value).toArray below meth c H locs 0 0 Q (F0 m 0 ls []) by rw [hH, hlo] at hh; exact hh
  unfold f_X1_isPlaceToKeep at hf
  refine lv_iload_n hx hb dX1_isPlaceToKeep_0 rfl (lv_at hl 0 rfl) ?_
  refine lv_iconst (v := 0) hx hb dX1_isPlaceToKeep_1 (by decide) ?_
  refine lv_iconst (v := 2) hx hb dX1_isPlaceToKeep_2 (by decide) ?_
  obtain ⟨r3, h3, hf⟩ := bR_some hf
  refine g_calliS X hl.1 hZ hA hW (c_X1_isWithin l D cy ad h3) cs_X1_isWithin ql_X1_114 rfl (by decide) rfl (Nat.le_of_ble_eq_true rfl) dX1_isPlaceToKeep_3 (fun H locs hW => ?_)
  obtain ⟨hzb, hf⟩ := grd_some hf
  exact g_zret X hr hlk hQ hW dX1_isPlaceToKeep_6 hzb (rd_some hf)

def f_X1_keep (v1 : Int32) (M : Mem) : Option (Int32 × Mem) :=
  (bR (f_X1_isPlaceToKeep v1 M) (fun r1 => (if r1 = 0 then (some ((-1), M)) else (if (M.1 15 6) = 0 then (some ((-4), M)) else (grd (inb v1 3) (grd (cpk 0 0 40 40 40) (lt (sA M (31 + (ix v1)) (va_cpy (M.1 29) (M.1 (31 + (ix v1))) (ix 0) (ix 0) (ix 40))) (fun M36 => (grd (inb v1 3) (lt (sI M36 34 (ix v1) (M36.1 0 7)) (fun M48 => (some ((M48.1 0 7), M48)))))))))))))
set_option maxHeartbeats 4000000 in
set_option maxRecDepth 100000 in
theorem c_X1_keep (l : Launch) (D : va_G) (cy : Nat → ClassId) (ad : Nat → Nat)   {v1 : Int32} {M M' : Mem} {r : Int32} (hf : f_X1_keep v1 M = some (r, M')) : MetX l 43 (CC ad cy) D cy ad yX1_keep cX1_keep 2 (some .int) 2 [.ref (ad 0), .int v1] M (fun A => QI r M' 43 (CC ad cy) D cy ad A) := by
  refine MetX.of (own := RX1) (by decide) rfl (Nat.le_of_ble_eq_true rfl) ?_
  intro p e s m below meth c A Q ls X hr hlk hZ hA hQ hW hl
  have hl : lv_has ls 2 [(0, .ref (ad 0)), (1, .int v1)] := hl
  have hx := X.1
  have hb := X.2.1
  obtain ⟨H, hH⟩ : ∃ H, H = s.heap := ⟨_, rfl⟩
  obtain ⟨locs, hlo⟩ : ∃ q : List Loc, q = [] := ⟨_, rfl⟩
  have hW : Wd D 43 ad (CC ad cy) A s.heap M H locs := by rw [hH, hlo]; exact hW
  suffices hh : W p l e (rmD 2) s m ([.ref (ad 0), .int v1] : List Value).toArray below meth c H locs 0 0 Q (F0 m 0 ls []) by rw [hH, hlo] at hh; exact hh
  unfold f_X1_keep at hf
  refine lv_iload_n hx hb dX1_keep_0 rfl (lv_at hl 1 rfl) ?_
  obtain ⟨r1, h1, hf⟩ := bR_some hf
  refine g_calliS X hl.1 hZ hA hW (c_X1_isPlaceToKeep l D cy ad h1) cs_X1_isPlaceToKeep ql_X1_156 rfl (by decide) rfl (Nat.le_of_ble_eq_true rfl) dX1_keep_1 (fun H locs hW => ?_)
  refine lv_if_ne (tgt := 9) hx hb dX1_keep_4 (by decide) (fun hc => ?_) (fun hc => ?_)
  · replace hf := ifn hc hf
    refine lv_aload_n hx hb dX1_keep_9 rfl (lv_at hl 0 rfl) ?_
    refine gf_X1_29 X hW dX1_keep_10 ?_
    refine gf_X1_108 isSt15 X hW dX1_keep_13 ?_
    refine lv_if_ne (tgt := 22) hx hb dX1_keep_16 (by decide) (fun hc => ?_) (fun hc => ?_)
    · replace hf := ifn hc hf
      refine lv_aload_n hx hb dX1_keep_22 rfl (lv_at hl 0 rfl) ?_
      refine gf_X1_36 X hW dX1_keep_23 ?_
      refine lv_iconst (v := 0) hx hb dX1_keep_26 (by decide) ?_
      refine lv_aload_n hx hb dX1_keep_27 rfl (lv_at hl 0 rfl) ?_
      refine gf_X1_43 X hW dX1_keep_28 ?_
      refine lv_iload_n hx hb dX1_keep_31 rfl (lv_at hl 1 rfl) ?_
      obtain ⟨hi32, hf⟩ := grd_some hf
      refine g_aald X hW (t0 := 3) iG_keptDeeds rfl rfl hi32 dX1_keep_32 ?_
      refine lv_iconst (v := 0) hx hb dX1_keep_33 (by decide) ?_
      refine lv_bipush (v := 40) hx hb dX1_keep_34 (by decide) ?_
      obtain ⟨hc36, hf⟩ := grd_some hf
      refine g_copy X hl.1 hW ql_X1_88 q_acn q_acs q_inSys iA_deeds (iA_keptDeeds_r (inb_lt hi32)) hc36 (by decide) (Nat.le_of_ble_eq_true rfl) dX1_keep_36 (fun H locs hW => ?_)
      obtain ⟨M36, e36, hf⟩ := lt_some hf
      have hW : Wd D 43 ad (CC ad cy) A s.heap M36 H locs := by rw [e36]; exact hW
      refine lv_aload_n hx hb dX1_keep_39 rfl (lv_at hl 0 rfl) ?_
      refine gf_X1_46 X hW dX1_keep_40 ?_
      refine lv_iload_n hx hb dX1_keep_43 rfl (lv_at hl 1 rfl) ?_
      refine lv_aload_n hx hb dX1_keep_44 rfl (lv_at hl 0 rfl) ?_
      refine gf_X1_39 X hW dX1_keep_45 ?_
      obtain ⟨hi48, hf⟩ := grd_some hf
      refine g_iast X hW iA_keptSizes hi48 dX1_keep_48 (fun H locs hW => ?_)
      obtain ⟨M48, e48, hf⟩ := lt_some hf
      have hW : Wd D 43 ad (CC ad cy) A s.heap M48 H locs := by rw [e48]; exact hW
      refine lv_aload_n hx hb dX1_keep_49 rfl (lv_at hl 0 rfl) ?_
      refine gf_X1_39 X hW dX1_keep_50 ?_
      exact g_iret X hr hlk hQ hW dX1_keep_53 hf
    · replace hf := ifp hc hf
      refine lv_bipush (v := (-4)) hx hb dX1_keep_19 (by decide) ?_
      exact g_iret X hr hlk hQ hW dX1_keep_21 hf
  · replace hf := ifp hc hf
    refine lv_iconst (v := (-1)) hx hb dX1_keep_7 (by decide) ?_
    exact g_iret X hr hlk hQ hW dX1_keep_8 hf

def f_X1_on (v1 : Int32) (M : Mem) : Option (Int32 × Mem) :=
  (bR (f_X1_isPlaceToKeep v1 M) (fun r1 => (if r1 = 0 then (some ((-1), M)) else (grd (inb v1 3) (if (M.1 34 (ix v1)) = (-1) then (bI (f_X1_refuse 1 M) (fun r21 M21 => (some (r21, M21)))) else (grd (inb v1 3) (grd (cpk 0 0 40 40 40) (lt (sA M 29 (va_cpy (M.1 (31 + (ix v1))) (M.1 29) (ix 0) (ix 0) (ix 40))) (fun M39 => (grd (inb v1 3) (lt (sI M39 0 7 (M39.1 34 (ix v1))) (fun M49 => (bR (f_X1_doAgain M49) (fun M53 => (some ((M53.1 0 7), M53))))))))))))))))
set_option maxHeartbeats 4000000 in
set_option maxRecDepth 100000 in
theorem c_X1_on (l : Launch) (D : va_G) (cy : Nat → ClassId) (ad : Nat → Nat)   {v1 : Int32} {M M' : Mem} {r : Int32} (hf : f_X1_on v1 M = some (r, M')) : MetX l 43 (CC ad cy) D cy ad yX1_on cX1_on 2 (some .int) 5 [.ref (ad 0), .int v1] M (fun A => QI r M' 43 (CC ad cy) D cy ad A) := by
  refine MetX.of (own := RX1) (by decide) rfl (Nat.le_of_ble_eq_true rfl) ?_
  intro p e s m below meth c A Q ls X hr hlk hZ hA hQ hW hl
  have hl : lv_has ls 2 [(0, .ref (ad 0)), (1, .int v1)] := hl
  have hx := X.1
  have hb := X.2.1
  obtain ⟨H, hH⟩ : ∃ H, H = s.heap := ⟨_, rfl⟩
  obtain ⟨locs, hlo⟩ : ∃ q : List Loc, q = [] := ⟨_, rfl⟩
  have hW : Wd D 43 ad (CC ad cy) A s.heap M H locs := by rw [hH, hlo]; exact hW
  suffices hh : W p l e (rmD 5) s m ([.ref (ad 0), .int v1] : List Value).toArray below meth c H locs 0 0 Q (F0 m 0 ls []) by rw [hH, hlo] at hh; exact hh
  unfold f_X1_on at hf
  refine lv_iload_n hx hb dX1_on_0 rfl (lv_at hl 1 rfl) ?_
  obtain ⟨r1, h1, hf⟩ := bR_some hf
  refine g_calliS X hl.1 hZ hA hW (c_X1_isPlaceToKeep l D cy ad h1) cs_X1_isPlaceToKeep ql_X1_156 rfl (by decide) rfl (Nat.le_of_ble_eq_true rfl) dX1_on_1 (fun H locs hW => ?_)
  refine lv_if_ne (tgt := 9) hx hb dX1_on_4 (by decide) (fun hc => ?_) (fun hc => ?_)
  · replace hf := ifn hc hf
    refine lv_aload_n hx hb dX1_on_9 rfl (lv_at hl 0 rfl) ?_
    refine gf_X1_46 X hW dX1_on_10 ?_
    refine lv_iload_n hx hb dX1_on_13 rfl (lv_at hl 1 rfl) ?_
    obtain ⟨hi14, hf⟩ := grd_some hf
    refine g_iald X hW iA_keptSizes hi14 dX1_on_14 ?_
    refine lv_iconst (v := (-1)) hx hb dX1_on_15 (by decide) ?_
    refine lv_icmp_ne (tgt := 25) hx hb dX1_on_16 (by decide) (fun hc => ?_) (fun hc => ?_)
    · replace hf := ifn hc hf
      refine lv_aload_n hx hb dX1_on_25 rfl (lv_at hl 0 rfl) ?_
      refine gf_X1_43 X hW dX1_on_26 ?_
      refine lv_iload_n hx hb dX1_on_29 rfl (lv_at hl 1 rfl) ?_
      obtain ⟨hi30, hf⟩ := grd_some hf
      refine g_aald X hW (t0 := 3) iG_keptDeeds rfl rfl hi30 dX1_on_30 ?_
      refine lv_iconst (v := 0) hx hb dX1_on_31 (by decide) ?_
      refine lv_aload_n hx hb dX1_on_32 rfl (lv_at hl 0 rfl) ?_
      refine gf_X1_36 X hW dX1_on_33 ?_
      refine lv_iconst (v := 0) hx hb dX1_on_36 (by decide) ?_
      refine lv_bipush (v := 40) hx hb dX1_on_37 (by decide) ?_
      obtain ⟨hc39, hf⟩ := grd_some hf
      refine g_copy X hl.1 hW ql_X1_88 q_acn q_acs q_inSys (iA_keptDeeds_r (inb_lt hi30)) iA_deeds hc39 (by decide) (Nat.le_of_ble_eq_true rfl) dX1_on_39 (fun H locs hW => ?_)
      obtain ⟨M39, e39, hf⟩ := lt_some hf
      have hW : Wd D 43 ad (CC ad cy) A s.heap M39 H locs := by rw [e39]; exact hW
      refine lv_aload_n hx hb dX1_on_42 rfl (lv_at hl 0 rfl) ?_
      refine lv_aload_n hx hb dX1_on_43 rfl (lv_at hl 0 rfl) ?_
      refine gf_X1_46 X hW dX1_on_44 ?_
      refine lv_iload_n hx hb dX1_on_47 rfl (lv_at hl 1 rfl) ?_
      obtain ⟨hi48, hf⟩ := grd_some hf
      refine g_iald X hW iA_keptSizes hi48 dX1_on_48 ?_
      refine gp_X1_39 X hW dX1_on_49 (fun H locs hW => ?_)
      obtain ⟨M49, e49, hf⟩ := lt_some hf
      have hW : Wd D 43 ad (CC ad cy) A s.heap M49 H locs := by rw [e49]; exact hW
      refine lv_aload_n hx hb dX1_on_52 rfl (lv_at hl 0 rfl) ?_
      obtain ⟨M53, h53, hf⟩ := bR_some hf
      refine g_callvV X hl.1 hZ hA hW (c_X1_doAgain l D cy ad h53) cw_X1_doAgain ql_X1_153 iO_X1 rfl (by decide) rfl (Nat.le_of_ble_eq_true rfl) dX1_on_53 (fun H locs hW => ?_)
      refine lv_aload_n hx hb dX1_on_56 rfl (lv_at hl 0 rfl) ?_
      refine gf_X1_39 X hW dX1_on_57 ?_
      exact g_iret X hr hlk hQ hW dX1_on_60 hf
    · replace hf := ifp hc hf
      refine lv_aload_n hx hb dX1_on_19 rfl (lv_at hl 0 rfl) ?_
      refine lv_iconst (v := 1) hx hb dX1_on_20 (by decide) ?_
      obtain ⟨r21, M21, h21, hf⟩ := bI_some hf
      refine g_calliV X hl.1 hZ hA hW (c_X1_refuse l D cy ad h21) cw_X1_refuse ql_X1_72 iO_X1 rfl (by decide) rfl (Nat.le_of_ble_eq_true rfl) dX1_on_21 (fun H locs hW => ?_)
      exact g_iret X hr hlk hQ hW dX1_on_24 hf
  · replace hf := ifp hc hf
    refine lv_iconst (v := (-1)) hx hb dX1_on_7 (by decide) ?_
    exact g_iret X hr hlk hQ hW dX1_on_8 hf

def f_X1_later (v1 : Int32) (v2 : Int32) (M : Mem) : Option (Int32 × Mem) :=
  (bR (f_X0_has 15 v1 M) (fun r5 => (if r5 = 0 then (some ((-1), M)) else (bR (f_X1_isWithin v2 0 60 M) (fun r15 => (if r15 = 0 then (some ((-1), M)) else (bR (f_X0_takeFrom 22 15 M) (fun M31 => (bR (f_X0_goOn 22 v2 M31) (fun M39 => (bR (f_X0_pulses 22 M39) (fun r47 => (lt (sI M39 0 13 r47) (fun M50 => (grd (inb v1 7) (some ((M50.1 (22 + 4) (ix v1)), M50)))))))))))))))))
set_option maxHeartbeats 4000000 in
set_option maxRecDepth 100000 in
theorem c_X1_later (l : Launch) (D : va_G) (cy : Nat → ClassId) (ad : Nat → Nat)   {v1 : Int32} {v2 : Int32} {M M' : Mem} {r : Int32} (hf : f_X1_later v1 v2 M = some (r, M')) : MetX l 43 (CC ad cy) D cy ad yX1_later cX1_later 3 (some .int) 4 [.ref (ad 0), .int v1, .int v2] M (fun A => QI r M' 43 (CC ad cy) D cy ad A) := by
  refine MetX.of (own := RX1) (by decide) rfl (Nat.le_of_ble_eq_true rfl) ?_
  intro p e s m below meth c A Q ls X hr hlk hZ hA hQ hW hl
  have hl : lv_has ls 3 [(0, .ref (ad 0)), (1, .int v1), (2, .int v2)] := hl
  have hx := X.1
  have hb := X.2.1
  obtain ⟨H, hH⟩ : ∃ H, H = s.heap := ⟨_, rfl⟩
  obtain ⟨locs, hlo⟩ : ∃ q : List Loc, q = [] := ⟨_, rfl⟩
  have hW : Wd D 43 ad (CC ad cy) A s.heap M H locs := by rw [hH, hlo]; exact hW
  suffices hh : W p l e (rmD 4) s m ([.ref (ad 0), .int v1, .int v2] : List Value).toArray below meth c H locs 0 0 Q (F0 m 0 ls []) by rw [hH, hlo] at hh; exact hh
  unfold f_X1_later at hf
  refine lv_aload_n hx hb dX1_later_0 rfl (lv_at hl 0 rfl) ?_
  refine gf_X1_29 X hW dX1_later_1 ?_
  refine lv_iload_n hx hb dX1_later_4 rfl (lv_at hl 1 rfl) ?_
  obtain ⟨r5, h5, hf⟩ := bR_some hf
  refine g_calliN (host := "TubeWords") X hl.1 hZ hA hW (c_X0_has l D cy ad isSt15 h5) cw_X0_has (by decide +kernel) (iO_st isSt15) rfl (by decide) rfl (Nat.le_of_ble_eq_true rfl) dX1_later_5 (fun H locs hW => ?_)
  refine lv_if_eq (tgt := 21) hx hb dX1_later_8 (by decide) (fun hc => ?_) (fun hc => ?_)
  · replace hf := ifp hc hf
    refine lv_iconst (v := (-1)) hx hb dX1_later_21 (by decide) ?_
    exact g_iret X hr hlk hQ hW dX1_later_22 hf
  · replace hf := ifn hc hf
    refine lv_iload_n hx hb dX1_later_11 rfl (lv_at hl 2 rfl) ?_
    refine lv_iconst (v := 0) hx hb dX1_later_12 (by decide) ?_
    refine lv_bipush (v := 60) hx hb dX1_later_13 (by decide) ?_
    obtain ⟨r15, h15, hf⟩ := bR_some hf
    refine g_calliS X hl.1 hZ hA hW (c_X1_isWithin l D cy ad h15) cs_X1_isWithin ql_X1_114 rfl (by decide) rfl (Nat.le_of_ble_eq_true rfl) dX1_later_15 (fun H locs hW => ?_)
    refine lv_if_ne (tgt := 23) hx hb dX1_later_18 (by decide) (fun hc => ?_) (fun hc => ?_)
    · replace hf := ifn hc hf
      refine lv_aload_n hx hb dX1_later_23 rfl (lv_at hl 0 rfl) ?_
      refine gf_X1_33 X hW dX1_later_24 ?_
      refine lv_aload_n hx hb dX1_later_27 rfl (lv_at hl 0 rfl) ?_
      refine gf_X1_29 X hW dX1_later_28 ?_
      obtain ⟨M31, h31, hf⟩ := bR_some hf
      refine g_callvN (host := "TubeWords") X hl.1 hZ hA hW (c_X0_takeFrom l D cy ad isSt22 isSt15 h31) cw_X0_takeFrom (by decide +kernel) (iO_st isSt22) rfl (by decide) rfl (Nat.le_of_ble_eq_true rfl) dX1_later_31 (fun H locs hW => ?_)
      refine lv_aload_n hx hb dX1_later_34 rfl (lv_at hl 0 rfl) ?_
      refine gf_X1_33 X hW dX1_later_35 ?_
      refine lv_iload_n hx hb dX1_later_38 rfl (lv_at hl 2 rfl) ?_
      obtain ⟨M39, h39, hf⟩ := bR_some hf
      refine g_callvN (host := "TubeWords") X hl.1 hZ hA hW (c_X0_goOn l D cy ad isSt22 h39) cw_X0_goOn (by decide +kernel) (iO_st isSt22) rfl (by decide) rfl (Nat.le_of_ble_eq_true rfl) dX1_later_39 (fun H locs hW => ?_)
      refine lv_aload_n hx hb dX1_later_42 rfl (lv_at hl 0 rfl) ?_
      refine lv_aload_n hx hb dX1_later_43 rfl (lv_at hl 0 rfl) ?_
      refine gf_X1_33 X hW dX1_later_44 ?_
      obtain ⟨r47, h47, hf⟩ := bR_some hf
      refine g_calliN (host := "TubeWords") X hl.1 hZ hA hW (c_X0_pulses l D cy ad isSt22 h47) cw_X0_pulses (by decide +kernel) (iO_st isSt22) rfl (by decide) rfl (Nat.le_of_ble_eq_true rfl) dX1_later_47 (fun H locs hW => ?_)
      refine gp_X1_58 X hW dX1_later_50 (fun H locs hW => ?_)
      obtain ⟨M50, e50, hf⟩ := lt_some hf
      have hW : Wd D 43 ad (CC ad cy) A s.heap M50 H locs := by rw [e50]; exact hW
      refine lv_aload_n hx hb dX1_later_53 rfl (lv_at hl 0 rfl) ?_
      refine gf_X1_33 X hW dX1_later_54 ?_
      refine gf_X1_144 isSt22 X hW dX1_later_57 ?_
      refine lv_iload_n hx hb dX1_later_60 rfl (lv_at hl 1 rfl) ?_
      obtain ⟨hi61, hf⟩ := grd_some hf
      refine g_iald X hW (iA_st4 isSt22) hi61 dX1_later_61 ?_
      exact g_iret X hr hlk hQ hW dX1_later_62 hf
    · replace hf := ifp hc hf
      refine lv_iconst (v := (-1)) hx hb dX1_later_21 (by decide) ?_
      exact g_iret X hr hlk hQ hW dX1_later_22 hf

def f_X1_hears_L53 (v1_L53 : Int32) (v2_L53 : Int32) (v3_L53 : Int32) : Nat → Int32 → Int32 → Mem → Option (Int32 × Mem)
  | 0, _, _, _ => none
  | n + 1, v4_L53, v5_L53, M_L53 => (if v2_L53 ≤ v5_L53 then (some (v4_L53, M_L53)) else (grd (inb v3_L53 6) (bR (f_X0_isReady 22 v1_L53 M_L53) (fun r72 => (jn (fun (k90 : Int32 → Option (Int32 × Mem)) => (if r72 = 0 then (k90 (-1)) else (bR (f_X0_comesOut 22 v1_L53 M_L53) (fun r83 => (k90 r83))))) (fun (t0_90j : Int32) => (grd (inb v5_L53 40) (lt (sI M_L53 (2 + (ix v3_L53)) (ix v5_L53) t0_90j) (fun M90 => (bR (f_X0_comesOut 22 v1_L53 M90) (fun r98 => (bR (f_X0_goOn 22 1 M90) (fun M109 => (f_X1_hears_L53 v1_L53 v2_L53 v3_L53 n (v4_L53 + r98) (v5_L53 + 1) M109))))))))))))))
def f_X1_hears (v1 : Int32) (v2 : Int32) (v3 : Int32) (M : Mem) : Option (Int32 × Mem) :=
  (bR (f_X0_has 15 v1 M) (fun r5 => (if r5 = 0 then (some ((-1), M)) else (bR (f_X1_isWithin v2 1 20 M) (fun r15 => (if r15 = 0 then (some ((-1), M)) else (bR (f_X1_isRow v3 M) (fun r22 => (if r22 = 0 then (some ((-1), M)) else (bR (f_X1_makeRow v3 v2 M) (fun M33 => (bR (f_X0_takeFrom 22 15 M33) (fun M44 => (f_X1_hears_L53 v1 v2 v3 FU 0 0 M44))))))))))))))
set_option maxHeartbeats 4000000 in
set_option maxRecDepth 100000 in
theorem c_X1_hears (l : Launch) (D : va_G) (cy : Nat → ClassId) (ad : Nat → Nat)   {v1 : Int32} {v2 : Int32} {v3 : Int32} {M M' : Mem} {r : Int32} (hf : f_X1_hears v1 v2 v3 M = some (r, M')) : MetX l 43 (CC ad cy) D cy ad yX1_hears cX1_hears 6 (some .int) 4 [.ref (ad 0), .int v1, .int v2, .int v3] M (fun A => QI r M' 43 (CC ad cy) D cy ad A) := by
  refine MetX.of (own := RX1) (by decide) rfl (Nat.le_of_ble_eq_true rfl) ?_
  intro p e s m below meth c A Q ls X hr hlk hZ hA hQ hW hl
  have hl : lv_has ls 6 [(0, .ref (ad 0)), (1, .int v1), (2, .int v2), (3, .int v3)] := hl
  have hx := X.1
  have hb := X.2.1
  have hL53 : ∀ (v1_L53 : Int32) (v2_L53 : Int32) (v3_L53 : Int32)  (n : Nat) (v4_L53 : Int32) (v5_L53 : Int32) (M_L53 : Mem) (H : Heap) (locs : List Loc) (ls : Array Slot), f_X1_hears_L53 v1_L53 v2_L53 v3_L53 n v4_L53 v5_L53 M_L53 = some (r, M') → Wd D 43 ad (CC ad cy) A s.heap M_L53 H locs → lv_has ls 6 [(0, .ref (ad 0)), (1, .int v1_L53), (2, .int v2_L53), (3, .int v3_L53), (4, .int v4_L53), (5, .int v5_L53)] → W p l e (rmD 4) s m ([.ref (ad 0), .int v1, .int v2, .int v3] : List Value).toArray below meth c H locs 0 0 Q (F0 m 53 ls []) := by
    intro v1_L53 v2_L53 v3_L53 n
    induction n with
    | zero =>
      intro v4_L53 v5_L53 M_L53 H locs ls hf
      cases (show (none : Option (Int32 × Mem)) = some (r, M') from hf)
    | succ n ih =>
      intro v4_L53 v5_L53 M_L53 H locs ls hf hW hl
      rw [f_X1_hears_L53] at hf
      refine lv_iload hx hb dX1_hears_53 (lv_at hl 5 rfl) ?_
      refine lv_iload_n hx hb dX1_hears_55 rfl (lv_at hl 2 rfl) ?_
      refine lv_icmp_ge (tgt := 118) hx hb dX1_hears_56 (by decide) (fun hc => ?_) (fun hc => ?_)
      · replace hf := ifp hc hf
        refine lv_iload hx hb dX1_hears_118 (lv_at hl 4 rfl) ?_
        exact g_iret X hr hlk hQ hW dX1_hears_120 hf
      · replace hf := ifn hc hf
        refine lv_aload_n hx hb dX1_hears_59 rfl (lv_at hl 0 rfl) ?_
        refine gf_X1_11 X hW dX1_hears_60 ?_
        refine lv_iload_n hx hb dX1_hears_63 rfl (lv_at hl 3 rfl) ?_
        obtain ⟨hi64, hf⟩ := grd_some hf
        refine g_aald X hW (t0 := 3) iG_rows rfl rfl hi64 dX1_hears_64 ?_
        refine lv_iload hx hb dX1_hears_65 (lv_at hl 5 rfl) ?_
        refine lv_aload_n hx hb dX1_hears_67 rfl (lv_at hl 0 rfl) ?_
        refine gf_X1_33 X hW dX1_hears_68 ?_
        refine lv_iload_n hx hb dX1_hears_71 rfl (lv_at hl 1 rfl) ?_
        obtain ⟨r72, h72, hf⟩ := bR_some hf
        refine g_calliN (host := "TubeWords") X hl.1 hZ hA hW (c_X0_isReady l D cy ad isSt22 h72) cw_X0_isReady (by decide +kernel) (iO_st isSt22) rfl (by decide) rfl (Nat.le_of_ble_eq_true rfl) dX1_hears_72 (fun H locs hW => ?_)
        obtain ⟨k90, hk90, hf⟩ := jn_some1 hf
        have hJ90 : ∀ (t0_90j : Int32) (H : Heap) (locs : List Loc) (ls : Array Slot), k90 t0_90j = some (r, M') → Wd D 43 ad (CC ad cy) A s.heap M_L53 H locs → lv_has ls 6 [(0, .ref (ad 0)), (1, .int v1_L53), (2, .int v2_L53), (3, .int v3_L53), (4, .int v4_L53), (5, .int v5_L53)] → W p l e (rmD 4) s m ([.ref (ad 0), .int v1, .int v2, .int v3] : List Value).toArray below meth c H locs 0 0 Q (F0 m 90 ls [.int t0_90j, .int v5_L53, .ref (ad (2 + (ix v3_L53)))]) := by
          intro t0_90j H locs ls hf hW hl
          rw [hk90] at hf
          obtain ⟨hi90, hf⟩ := grd_some hf
          refine g_iast X hW (iA_rows_r (inb_lt hi64)) hi90 dX1_hears_90 (fun H locs hW => ?_)
          obtain ⟨M90, e90, hf⟩ := lt_some hf
          have hW : Wd D 43 ad (CC ad cy) A s.heap M90 H locs := by rw [e90]; exact hW
          refine lv_iload hx hb dX1_hears_91 (lv_at hl 4 rfl) ?_
          refine lv_aload_n hx hb dX1_hears_93 rfl (lv_at hl 0 rfl) ?_
          refine gf_X1_33 X hW dX1_hears_94 ?_
          refine lv_iload_n hx hb dX1_hears_97 rfl (lv_at hl 1 rfl) ?_
          obtain ⟨r98, h98, hf⟩ := bR_some hf
          refine g_calliN (host := "TubeWords") X hl.1 hZ hA hW (c_X0_comesOut l D cy ad isSt22 h98) cw_X0_comesOut (by decide +kernel) (iO_st isSt22) rfl (by decide) rfl (Nat.le_of_ble_eq_true rfl) dX1_hears_98 (fun H locs hW => ?_)
          refine lv_iadd hx hb dX1_hears_101 ?_
          refine lv_istore (lv' := [(4, .int (v4_L53 + r98)), (0, .ref (ad 0)), (1, .int v1_L53), (2, .int v2_L53), (3, .int v3_L53), (5, .int v5_L53)]) hx hb dX1_hears_102 hl (by decide) rfl (fun ls hl => ?_)
          refine lv_aload_n hx hb dX1_hears_104 rfl (lv_at hl 1 rfl) ?_
          refine gf_X1_33 X hW dX1_hears_105 ?_
          refine lv_iconst (v := 1) hx hb dX1_hears_108 (by decide) ?_
          obtain ⟨M109, h109, hf⟩ := bR_some hf
          refine g_callvN (host := "TubeWords") X hl.1 hZ hA hW (c_X0_goOn l D cy ad isSt22 h109) cw_X0_goOn (by decide +kernel) (iO_st isSt22) rfl (by decide) rfl (Nat.le_of_ble_eq_true rfl) dX1_hears_109 (fun H locs hW => ?_)
          refine lv_iinc (v := (v5_L53 + 1)) (lv' := [(5, .int (v5_L53 + 1)), (4, .int (v4_L53 + r98)), (0, .ref (ad 0)), (1, .int v1_L53), (2, .int v2_L53), (3, .int v3_L53)]) hx hb dX1_hears_112 hl (k := 5) rfl rfl (by decide) rfl (fun ls hl => ?_)
          refine lv_goto (tgt := 53) hx hb dX1_hears_115 (by decide) ?_
          exact ih (v4_L53 + r98) (v5_L53 + 1) M109 H locs ls hf hW (lv_sub hl [2, 3, 4, 5, 1, 0] rfl)
        refine lv_if_eq (tgt := 89) hx hb dX1_hears_75 (by decide) (fun hc => ?_) (fun hc => ?_)
        · replace hf := ifp hc hf
          refine lv_iconst (v := (-1)) hx hb dX1_hears_89 (by decide) ?_
          exact hJ90 (-1) H locs ls hf hW (lv_sub hl [0, 1, 2, 3, 4, 5] rfl)
        · replace hf := ifn hc hf
          refine lv_aload_n hx hb dX1_hears_78 rfl (lv_at hl 0 rfl) ?_
          refine gf_X1_33 X hW dX1_hears_79 ?_
          refine lv_iload_n hx hb dX1_hears_82 rfl (lv_at hl 1 rfl) ?_
          obtain ⟨r83, h83, hf⟩ := bR_some hf
          refine g_calliN (host := "TubeWords") X hl.1 hZ hA hW (c_X0_comesOut l D cy ad isSt22 h83) cw_X0_comesOut (by decide +kernel) (iO_st isSt22) rfl (by decide) rfl (Nat.le_of_ble_eq_true rfl) dX1_hears_83 (fun H locs hW => ?_)
          refine lv_goto (tgt := 90) hx hb dX1_hears_86 (by decide) ?_
          exact hJ90 r83 H locs ls hf hW (lv_sub hl [0, 1, 2, 3, 4, 5] rfl)
  obtain ⟨H, hH⟩ : ∃ H, H = s.heap := ⟨_, rfl⟩
  obtain ⟨locs, hlo⟩ : ∃ q : List Loc, q = [] := ⟨_, rfl⟩
  have hW : Wd D 43 ad (CC ad cy) A s.heap M H locs := by rw [hH, hlo]; exact hW
  suffices hh : W p l e (rmD 4) s m ([.ref (ad 0), .int v1, .int v2, .int v3] : List Value).toArray below meth c H locs 0 0 Q (F0 m 0 ls []) by rw [hH, hlo] at hh; exact hh
  unfold f_X1_hears at hf
  refine lv_aload_n hx hb dX1_hears_0 rfl (lv_at hl 0 rfl) ?_
  refine gf_X1_29 X hW dX1_hears_1 ?_
  refine lv_iload_n hx hb dX1_hears_4 rfl (lv_at hl 1 rfl) ?_
  obtain ⟨r5, h5, hf⟩ := bR_some hf
  refine g_calliN (host := "TubeWords") X hl.1 hZ hA hW (c_X0_has l D cy ad isSt15 h5) cw_X0_has (by decide +kernel) (iO_st isSt15) rfl (by decide) rfl (Nat.le_of_ble_eq_true rfl) dX1_hears_5 (fun H locs hW => ?_)
  refine lv_if_eq (tgt := 28) hx hb dX1_hears_8 (by decide) (fun hc => ?_) (fun hc => ?_)
  · replace hf := ifp hc hf
    refine lv_iconst (v := (-1)) hx hb dX1_hears_28 (by decide) ?_
    exact g_iret X hr hlk hQ hW dX1_hears_29 hf
  · replace hf := ifn hc hf
    refine lv_iload_n hx hb dX1_hears_11 rfl (lv_at hl 2 rfl) ?_
    refine lv_iconst (v := 1) hx hb dX1_hears_12 (by decide) ?_
    refine lv_bipush (v := 20) hx hb dX1_hears_13 (by decide) ?_
    obtain ⟨r15, h15, hf⟩ := bR_some hf
    refine g_calliS X hl.1 hZ hA hW (c_X1_isWithin l D cy ad h15) cs_X1_isWithin ql_X1_114 rfl (by decide) rfl (Nat.le_of_ble_eq_true rfl) dX1_hears_15 (fun H locs hW => ?_)
    refine lv_if_eq (tgt := 28) hx hb dX1_hears_18 (by decide) (fun hc => ?_) (fun hc => ?_)
    · replace hf := ifp hc hf
      refine lv_iconst (v := (-1)) hx hb dX1_hears_28 (by decide) ?_
      exact g_iret X hr hlk hQ hW dX1_hears_29 hf
    · replace hf := ifn hc hf
      refine lv_iload_n hx hb dX1_hears_21 rfl (lv_at hl 3 rfl) ?_
      obtain ⟨r22, h22, hf⟩ := bR_some hf
      refine g_calliS X hl.1 hZ hA hW (c_X1_isRow l D cy ad h22) cs_X1_isRow ql_X1_68 rfl (by decide) rfl (Nat.le_of_ble_eq_true rfl) dX1_hears_22 (fun H locs hW => ?_)
      refine lv_if_ne (tgt := 30) hx hb dX1_hears_25 (by decide) (fun hc => ?_) (fun hc => ?_)
      · replace hf := ifn hc hf
        refine lv_aload_n hx hb dX1_hears_30 rfl (lv_at hl 0 rfl) ?_
        refine lv_iload_n hx hb dX1_hears_31 rfl (lv_at hl 3 rfl) ?_
        refine lv_iload_n hx hb dX1_hears_32 rfl (lv_at hl 2 rfl) ?_
        obtain ⟨M33, h33, hf⟩ := bR_some hf
        refine g_callvV X hl.1 hZ hA hW (c_X1_makeRow l D cy ad h33) cw_X1_makeRow ql_X1_76 iO_X1 rfl (by decide) rfl (Nat.le_of_ble_eq_true rfl) dX1_hears_33 (fun H locs hW => ?_)
        refine lv_aload_n hx hb dX1_hears_36 rfl (lv_at hl 0 rfl) ?_
        refine gf_X1_33 X hW dX1_hears_37 ?_
        refine lv_aload_n hx hb dX1_hears_40 rfl (lv_at hl 0 rfl) ?_
        refine gf_X1_29 X hW dX1_hears_41 ?_
        obtain ⟨M44, h44, hf⟩ := bR_some hf
        refine g_callvN (host := "TubeWords") X hl.1 hZ hA hW (c_X0_takeFrom l D cy ad isSt22 isSt15 h44) cw_X0_takeFrom (by decide +kernel) (iO_st isSt22) rfl (by decide) rfl (Nat.le_of_ble_eq_true rfl) dX1_hears_44 (fun H locs hW => ?_)
        refine lv_iconst (v := 0) hx hb dX1_hears_47 (by decide) ?_
        refine lv_istore (lv' := [(4, .int 0), (0, .ref (ad 0)), (1, .int v1), (2, .int v2), (3, .int v3)]) hx hb dX1_hears_48 hl (by decide) rfl (fun ls hl => ?_)
        refine lv_iconst (v := 0) hx hb dX1_hears_50 (by decide) ?_
        refine lv_istore (lv' := [(5, .int 0), (4, .int 0), (0, .ref (ad 0)), (1, .int v1), (2, .int v2), (3, .int v3)]) hx hb dX1_hears_51 hl (by decide) rfl (fun ls hl => ?_)
        exact hL53 v1 v2 v3 FU 0 0 M44 H locs ls hf hW (lv_sub hl [2, 3, 4, 5, 1, 0] rfl)
      · replace hf := ifp hc hf
        refine lv_iconst (v := (-1)) hx hb dX1_hears_28 (by decide) ?_
        exact g_iret X hr hlk hQ hW dX1_hears_29 hf

def f_X1_finds_L59 (v1_L59 : Int32) (v2_L59 : Int32) (v3_L59 : Int32) (k122 : Int32 → Int32 → Mem → Option (Int32 × Mem)) : Nat → Int32 → Int32 → Int32 → Int32 → Mem → Option (Int32 × Mem)
  | 0, _, _, _, _, _ => none
  | n + 1, v4_L59, v5_L59, v6_L59, v7_L59, M_L59 => (if 60 < v7_L59 then (some ((-9), M_L59)) else (bR (f_X0_isReady 22 v1_L59 M_L59) (fun r71 => (jn (fun (k131 : Int32 → Int32 → Int32 → Option (Int32 × Mem)) => (if r71 = 0 then (k131 v4_L59 v5_L59 v6_L59) else (bR (f_X0_comesOut 22 v1_L59 M_L59) (fun r82 => (if (v4_L59 + 1) < v3_L59 then (k131 (v4_L59 + 1) (v5_L59 + r82) ((shr v6_L59 1) ||| (shl r82 (v3_L59 - 1)))) else (if ((shr v6_L59 1) ||| (shl r82 (v3_L59 - 1))) = v2_L59 then (k122 (v5_L59 + r82) v7_L59 M_L59) else (k131 (v4_L59 + 1) (v5_L59 + r82) ((shr v6_L59 1) ||| (shl r82 (v3_L59 - 1)))))))))) (fun (v4_131j : Int32) (v5_131j : Int32) (v6_131j : Int32) => (bR (f_X0_goOn 22 1 M_L59) (fun M136 => (f_X1_finds_L59 v1_L59 v2_L59 v3_L59 k122 n v4_131j v5_131j v6_131j (v7_L59 + 1) M136))))))))
def f_X1_finds (v1 : Int32) (v2 : Int32) (v3 : Int32) (M : Mem) : Option (Int32 × Mem) :=
  (bR (f_X0_has 15 v1 M) (fun r5 => (if r5 = 0 then (some ((-1), M)) else (bR (f_X1_isWithin v3 1 8 M) (fun r15 => (if r15 = 0 then (some ((-1), M)) else (bR (f_X1_isWithin v2 0 ((shl 1 v3) - 1) M) (fun r28 => (if r28 = 0 then (some ((-1), M)) else (bR (f_X0_takeFrom 22 15 M) (fun M44 => (jn (fun (k122 : Int32 → Int32 → Mem → Option (Int32 × Mem)) => (f_X1_finds_L59 v1 v2 v3 k122 FU 0 0 0 1 M44)) (fun (v5_122x : Int32) (v7_122x : Int32) (M_122x : Mem) => (lt (sI M_122x 0 13 v5_122x) (fun M125 => (some (v7_122x, M125)))))))))))))))))
set_option maxHeartbeats 4000000 in
set_option maxRecDepth 100000 in
theorem c_X1_finds (l : Launch) (D : va_G) (cy : Nat → ClassId) (ad : Nat → Nat)   {v1 : Int32} {v2 : Int32} {v3 : Int32} {M M' : Mem} {r : Int32} (hf : f_X1_finds v1 v2 v3 M = some (r, M')) : MetX l 43 (CC ad cy) D cy ad yX1_finds cX1_finds 9 (some .int) 4 [.ref (ad 0), .int v1, .int v2, .int v3] M (fun A => QI r M' 43 (CC ad cy) D cy ad A) := by
  refine MetX.of (own := RX1) (by decide) rfl (Nat.le_of_ble_eq_true rfl) ?_
  intro p e s m below meth c A Q ls X hr hlk hZ hA hQ hW hl
  have hl : lv_has ls 9 [(0, .ref (ad 0)), (1, .int v1), (2, .int v2), (3, .int v3)] := hl
  have hx := X.1
  have hb := X.2.1
  have hL59 : ∀ (v1_L59 : Int32) (v2_L59 : Int32) (v3_L59 : Int32) (k122 : Int32 → Int32 → Mem → Option (Int32 × Mem)) (hJ122 : ∀ (v5_122x : Int32) (v7_122x : Int32) (M_122x : Mem) (H : Heap) (locs : List Loc) (ls : Array Slot), k122 v5_122x v7_122x M_122x = some (r, M') → Wd D 43 ad (CC ad cy) A s.heap M_122x H locs → lv_has ls 9 [(0, .ref (ad 0)), (5, .int v5_122x), (7, .int v7_122x)] → W p l e (rmD 4) s m ([.ref (ad 0), .int v1, .int v2, .int v3] : List Value).toArray below meth c H locs 0 0 Q (F0 m 122 ls [])) (n : Nat) (v4_L59 : Int32) (v5_L59 : Int32) (v6_L59 : Int32) (v7_L59 : Int32) (M_L59 : Mem) (H : Heap) (locs : List Loc) (ls : Array Slot), f_X1_finds_L59 v1_L59 v2_L59 v3_L59 k122 n v4_L59 v5_L59 v6_L59 v7_L59 M_L59 = some (r, M') → Wd D 43 ad (CC ad cy) A s.heap M_L59 H locs → lv_has ls 9 [(0, .ref (ad 0)), (1, .int v1_L59), (2, .int v2_L59), (3, .int v3_L59), (4, .int v4_L59), (5, .int v5_L59), (6, .int v6_L59), (7, .int v7_L59)] → W p l e (rmD 4) s m ([.ref (ad 0), .int v1, .int v2, .int v3] : List Value).toArray below meth c H locs 0 0 Q (F0 m 59 ls []) := by
    intro v1_L59 v2_L59 v3_L59 k122 hJ122 n
    induction n with
    | zero =>
      intro v4_L59 v5_L59 v6_L59 v7_L59 M_L59 H locs ls hf
      cases (show (none : Option (Int32 × Mem)) = some (r, M') from hf)
    | succ n ih =>
      intro v4_L59 v5_L59 v6_L59 v7_L59 M_L59 H locs ls hf hW hl
      rw [f_X1_finds_L59] at hf
      refine lv_iload hx hb dX1_finds_59 (lv_at hl 7 rfl) ?_
      refine lv_bipush (v := 60) hx hb dX1_finds_61 (by decide) ?_
      refine lv_icmp_gt (tgt := 145) hx hb dX1_finds_63 (by decide) (fun hc => ?_) (fun hc => ?_)
      · replace hf := ifp hc hf
        refine lv_bipush (v := (-9)) hx hb dX1_finds_145 (by decide) ?_
        exact g_iret X hr hlk hQ hW dX1_finds_147 hf
      · replace hf := ifn hc hf
        refine lv_aload_n hx hb dX1_finds_66 rfl (lv_at hl 0 rfl) ?_
        refine gf_X1_33 X hW dX1_finds_67 ?_
        refine lv_iload_n hx hb dX1_finds_70 rfl (lv_at hl 1 rfl) ?_
        obtain ⟨r71, h71, hf⟩ := bR_some hf
        refine g_calliN (host := "TubeWords") X hl.1 hZ hA hW (c_X0_isReady l D cy ad isSt22 h71) cw_X0_isReady (by decide +kernel) (iO_st isSt22) rfl (by decide) rfl (Nat.le_of_ble_eq_true rfl) dX1_finds_71 (fun H locs hW => ?_)
        obtain ⟨k131, hk131, hf⟩ := jn_some3 hf
        have hJ131 : ∀ (v4_131j : Int32) (v5_131j : Int32) (v6_131j : Int32) (H : Heap) (locs : List Loc) (ls : Array Slot), k131 v4_131j v5_131j v6_131j = some (r, M') → Wd D 43 ad (CC ad cy) A s.heap M_L59 H locs → lv_has ls 9 [(0, .ref (ad 0)), (1, .int v1_L59), (2, .int v2_L59), (3, .int v3_L59), (4, .int v4_131j), (5, .int v5_131j), (6, .int v6_131j), (7, .int v7_L59)] → W p l e (rmD 4) s m ([.ref (ad 0), .int v1, .int v2, .int v3] : List Value).toArray below meth c H locs 0 0 Q (F0 m 131 ls []) := by
          intro v4_131j v5_131j v6_131j H locs ls hf hW hl
          rw [hk131] at hf
          refine lv_aload_n hx hb dX1_finds_131 rfl (lv_at hl 0 rfl) ?_
          refine gf_X1_33 X hW dX1_finds_132 ?_
          refine lv_iconst (v := 1) hx hb dX1_finds_135 (by decide) ?_
          obtain ⟨M136, h136, hf⟩ := bR_some hf
          refine g_callvN (host := "TubeWords") X hl.1 hZ hA hW (c_X0_goOn l D cy ad isSt22 h136) cw_X0_goOn (by decide +kernel) (iO_st isSt22) rfl (by decide) rfl (Nat.le_of_ble_eq_true rfl) dX1_finds_136 (fun H locs hW => ?_)
          refine lv_iinc (v := (v7_L59 + 1)) (lv' := [(7, .int (v7_L59 + 1)), (0, .ref (ad 0)), (1, .int v1_L59), (2, .int v2_L59), (3, .int v3_L59), (4, .int v4_131j), (5, .int v5_131j), (6, .int v6_131j)]) hx hb dX1_finds_139 hl (k := 7) rfl rfl (by decide) rfl (fun ls hl => ?_)
          refine lv_goto (tgt := 59) hx hb dX1_finds_142 (by decide) ?_
          exact ih v4_131j v5_131j v6_131j (v7_L59 + 1) M136 H locs ls hf hW (lv_sub hl [1, 2, 3, 4, 5, 6, 7, 0] rfl)
        refine lv_if_eq (tgt := 131) hx hb dX1_finds_74 (by decide) (fun hc => ?_) (fun hc => ?_)
        · replace hf := ifp hc hf
          exact hJ131 v4_L59 v5_L59 v6_L59 H locs ls hf hW (lv_sub hl [0, 1, 2, 3, 4, 5, 6, 7] rfl)
        · replace hf := ifn hc hf
          refine lv_aload_n hx hb dX1_finds_77 rfl (lv_at hl 0 rfl) ?_
          refine gf_X1_33 X hW dX1_finds_78 ?_
          refine lv_iload_n hx hb dX1_finds_81 rfl (lv_at hl 1 rfl) ?_
          obtain ⟨r82, h82, hf⟩ := bR_some hf
          refine g_calliN (host := "TubeWords") X hl.1 hZ hA hW (c_X0_comesOut l D cy ad isSt22 h82) cw_X0_comesOut (by decide +kernel) (iO_st isSt22) rfl (by decide) rfl (Nat.le_of_ble_eq_true rfl) dX1_finds_82 (fun H locs hW => ?_)
          refine lv_istore (lv' := [(8, .int r82), (0, .ref (ad 0)), (1, .int v1_L59), (2, .int v2_L59), (3, .int v3_L59), (4, .int v4_L59), (5, .int v5_L59), (6, .int v6_L59), (7, .int v7_L59)]) hx hb dX1_finds_85 hl (by decide) rfl (fun ls hl => ?_)
          refine lv_iload hx hb dX1_finds_87 (lv_at hl 7 rfl) ?_
          refine lv_iconst (v := 1) hx hb dX1_finds_89 (by decide) ?_
          refine r_ishr hx hb dX1_finds_90 ?_
          refine lv_iload hx hb dX1_finds_91 (lv_at hl 0 rfl) ?_
          refine lv_iload_n hx hb dX1_finds_93 rfl (lv_at hl 4 rfl) ?_
          refine lv_iconst (v := 1) hx hb dX1_finds_94 (by decide) ?_
          refine lv_isub hx hb dX1_finds_95 ?_
          refine r_ishl hx hb dX1_finds_96 ?_
          refine lv_ior hx hb dX1_finds_97 ?_
          refine lv_istore (lv' := [(6, .int ((shr v6_L59 1) ||| (shl r82 (v3_L59 - 1)))), (8, .int r82), (0, .ref (ad 0)), (1, .int v1_L59), (2, .int v2_L59), (3, .int v3_L59), (4, .int v4_L59), (5, .int v5_L59), (7, .int v7_L59)]) hx hb dX1_finds_98 hl (by decide) rfl (fun ls hl => ?_)
          refine lv_iinc (v := (v4_L59 + 1)) (lv' := [(4, .int (v4_L59 + 1)), (6, .int ((shr v6_L59 1) ||| (shl r82 (v3_L59 - 1)))), (8, .int r82), (0, .ref (ad 0)), (1, .int v1_L59), (2, .int v2_L59), (3, .int v3_L59), (5, .int v5_L59), (7, .int v7_L59)]) hx hb dX1_finds_100 hl (k := 6) rfl rfl (by decide) rfl (fun ls hl => ?_)
          refine lv_iload hx hb dX1_finds_103 (lv_at hl 7 rfl) ?_
          refine lv_iload hx hb dX1_finds_105 (lv_at hl 2 rfl) ?_
          refine lv_iadd hx hb dX1_finds_107 ?_
          refine lv_istore (lv' := [(5, .int (v5_L59 + r82)), (4, .int (v4_L59 + 1)), (6, .int ((shr v6_L59 1) ||| (shl r82 (v3_L59 - 1)))), (8, .int r82), (0, .ref (ad 0)), (1, .int v1_L59), (2, .int v2_L59), (3, .int v3_L59), (7, .int v7_L59)]) hx hb dX1_finds_108 hl (by decide) rfl (fun ls hl => ?_)
          refine lv_iload hx hb dX1_finds_110 (lv_at hl 1 rfl) ?_
          refine lv_iload_n hx hb dX1_finds_112 rfl (lv_at hl 7 rfl) ?_
          refine lv_icmp_lt (tgt := 131) hx hb dX1_finds_113 (by decide) (fun hc => ?_) (fun hc => ?_)
          · replace hf := ifp hc hf
            exact hJ131 (v4_L59 + 1) (v5_L59 + r82) ((shr v6_L59 1) ||| (shl r82 (v3_L59 - 1))) H locs ls hf hW (lv_sub hl [4, 5, 6, 7, 1, 0, 2, 8] rfl)
          · replace hf := ifn hc hf
            refine lv_iload hx hb dX1_finds_116 (lv_at hl 2 rfl) ?_
            refine lv_iload_n hx hb dX1_finds_118 rfl (lv_at hl 6 rfl) ?_
            refine lv_icmp_ne (tgt := 131) hx hb dX1_finds_119 (by decide) (fun hc => ?_) (fun hc => ?_)
            · replace hf := ifn hc hf
              exact hJ131 (v4_L59 + 1) (v5_L59 + r82) ((shr v6_L59 1) ||| (shl r82 (v3_L59 - 1))) H locs ls hf hW (lv_sub hl [4, 5, 6, 7, 1, 0, 2, 8] rfl)
            · replace hf := ifp hc hf
              exact hJ122 (v5_L59 + r82) v7_L59 M_L59 H locs ls hf hW (lv_sub hl [4, 0, 8] rfl)
  obtain ⟨H, hH⟩ : ∃ H, H = s.heap := ⟨_, rfl⟩
  obtain ⟨locs, hlo⟩ : ∃ q : List Loc, q = [] := ⟨_, rfl⟩
  have hW : Wd D 43 ad (CC ad cy) A s.heap M H locs := by rw [hH, hlo]; exact hW
  suffices hh : W p l e (rmD 4) s m ([.ref (ad 0), .int v1, .int v2, .int v3] : List Value).toArray below meth c H locs 0 0 Q (F0 m 0 ls []) by rw [hH, hlo] at hh; exact hh
  unfold f_X1_finds at hf
  refine lv_aload_n hx hb dX1_finds_0 rfl (lv_at hl 0 rfl) ?_
  refine gf_X1_29 X hW dX1_finds_1 ?_
  refine lv_iload_n hx hb dX1_finds_4 rfl (lv_at hl 1 rfl) ?_
  obtain ⟨r5, h5, hf⟩ := bR_some hf
  refine g_calliN (host := "TubeWords") X hl.1 hZ hA hW (c_X0_has l D cy ad isSt15 h5) cw_X0_has (by decide +kernel) (iO_st isSt15) rfl (by decide) rfl (Nat.le_of_ble_eq_true rfl) dX1_finds_5 (fun H locs hW => ?_)
  refine lv_if_eq (tgt := 34) hx hb dX1_finds_8 (by decide) (fun hc => ?_) (fun hc => ?_)
  · replace hf := ifp hc hf
    refine lv_iconst (v := (-1)) hx hb dX1_finds_34 (by decide) ?_
    exact g_iret X hr hlk hQ hW dX1_finds_35 hf
  · replace hf := ifn hc hf
    refine lv_iload_n hx hb dX1_finds_11 rfl (lv_at hl 3 rfl) ?_
    refine lv_iconst (v := 1) hx hb dX1_finds_12 (by decide) ?_
    refine lv_bipush (v := 8) hx hb dX1_finds_13 (by decide) ?_
    obtain ⟨r15, h15, hf⟩ := bR_some hf
    refine g_calliS X hl.1 hZ hA hW (c_X1_isWithin l D cy ad h15) cs_X1_isWithin ql_X1_114 rfl (by decide) rfl (Nat.le_of_ble_eq_true rfl) dX1_finds_15 (fun H locs hW => ?_)
    refine lv_if_eq (tgt := 34) hx hb dX1_finds_18 (by decide) (fun hc => ?_) (fun hc => ?_)
    · replace hf := ifp hc hf
      refine lv_iconst (v := (-1)) hx hb dX1_finds_34 (by decide) ?_
      exact g_iret X hr hlk hQ hW dX1_finds_35 hf
    · replace hf := ifn hc hf
      refine lv_iload_n hx hb dX1_finds_21 rfl (lv_at hl 2 rfl) ?_
      refine lv_iconst (v := 0) hx hb dX1_finds_22 (by decide) ?_
      refine lv_iconst (v := 1) hx hb dX1_finds_23 (by decide) ?_
      refine lv_iload_n hx hb dX1_finds_24 rfl (lv_at hl 3 rfl) ?_
      refine r_ishl hx hb dX1_finds_25 ?_
      refine lv_iconst (v := 1) hx hb dX1_finds_26 (by decide) ?_
      refine lv_isub hx hb dX1_finds_27 ?_
      obtain ⟨r28, h28, hf⟩ := bR_some hf
      refine g_calliS X hl.1 hZ hA hW (c_X1_isWithin l D cy ad h28) cs_X1_isWithin ql_X1_114 rfl (by decide) rfl (Nat.le_of_ble_eq_true rfl) dX1_finds_28 (fun H locs hW => ?_)
      refine lv_if_ne (tgt := 36) hx hb dX1_finds_31 (by decide) (fun hc => ?_) (fun hc => ?_)
      · replace hf := ifn hc hf
        refine lv_aload_n hx hb dX1_finds_36 rfl (lv_at hl 0 rfl) ?_
        refine gf_X1_33 X hW dX1_finds_37 ?_
        refine lv_aload_n hx hb dX1_finds_40 rfl (lv_at hl 0 rfl) ?_
        refine gf_X1_29 X hW dX1_finds_41 ?_
        obtain ⟨M44, h44, hf⟩ := bR_some hf
        refine g_callvN (host := "TubeWords") X hl.1 hZ hA hW (c_X0_takeFrom l D cy ad isSt22 isSt15 h44) cw_X0_takeFrom (by decide +kernel) (iO_st isSt22) rfl (by decide) rfl (Nat.le_of_ble_eq_true rfl) dX1_finds_44 (fun H locs hW => ?_)
        refine lv_iconst (v := 0) hx hb dX1_finds_47 (by decide) ?_
        refine lv_istore (lv' := [(4, .int 0), (0, .ref (ad 0)), (1, .int v1), (2, .int v2), (3, .int v3)]) hx hb dX1_finds_48 hl (by decide) rfl (fun ls hl => ?_)
        refine lv_iconst (v := 0) hx hb dX1_finds_50 (by decide) ?_
        refine lv_istore (lv' := [(5, .int 0), (4, .int 0), (0, .ref (ad 0)), (1, .int v1), (2, .int v2), (3, .int v3)]) hx hb dX1_finds_51 hl (by decide) rfl (fun ls hl => ?_)
        refine lv_iconst (v := 0) hx hb dX1_finds_53 (by decide) ?_
        refine lv_istore (lv' := [(6, .int 0), (5, .int 0), (4, .int 0), (0, .ref (ad 0)), (1, .int v1), (2, .int v2), (3, .int v3)]) hx hb dX1_finds_54 hl (by decide) rfl (fun ls hl => ?_)
        refine lv_iconst (v := 1) hx hb dX1_finds_56 (by decide) ?_
        refine lv_istore (lv' := [(7, .int 1), (6, .int 0), (5, .int 0), (4, .int 0), (0, .ref (ad 0)), (1, .int v1), (2, .int v2), (3, .int v3)]) hx hb dX1_finds_57 hl (by decide) rfl (fun ls hl => ?_)
        obtain ⟨k122, hk122, hf⟩ := jn_some3 hf
        have hJ122 : ∀ (v5_122x : Int32) (v7_122x : Int32) (M_122x : Mem) (H : Heap) (locs : List Loc) (ls : Array Slot), k122 v5_122x v7_122x M_122x = some (r, M') → Wd D 43 ad (CC ad cy) A s.heap M_122x H locs → lv_has ls 9 [(0, .ref (ad 0)), (5, .int v5_122x), (7, .int v7_122x)] → W p l e (rmD 4) s m ([.ref (ad 0), .int v1, .int v2, .int v3] : List Value).toArray below meth c H locs 0 0 Q (F0 m 122 ls []) := by
          intro v5_122x v7_122x M_122x H locs ls hf hW hl
          rw [hk122] at hf
          refine lv_aload_n hx hb dX1_finds_122 rfl (lv_at hl 0 rfl) ?_
          refine lv_iload hx hb dX1_finds_123 (lv_at hl 1 rfl) ?_
          refine gp_X1_58 X hW dX1_finds_125 (fun H locs hW => ?_)
          obtain ⟨M125, e125, hf⟩ := lt_some hf
          have hW : Wd D 43 ad (CC ad cy) A s.heap M125 H locs := by rw [e125]; exact hW
          refine lv_iload hx hb dX1_finds_128 (lv_at hl 2 rfl) ?_
          exact g_iret X hr hlk hQ hW dX1_finds_130 hf
        exact hL59 v1 v2 v3 k122 hJ122 FU 0 0 0 1 M44 H locs ls hf hW (lv_sub hl [4, 5, 6, 7, 3, 2, 1, 0] rfl)
      · replace hf := ifp hc hf
        refine lv_iconst (v := (-1)) hx hb dX1_finds_34 (by decide) ?_
        exact g_iret X hr hlk hQ hW dX1_finds_35 hf
