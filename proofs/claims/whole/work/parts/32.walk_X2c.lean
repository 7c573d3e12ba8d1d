/-! walks, by program out of the listing: 32.walk_X2c -/
def f_X2_tick (M : Mem) : Option (Int32 × Mem) :=
  (if (M.1 0 4) = 0 then (some ((-4), M)) else (grd (inb 0 15) (if (M.1 8 (ix 0)) = 99 then (some ((-4), M)) else (if (M.1 0 11) = 40 then (some ((-2), M)) else (bR (f_X2_notes M) (fun M34 => (bR (f_X2_tickOn 8 15 M34) (fun M42 => (bR (f_X2_pulses 8 15 M42) (fun r50 => (some (r50, M42))))))))))))
set_option maxHeartbeats 4000000 in
set_option maxRecDepth 100000 in
theorem c_X2_tick (l : Launch) (D : va_G) (cy : Nat → ClassId) (ad : Nat → Nat)    {M M' : Mem} {r : Int32} (hf : f_X2_tick M = some (r, M')) : MetX l 20 (CM ad cy) D cy ad yX2_tick cX2_tick 1 (some .int) 3 [.ref (ad 0)] M (fun A => QI r M' 20 (CM ad cy) D cy ad A) := by
  refine MetX.of (own := RX2) (by decide) rfl (Nat.le_of_ble_eq_true rfl) ?_
  intro p e s m below meth c A Q ls X hr hlk hZ hA hQ hW hl
  have hl : lv_has ls 1 [(0, .ref (ad 0))] := hl
  have hx := X.1
  have hb := X.2.1
  obtain ⟨H, hH⟩ : ∃ H, H = s.heap := ⟨_, rfl⟩
  obtain ⟨locs, hlo⟩ : ∃ q : List Loc, q = [] := ⟨_, rfl⟩
  have hW : Wd D 20 ad (CM ad cy) A s.heap M H locs := by rw [hH, hlo]; exact hW
  suffices hh : W p l e (rmD 3) s m ([.ref (ad 0)] : List Value).toArray below meth c H locs 0 0 Q (F0 m 0 ls []) by rw [hH, hlo] at hh; exact hh
  unfold f_X2_tick at hf
  refine lv_aload_n hx hb dX2_tick_0 rfl (lv_at hl 0 rfl) ?_
  refine gf_X2_79 X hW dX2_tick_1 ?_
  refine lv_if_eq (tgt := 18) hx hb dX2_tick_4 (by decide) (fun hc => ?_) (fun hc => ?_)
  · replace hf := ifp hc hf
    refine lv_bipush (v := (-4)) hx hb dX2_tick_18 (by decide) ?_
    exact g_iret X hr hlk hQ hW dX2_tick_20 hf
  · replace hf := ifn hc hf
    refine lv_aload_n hx hb dX2_tick_7 rfl (lv_at hl 0 rfl) ?_
    refine gf_X2_31 X hW dX2_tick_8 ?_
    refine lv_iconst (v := 0) hx hb dX2_tick_11 (by decide) ?_
    obtain ⟨hi12, hf⟩ := grd_some hf
    refine g_iald X hW iM_st hi12 dX2_tick_12 ?_
    refine lv_bipush (v := 99) hx hb dX2_tick_13 (by decide) ?_
    refine lv_icmp_ne (tgt := 21) hx hb dX2_tick_15 (by decide) (fun hc => ?_) (fun hc => ?_)
    · replace hf := ifn hc hf
      refine lv_aload_n hx hb dX2_tick_21 rfl (lv_at hl 0 rfl) ?_
      refine gf_X2_121 X hW dX2_tick_22 ?_
      refine lv_bipush (v := 40) hx hb dX2_tick_25 (by decide) ?_
      refine lv_icmp_ne (tgt := 33) hx hb dX2_tick_27 (by decide) (fun hc => ?_) (fun hc => ?_)
      · replace hf := ifn hc hf
        refine lv_aload_n hx hb dX2_tick_33 rfl (lv_at hl 0 rfl) ?_
        obtain ⟨M34, h34, hf⟩ := bR_some hf
        refine g_callvV X hl.1 hZ hA hW (c_X2_notes l D cy ad h34) cw_X2_notes ql_X2_155 iO_X2 rfl (by decide) rfl (Nat.le_of_ble_eq_true rfl) dX2_tick_34 (fun H locs hW => ?_)
        refine lv_aload_n hx hb dX2_tick_37 rfl (lv_at hl 0 rfl) ?_
        refine lv_aload_n hx hb dX2_tick_38 rfl (lv_at hl 0 rfl) ?_
        refine gf_X2_31 X hW dX2_tick_39 ?_
        obtain ⟨M42, h42, hf⟩ := bR_some hf
        refine g_callvV X hl.1 hZ hA hW (c_X2_tickOn l D cy ad iM_st h42) cw_X2_tickOn ql_X2_158 iO_X2 rfl (by decide) rfl (Nat.le_of_ble_eq_true rfl) dX2_tick_42 (fun H locs hW => ?_)
        refine lv_aload_n hx hb dX2_tick_45 rfl (lv_at hl 0 rfl) ?_
        refine lv_aload_n hx hb dX2_tick_46 rfl (lv_at hl 0 rfl) ?_
        refine gf_X2_31 X hW dX2_tick_47 ?_
        obtain ⟨r50, h50, hf⟩ := bR_some hf
        refine g_calliV X hl.1 hZ hA hW (c_X2_pulses l D cy ad iM_st h50) cw_X2_pulses ql_X2_162 iO_X2 rfl (by decide) rfl (Nat.le_of_ble_eq_true rfl) dX2_tick_50 (fun H locs hW => ?_)
        exact g_iret X hr hlk hQ hW dX2_tick_53 hf
      · replace hf := ifp hc hf
        refine lv_bipush (v := (-2)) hx hb dX2_tick_30 (by decide) ?_
        exact g_iret X hr hlk hQ hW dX2_tick_32 hf
    · replace hf := ifp hc hf
      refine lv_bipush (v := (-4)) hx hb dX2_tick_18 (by decide) ?_
      exact g_iret X hr hlk hQ hW dX2_tick_20 hf

def f_X2_set (v1 : Int32) (v2 : Int32) (M : Mem) : Option (Int32 × Mem) :=
  (bR (f_X2_isTube v1 M) (fun r2 => (if r2 = 0 then (some ((-1), M)) else (grd (inb v1 7) (bR (f_X2_in v2 0 ((M.1 6 (ix v1)) - 1) M) (fun r18 => (if r18 = 0 then (some ((-1), M)) else (if (M.1 0 11) = 40 then (some ((-2), M)) else (bR (f_X2_notes M) (fun M39 => (grd (inb (1 + v1) 15) (grd (inb (1 + v1) 15) (lt (sI M39 8 (ix (1 + v1)) ((M39.1 8 (ix (1 + v1))) ^^^ (shl 1 v2))) (fun M55 => (grd (inb (1 + v1) 15) (some ((M55.1 8 (ix (1 + v1))), M55)))))))))))))))))
set_option maxHeartbeats 4000000 in
set_option maxRecDepth 100000 in
theorem c_X2_set (l : Launch) (D : va_G) (cy : Nat → ClassId) (ad : Nat → Nat)   {v1 : Int32} {v2 : Int32} {M M' : Mem} {r : Int32} (hf : f_X2_set v1 v2 M = some (r, M')) : MetX l 20 (CM ad cy) D cy ad yX2_set cX2_set 3 (some .int) 2 [.ref (ad 0), .int v1, .int v2] M (fun A => QI r M' 20 (CM ad cy) D cy ad A) := by
  refine MetX.of (own := RX2) (by decide) rfl (Nat.le_of_ble_eq_true rfl) ?_
  intro p e s m below meth c A Q ls X hr hlk hZ hA hQ hW hl
  have hl : lv_has ls 3 [(0, .ref (ad 0)), (1, .int v1), (2, .int v2)] := hl
  have hx := X.1
  have hb := X.2.1
  obtain ⟨H, hH⟩ : ∃ H, H = s.heap := ⟨_, rfl⟩
  obtain ⟨locs, hlo⟩ : ∃ q : List Loc, q = [] := ⟨_, rfl⟩
  have hW : Wd D 20 ad (CM ad cy) A s.heap M H locs := by rw [hH, hlo]; exact hW
  suffices hh : W p l e (rmD 2) s m ([.ref (ad 0), .int v1, .int v2] : List Value).toArray below meth c H locs 0 0 Q (F0 m 0 ls []) by rw [hH, hlo] at hh; exact hh
  unfold f_X2_set at hf
  refine lv_aload_n hx hb dX2_set_0 rfl (lv_at hl 0 rfl) ?_
  refine lv_iload_n hx hb dX2_set_1 rfl (lv_at hl 1 rfl) ?_
  obtain ⟨r2, h2, hf⟩ := bR_some hf
  refine g_calliV X hl.1 hZ hA hW (c_X2_isTube l D cy ad h2) cw_X2_isTube ql_X2_145 iO_X2 rfl (by decide) rfl (Nat.le_of_ble_eq_true rfl) dX2_set_2 (fun H locs hW => ?_)
  refine lv_if_eq (tgt := 24) hx hb dX2_set_5 (by decide) (fun hc => ?_) (fun hc => ?_)
  · replace hf := ifp hc hf
    refine lv_iconst (v := (-1)) hx hb dX2_set_24 (by decide) ?_
    exact g_iret X hr hlk hQ hW dX2_set_25 hf
  · replace hf := ifn hc hf
    refine lv_iload_n hx hb dX2_set_8 rfl (lv_at hl 2 rfl) ?_
    refine lv_iconst (v := 0) hx hb dX2_set_9 (by decide) ?_
    refine lv_aload_n hx hb dX2_set_10 rfl (lv_at hl 0 rfl) ?_
    refine gf_X2_25 X hW dX2_set_11 ?_
    refine lv_iload_n hx hb dX2_set_14 rfl (lv_at hl 1 rfl) ?_
    obtain ⟨hi15, hf⟩ := grd_some hf
    refine g_iald X hW iM_size hi15 dX2_set_15 ?_
    refine lv_iconst (v := 1) hx hb dX2_set_16 (by decide) ?_
    refine lv_isub hx hb dX2_set_17 ?_
    obtain ⟨r18, h18, hf⟩ := bR_some hf
    refine g_calliS X hl.1 hZ hA hW (c_X2_in l D cy ad h18) cs_X2_in ql_X2_82 rfl (by decide) rfl (Nat.le_of_ble_eq_true rfl) dX2_set_18 (fun H locs hW => ?_)
    refine lv_if_ne (tgt := 26) hx hb dX2_set_21 (by decide) (fun hc => ?_) (fun hc => ?_)
    · replace hf := ifn hc hf
      refine lv_aload_n hx hb dX2_set_26 rfl (lv_at hl 0 rfl) ?_
      refine gf_X2_121 X hW dX2_set_27 ?_
      refine lv_bipush (v := 40) hx hb dX2_set_30 (by decide) ?_
      refine lv_icmp_ne (tgt := 38) hx hb dX2_set_32 (by decide) (fun hc => ?_) (fun hc => ?_)
      · replace hf := ifn hc hf
        refine lv_aload_n hx hb dX2_set_38 rfl (lv_at hl 0 rfl) ?_
        obtain ⟨M39, h39, hf⟩ := bR_some hf
        refine g_callvV X hl.1 hZ hA hW (c_X2_notes l D cy ad h39) cw_X2_notes ql_X2_155 iO_X2 rfl (by decide) rfl (Nat.le_of_ble_eq_true rfl) dX2_set_39 (fun H locs hW => ?_)
        refine lv_aload_n hx hb dX2_set_42 rfl (lv_at hl 0 rfl) ?_
        refine gf_X2_31 X hW dX2_set_43 ?_
        refine lv_iconst (v := 1) hx hb dX2_set_46 (by decide) ?_
        refine lv_iload_n hx hb dX2_set_47 rfl (lv_at hl 1 rfl) ?_
        refine lv_iadd hx hb dX2_set_48 ?_
        refine lv_dup2_11 hx hb dX2_set_49 rfl rfl ?_
        obtain ⟨hi50, hf⟩ := grd_some hf
        refine g_iald X hW iM_st hi50 dX2_set_50 ?_
        refine lv_iconst (v := 1) hx hb dX2_set_51 (by decide) ?_
        refine lv_iload_n hx hb dX2_set_52 rfl (lv_at hl 2 rfl) ?_
        refine r_ishl hx hb dX2_set_53 ?_
        refine lv_ixor hx hb dX2_set_54 ?_
        obtain ⟨hi55, hf⟩ := grd_some hf
        refine g_iast X hW iM_st hi55 dX2_set_55 (fun H locs hW => ?_)
        obtain ⟨M55, e55, hf⟩ := lt_some hf
        have hW : Wd D 20 ad (CM ad cy) A s.heap M55 H locs := by rw [e55]; exact hW
        refine lv_aload_n hx hb dX2_set_56 rfl (lv_at hl 0 rfl) ?_
        refine gf_X2_31 X hW dX2_set_57 ?_
        refine lv_iconst (v := 1) hx hb dX2_set_60 (by decide) ?_
        refine lv_iload_n hx hb dX2_set_61 rfl (lv_at hl 1 rfl) ?_
        refine lv_iadd hx hb dX2_set_62 ?_
        obtain ⟨hi63, hf⟩ := grd_some hf
        refine g_iald X hW iM_st hi63 dX2_set_63 ?_
        exact g_iret X hr hlk hQ hW dX2_set_64 hf
      · replace hf := ifp hc hf
        refine lv_bipush (v := (-2)) hx hb dX2_set_35 (by decide) ?_
        exact g_iret X hr hlk hQ hW dX2_set_37 hf
    · replace hf := ifp hc hf
      refine lv_iconst (v := (-1)) hx hb dX2_set_24 (by decide) ?_
      exact g_iret X hr hlk hQ hW dX2_set_25 hf

def f_X2_swapped (k0 : Nat) (n0 : Nat) (v1 : Int32) (v2 : Int32) (M : Mem) : Option Mem :=
  (grd (inb (8 + v1) n0) (grd (inb (8 + v2) n0) (grd (inb (8 + v1) n0) (lt (sI M k0 (ix (8 + v1)) (M.1 k0 (ix (8 + v2)))) (fun M18 => (grd (inb (8 + v2) n0) (lt (sI M18 k0 (ix (8 + v2)) (M.1 k0 (ix (8 + v1)))) (fun M25 => (some M25)))))))))
set_option maxHeartbeats 4000000 in
set_option maxRecDepth 100000 in
theorem c_X2_swapped (l : Launch) (D : va_G) (cy : Nat → ClassId) (ad : Nat → Nat) {k0 : Nat} {n0 : Nat} (hA0 : isA (CM ad cy) 20 k0 (cy 0) n0) {v1 : Int32} {v2 : Int32} {M M' : Mem} (hf : f_X2_swapped k0 n0 v1 v2 M = some M') : MetX l 20 (CM ad cy) D cy ad yX2_swapped cX2_swapped 4 none 0 [.ref (ad k0), .int v1, .int v2] M (fun A => QV M' 20 (CM ad cy) D cy ad A) := by
  refine MetX.of (own := RX2) (by decide) rfl (Nat.le_of_ble_eq_true rfl) ?_
  intro p e s m below meth c A Q ls X hr hlk hZ hA hQ hW hl
  have hl : lv_has ls 4 [(0, .ref (ad k0)), (1, .int v1), (2, .int v2)] := hl
  have hx := X.1
  have hb := X.2.1
  obtain ⟨H, hH⟩ : ∃ H, H = s.heap := ⟨_, rfl⟩
  obtain ⟨locs, hlo⟩ : ∃ q : List Loc, q = [] := ⟨_, rfl⟩
  have hW : Wd D 20 ad (CM ad cy) A s.heap M H locs := by rw [hH, hlo]; exact hW
  suffices hh : W p l e (rmD 0) s m ([.ref (ad k0), .int v1, .int v2] : List Value).toArray below meth c H locs 0 0 Q (F0 m 0 ls []) by rw [hH, hlo] at hh; exact hh
  unfold f_X2_swapped at hf
  refine lv_aload_n hx hb dX2_swapped_0 rfl (lv_at hl 0 rfl) ?_
  refine lv_bipush (v := 8) hx hb dX2_swapped_1 (by decide) ?_
  refine lv_iload_n hx hb dX2_swapped_3 rfl (lv_at hl 1 rfl) ?_
  refine lv_iadd hx hb dX2_swapped_4 ?_
  obtain ⟨hi5, hf⟩ := grd_some hf
  refine g_iald X hW hA0 hi5 dX2_swapped_5 ?_
  refine lv_istore_n (lv' := [(3, .int (M.1 k0 (ix (8 + v1)))), (0, .ref (ad k0)), (1, .int v1), (2, .int v2)]) hx hb dX2_swapped_6 rfl hl (by decide) rfl (fun ls hl => ?_)
  refine lv_aload_n hx hb dX2_swapped_7 rfl (lv_at hl 1 rfl) ?_
  refine lv_bipush (v := 8) hx hb dX2_swapped_8 (by decide) ?_
  refine lv_iload_n hx hb dX2_swapped_10 rfl (lv_at hl 2 rfl) ?_
  refine lv_iadd hx hb dX2_swapped_11 ?_
  refine lv_aload_n hx hb dX2_swapped_12 rfl (lv_at hl 1 rfl) ?_
  refine lv_bipush (v := 8) hx hb dX2_swapped_13 (by decide) ?_
  refine lv_iload_n hx hb dX2_swapped_15 rfl (lv_at hl 3 rfl) ?_
  refine lv_iadd hx hb dX2_swapped_16 ?_
  obtain ⟨hi17, hf⟩ := grd_some hf
  refine g_iald X hW hA0 hi17 dX2_swapped_17 ?_
  obtain ⟨hi18, hf⟩ := grd_some hf
  refine g_iast X hW hA0 hi18 dX2_swapped_18 (fun H locs hW => ?_)
  obtain ⟨M18, e18, hf⟩ := lt_some hf
  have hW : Wd D 20 ad (CM ad cy) A s.heap M18 H locs := by rw [e18]; exact hW
  refine lv_aload_n hx hb dX2_swapped_19 rfl (lv_at hl 1 rfl) ?_
  refine lv_bipush (v := 8) hx hb dX2_swapped_20 (by decide) ?_
  refine lv_iload_n hx hb dX2_swapped_22 rfl (lv_at hl 3 rfl) ?_
  refine lv_iadd hx hb dX2_swapped_23 ?_
  refine lv_iload_n hx hb dX2_swapped_24 rfl (lv_at hl 0 rfl) ?_
  obtain ⟨hi25, hf⟩ := grd_some hf
  refine g_iast X hW hA0 hi25 dX2_swapped_25 (fun H locs hW => ?_)
  obtain ⟨M25, e25, hf⟩ := lt_some hf
  have hW : Wd D 20 ad (CM ad cy) A s.heap M25 H locs := by rw [e25]; exact hW
  exact g_vret X hr hlk hQ hW dX2_swapped_26 hf

def f_X2_swap (v1 : Int32) (v2 : Int32) (M : Mem) : Option (Int32 × Mem) :=
  (bR (f_X2_isTube v1 M) (fun r2 => (if r2 = 0 then (some ((-1), M)) else (bR (f_X2_isTube v2 M) (fun r10 => (if r10 = 0 then (some ((-1), M)) else (if v1 = v2 then (some ((-1), M)) else (if (M.1 0 11) = 40 then (some ((-2), M)) else (bR (f_X2_notes M) (fun M36 => (bR (f_X2_swapped 8 15 v1 v2 M36) (fun M45 => (grd (inb (8 + v1) 15) (some ((M45.1 8 (ix (8 + v1))), M45)))))))))))))))
set_option maxHeartbeats 4000000 in
set_option maxRecDepth 100000 in
theorem c_X2_swap (l : Launch) (D : va_G) (cy : Nat → ClassId) (ad : Nat → Nat)   {v1 : Int32} {v2 : Int32} {M M' : Mem} {r : Int32} (hf : f_X2_swap v1 v2 M = some (r, M')) : MetX l 20 (CM ad cy) D cy ad yX2_swap cX2_swap 3 (some .int) 2 [.ref (ad 0), .int v1, .int v2] M (fun A => QI r M' 20 (CM ad cy) D cy ad A) := by
  refine MetX.of (own := RX2) (by decide) rfl (Nat.le_of_ble_eq_true rfl) ?_
  intro p e s m below meth c A Q ls X hr hlk hZ hA hQ hW hl
  have hl : lv_has ls 3 [(0, .ref (ad 0)), (1, .int v1), (2, .int v2)] := hl
  have hx := X.1
  have hb := X.2.1
  obtain ⟨H, hH⟩ : ∃ H, H = s.heap := ⟨_, rfl⟩
  obtain ⟨locs, hlo⟩ : ∃ q : List Loc, q = [] := ⟨_, rfl⟩
  have hW : Wd D 20 ad (CM ad cy) A s.heap M H locs := by rw [hH, hlo]; exact hW
  suffices hh : W p l e (rmD 2) s m ([.ref (ad 0), .int v1, .int v2] : List Value).toArray below meth c H locs 0 0 Q (F0 m 0 ls []) by rw [hH, hlo] at hh; exact hh
  unfold f_X2_swap at hf
  refine lv_aload_n hx hb dX2_swap_0 rfl (lv_at hl 0 rfl) ?_
  refine lv_iload_n hx hb dX2_swap_1 rfl (lv_at hl 1 rfl) ?_
  obtain ⟨r2, h2, hf⟩ := bR_some hf
  refine g_calliV X hl.1 hZ hA hW (c_X2_isTube l D cy ad h2) cw_X2_isTube ql_X2_145 iO_X2 rfl (by decide) rfl (Nat.le_of_ble_eq_true rfl) dX2_swap_2 (fun H locs hW => ?_)
  refine lv_if_eq (tgt := 21) hx hb dX2_swap_5 (by decide) (fun hc => ?_) (fun hc => ?_)
  · replace hf := ifp hc hf
    refine lv_iconst (v := (-1)) hx hb dX2_swap_21 (by decide) ?_
    exact g_iret X hr hlk hQ hW dX2_swap_22 hf
  · replace hf := ifn hc hf
    refine lv_aload_n hx hb dX2_swap_8 rfl (lv_at hl 0 rfl) ?_
    refine lv_iload_n hx hb dX2_swap_9 rfl (lv_at hl 2 rfl) ?_
    obtain ⟨r10, h10, hf⟩ := bR_some hf
    refine g_calliV X hl.1 hZ hA hW (c_X2_isTube l D cy ad h10) cw_X2_isTube ql_X2_145 iO_X2 rfl (by decide) rfl (Nat.le_of_ble_eq_true rfl) dX2_swap_10 (fun H locs hW => ?_)
    refine lv_if_eq (tgt := 21) hx hb dX2_swap_13 (by decide) (fun hc => ?_) (fun hc => ?_)
    · replace hf := ifp hc hf
      refine lv_iconst (v := (-1)) hx hb dX2_swap_21 (by decide) ?_
      exact g_iret X hr hlk hQ hW dX2_swap_22 hf
    · replace hf := ifn hc hf
      refine lv_iload_n hx hb dX2_swap_16 rfl (lv_at hl 1 rfl) ?_
      refine lv_iload_n hx hb dX2_swap_17 rfl (lv_at hl 2 rfl) ?_
      refine lv_icmp_ne (tgt := 23) hx hb dX2_swap_18 (by decide) (fun hc => ?_) (fun hc => ?_)
      · replace hf := ifn hc hf
        refine lv_aload_n hx hb dX2_swap_23 rfl (lv_at hl 0 rfl) ?_
        refine gf_X2_121 X hW dX2_swap_24 ?_
        refine lv_bipush (v := 40) hx hb dX2_swap_27 (by decide) ?_
        refine lv_icmp_ne (tgt := 35) hx hb dX2_swap_29 (by decide) (fun hc => ?_) (fun hc => ?_)
        · replace hf := ifn hc hf
          refine lv_aload_n hx hb dX2_swap_35 rfl (lv_at hl 0 rfl) ?_
          obtain ⟨M36, h36, hf⟩ := bR_some hf
          refine g_callvV X hl.1 hZ hA hW (c_X2_notes l D cy ad h36) cw_X2_notes ql_X2_155 iO_X2 rfl (by decide) rfl (Nat.le_of_ble_eq_true rfl) dX2_swap_36 (fun H locs hW => ?_)
          refine lv_aload_n hx hb dX2_swap_39 rfl (lv_at hl 0 rfl) ?_
          refine gf_X2_31 X hW dX2_swap_40 ?_
          refine lv_iload_n hx hb dX2_swap_43 rfl (lv_at hl 1 rfl) ?_
          refine lv_iload_n hx hb dX2_swap_44 rfl (lv_at hl 2 rfl) ?_
          obtain ⟨M45, h45, hf⟩ := bR_some hf
          refine g_callvS X hl.1 hZ hA hW (c_X2_swapped l D cy ad iM_st h45) cs_X2_swapped ql_X2_166 rfl (by decide) rfl (Nat.le_of_ble_eq_true rfl) dX2_swap_45 (fun H locs hW => ?_)
          refine lv_aload_n hx hb dX2_swap_48 rfl (lv_at hl 0 rfl) ?_
          refine gf_X2_31 X hW dX2_swap_49 ?_
          refine lv_bipush (v := 8) hx hb dX2_swap_52 (by decide) ?_
          refine lv_iload_n hx hb dX2_swap_54 rfl (lv_at hl 1 rfl) ?_
          refine lv_iadd hx hb dX2_swap_55 ?_
          obtain ⟨hi56, hf⟩ := grd_some hf
          refine g_iald X hW iM_st hi56 dX2_swap_56 ?_
          exact g_iret X hr hlk hQ hW dX2_swap_57 hf
        · replace hf := ifp hc hf
          refine lv_bipush (v := (-2)) hx hb dX2_swap_32 (by decide) ?_
          exact g_iret X hr hlk hQ hW dX2_swap_34 hf
      · replace hf := ifp hc hf
        refine lv_iconst (v := (-1)) hx hb dX2_swap_21 (by decide) ?_
        exact g_iret X hr hlk hQ hW dX2_swap_22 hf

def f_X2_isWord (v1 : Int32) (v2 : Int32) (M : Mem) : Option Int32 :=
  (if v2 < 0 then (some 0) else (grd (inb v1 7) (if (shr v2 (M.1 6 (ix v1))) = 0 then (some 1) else (some 0))))
set_option maxHeartbeats 4000000 in
set_option maxRecDepth 100000 in
theorem c_X2_isWord (l : Launch) (D : va_G) (cy : Nat → ClassId) (ad : Nat → Nat)   {v1 : Int32} {v2 : Int32} {M : Mem} {r : Int32} (hf : f_X2_isWord v1 v2 M = some r) : MetX l 20 (CM ad cy) D cy ad yX2_isWord cX2_isWord 3 (some .boolean) 0 [.ref (ad 0), .int v1, .int v2] M (fun A => QI r M 20 (CM ad cy) D cy ad A) := by
  refine MetX.of (own := RX2) (by decide) rfl (Nat.le_of_ble_eq_true rfl) ?_
  intro p e s m below meth c A Q ls X hr hlk hZ hA hQ hW hl
  have hl : lv_has ls 3 [(0, .ref (ad 0)), (1, .int v1), (2, .int v2)] := hl
  have hx := X.1
  have hb := X.2.1
  obtain ⟨H, hH⟩ : ∃ H, H = s.heap := ⟨_, rfl⟩
  obtain ⟨locs, hlo⟩ : ∃ q : List Loc, q = [] := ⟨_, rfl⟩
  have hW : Wd D 20 ad (CM ad cy) A s.heap M H locs := by rw [hH, hlo]; exact hW
  suffices hh : W p l e (rmD 0) s m ([.ref (ad 0), .int v1, .int v2] : List Value).toArray below meth c H locs 0 0 Q (F0 m 0 ls []) by rw [hH, hlo] at hh; exact hh
  unfold f_X2_isWord at hf
  refine lv_iload_n hx hb dX2_isWord_0 rfl (lv_at hl 2 rfl) ?_
  refine lv_if_lt (tgt := 19) hx hb dX2_isWord_1 (by decide) (fun hc => ?_) (fun hc => ?_)
  · replace hf := ifp hc hf
    refine lv_iconst (v := 0) hx hb dX2_isWord_19 (by decide) ?_
    exact g_zret X hr hlk hQ hW dX2_isWord_20 (by decide) (rd_some hf)
  · replace hf := ifn hc hf
    refine lv_iload_n hx hb dX2_isWord_4 rfl (lv_at hl 2 rfl) ?_
    refine lv_aload_n hx hb dX2_isWord_5 rfl (lv_at hl 0 rfl) ?_
    refine gf_X2_25 X hW dX2_isWord_6 ?_
    refine lv_iload_n hx hb dX2_isWord_9 rfl (lv_at hl 1 rfl) ?_
    obtain ⟨hi10, hf⟩ := grd_some hf
    refine g_iald X hW iM_size hi10 dX2_isWord_10 ?_
    refine r_ishr hx hb dX2_isWord_11 ?_
    refine lv_if_ne (tgt := 19) hx hb dX2_isWord_12 (by decide) (fun hc => ?_) (fun hc => ?_)
    · replace hf := ifn hc hf
      refine lv_iconst (v := 0) hx hb dX2_isWord_19 (by decide) ?_
      exact g_zret X hr hlk hQ hW dX2_isWord_20 (by decide) (rd_some hf)
    · replace hf := ifp hc hf
      refine lv_iconst (v := 1) hx hb dX2_isWord_15 (by decide) ?_
      refine lv_goto (tgt := 20) hx hb dX2_isWord_16 (by decide) ?_
      exact g_zret X hr hlk hQ hW dX2_isWord_20 (by decide) (rd_some hf)

def f_X2_word (v1 : Int32) (v2 : Int32) (M : Mem) : Option (Int32 × Mem) :=
  (bR (f_X2_isTube v1 M) (fun r2 => (if r2 = 0 then (some ((-1), M)) else (bR (f_X2_isWord v1 v2 M) (fun r11 => (if r11 = 0 then (some ((-1), M)) else (grd (inb (1 + v1) 15) (if (M.1 8 (ix (1 + v1))) = v2 then (some ((-4), M)) else (if (M.1 0 11) = 40 then (some ((-2), M)) else (bR (f_X2_notes M) (fun M49 => (grd (inb (1 + v1) 15) (lt (sI M49 8 (ix (1 + v1)) v2) (fun M60 => (some ((M.1 8 (ix (1 + v1))), M60))))))))))))))))
set_option maxHeartbeats 4000000 in
set_option maxRecDepth 100000 in
theorem c_X2_word (l : Launch) (D : va_G) (cy : Nat → ClassId) (ad : Nat → Nat)   {v1 : Int32} {v2 : Int32} {M M' : Mem} {r : Int32} (hf : f_X2_word v1 v2 M = some (r, M')) : MetX l 20 (CM ad cy) D cy ad yX2_word cX2_word 4 (some .int) 2 [.ref (ad 0), .int v1, .int v2] M (fun A => QI r M' 20 (CM ad cy) D cy ad A) := by
  refine MetX.of (own := RX2) (by decide) rfl (Nat.le_of_ble_eq_true rfl) ?_
  intro p e s m below meth c A Q ls X hr hlk hZ hA hQ hW hl
  have hl : lv_has ls 4 [(0, .ref (ad 0)), (1, .int v1), (2, .int v2)] := hl
  have hx := X.1
  have hb := X.2.1
  obtain ⟨H, hH⟩ : ∃ H, H = s.heap := ⟨_, rfl⟩
  obtain ⟨locs, hlo⟩ : ∃ q : List Loc, q = [] := ⟨_, rfl⟩
  have hW : Wd D 20 ad (CM ad cy) A s.heap M H locs := by rw [hH, hlo]; exact hW
  suffices hh : W p l e (rmD 2) s m ([.ref (ad 0), .int v1, .int v2] : List Value).toArray below meth c H locs 0 0 Q (F0 m 0 ls []) by rw [hH, hlo] at hh; exact hh
  unfold f_X2_word at hf
  refine lv_aload_n hx hb dX2_word_0 rfl (lv_at hl 0 rfl) ?_
  refine lv_iload_n hx hb dX2_word_1 rfl (lv_at hl 1 rfl) ?_
  obtain ⟨r2, h2, hf⟩ := bR_some hf
  refine g_calliV X hl.1 hZ hA hW (c_X2_isTube l D cy ad h2) cw_X2_isTube ql_X2_145 iO_X2 rfl (by decide) rfl (Nat.le_of_ble_eq_true rfl) dX2_word_2 (fun H locs hW => ?_)
  refine lv_if_eq (tgt := 17) hx hb dX2_word_5 (by decide) (fun hc => ?_) (fun hc => ?_)
  · replace hf := ifp hc hf
    refine lv_iconst (v := (-1)) hx hb dX2_word_17 (by decide) ?_
    exact g_iret X hr hlk hQ hW dX2_word_18 hf
  · replace hf := ifn hc hf
    refine lv_aload_n hx hb dX2_word_8 rfl (lv_at hl 0 rfl) ?_
    refine lv_iload_n hx hb dX2_word_9 rfl (lv_at hl 1 rfl) ?_
    refine lv_iload_n hx hb dX2_word_10 rfl (lv_at hl 2 rfl) ?_
    obtain ⟨r11, h11, hf⟩ := bR_some hf
    refine g_calliV X hl.1 hZ hA hW (c_X2_isWord l D cy ad h11) cw_X2_isWord ql_X2_170 iO_X2 rfl (by decide) rfl (Nat.le_of_ble_eq_true rfl) dX2_word_11 (fun H locs hW => ?_)
    refine lv_if_ne (tgt := 19) hx hb dX2_word_14 (by decide) (fun hc => ?_) (fun hc => ?_)
    · replace hf := ifn hc hf
      refine lv_aload_n hx hb dX2_word_19 rfl (lv_at hl 0 rfl) ?_
      refine gf_X2_31 X hW dX2_word_20 ?_
      refine lv_iconst (v := 1) hx hb dX2_word_23 (by decide) ?_
      refine lv_iload_n hx hb dX2_word_24 rfl (lv_at hl 1 rfl) ?_
      refine lv_iadd hx hb dX2_word_25 ?_
      obtain ⟨hi26, hf⟩ := grd_some hf
      refine g_iald X hW iM_st hi26 dX2_word_26 ?_
      refine lv_istore_n (lv' := [(3, .int (M.1 8 (ix (1 + v1)))), (0, .ref (ad 0)), (1, .int v1), (2, .int v2)]) hx hb dX2_word_27 rfl hl (by decide) rfl (fun ls hl => ?_)
      refine lv_iload_n hx hb dX2_word_28 rfl (lv_at hl 0 rfl) ?_
      refine lv_iload_n hx hb dX2_word_29 rfl (lv_at hl 3 rfl) ?_
      refine lv_icmp_ne (tgt := 36) hx hb dX2_word_30 (by decide) (fun hc => ?_) (fun hc => ?_)
      · replace hf := ifn hc hf
        refine lv_aload_n hx hb dX2_word_36 rfl (lv_at hl 1 rfl) ?_
        refine gf_X2_121 X hW dX2_word_37 ?_
        refine lv_bipush (v := 40) hx hb dX2_word_40 (by decide) ?_
        refine lv_icmp_ne (tgt := 48) hx hb dX2_word_42 (by decide) (fun hc => ?_) (fun hc => ?_)
        · replace hf := ifn hc hf
          refine lv_aload_n hx hb dX2_word_48 rfl (lv_at hl 1 rfl) ?_
          obtain ⟨M49, h49, hf⟩ := bR_some hf
          refine g_callvV X hl.1 hZ hA hW (c_X2_notes l D cy ad h49) cw_X2_notes ql_X2_155 iO_X2 rfl (by decide) rfl (Nat.le_of_ble_eq_true rfl) dX2_word_49 (fun H locs hW => ?_)
          refine lv_aload_n hx hb dX2_word_52 rfl (lv_at hl 1 rfl) ?_
          refine gf_X2_31 X hW dX2_word_53 ?_
          refine lv_iconst (v := 1) hx hb dX2_word_56 (by decide) ?_
          refine lv_iload_n hx hb dX2_word_57 rfl (lv_at hl 2 rfl) ?_
          refine lv_iadd hx hb dX2_word_58 ?_
          refine lv_iload_n hx hb dX2_word_59 rfl (lv_at hl 3 rfl) ?_
          obtain ⟨hi60, hf⟩ := grd_some hf
          refine g_iast X hW iM_st hi60 dX2_word_60 (fun H locs hW => ?_)
          obtain ⟨M60, e60, hf⟩ := lt_some hf
          have hW : Wd D 20 ad (CM ad cy) A s.heap M60 H locs := by rw [e60]; exact hW
          refine lv_iload_n hx hb dX2_word_61 rfl (lv_at hl 0 rfl) ?_
          exact g_iret X hr hlk hQ hW dX2_word_62 hf
        · replace hf := ifp hc hf
          refine lv_bipush (v := (-2)) hx hb dX2_word_45 (by decide) ?_
          exact g_iret X hr hlk hQ hW dX2_word_47 hf
      · replace hf := ifp hc hf
        refine lv_bipush (v := (-4)) hx hb dX2_word_33 (by decide) ?_
        exact g_iret X hr hlk hQ hW dX2_word_35 hf
    · replace hf := ifp hc hf
      refine lv_iconst (v := (-1)) hx hb dX2_word_17 (by decide) ?_
      exact g_iret X hr hlk hQ hW dX2_word_18 hf

def f_X2_undo (v1 : Int32) (M : Mem) : Option (Int32 × Mem) :=
  (bR (f_X2_in v1 0 (M.1 0 11) M) (fun r6 => (if r6 = 0 then (some ((-1), M)) else (jn (fun (k43 : Mem → Option (Int32 × Mem)) => (if ((M.1 0 11) - v1) ≤ 0 then (k43 M) else (bR (f_X2_bring 10 600 8 15 (15 * v1) 0 15 M) (fun M40 => (k43 M40))))) (fun  (M_43j : Mem) => (lt (sI M_43j 0 11 v1) (fun M45 => (some (((M.1 0 11) - v1), M45)))))))))
set_option maxHeartbeats 4000000 in
set_option maxRecDepth 100000 in
theorem c_X2_undo (l : Launch) (D : va_G) (cy : Nat → ClassId) (ad : Nat → Nat)   {v1 : Int32} {M M' : Mem} {r : Int32} (hf : f_X2_undo v1 M = some (r, M')) : MetX l 20 (CM ad cy) D cy ad yX2_undo cX2_undo 3 (some .int) 1 [.ref (ad 0), .int v1] M (fun A => QI r M' 20 (CM ad cy) D cy ad A) := by
  refine MetX.of (own := RX2) (by decide) rfl (Nat.le_of_ble_eq_true rfl) ?_
  intro p e s m below meth c A Q ls X hr hlk hZ hA hQ hW hl
  have hl : lv_has ls 3 [(0, .ref (ad 0)), (1, .int v1)] := hl
  have hx := X.1
  have hb := X.2.1
  obtain ⟨H, hH⟩ : ∃ H, H = s.heap := ⟨_, rfl⟩
  obtain ⟨locs, hlo⟩ : ∃ q : List Loc, q = [] := ⟨_, rfl⟩
  have hW : Wd D 20 ad (CM ad cy) A s.heap M H locs := by rw [hH, hlo]; exact hW
  suffices hh : W p l e (rmD 1) s m ([.ref (ad 0), .int v1] : List Value).toArray below meth c H locs 0 0 Q (F0 m 0 ls []) by rw [hH, hlo] at hh; exact hh
  unfold f_X2_undo at hf
  refine lv_iload_n hx hb dX2_undo_0 rfl (lv_at hl 1 rfl) ?_
  refine lv_iconst (v := 0) hx hb dX2_undo_1 (by decide) ?_
  refine lv_aload_n hx hb dX2_undo_2 rfl (lv_at hl 0 rfl) ?_
  refine gf_X2_121 X hW dX2_undo_3 ?_
  obtain ⟨r6, h6, hf⟩ := bR_some hf
  refine g_calliS X hl.1 hZ hA hW (c_X2_in l D cy ad h6) cs_X2_in ql_X2_82 rfl (by decide) rfl (Nat.le_of_ble_eq_true rfl) dX2_undo_6 (fun H locs hW => ?_)
  refine lv_if_ne (tgt := 14) hx hb dX2_undo_9 (by decide) (fun hc => ?_) (fun hc => ?_)
  · replace hf := ifn hc hf
    refine lv_aload_n hx hb dX2_undo_14 rfl (lv_at hl 0 rfl) ?_
    refine gf_X2_121 X hW dX2_undo_15 ?_
    refine lv_iload_n hx hb dX2_undo_18 rfl (lv_at hl 1 rfl) ?_
    refine lv_isub hx hb dX2_undo_19 ?_
    refine lv_istore_n (lv' := [(2, .int ((M.1 0 11) - v1)), (0, .ref (ad 0)), (1, .int v1)]) hx hb dX2_undo_20 rfl hl (by decide) rfl (fun ls hl => ?_)
    refine lv_iload_n hx hb dX2_undo_21 rfl (lv_at hl 0 rfl) ?_
    obtain ⟨k43, hk43, hf⟩ := jn_some1 hf
    have hJ43 : ∀  (M_43j : Mem) (H : Heap) (locs : List Loc) (ls : Array Slot), k43 M_43j = some (r, M') → Wd D 20 ad (CM ad cy) A s.heap M_43j H locs → lv_has ls 3 [(0, .ref (ad 0)), (1, .int v1), (2, .int ((M.1 0 11) - v1))] → W p l e (rmD 1) s m ([.ref (ad 0), .int v1] : List Value).toArray below meth c H locs 0 0 Q (F0 m 43 ls []) := by
      intro M_43j H locs ls hf hW hl
      rw [hk43] at hf
      refine lv_aload_n hx hb dX2_undo_43 rfl (lv_at hl 0 rfl) ?_
      refine lv_iload_n hx hb dX2_undo_44 rfl (lv_at hl 1 rfl) ?_
      refine gp_X2_121 X hW dX2_undo_45 (fun H locs hW => ?_)
      obtain ⟨M45, e45, hf⟩ := lt_some hf
      have hW : Wd D 20 ad (CM ad cy) A s.heap M45 H locs := by rw [e45]; exact hW
      refine lv_iload_n hx hb dX2_undo_48 rfl (lv_at hl 2 rfl) ?_
      exact g_iret X hr hlk hQ hW dX2_undo_49 hf
    refine lv_if_le (tgt := 43) hx hb dX2_undo_22 (by decide) (fun hc => ?_) (fun hc => ?_)
    · replace hf := ifp hc hf
      exact hJ43 M H locs ls hf hW (lv_sub hl [1, 2, 0] rfl)
    · replace hf := ifn hc hf
      refine lv_aload_n hx hb dX2_undo_25 rfl (lv_at hl 1 rfl) ?_
      refine gf_X2_37 X hW dX2_undo_26 ?_
      refine lv_bipush (v := 15) hx hb dX2_undo_29 (by decide) ?_
      refine lv_iload_n hx hb dX2_undo_31 rfl (lv_at hl 2 rfl) ?_
      refine lv_imul hx hb dX2_undo_32 ?_
      refine lv_aload_n hx hb dX2_undo_33 rfl (lv_at hl 1 rfl) ?_
      refine gf_X2_31 X hW dX2_undo_34 ?_
      refine lv_iconst (v := 0) hx hb dX2_undo_37 (by decide) ?_
      refine lv_bipush (v := 15) hx hb dX2_undo_38 (by decide) ?_
      obtain ⟨M40, h40, hf⟩ := bR_some hf
      refine g_callvS X hl.1 hZ hA hW (c_X2_bring l D cy ad iM_book iM_st h40) cs_X2_bring ql_X2_117 rfl (by decide) rfl (Nat.le_of_ble_eq_true rfl) dX2_undo_40 (fun H locs hW => ?_)
      exact hJ43 M40 H locs ls hf hW (lv_sub hl [1, 2, 0] rfl)
  · replace hf := ifp hc hf
    refine lv_iconst (v := (-1)) hx hb dX2_undo_12 (by decide) ?_
    exact g_iret X hr hlk hQ hW dX2_undo_13 hf

def f_X2_keep (v1 : Int32) (M : Mem) : Option (Int32 × Mem) :=
  (bR (f_X2_in v1 0 2 M) (fun r3 => (if r3 = 0 then (some ((-1), M)) else (if (M.1 0 4) = 0 then (some ((-4), M)) else (grd (inb v1 3) (lt (sI M 12 (ix v1) (vp_nar .boolean 1)) (fun M33 => (grd (inb (616 * v1) 1848) (lt (sI M33 11 (ix (616 * v1)) (M33.1 0 11)) (fun M43 => (bR (f_X2_bring 8 15 11 1848 0 ((616 * v1) + 1) 15 M43) (fun M58 => (bR (f_X2_bring 10 600 11 1848 0 (((616 * v1) + 1) + 15) 600 M58) (fun M79 => (some ((M79.1 0 11), M79))))))))))))))))
set_option maxHeartbeats 4000000 in
set_option maxRecDepth 100000 in
theorem c_X2_keep (l : Launch) (D : va_G) (cy : Nat → ClassId) (ad : Nat → Nat)   {v1 : Int32} {M M' : Mem} {r : Int32} (hf : f_X2_keep v1 M = some (r, M')) : MetX l 20 (CM ad cy) D cy ad yX2_keep cX2_keep 3 (some .int) 1 [.ref (ad 0), .int v1] M (fun A => QI r M' 20 (CM ad cy) D cy ad A) := by
  refine MetX.of (own := RX2) (by decide) rfl (Nat.le_of_ble_eq_true rfl) ?_
  intro p e s m below meth c A Q ls X hr hlk hZ hA hQ hW hl
  have hl : lv_has ls 3 [(0, .ref (ad 0)), (1, .int v1)] := hl
  have hx := X.1
  have hb := X.2.1
  obtain ⟨H, hH⟩ : ∃ H, H = s.heap := ⟨_, rfl⟩
  obtain ⟨locs, hlo⟩ : ∃ q : List Loc, q = [] := ⟨_, rfl⟩
  have hW : Wd D 20 ad (CM ad cy) A s.heap M H locs := by rw [hH, hlo]; exact hW
  suffices hh : W p l e (rmD 1) s m ([.ref (ad 0), .int v1] : List Value).toArray below meth c H locs 0 0 Q (F0 m 0 ls []) by rw [hH, hlo] at hh; exact hh
  unfold f_X2_keep at hf
  refine lv_iload_n hx hb dX2_keep_0 rfl (lv_at hl 1 rfl) ?_
  refine lv_iconst (v := 0) hx hb dX2_keep_1 (by decide) ?_
  refine lv_iconst (v := 2) hx hb dX2_keep_2 (by decide) ?_
  obtain ⟨r3, h3, hf⟩ := bR_some hf
  refine g_calliS X hl.1 hZ hA hW (c_X2_in l D cy ad h3) cs_X2_in ql_X2_82 rfl (by decide) rfl (Nat.le_of_ble_eq_true rfl) dX2_keep_3 (fun H locs hW => ?_)
  refine lv_if_ne (tgt := 11) hx hb dX2_keep_6 (by decide) (fun hc => ?_) (fun hc => ?_)
  · replace hf := ifn hc hf
    refine lv_aload_n hx hb dX2_keep_11 rfl (lv_at hl 0 rfl) ?_
    refine gf_X2_79 X hW dX2_keep_12 ?_
    refine lv_if_ne (tgt := 21) hx hb dX2_keep_15 (by decide) (fun hc => ?_) (fun hc => ?_)
    · replace hf := ifn hc hf
      refine lv_sipush (v := 616) hx hb dX2_keep_21 (by decide) ?_
      refine lv_iload_n hx hb dX2_keep_24 rfl (lv_at hl 1 rfl) ?_
      refine lv_imul hx hb dX2_keep_25 ?_
      refine lv_istore_n (lv' := [(2, .int (616 * v1)), (0, .ref (ad 0)), (1, .int v1)]) hx hb dX2_keep_26 rfl hl (by decide) rfl (fun ls hl => ?_)
      refine lv_aload_n hx hb dX2_keep_27 rfl (lv_at hl 1 rfl) ?_
      refine gf_X2_43 X hW dX2_keep_28 ?_
      refine lv_iload_n hx hb dX2_keep_31 rfl (lv_at hl 2 rfl) ?_
      refine lv_iconst (v := 1) hx hb dX2_keep_32 (by decide) ?_
      obtain ⟨hi33, hf⟩ := grd_some hf
      refine g_zast X hW iM_isKept hi33 dX2_keep_33 (fun H locs hW => ?_)
      obtain ⟨M33, e33, hf⟩ := lt_some hf
      have hW : Wd D 20 ad (CM ad cy) A s.heap M33 H locs := by rw [e33]; exact hW
      refine lv_aload_n hx hb dX2_keep_34 rfl (lv_at hl 1 rfl) ?_
      refine gf_X2_40 X hW dX2_keep_35 ?_
      refine lv_iload_n hx hb dX2_keep_38 rfl (lv_at hl 0 rfl) ?_
      refine lv_aload_n hx hb dX2_keep_39 rfl (lv_at hl 1 rfl) ?_
      refine gf_X2_121 X hW dX2_keep_40 ?_
      obtain ⟨hi43, hf⟩ := grd_some hf
      refine g_iast X hW iM_kept hi43 dX2_keep_43 (fun H locs hW => ?_)
      obtain ⟨M43, e43, hf⟩ := lt_some hf
      have hW : Wd D 20 ad (CM ad cy) A s.heap M43 H locs := by rw [e43]; exact hW
      refine lv_aload_n hx hb dX2_keep_44 rfl (lv_at hl 1 rfl) ?_
      refine gf_X2_31 X hW dX2_keep_45 ?_
      refine lv_iconst (v := 0) hx hb dX2_keep_48 (by decide) ?_
      refine lv_aload_n hx hb dX2_keep_49 rfl (lv_at hl 1 rfl) ?_
      refine gf_X2_40 X hW dX2_keep_50 ?_
      refine lv_iload_n hx hb dX2_keep_53 rfl (lv_at hl 0 rfl) ?_
      refine lv_iconst (v := 1) hx hb dX2_keep_54 (by decide) ?_
      refine lv_iadd hx hb dX2_keep_55 ?_
      refine lv_bipush (v := 15) hx hb dX2_keep_56 (by decide) ?_
      obtain ⟨M58, h58, hf⟩ := bR_some hf
      refine g_callvS X hl.1 hZ hA hW (c_X2_bring l D cy ad iM_st iM_kept h58) cs_X2_bring ql_X2_117 rfl (by decide) rfl (Nat.le_of_ble_eq_true rfl) dX2_keep_58 (fun H locs hW => ?_)
      refine lv_aload_n hx hb dX2_keep_61 rfl (lv_at hl 1 rfl) ?_
      refine gf_X2_37 X hW dX2_keep_62 ?_
      refine lv_iconst (v := 0) hx hb dX2_keep_65 (by decide) ?_
      refine lv_aload_n hx hb dX2_keep_66 rfl (lv_at hl 1 rfl) ?_
      refine gf_X2_40 X hW dX2_keep_67 ?_
      refine lv_iload_n hx hb dX2_keep_70 rfl (lv_at hl 0 rfl) ?_
      refine lv_iconst (v := 1) hx hb dX2_keep_71 (by decide) ?_
      refine lv_iadd hx hb dX2_keep_72 ?_
      refine lv_bipush (v := 15) hx hb dX2_keep_73 (by decide) ?_
      refine lv_iadd hx hb dX2_keep_75 ?_
      refine lv_sipush (v := 600) hx hb dX2_keep_76 (by decide) ?_
      obtain ⟨M79, h79, hf⟩ := bR_some hf
      refine g_callvS X hl.1 hZ hA hW (c_X2_bring l D cy ad iM_book iM_kept h79) cs_X2_bring ql_X2_117 rfl (by decide) rfl (Nat.le_of_ble_eq_true rfl) dX2_keep_79 (fun H locs hW => ?_)
      refine lv_aload_n hx hb dX2_keep_82 rfl (lv_at hl 1 rfl) ?_
      refine gf_X2_121 X hW dX2_keep_83 ?_
      exact g_iret X hr hlk hQ hW dX2_keep_86 hf
    · replace hf := ifp hc hf
      refine lv_bipush (v := (-4)) hx hb dX2_keep_18 (by decide) ?_
      exact g_iret X hr hlk hQ hW dX2_keep_20 hf
  · replace hf := ifp hc hf
    refine lv_iconst (v := (-1)) hx hb dX2_keep_9 (by decide) ?_
    exact g_iret X hr hlk hQ hW dX2_keep_10 hf

def f_X2_on (v1 : Int32) (M : Mem) : Option (Int32 × Mem) :=
  (bR (f_X2_in v1 0 2 M) (fun r3 => (if r3 = 0 then (some ((-1), M)) else (grd (inb v1 3) (if (M.1 12 (ix v1)) = 0 then (bI (f_X2_found 1 M) (fun r22 M22 => (some (r22, M22)))) else (grd (inb (616 * v1) 1848) (lt (sI M 0 11 (M.1 11 (ix (616 * v1)))) (fun M39 => (bR (f_X2_bring 11 1848 8 15 ((616 * v1) + 1) 0 15 M39) (fun M56 => (bR (f_X2_bring 11 1848 10 600 (((616 * v1) + 1) + 15) 0 600 M56) (fun M77 => (some ((M77.1 0 11), M77))))))))))))))
set_option maxHeartbeats 4000000 in
set_option maxRecDepth 100000 in
theorem c_X2_on (l : Launch) (D : va_G) (cy : Nat → ClassId) (ad : Nat → Nat)   {v1 : Int32} {M M' : Mem} {r : Int32} (hf : f_X2_on v1 M = some (r, M')) : MetX l 20 (CM ad cy) D cy ad yX2_on cX2_on 3 (some .int) 1 [.ref (ad 0), .int v1] M (fun A => QI r M' 20 (CM ad cy) D cy ad A) := by
  refine MetX.of (own := RX2) (by decide) rfl (Nat.le_of_ble_eq_true rfl) ?_
  intro p e s m below meth c A Q ls X hr hlk hZ hA hQ hW hl
  have hl : lv_has ls 3 [(0, .ref (ad 0)), (1, .int v1)] := hl
  have hx := X.1
  have hb := X.2.1
  obtain ⟨H, hH⟩ : ∃ H, H = s.heap := ⟨_, rfl⟩
  obtain ⟨locs, hlo⟩ : ∃ q : List Loc, q = [] := ⟨_, rfl⟩
  have hW : Wd D 20 ad (CM ad cy) A s.heap M H locs := by rw [hH, hlo]; exact hW
  suffices hh : W p l e (rmD 1) s m ([.ref (ad 0), .int v1] : List Value).toArray below meth c H locs 0 0 Q (F0 m 0 ls []) by rw [hH, hlo] at hh; exact hh
  unfold f_X2_on at hf
  refine lv_iload_n hx hb dX2_on_0 rfl (lv_at hl 1 rfl) ?_
  refine lv_iconst (v := 0) hx hb dX2_on_1 (by decide) ?_
  refine lv_iconst (v := 2) hx hb dX2_on_2 (by decide) ?_
  obtain ⟨r3, h3, hf⟩ := bR_some hf
  refine g_calliS X hl.1 hZ hA hW (c_X2_in l D cy ad h3) cs_X2_in ql_X2_82 rfl (by decide) rfl (Nat.le_of_ble_eq_true rfl) dX2_on_3 (fun H locs hW => ?_)
  refine lv_if_ne (tgt := 11) hx hb dX2_on_6 (by decide) (fun hc => ?_) (fun hc => ?_)
  · replace hf := ifn hc hf
    refine lv_aload_n hx hb dX2_on_11 rfl (lv_at hl 0 rfl) ?_
    refine gf_X2_43 X hW dX2_on_12 ?_
    refine lv_iload_n hx hb dX2_on_15 rfl (lv_at hl 1 rfl) ?_
    obtain ⟨hi16, hf⟩ := grd_some hf
    refine g_zald X hW iM_isKept hi16 dX2_on_16 ?_
    refine lv_if_ne (tgt := 26) hx hb dX2_on_17 (by decide) (fun hc => ?_) (fun hc => ?_)
    · replace hf := ifn hc hf
      refine lv_sipush (v := 616) hx hb dX2_on_26 (by decide) ?_
      refine lv_iload_n hx hb dX2_on_29 rfl (lv_at hl 1 rfl) ?_
      refine lv_imul hx hb dX2_on_30 ?_
      refine lv_istore_n (lv' := [(2, .int (616 * v1)), (0, .ref (ad 0)), (1, .int v1)]) hx hb dX2_on_31 rfl hl (by decide) rfl (fun ls hl => ?_)
      refine lv_aload_n hx hb dX2_on_32 rfl (lv_at hl 1 rfl) ?_
      refine lv_aload_n hx hb dX2_on_33 rfl (lv_at hl 1 rfl) ?_
      refine gf_X2_40 X hW dX2_on_34 ?_
      refine lv_iload_n hx hb dX2_on_37 rfl (lv_at hl 0 rfl) ?_
      obtain ⟨hi38, hf⟩ := grd_some hf
      refine g_iald X hW iM_kept hi38 dX2_on_38 ?_
      refine gp_X2_121 X hW dX2_on_39 (fun H locs hW => ?_)
      obtain ⟨M39, e39, hf⟩ := lt_some hf
      have hW : Wd D 20 ad (CM ad cy) A s.heap M39 H locs := by rw [e39]; exact hW
      refine lv_aload_n hx hb dX2_on_42 rfl (lv_at hl 1 rfl) ?_
      refine gf_X2_40 X hW dX2_on_43 ?_
      refine lv_iload_n hx hb dX2_on_46 rfl (lv_at hl 0 rfl) ?_
      refine lv_iconst (v := 1) hx hb dX2_on_47 (by decide) ?_
      refine lv_iadd hx hb dX2_on_48 ?_
      refine lv_aload_n hx hb dX2_on_49 rfl (lv_at hl 1 rfl) ?_
      refine gf_X2_31 X hW dX2_on_50 ?_
      refine lv_iconst (v := 0) hx hb dX2_on_53 (by decide) ?_
      refine lv_bipush (v := 15) hx hb dX2_on_54 (by decide) ?_
      obtain ⟨M56, h56, hf⟩ := bR_some hf
      refine g_callvS X hl.1 hZ hA hW (c_X2_bring l D cy ad iM_kept iM_st h56) cs_X2_bring ql_X2_117 rfl (by decide) rfl (Nat.le_of_ble_eq_true rfl) dX2_on_56 (fun H locs hW => ?_)
      refine lv_aload_n hx hb dX2_on_59 rfl (lv_at hl 1 rfl) ?_
      refine gf_X2_40 X hW dX2_on_60 ?_
      refine lv_iload_n hx hb dX2_on_63 rfl (lv_at hl 0 rfl) ?_
      refine lv_iconst (v := 1) hx hb dX2_on_64 (by decide) ?_
      refine lv_iadd hx hb dX2_on_65 ?_
      refine lv_bipush (v := 15) hx hb dX2_on_66 (by decide) ?_
      refine lv_iadd hx hb dX2_on_68 ?_
      refine lv_aload_n hx hb dX2_on_69 rfl (lv_at hl 1 rfl) ?_
      refine gf_X2_37 X hW dX2_on_70 ?_
      refine lv_iconst (v := 0) hx hb dX2_on_73 (by decide) ?_
      refine lv_sipush (v := 600) hx hb dX2_on_74 (by decide) ?_
      obtain ⟨M77, h77, hf⟩ := bR_some hf
      refine g_callvS X hl.1 hZ hA hW (c_X2_bring l D cy ad iM_kept iM_book h77) cs_X2_bring ql_X2_117 rfl (by decide) rfl (Nat.le_of_ble_eq_true rfl) dX2_on_77 (fun H locs hW => ?_)
      refine lv_aload_n hx hb dX2_on_80 rfl (lv_at hl 1 rfl) ?_
      refine gf_X2_121 X hW dX2_on_81 ?_
      exact g_iret X hr hlk hQ hW dX2_on_84 hf
    · replace hf := ifp hc hf
      refine lv_aload_n hx hb dX2_on_20 rfl (lv_at hl 0 rfl) ?_
      refine lv_iconst (v := 1) hx hb dX2_on_21 (by decide) ?_
      obtain ⟨r22, M22, h22, hf⟩ := bI_some hf
      refine g_calliV X hl.1 hZ hA hW (c_X2_found l D cy ad h22) cw_X2_found ql_X2_90 iO_X2 rfl (by decide) rfl (Nat.le_of_ble_eq_true rfl) dX2_on_22 (fun H locs hW => ?_)
      exact g_iret X hr hlk hQ hW dX2_on_25 hf
  · replace hf := ifp hc hf
    refine lv_iconst (v := (-1)) hx hb dX2_on_9 (by decide) ?_
    exact g_iret X hr hlk hQ hW dX2_on_10 hf

def f_X2_asItIs (M : Mem) : Option Mem :=
  (bR (f_X2_bring 8 15 9 15 0 0 15 M) (fun M12 => (some M12)))
set_option maxHeartbeats 4000000 in
set_option maxRecDepth 100000 in
theorem c_X2_asItIs (l : Launch) (D : va_G) (cy : Nat → ClassId) (ad : Nat → Nat)    {M M' : Mem} (hf : f_X2_asItIs M = some M') : MetX l 20 (CM ad cy) D cy ad yX2_asItIs cX2_asItIs 1 none 1 [.ref (ad 0)] M (fun A => QV M' 20 (CM ad cy) D cy ad A) := by
  refine MetX.of (own := RX2) (by decide) rfl (Nat.le_of_ble_eq_true rfl) ?_
  intro p e s m below meth c A Q ls X hr hlk hZ hA hQ hW hl
  have hl : lv_has ls 1 [(0, .ref (ad 0))] := hl
  have hx := X.1
  have hb := X.2.1
  obtain ⟨H, hH⟩ : ∃ H, H = s.heap := ⟨_, rfl⟩
  obtain ⟨locs, hlo⟩ : ∃ q : List Loc, q = [] := ⟨_, rfl⟩
  have hW : Wd D 20 ad (CM ad cy) A s.heap M H locs := by rw [hH, hlo]; exact hW
  suffices hh : W p l e (rmD 1) s m ([.ref (ad 0)] : List Value).toArray below meth c H locs 0 0 Q (F0 m 0 ls []) by rw [hH, hlo] at hh; exact hh
  unfold f_X2_asItIs at hf
  refine lv_aload_n hx hb dX2_asItIs_0 rfl (lv_at hl 0 rfl) ?_
  refine gf_X2_31 X hW dX2_asItIs_1 ?_
  refine lv_iconst (v := 0) hx hb dX2_asItIs_4 (by decide) ?_
  refine lv_aload_n hx hb dX2_asItIs_5 rfl (lv_at hl 0 rfl) ?_
  refine gf_X2_34 X hW dX2_asItIs_6 ?_
  refine lv_iconst (v := 0) hx hb dX2_asItIs_9 (by decide) ?_
  refine lv_bipush (v := 15) hx hb dX2_asItIs_10 (by decide) ?_
  obtain ⟨M12, h12, hf⟩ := bR_some hf
  refine g_callvS X hl.1 hZ hA hW (c_X2_bring l D cy ad iM_st iM_now h12) cs_X2_bring ql_X2_117 rfl (by decide) rfl (Nat.le_of_ble_eq_true rfl) dX2_asItIs_12 (fun H locs hW => ?_)
  exact g_vret X hr hlk hQ hW dX2_asItIs_15 hf

def f_X2_goes_L2 (v1_L2 : Int32) : Nat → Int32 → Mem → Option Mem
  | 0, _, _ => none
  | n + 1, v2_L2, M_L2 => (if v1_L2 ≤ v2_L2 then (some M_L2) else (bR (f_X2_tickOn 9 15 M_L2) (fun M12 => (f_X2_goes_L2 v1_L2 n (v2_L2 + 1) M12))))
def f_X2_goes (v1 : Int32) (M : Mem) : Option Mem :=
  (f_X2_goes_L2 v1 FU 0 M)
set_option maxHeartbeats 4000000 in
set_option maxRecDepth 100000 in
theorem c_X2_goes (l : Launch) (D : va_G) (cy : Nat → ClassId) (ad : Nat → Nat)   {v1 : Int32} {M M' : Mem} (hf : f_X2_goes v1 M = some M') : MetX l 20 (CM ad cy) D cy ad yX2_goes cX2_goes 3 none 3 [.ref (ad 0), .int v1] M (fun A => QV M' 20 (CM ad cy) D cy ad A) := by
  refine MetX.of (own := RX2) (by decide) rfl (Nat.le_of_ble_eq_true rfl) ?_
  intro p e s m below meth c A Q ls X hr hlk hZ hA hQ hW hl
  have hl : lv_has ls 3 [(0, .ref (ad 0)), (1, .int v1)] := hl
  have hx := X.1
  have hb := X.2.1
  have hL2 : ∀ (v1_L2 : Int32)  (n : Nat) (v2_L2 : Int32) (M_L2 : Mem) (H : Heap) (locs : List Loc) (ls : Array Slot), f_X2_goes_L2 v1_L2 n v2_L2 M_L2 = some M' → Wd D 20 ad (CM ad cy) A s.heap M_L2 H locs → lv_has ls 3 [(0, .ref (ad 0)), (1, .int v1_L2), (2, .int v2_L2)] → W p l e (rmD 3) s m ([.ref (ad 0), .int v1] : List Value).toArray below meth c H locs 0 0 Q (F0 m 2 ls []) := by
    intro v1_L2 n
    induction n with
    | zero =>
      intro v2_L2 M_L2 H locs ls hf
      cases (show (none : Option Mem) = some M' from hf)
    | succ n ih =>
      intro v2_L2 M_L2 H locs ls hf hW hl
      rw [f_X2_goes_L2] at hf
      refine lv_iload_n hx hb dX2_goes_2 rfl (lv_at hl 2 rfl) ?_
      refine lv_iload_n hx hb dX2_goes_3 rfl (lv_at hl 1 rfl) ?_
      refine lv_icmp_ge (tgt := 21) hx hb dX2_goes_4 (by decide) (fun hc => ?_) (fun hc => ?_)
      · replace hf := ifp hc hf
        exact g_vret X hr hlk hQ hW dX2_goes_21 hf
      · replace hf := ifn hc hf
        refine lv_aload_n hx hb dX2_goes_7 rfl (lv_at hl 0 rfl) ?_
        refine lv_aload_n hx hb dX2_goes_8 rfl (lv_at hl 0 rfl) ?_
        refine gf_X2_34 X hW dX2_goes_9 ?_
        obtain ⟨M12, h12, hf⟩ := bR_some hf
        refine g_callvV X hl.1 hZ hA hW (c_X2_tickOn l D cy ad iM_now h12) cw_X2_tickOn ql_X2_158 iO_X2 rfl (by decide) rfl (Nat.le_of_ble_eq_true rfl) dX2_goes_12 (fun H locs hW => ?_)
        refine lv_iinc (v := (v2_L2 + 1)) (lv' := [(2, .int (v2_L2 + 1)), (0, .ref (ad 0)), (1, .int v1_L2)]) hx hb dX2_goes_15 hl (k := 2) rfl rfl (by decide) rfl (fun ls hl => ?_)
        refine lv_goto (tgt := 2) hx hb dX2_goes_18 (by decide) ?_
        exact ih (v2_L2 + 1) M12 H locs ls hf hW (lv_sub hl [1, 2, 0] rfl)
  obtain ⟨H, hH⟩ : ∃ H, H = s.heap := ⟨_, rfl⟩
  obtain ⟨locs, hlo⟩ : ∃ q : List Loc, q = [] := ⟨_, rfl⟩
  have hW : Wd D 20 ad (CM ad cy) A s.heap M H locs := by rw [hH, hlo]; exact hW
  suffices hh : W p l e (rmD 3) s m ([.ref (ad 0), .int v1] : List Value).toArray below meth c H locs 0 0 Q (F0 m 0 ls []) by rw [hH, hlo] at hh; exact hh
  unfold f_X2_goes at hf
  refine lv_iconst (v := 0) hx hb dX2_goes_0 (by decide) ?_
  refine lv_istore_n (lv' := [(2, .int 0), (0, .ref (ad 0)), (1, .int v1)]) hx hb dX2_goes_1 rfl hl (by decide) rfl (fun ls hl => ?_)
  exact hL2 v1 FU 0 M H locs ls hf hW (lv_sub hl [1, 2, 0] rfl)

def f_X2_later (v1 : Int32) (v2 : Int32) (M : Mem) : Option (Int32 × Mem) :=
  (bR (f_X2_isTube v1 M) (fun r2 => (if r2 = 0 then (some ((-1), M)) else (bR (f_X2_in v2 0 60 M) (fun r12 => (if r12 = 0 then (some ((-1), M)) else (bR (f_X2_asItIs M) (fun M21 => (bR (f_X2_goes v2 M21) (fun M26 => (bR (f_X2_pulses 9 15 M26) (fun r35 => (grd (inb (1 + v1) 15) (bI (f_X2_tells r35 (M26.1 9 (ix (1 + v1))) M26) (fun r46 M46 => (some (r46, M46)))))))))))))))))
set_option maxHeartbeats 4000000 in
set_option maxRecDepth 100000 in
theorem c_X2_later (l : Launch) (D : va_G) (cy : Nat → ClassId) (ad : Nat → Nat)   {v1 : Int32} {v2 : Int32} {M M' : Mem} {r : Int32} (hf : f_X2_later v1 v2 M = some (r, M')) : MetX l 20 (CM ad cy) D cy ad yX2_later cX2_later 3 (some .int) 4 [.ref (ad 0), .int v1, .int v2] M (fun A => QI r M' 20 (CM ad cy) D cy ad A) := by
  refine MetX.of (own := RX2) (by decide) rfl (Nat.le_of_ble_eq_true rfl) ?_
  intro p e s m below meth c A Q ls X hr hlk hZ hA hQ hW hl
  have hl : lv_has ls 3 [(0, .ref (ad 0)), (1, .int v1), (2, .int v2)] := hl
  have hx := X.1
  have hb := X.2.1
  obtain ⟨H, hH⟩ : ∃ H, H = s.heap := ⟨_, rfl⟩
  obtain ⟨locs, hlo⟩ : ∃ q : List Loc, q = [] := ⟨_, rfl⟩
  have hW : Wd D 20 ad (CM ad cy) A s.heap M H locs := by rw [hH, hlo]; exact hW
  suffices hh : W p l e (rmD 4) s m ([.ref (ad 0), .int v1, .int v2] : List Value).toArray below meth c H locs 0 0 Q (F0 m 0 ls []) by rw [hH, hlo] at hh; exact hh
  unfold f_X2_later at hf
  refine lv_aload_n hx hb dX2_later_0 rfl (lv_at hl 0 rfl) ?_
  refine lv_iload_n hx hb dX2_later_1 rfl (lv_at hl 1 rfl) ?_
  obtain ⟨r2, h2, hf⟩ := bR_some hf
  refine g_calliV X hl.1 hZ hA hW (c_X2_isTube l D cy ad h2) cw_X2_isTube ql_X2_145 iO_X2 rfl (by decide) rfl (Nat.le_of_ble_eq_true rfl) dX2_later_2 (fun H locs hW => ?_)
  refine lv_if_eq (tgt := 18) hx hb dX2_later_5 (by decide) (fun hc => ?_) (fun hc => ?_)
  · replace hf := ifp hc hf
    refine lv_iconst (v := (-1)) hx hb dX2_later_18 (by decide) ?_
    exact g_iret X hr hlk hQ hW dX2_later_19 hf
  · replace hf := ifn hc hf
    refine lv_iload_n hx hb dX2_later_8 rfl (lv_at hl 2 rfl) ?_
    refine lv_iconst (v := 0) hx hb dX2_later_9 (by decide) ?_
    refine lv_bipush (v := 60) hx hb dX2_later_10 (by decide) ?_
    obtain ⟨r12, h12, hf⟩ := bR_some hf
    refine g_calliS X hl.1 hZ hA hW (c_X2_in l D cy ad h12) cs_X2_in ql_X2_82 rfl (by decide) rfl (Nat.le_of_ble_eq_true rfl) dX2_later_12 (fun H locs hW => ?_)
    refine lv_if_ne (tgt := 20) hx hb dX2_later_15 (by decide) (fun hc => ?_) (fun hc => ?_)
    · replace hf := ifn hc hf
      refine lv_aload_n hx hb dX2_later_20 rfl (lv_at hl 0 rfl) ?_
      obtain ⟨M21, h21, hf⟩ := bR_some hf
      refine g_callvV X hl.1 hZ hA hW (c_X2_asItIs l D cy ad h21) cw_X2_asItIs ql_X2_173 iO_X2 rfl (by decide) rfl (Nat.le_of_ble_eq_true rfl) dX2_later_21 (fun H locs hW => ?_)
      refine lv_aload_n hx hb dX2_later_24 rfl (lv_at hl 0 rfl) ?_
      refine lv_iload_n hx hb dX2_later_25 rfl (lv_at hl 2 rfl) ?_
      obtain ⟨M26, h26, hf⟩ := bR_some hf
      refine g_callvV X hl.1 hZ hA hW (c_X2_goes l D cy ad h26) cw_X2_goes ql_X2_176 iO_X2 rfl (by decide) rfl (Nat.le_of_ble_eq_true rfl) dX2_later_26 (fun H locs hW => ?_)
      refine lv_aload_n hx hb dX2_later_29 rfl (lv_at hl 0 rfl) ?_
      refine lv_aload_n hx hb dX2_later_30 rfl (lv_at hl 0 rfl) ?_
      refine lv_aload_n hx hb dX2_later_31 rfl (lv_at hl 0 rfl) ?_
      refine gf_X2_34 X hW dX2_later_32 ?_
      obtain ⟨r35, h35, hf⟩ := bR_some hf
      refine g_calliV X hl.1 hZ hA hW (c_X2_pulses l D cy ad iM_now h35) cw_X2_pulses ql_X2_162 iO_X2 rfl (by decide) rfl (Nat.le_of_ble_eq_true rfl) dX2_later_35 (fun H locs hW => ?_)
      refine lv_aload_n hx hb dX2_later_38 rfl (lv_at hl 0 rfl) ?_
      refine gf_X2_34 X hW dX2_later_39 ?_
      refine lv_iconst (v := 1) hx hb dX2_later_42 (by decide) ?_
      refine lv_iload_n hx hb dX2_later_43 rfl (lv_at hl 1 rfl) ?_
      refine lv_iadd hx hb dX2_later_44 ?_
      obtain ⟨hi45, hf⟩ := grd_some hf
      refine g_iald X hW iM_now hi45 dX2_later_45 ?_
      obtain ⟨r46, M46, h46, hf⟩ := bI_some hf
      refine g_calliV X hl.1 hZ hA hW (c_X2_tells l D cy ad h46) cw_X2_tells ql_X2_102 iO_X2 rfl (by decide) rfl (Nat.le_of_ble_eq_true rfl) dX2_later_46 (fun H locs hW => ?_)
      exact g_iret X hr hlk hQ hW dX2_later_49 hf
    · replace hf := ifp hc hf
      refine lv_iconst (v := (-1)) hx hb dX2_later_18 (by decide) ?_
      exact g_iret X hr hlk hQ hW dX2_later_19 hf

def f_X2_hears_L43 (v1_L43 : Int32) (v2_L43 : Int32) (v3_L43 : Int32) : Nat → Int32 → Int32 → Mem → Option (Int32 × Mem)
  | 0, _, _, _ => none
  | n + 1, v4_L43, v5_L43, M_L43 => (if v2_L43 ≤ v5_L43 then (some (v4_L43, M_L43)) else (bR (f_X2_isReady 9 15 v1_L43 M_L43) (fun r55 => (bR (f_X2_outOf 9 15 v1_L43 M_L43) (fun r66 => (jn (fun (k93 : Int32 → Option (Int32 × Mem)) => (if r55 = 0 then (k93 (-1)) else (k93 r66))) (fun (t0_93j : Int32) => (grd (inb ((40 * v3_L43) + v5_L43) 240) (lt (sI M_L43 2 (ix ((40 * v3_L43) + v5_L43)) t0_93j) (fun M93 => (bR (f_X2_goes 1 M93) (fun M103 => (f_X2_hears_L43 v1_L43 v2_L43 v3_L43 n (v4_L43 + r66) (v5_L43 + 1) M103)))))))))))))
def f_X2_hears (v1 : Int32) (v2 : Int32) (v3 : Int32) (M : Mem) : Option (Int32 × Mem) :=
  (bR (f_X2_isTube v1 M) (fun r2 => (if r2 = 0 then (some ((-1), M)) else (bR (f_X2_in v2 1 20 M) (fun r12 => (if r12 = 0 then (some ((-1), M)) else (bR (f_X2_isRow v3 M) (fun r19 => (if r19 = 0 then (some ((-1), M)) else (bR (f_X2_asItIs M) (fun M31 => (bR (f_X2_makesRow v3 v2 M31) (fun M37 => (f_X2_hears_L43 v1 v2 v3 FU 0 0 M37))))))))))))))
set_option maxHeartbeats 4000000 in
set_option maxRecDepth 100000 in
theorem c_X2_hears (l : Launch) (D : va_G) (cy : Nat → ClassId) (ad : Nat → Nat)   {v1 : Int32} {v2 : Int32} {v3 : Int32} {M M' : Mem} {r : Int32} (hf : f_X2_hears v1 v2 v3 M = some (r, M')) : MetX l 20 (CM ad cy) D cy ad yX2_hears cX2_hears 8 (some .int) 4 [.ref (ad 0), .int v1, .int v2, .int v3] M (fun A => QI r M' 20 (CM ad cy) D cy ad A) := by
  refine MetX.of (own := RX2) (by decide) rfl (Nat.le_of_ble_eq_true rfl) ?_
  intro p e s m below meth c A Q ls X hr hlk hZ hA hQ hW hl
  have hl : lv_has ls 8 [(0, .ref (ad 0)), (1, .int v1), (2, .int v2), (3, .int v3)] := hl
  have hx := X.1
  have hb := X.2.1
  have hL43 : ∀ (v1_L43 : Int32) (v2_L43 : Int32) (v3_L43 : Int32)  (n : Nat) (v4_L43 : Int32) (v5_L43 : Int32) (M_L43 : Mem) (H : Heap) (locs : List Loc) (ls : Array Slot), f_X2_hears_L43 v1_L43 v2_L43 v3_L43 n v4_L43 v5_L43 M_L43 = some (r, M') → Wd D 20 ad (CM ad cy) A s.heap M_L43 H locs → lv_has ls 8 [(0, .ref (ad 0)), (1, .int v1_L43), (2, .int v2_L43), (3, .int v3_L43), (4, .int v4_L43), (5, .int v5_L43)] → W p l e (rmD 4) s m ([.ref (ad 0), .int v1, .int v2, .int v3] : List Value).toArray below meth c H locs 0 0 Q (F0 m 43 ls []) := by
    intro v1_L43 v2_L43 v3_L43 n
    induction n with
    | zero =>
      intro v4_L43 v5_L43 M_L43 H locs ls hf
      cases (show (none : Option (Int32 × Mem)) = some (r, M') from hf)
    | succ n ih =>
      intro v4_L43 v5_L43 M_L43 H locs ls hf hW hl
      rw [f_X2_hears_L43] at hf
      refine lv_iload hx hb dX2_hears_43 (lv_at hl 5 rfl) ?_
      refine lv_iload_n hx hb dX2_hears_45 rfl (lv_at hl 2 rfl) ?_
      refine lv_icmp_ge (tgt := 112) hx hb dX2_hears_46 (by decide) (fun hc => ?_) (fun hc => ?_)
      · replace hf := ifp hc hf
        refine lv_iload hx hb dX2_hears_112 (lv_at hl 4 rfl) ?_
        exact g_iret X hr hlk hQ hW dX2_hears_114 hf
      · replace hf := ifn hc hf
        refine lv_aload_n hx hb dX2_hears_49 rfl (lv_at hl 0 rfl) ?_
        refine lv_aload_n hx hb dX2_hears_50 rfl (lv_at hl 0 rfl) ?_
        refine gf_X2_34 X hW dX2_hears_51 ?_
        refine lv_iload_n hx hb dX2_hears_54 rfl (lv_at hl 1 rfl) ?_
        obtain ⟨r55, h55, hf⟩ := bR_some hf
        refine g_calliV X hl.1 hZ hA hW (c_X2_isReady l D cy ad iM_now h55) cw_X2_isReady ql_X2_128 iO_X2 rfl (by decide) rfl (Nat.le_of_ble_eq_true rfl) dX2_hears_55 (fun H locs hW => ?_)
        refine lv_istore (lv' := [(6, .int r55), (0, .ref (ad 0)), (1, .int v1_L43), (2, .int v2_L43), (3, .int v3_L43), (4, .int v4_L43), (5, .int v5_L43)]) hx hb dX2_hears_58 hl (by decide) rfl (fun ls hl => ?_)
        refine lv_aload_n hx hb dX2_hears_60 rfl (lv_at hl 1 rfl) ?_
        refine lv_aload_n hx hb dX2_hears_61 rfl (lv_at hl 1 rfl) ?_
        refine gf_X2_34 X hW dX2_hears_62 ?_
        refine lv_iload_n hx hb dX2_hears_65 rfl (lv_at hl 2 rfl) ?_
        obtain ⟨r66, h66, hf⟩ := bR_some hf
        refine g_calliV X hl.1 hZ hA hW (c_X2_outOf l D cy ad iM_now h66) cw_X2_outOf ql_X2_135 iO_X2 rfl (by decide) rfl (Nat.le_of_ble_eq_true rfl) dX2_hears_66 (fun H locs hW => ?_)
        refine lv_istore (lv' := [(7, .int r66), (6, .int r55), (0, .ref (ad 0)), (1, .int v1_L43), (2, .int v2_L43), (3, .int v3_L43), (4, .int v4_L43), (5, .int v5_L43)]) hx hb dX2_hears_69 hl (by decide) rfl (fun ls hl => ?_)
        refine lv_aload_n hx hb dX2_hears_71 rfl (lv_at hl 2 rfl) ?_
        refine gf_X2_13 X hW dX2_hears_72 ?_
        refine lv_bipush (v := 40) hx hb dX2_hears_75 (by decide) ?_
        refine lv_iload_n hx hb dX2_hears_77 rfl (lv_at hl 5 rfl) ?_
        refine lv_imul hx hb dX2_hears_78 ?_
        refine lv_iload hx hb dX2_hears_79 (lv_at hl 7 rfl) ?_
        refine lv_iadd hx hb dX2_hears_81 ?_
        refine lv_iload hx hb dX2_hears_82 (lv_at hl 1 rfl) ?_
        obtain ⟨k93, hk93, hf⟩ := jn_some1 hf
        have hJ93 : ∀ (t0_93j : Int32) (H : Heap) (locs : List Loc) (ls : Array Slot), k93 t0_93j = some (r, M') → Wd D 20 ad (CM ad cy) A s.heap M_L43 H locs → lv_has ls 8 [(0, .ref (ad 0)), (1, .int v1_L43), (2, .int v2_L43), (3, .int v3_L43), (4, .int v4_L43), (5, .int v5_L43), (7, .int r66)] → W p l e (rmD 4) s m ([.ref (ad 0), .int v1, .int v2, .int v3] : List Value).toArray below meth c H locs 0 0 Q (F0 m 93 ls [.int t0_93j, .int ((40 * v3_L43) + v5_L43), .ref (ad 2)]) := by
          intro t0_93j H locs ls hf hW hl
          rw [hk93] at hf
          obtain ⟨hi93, hf⟩ := grd_some hf
          refine g_iast X hW iM_rows hi93 dX2_hears_93 (fun H locs hW => ?_)
          obtain ⟨M93, e93, hf⟩ := lt_some hf
          have hW : Wd D 20 ad (CM ad cy) A s.heap M93 H locs := by rw [e93]; exact hW
          refine lv_iload hx hb dX2_hears_94 (lv_at hl 4 rfl) ?_
          refine lv_iload hx hb dX2_hears_96 (lv_at hl 6 rfl) ?_
          refine lv_iadd hx hb dX2_hears_98 ?_
          refine lv_istore (lv' := [(4, .int (v4_L43 + r66)), (0, .ref (ad 0)), (1, .int v1_L43), (2, .int v2_L43), (3, .int v3_L43), (5, .int v5_L43), (7, .int r66)]) hx hb dX2_hears_99 hl (by decide) rfl (fun ls hl => ?_)
          refine lv_aload_n hx hb dX2_hears_101 rfl (lv_at hl 1 rfl) ?_
          refine lv_iconst (v := 1) hx hb dX2_hears_102 (by decide) ?_
          obtain ⟨M103, h103, hf⟩ := bR_some hf
          refine g_callvV X hl.1 hZ hA hW (c_X2_goes l D cy ad h103) cw_X2_goes ql_X2_176 iO_X2 rfl (by decide) rfl (Nat.le_of_ble_eq_true rfl) dX2_hears_103 (fun H locs hW => ?_)
          refine lv_iinc (v := (v5_L43 + 1)) (lv' := [(5, .int (v5_L43 + 1)), (4, .int (v4_L43 + r66)), (0, .ref (ad 0)), (1, .int v1_L43), (2, .int v2_L43), (3, .int v3_L43), (7, .int r66)]) hx hb dX2_hears_106 hl (k := 5) rfl rfl (by decide) rfl (fun ls hl => ?_)
          refine lv_goto (tgt := 43) hx hb dX2_hears_109 (by decide) ?_
          exact ih (v4_L43 + r66) (v5_L43 + 1) M103 H locs ls hf hW (lv_sub hl [2, 3, 4, 5, 1, 0] rfl)
        refine lv_if_eq (tgt := 92) hx hb dX2_hears_84 (by decide) (fun hc => ?_) (fun hc => ?_)
        · replace hf := ifp hc hf
          refine lv_iconst (v := (-1)) hx hb dX2_hears_92 (by decide) ?_
          exact hJ93 (-1) H locs ls hf hW (lv_sub hl [2, 3, 4, 5, 6, 7, 0] rfl)
        · replace hf := ifn hc hf
          refine lv_iload hx hb dX2_hears_87 (lv_at hl 0 rfl) ?_
          refine lv_goto (tgt := 93) hx hb dX2_hears_89 (by decide) ?_
          exact hJ93 r66 H locs ls hf hW (lv_sub hl [2, 3, 4, 5, 6, 7, 0] rfl)
  obtain ⟨H, hH⟩ : ∃ H, H = s.heap := ⟨_, rfl⟩
  obtain ⟨locs, hlo⟩ : ∃ q : List Loc, q = [] := ⟨_, rfl⟩
  have hW : Wd D 20 ad (CM ad cy) A s.heap M H locs := by rw [hH, hlo]; exact hW
  suffices hh : W p l e (rmD 4) s m ([.ref (ad 0), .int v1, .int v2, .int v3] : List Value).toArray below meth c H locs 0 0 Q (F0 m 0 ls []) by rw [hH, hlo] at hh; exact hh
  unfold f_X2_hears at hf
  refine lv_aload_n hx hb dX2_hears_0 rfl (lv_at hl 0 rfl) ?_
  refine lv_iload_n hx hb dX2_hears_1 rfl (lv_at hl 1 rfl) ?_
  obtain ⟨r2, h2, hf⟩ := bR_some hf
  refine g_calliV X hl.1 hZ hA hW (c_X2_isTube l D cy ad h2) cw_X2_isTube ql_X2_145 iO_X2 rfl (by decide) rfl (Nat.le_of_ble_eq_true rfl) dX2_hears_2 (fun H locs hW => ?_)
  refine lv_if_eq (tgt := 25) hx hb dX2_hears_5 (by decide) (fun hc => ?_) (fun hc => ?_)
  · replace hf := ifp hc hf
    refine lv_iconst (v := (-1)) hx hb dX2_hears_25 (by decide) ?_
    exact g_iret X hr hlk hQ hW dX2_hears_26 hf
  · replace hf := ifn hc hf
    refine lv_iload_n hx hb dX2_hears_8 rfl (lv_at hl 2 rfl) ?_
    refine lv_iconst (v := 1) hx hb dX2_hears_9 (by decide) ?_
    refine lv_bipush (v := 20) hx hb dX2_hears_10 (by decide) ?_
    obtain ⟨r12, h12, hf⟩ := bR_some hf
    refine g_calliS X hl.1 hZ hA hW (c_X2_in l D cy ad h12) cs_X2_in ql_X2_82 rfl (by decide) rfl (Nat.le_of_ble_eq_true rfl) dX2_hears_12 (fun H locs hW => ?_)
    refine lv_if_eq (tgt := 25) hx hb dX2_hears_15 (by decide) (fun hc => ?_) (fun hc => ?_)
    · replace hf := ifp hc hf
      refine lv_iconst (v := (-1)) hx hb dX2_hears_25 (by decide) ?_
      exact g_iret X hr hlk hQ hW dX2_hears_26 hf
    · replace hf := ifn hc hf
      refine lv_iload_n hx hb dX2_hears_18 rfl (lv_at hl 3 rfl) ?_
      obtain ⟨r19, h19, hf⟩ := bR_some hf
      refine g_calliS X hl.1 hZ hA hW (c_X2_isRow l D cy ad h19) cs_X2_isRow ql_X2_86 rfl (by decide) rfl (Nat.le_of_ble_eq_true rfl) dX2_hears_19 (fun H locs hW => ?_)
      refine lv_if_ne (tgt := 27) hx hb dX2_hears_22 (by decide) (fun hc => ?_) (fun hc => ?_)
      · replace hf := ifn hc hf
        refine lv_iconst (v := 0) hx hb dX2_hears_27 (by decide) ?_
        refine lv_istore (lv' := [(4, .int 0), (0, .ref (ad 0)), (1, .int v1), (2, .int v2), (3, .int v3)]) hx hb dX2_hears_28 hl (by decide) rfl (fun ls hl => ?_)
        refine lv_aload_n hx hb dX2_hears_30 rfl (lv_at hl 1 rfl) ?_
        obtain ⟨M31, h31, hf⟩ := bR_some hf
        refine g_callvV X hl.1 hZ hA hW (c_X2_asItIs l D cy ad h31) cw_X2_asItIs ql_X2_173 iO_X2 rfl (by decide) rfl (Nat.le_of_ble_eq_true rfl) dX2_hears_31 (fun H locs hW => ?_)
        refine lv_aload_n hx hb dX2_hears_34 rfl (lv_at hl 1 rfl) ?_
        refine lv_iload_n hx hb dX2_hears_35 rfl (lv_at hl 4 rfl) ?_
        refine lv_iload_n hx hb dX2_hears_36 rfl (lv_at hl 3 rfl) ?_
        obtain ⟨M37, h37, hf⟩ := bR_some hf
        refine g_callvV X hl.1 hZ hA hW (c_X2_makesRow l D cy ad h37) cw_X2_makesRow ql_X2_94 iO_X2 rfl (by decide) rfl (Nat.le_of_ble_eq_true rfl) dX2_hears_37 (fun H locs hW => ?_)
        refine lv_iconst (v := 0) hx hb dX2_hears_40 (by decide) ?_
        refine lv_istore (lv' := [(5, .int 0), (4, .int 0), (0, .ref (ad 0)), (1, .int v1), (2, .int v2), (3, .int v3)]) hx hb dX2_hears_41 hl (by decide) rfl (fun ls hl => ?_)
        exact hL43 v1 v2 v3 FU 0 0 M37 H locs ls hf hW (lv_sub hl [2, 3, 4, 5, 1, 0] rfl)
      · replace hf := ifp hc hf
        refine lv_iconst (v := (-1)) hx hb dX2_hears_25 (by decide) ?_
        exact g_iret X hr hlk hQ hW dX2_hears_26 hf

def f_X2_finds_L46 (v1_L46 : Int32) (v2_L46 : Int32) (v3_L46 : Int32) (k125 : Int32 → Int32 → Mem → Option (Int32 × Mem)) : Nat → Int32 → Int32 → Int32 → Int32 → Mem → Option (Int32 × Mem)
  | 0, _, _, _, _, _ => none
  | n + 1, v4_L46, v5_L46, v6_L46, v7_L46, M_L46 => (if 60 < v7_L46 then (some ((-9), M_L46)) else (bR (f_X2_isReady 9 15 v1_L46 M_L46) (fun r59 => (bR (f_X2_outOf 9 15 v1_L46 M_L46) (fun r70 => (bR (f_X2_goes 1 M_L46) (fun M77 => (jn (fun (k108 : Int32 → Int32 → Int32 → Option (Int32 × Mem)) => (if r59 = 0 then (k108 v4_L46 v5_L46 v6_L46) else (k108 ((shr v4_L46 1) ||| (shl r70 (v3_L46 - 1))) (v5_L46 + 1) (v6_L46 + r70)))) (fun (v4_108j : Int32) (v5_108j : Int32) (v6_108j : Int32) => (jn (fun (k134 : Option (Int32 × Mem)) => (if r59 = 0 then k134 else (if v5_108j < v3_L46 then k134 else (if v4_108j = v2_L46 then (k125 v6_108j v7_L46 M77) else k134)))) ((f_X2_finds_L46 v1_L46 v2_L46 v3_L46 k125 n v4_108j v5_108j v6_108j (v7_L46 + 1) M77))))))))))))
def f_X2_finds (v1 : Int32) (v2 : Int32) (v3 : Int32) (M : Mem) : Option (Int32 × Mem) :=
  (bR (f_X2_isTube v1 M) (fun r2 => (if r2 = 0 then (some ((-1), M)) else (bR (f_X2_in v3 1 8 M) (fun r12 => (if r12 = 0 then (some ((-1), M)) else (if v2 < 0 then (some ((-1), M)) else (if (shr v2 v3) = 0 then (bR (f_X2_asItIs M) (fun M40 => (jn (fun (k125 : Int32 → Int32 → Mem → Option (Int32 × Mem)) => (f_X2_finds_L46 v1 v2 v3 k125 FU 0 0 0 1 M40)) (fun (v6_125x : Int32) (v7_125x : Int32) (M_125x : Mem) => (bI (f_X2_tells v6_125x v7_125x M_125x) (fun r130 M130 => (some (r130, M130)))))))) else (some ((-1), M))))))))))
set_option maxHeartbeats 4000000 in
set_option maxRecDepth 100000 in
theorem c_X2_finds (l : Launch) (D : va_G) (cy : Nat → ClassId) (ad : Nat → Nat)   {v1 : Int32} {v2 : Int32} {v3 : Int32} {M M' : Mem} {r : Int32} (hf : f_X2_finds v1 v2 v3 M = some (r, M')) : MetX l 20 (CM ad cy) D cy ad yX2_finds cX2_finds 10 (some .int) 4 [.ref (ad 0), .int v1, .int v2, .int v3] M (fun A => QI r M' 20 (CM ad cy) D cy ad A) := by
  refine MetX.of (own := RX2) (by decide) rfl (Nat.le_of_ble_eq_true rfl) ?_
  intro p e s m below meth c A Q ls X hr hlk hZ hA hQ hW hl
  have hl : lv_has ls 10 [(0, .ref (ad 0)), (1, .int v1), (2, .int v2), (3, .int v3)] := hl
  have hx := X.1
  have hb := X.2.1
  have hL46 : ∀ (v1_L46 : Int32) (v2_L46 : Int32) (v3_L46 : Int32) (k125 : Int32 → Int32 → Mem → Option (Int32 × Mem)) (hJ125 : ∀ (v6_125x : Int32) (v7_125x : Int32) (M_125x : Mem) (H : Heap) (locs : List Loc) (ls : Array Slot), k125 v6_125x v7_125x M_125x = some (r, M') → Wd D 20 ad (CM ad cy) A s.heap M_125x H locs → lv_has ls 10 [(0, .ref (ad 0)), (6, .int v6_125x), (7, .int v7_125x)] → W p l e (rmD 4) s m ([.ref (ad 0), .int v1, .int v2, .int v3] : List Value).toArray below meth c H locs 0 0 Q (F0 m 125 ls [])) (n : Nat) (v4_L46 : Int32) (v5_L46 : Int32) (v6_L46 : Int32) (v7_L46 : Int32) (M_L46 : Mem) (H : Heap) (locs : List Loc) (ls : Array Slot), f_X2_finds_L46 v1_L46 v2_L46 v3_L46 k125 n v4_L46 v5_L46 v6_L46 v7_L46 M_L46 = some (r, M') → Wd D 20 ad (CM ad cy) A s.heap M_L46 H locs → lv_has ls 10 [(0, .ref (ad 0)), (1, .int v1_L46), (2, .int v2_L46), (3, .int v3_L46), (4, .int v4_L46), (5, .int v5_L46), (6, .int v6_L46), (7, .int v7_L46)] → W p l e (rmD 4) s m ([.ref (ad 0), .int v1, .int v2, .int v3] : List Value).toArray below meth c H locs 0 0 Q (F0 m 46 ls []) := by
    intro v1_L46 v2_L46 v3_L46 k125 hJ125 n
    induction n with
    | zero =>
      intro v4_L46 v5_L46 v6_L46 v7_L46 M_L46 H locs ls hf
      cases (show (none : Option (Int32 × Mem)) = some (r, M') from hf)
    | succ n ih =>
      intro v4_L46 v5_L46 v6_L46 v7_L46 M_L46 H locs ls hf hW hl
      rw [f_X2_finds_L46] at hf
      refine lv_iload hx hb dX2_finds_46 (lv_at hl 7 rfl) ?_
      refine lv_bipush (v := 60) hx hb dX2_finds_48 (by decide) ?_
      refine lv_icmp_gt (tgt := 140) hx hb dX2_finds_50 (by decide) (fun hc => ?_) (fun hc => ?_)
      · replace hf := ifp hc hf
        refine lv_bipush (v := (-9)) hx hb dX2_finds_140 (by decide) ?_
        exact g_iret X hr hlk hQ hW dX2_finds_142 hf
      · replace hf := ifn hc hf
        refine lv_aload_n hx hb dX2_finds_53 rfl (lv_at hl 0 rfl) ?_
        refine lv_aload_n hx hb dX2_finds_54 rfl (lv_at hl 0 rfl) ?_
        refine gf_X2_34 X hW dX2_finds_55 ?_
        refine lv_iload_n hx hb dX2_finds_58 rfl (lv_at hl 1 rfl) ?_
        obtain ⟨r59, h59, hf⟩ := bR_some hf
        refine g_calliV X hl.1 hZ hA hW (c_X2_isReady l D cy ad iM_now h59) cw_X2_isReady ql_X2_128 iO_X2 rfl (by decide) rfl (Nat.le_of_ble_eq_true rfl) dX2_finds_59 (fun H locs hW => ?_)
        refine lv_istore (lv' := [(8, .int r59), (0, .ref (ad 0)), (1, .int v1_L46), (2, .int v2_L46), (3, .int v3_L46), (4, .int v4_L46), (5, .int v5_L46), (6, .int v6_L46), (7, .int v7_L46)]) hx hb dX2_finds_62 hl (by decide) rfl (fun ls hl => ?_)
        refine lv_aload_n hx hb dX2_finds_64 rfl (lv_at hl 1 rfl) ?_
        refine lv_aload_n hx hb dX2_finds_65 rfl (lv_at hl 1 rfl) ?_
        refine gf_X2_34 X hW dX2_finds_66 ?_
        refine lv_iload_n hx hb dX2_finds_69 rfl (lv_at hl 2 rfl) ?_
        obtain ⟨r70, h70, hf⟩ := bR_some hf
        refine g_calliV X hl.1 hZ hA hW (c_X2_outOf l D cy ad iM_now h70) cw_X2_outOf ql_X2_135 iO_X2 rfl (by decide) rfl (Nat.le_of_ble_eq_true rfl) dX2_finds_70 (fun H locs hW => ?_)
        refine lv_istore (lv' := [(9, .int r70), (8, .int r59), (0, .ref (ad 0)), (1, .int v1_L46), (2, .int v2_L46), (3, .int v3_L46), (4, .int v4_L46), (5, .int v5_L46), (6, .int v6_L46), (7, .int v7_L46)]) hx hb dX2_finds_73 hl (by decide) rfl (fun ls hl => ?_)
        refine lv_aload_n hx hb dX2_finds_75 rfl (lv_at hl 2 rfl) ?_
        refine lv_iconst (v := 1) hx hb dX2_finds_76 (by decide) ?_
        obtain ⟨M77, h77, hf⟩ := bR_some hf
        refine g_callvV X hl.1 hZ hA hW (c_X2_goes l D cy ad h77) cw_X2_goes ql_X2_176 iO_X2 rfl (by decide) rfl (Nat.le_of_ble_eq_true rfl) dX2_finds_77 (fun H locs hW => ?_)
        refine lv_iload hx hb dX2_finds_80 (lv_at hl 1 rfl) ?_
        obtain ⟨k108, hk108, hf⟩ := jn_some3 hf
        have hJ108 : ∀ (v4_108j : Int32) (v5_108j : Int32) (v6_108j : Int32) (H : Heap) (locs : List Loc) (ls : Array Slot), k108 v4_108j v5_108j v6_108j = some (r, M') → Wd D 20 ad (CM ad cy) A s.heap M77 H locs → lv_has ls 10 [(0, .ref (ad 0)), (1, .int v1_L46), (2, .int v2_L46), (3, .int v3_L46), (4, .int v4_108j), (5, .int v5_108j), (6, .int v6_108j), (7, .int v7_L46), (8, .int r59)] → W p l e (rmD 4) s m ([.ref (ad 0), .int v1, .int v2, .int v3] : List Value).toArray below meth c H locs 0 0 Q (F0 m 108 ls []) := by
          intro v4_108j v5_108j v6_108j H locs ls hf hW hl
          rw [hk108] at hf
          refine lv_iload hx hb dX2_finds_108 (lv_at hl 8 rfl) ?_
          obtain ⟨k134, hk134, hf⟩ := jn_some0 hf
          have hJ134 : ∀  (H : Heap) (locs : List Loc) (ls : Array Slot), k134 = some (r, M') → Wd D 20 ad (CM ad cy) A s.heap M77 H locs → lv_has ls 10 [(0, .ref (ad 0)), (1, .int v1_L46), (2, .int v2_L46), (3, .int v3_L46), (4, .int v4_108j), (5, .int v5_108j), (6, .int v6_108j), (7, .int v7_L46)] → W p l e (rmD 4) s m ([.ref (ad 0), .int v1, .int v2, .int v3] : List Value).toArray below meth c H locs 0 0 Q (F0 m 134 ls []) := by
            intro  H locs ls hf hW hl
            rw [hk134] at hf
            refine lv_iinc (v := (v7_L46 + 1)) (lv' := [(7, .int (v7_L46 + 1)), (0, .ref (ad 0)), (1, .int v1_L46), (2, .int v2_L46), (3, .int v3_L46), (4, .int v4_108j), (5, .int v5_108j), (6, .int v6_108j)]) hx hb dX2_finds_134 hl (k := 7) rfl rfl (by decide) rfl (fun ls hl => ?_)
            refine lv_goto (tgt := 46) hx hb dX2_finds_137 (by decide) ?_
            exact ih v4_108j v5_108j v6_108j (v7_L46 + 1) M77 H locs ls hf hW (lv_sub hl [1, 2, 3, 4, 5, 6, 7, 0] rfl)
          refine lv_if_eq (tgt := 134) hx hb dX2_finds_110 (by decide) (fun hc => ?_) (fun hc => ?_)
          · replace hf := ifp hc hf
            exact hJ134  H locs ls hf hW (lv_sub hl [0, 1, 2, 3, 4, 5, 6, 7] rfl)
          · replace hf := ifn hc hf
            refine lv_iload hx hb dX2_finds_113 (lv_at hl 5 rfl) ?_
            refine lv_iload_n hx hb dX2_finds_115 rfl (lv_at hl 3 rfl) ?_
            refine lv_icmp_lt (tgt := 134) hx hb dX2_finds_116 (by decide) (fun hc => ?_) (fun hc => ?_)
            · replace hf := ifp hc hf
              exact hJ134  H locs ls hf hW (lv_sub hl [0, 1, 2, 3, 4, 5, 6, 7] rfl)
            · replace hf := ifn hc hf
              refine lv_iload hx hb dX2_finds_119 (lv_at hl 4 rfl) ?_
              refine lv_iload_n hx hb dX2_finds_121 rfl (lv_at hl 2 rfl) ?_
              refine lv_icmp_ne (tgt := 134) hx hb dX2_finds_122 (by decide) (fun hc => ?_) (fun hc => ?_)
              · replace hf := ifn hc hf
                exact hJ134  H locs ls hf hW (lv_sub hl [0, 1, 2, 3, 4, 5, 6, 7] rfl)
              · replace hf := ifp hc hf
                exact hJ125 v6_108j v7_L46 M77 H locs ls hf hW (lv_sub hl [0, 6, 7] rfl)
        refine lv_if_eq (tgt := 108) hx hb dX2_finds_82 (by decide) (fun hc => ?_) (fun hc => ?_)
        · replace hf := ifp hc hf
          exact hJ108 v4_L46 v5_L46 v6_L46 H locs ls hf hW (lv_sub hl [2, 3, 4, 5, 6, 7, 8, 9, 1] rfl)
        · replace hf := ifn hc hf
          refine lv_iload hx hb dX2_finds_85 (lv_at hl 6 rfl) ?_
          refine lv_iconst (v := 1) hx hb dX2_finds_87 (by decide) ?_
          refine r_ishr hx hb dX2_finds_88 ?_
          refine lv_iload hx hb dX2_finds_89 (lv_at hl 0 rfl) ?_
          refine lv_iload_n hx hb dX2_finds_91 rfl (lv_at hl 5 rfl) ?_
          refine lv_iconst (v := 1) hx hb dX2_finds_92 (by decide) ?_
          refine lv_isub hx hb dX2_finds_93 ?_
          refine r_ishl hx hb dX2_finds_94 ?_
          refine lv_ior hx hb dX2_finds_95 ?_
          refine lv_istore (lv' := [(4, .int ((shr v4_L46 1) ||| (shl r70 (v3_L46 - 1)))), (9, .int r70), (8, .int r59), (0, .ref (ad 0)), (1, .int v1_L46), (2, .int v2_L46), (3, .int v3_L46), (5, .int v5_L46), (6, .int v6_L46), (7, .int v7_L46)]) hx hb dX2_finds_96 hl (by decide) rfl (fun ls hl => ?_)
          refine lv_iinc (v := (v5_L46 + 1)) (lv' := [(5, .int (v5_L46 + 1)), (4, .int ((shr v4_L46 1) ||| (shl r70 (v3_L46 - 1)))), (9, .int r70), (8, .int r59), (0, .ref (ad 0)), (1, .int v1_L46), (2, .int v2_L46), (3, .int v3_L46), (6, .int v6_L46), (7, .int v7_L46)]) hx hb dX2_finds_98 hl (k := 7) rfl rfl (by decide) rfl (fun ls hl => ?_)
          refine lv_iload hx hb dX2_finds_101 (lv_at hl 8 rfl) ?_
          refine lv_iload hx hb dX2_finds_103 (lv_at hl 2 rfl) ?_
          refine lv_iadd hx hb dX2_finds_105 ?_
          refine lv_istore (lv' := [(6, .int (v6_L46 + r70)), (5, .int (v5_L46 + 1)), (4, .int ((shr v4_L46 1) ||| (shl r70 (v3_L46 - 1)))), (9, .int r70), (8, .int r59), (0, .ref (ad 0)), (1, .int v1_L46), (2, .int v2_L46), (3, .int v3_L46), (7, .int v7_L46)]) hx hb dX2_finds_106 hl (by decide) rfl (fun ls hl => ?_)
          exact hJ108 ((shr v4_L46 1) ||| (shl r70 (v3_L46 - 1))) (v5_L46 + 1) (v6_L46 + r70) H locs ls hf hW (lv_sub hl [5, 6, 7, 8, 2, 1, 0, 9, 4] rfl)
  obtain ⟨H, hH⟩ : ∃ H, H = s.heap := ⟨_, rfl⟩
  obtain ⟨locs, hlo⟩ : ∃ q : List Loc, q = [] := ⟨_, rfl⟩
  have hW : Wd D 20 ad (CM ad cy) A s.heap M H locs := by rw [hH, hlo]; exact hW
  suffices hh : W p l e (rmD 4) s m ([.ref (ad 0), .int v1, .int v2, .int v3] : List Value).toArray below meth c H locs 0 0 Q (F0 m 0 ls []) by rw [hH, hlo] at hh; exact hh
  unfold f_X2_finds at hf
  refine lv_aload_n hx hb dX2_finds_0 rfl (lv_at hl 0 rfl) ?_
  refine lv_iload_n hx hb dX2_finds_1 rfl (lv_at hl 1 rfl) ?_
  obtain ⟨r2, h2, hf⟩ := bR_some hf
  refine g_calliV X hl.1 hZ hA hW (c_X2_isTube l D cy ad h2) cw_X2_isTube ql_X2_145 iO_X2 rfl (by decide) rfl (Nat.le_of_ble_eq_true rfl) dX2_finds_2 (fun H locs hW => ?_)
  refine lv_if_eq (tgt := 28) hx hb dX2_finds_5 (by decide) (fun hc => ?_) (fun hc => ?_)
  · replace hf := ifp hc hf
    refine lv_iconst (v := (-1)) hx hb dX2_finds_28 (by decide) ?_
    exact g_iret X hr hlk hQ hW dX2_finds_29 hf
  · replace hf := ifn hc hf
    refine lv_iload_n hx hb dX2_finds_8 rfl (lv_at hl 3 rfl) ?_
    refine lv_iconst (v := 1) hx hb dX2_finds_9 (by decide) ?_
    refine lv_bipush (v := 8) hx hb dX2_finds_10 (by decide) ?_
    obtain ⟨r12, h12, hf⟩ := bR_some hf
    refine g_calliS X hl.1 hZ hA hW (c_X2_in l D cy ad h12) cs_X2_in ql_X2_82 rfl (by decide) rfl (Nat.le_of_ble_eq_true rfl) dX2_finds_12 (fun H locs hW => ?_)
    refine lv_if_eq (tgt := 28) hx hb dX2_finds_15 (by decide) (fun hc => ?_) (fun hc => ?_)
    · replace hf := ifp hc hf
      refine lv_iconst (v := (-1)) hx hb dX2_finds_28 (by decide) ?_
      exact g_iret X hr hlk hQ hW dX2_finds_29 hf
    · replace hf := ifn hc hf
      refine lv_iload_n hx hb dX2_finds_18 rfl (lv_at hl 2 rfl) ?_
      refine lv_if_lt (tgt := 28) hx hb dX2_finds_19 (by decide) (fun hc => ?_) (fun hc => ?_)
      · replace hf := ifp hc hf
        refine lv_iconst (v := (-1)) hx hb dX2_finds_28 (by decide) ?_
        exact g_iret X hr hlk hQ hW dX2_finds_29 hf
      · replace hf := ifn hc hf
        refine lv_iload_n hx hb dX2_finds_22 rfl (lv_at hl 2 rfl) ?_
        refine lv_iload_n hx hb dX2_finds_23 rfl (lv_at hl 3 rfl) ?_
        refine r_ishr hx hb dX2_finds_24 ?_
        refine lv_if_eq (tgt := 30) hx hb dX2_finds_25 (by decide) (fun hc => ?_) (fun hc => ?_)
        · replace hf := ifp hc hf
          refine lv_iconst (v := 0) hx hb dX2_finds_30 (by decide) ?_
          refine lv_istore (lv' := [(4, .int 0), (0, .ref (ad 0)), (1, .int v1), (2, .int v2), (3, .int v3)]) hx hb dX2_finds_31 hl (by decide) rfl (fun ls hl => ?_)
          refine lv_iconst (v := 0) hx hb dX2_finds_33 (by decide) ?_
          refine lv_istore (lv' := [(5, .int 0), (4, .int 0), (0, .ref (ad 0)), (1, .int v1), (2, .int v2), (3, .int v3)]) hx hb dX2_finds_34 hl (by decide) rfl (fun ls hl => ?_)
          refine lv_iconst (v := 0) hx hb dX2_finds_36 (by decide) ?_
          refine lv_istore (lv' := [(6, .int 0), (5, .int 0), (4, .int 0), (0, .ref (ad 0)), (1, .int v1), (2, .int v2), (3, .int v3)]) hx hb dX2_finds_37 hl (by decide) rfl (fun ls hl => ?_)
          refine lv_aload_n hx hb dX2_finds_39 rfl (lv_at hl 3 rfl) ?_
          obtain ⟨M40, h40, hf⟩ := bR_some hf
          refine g_callvV X hl.1 hZ hA hW (c_X2_asItIs l D cy ad h40) cw_X2_asItIs ql_X2_173 iO_X2 rfl (by decide) rfl (Nat.le_of_ble_eq_true rfl) dX2_finds_40 (fun H locs hW => ?_)
          refine lv_iconst (v := 1) hx hb dX2_finds_43 (by decide) ?_
          refine lv_istore (lv' := [(7, .int 1), (6, .int 0), (5, .int 0), (4, .int 0), (0, .ref (ad 0)), (1, .int v1), (2, .int v2), (3, .int v3)]) hx hb dX2_finds_44 hl (by decide) rfl (fun ls hl => ?_)
          obtain ⟨k125, hk125, hf⟩ := jn_some3 hf
          have hJ125 : ∀ (v6_125x : Int32) (v7_125x : Int32) (M_125x : Mem) (H : Heap) (locs : List Loc) (ls : Array Slot), k125 v6_125x v7_125x M_125x = some (r, M') → Wd D 20 ad (CM ad cy) A s.heap M_125x H locs → lv_has ls 10 [(0, .ref (ad 0)), (6, .int v6_125x), (7, .int v7_125x)] → W p l e (rmD 4) s m ([.ref (ad 0), .int v1, .int v2, .int v3] : List Value).toArray below meth c H locs 0 0 Q (F0 m 125 ls []) := by
            intro v6_125x v7_125x M_125x H locs ls hf hW hl
            rw [hk125] at hf
            refine lv_aload_n hx hb dX2_finds_125 rfl (lv_at hl 0 rfl) ?_
            refine lv_iload hx hb dX2_finds_126 (lv_at hl 1 rfl) ?_
            refine lv_iload hx hb dX2_finds_128 (lv_at hl 2 rfl) ?_
            obtain ⟨r130, M130, h130, hf⟩ := bI_some hf
            refine g_calliV X hl.1 hZ hA hW (c_X2_tells l D cy ad h130) cw_X2_tells ql_X2_102 iO_X2 rfl (by decide) rfl (Nat.le_of_ble_eq_true rfl) dX2_finds_130 (fun H locs hW => ?_)
            exact g_iret X hr hlk hQ hW dX2_finds_133 hf
          exact hL46 v1 v2 v3 k125 hJ125 FU 0 0 0 1 M40 H locs ls hf hW (lv_sub hl [4, 5, 6, 7, 3, 2, 1, 0] rfl)
        · replace hf := ifn hc hf
          refine lv_iconst (v := (-1)) hx hb dX2_finds_28 (by decide) ?_
          exact g_iret X hr hlk hQ hW dX2_finds_29 hf

def f_X2_round_L66 (v1_L66 : Int32) (v2_L66 : Int32) (M_L66 : Mem) (k112 : Int32 → Option (Int32 × Mem)) : Nat → Int32 → Int32 → Option (Int32 × Mem)
  | 0, _, _ => none
  | n + 1, v3_L66, v4_L66 => (if (M_L66.1 0 4) ≤ v4_L66 then (k112 v3_L66) else (jn (fun (k104 : Option (Int32 × Mem)) => (jn (fun (k105 : Int32 → Option (Int32 × Mem)) => (if v3_L66 = 0 then k104 else (grd (inb (1 + v4_L66) 15) (grd (inb (1 + v4_L66) 15) (if (M_L66.1 9 (ix (1 + v4_L66))) = (M_L66.1 8 (ix (1 + v4_L66))) then (k105 1) else k104))))) (fun (t0_105j : Int32) => (f_X2_round_L66 v1_L66 v2_L66 M_L66 k112 n t0_105j (v4_L66 + 1))))) ((f_X2_round_L66 v1_L66 v2_L66 M_L66 k112 n 0 (v4_L66 + 1)))))
def f_X2_round_L25 (k116 : Int32 → Int32 → Mem → Option (Int32 × Mem)) : Nat → Int32 → Int32 → Mem → Option (Int32 × Mem)
  | 0, _, _, _ => none
  | n + 1, v1_L25, v2_L25, M_L25 => (if 120 < v2_L25 then (some ((-9), M_L25)) else (bR (f_X2_goes 1 M_L25) (fun M33 => (bR (f_X2_pulses 9 15 M33) (fun r41 => (jn (fun (k60 : Int32 → Option (Int32 × Mem)) => (if v1_L25 ≤ r41 then (k60 v1_L25) else (bR (f_X2_pulses 9 15 M33) (fun r53 => (k60 r53))))) (fun (t0_60j : Int32) => (jn (fun (k112 : Int32 → Option (Int32 × Mem)) => (f_X2_round_L66 t0_60j v2_L25 M33 k112 FU 1 0)) (fun (v3_112x : Int32) => (if v3_112x = 0 then (f_X2_round_L25 k116 n t0_60j (v2_L25 + 1) M33) else (k116 t0_60j v2_L25 M33)))))))))))
def f_X2_round (M : Mem) : Option (Int32 × Mem) :=
  (if (M.1 0 4) = 0 then (some ((-4), M)) else (bR (f_X2_asItIs M) (fun M11 => (bR (f_X2_pulses 9 15 M11) (fun r19 => (jn (fun (k116 : Int32 → Int32 → Mem → Option (Int32 × Mem)) => (f_X2_round_L25 k116 FU r19 1 M11)) (fun (v1_116x : Int32) (v2_116x : Int32) (M_116x : Mem) => (bI (f_X2_tells v1_116x v2_116x M_116x) (fun r119 M119 => (some (r119, M119)))))))))))
set_option maxHeartbeats 4000000 in
set_option maxRecDepth 100000 in
theorem c_X2_round (l : Launch) (D : va_G) (cy : Nat → ClassId) (ad : Nat → Nat)    {M M' : Mem} {r : Int32} (hf : f_X2_round M = some (r, M')) : MetX l 20 (CM ad cy) D cy ad yX2_round cX2_round 5 (some .int) 4 [.ref (ad 0)] M (fun A => QI r M' 20 (CM ad cy) D cy ad A) := by
  refine MetX.of (own := RX2) (by decide) rfl (Nat.le_of_ble_eq_true rfl) ?_
  intro p e s m below meth c A Q ls X hr hlk hZ hA hQ hW hl
  have hl : lv_has ls 5 [(0, .ref (ad 0))] := hl
  have hx := X.1
  have hb := X.2.1
  have hL66 : ∀ (v1_L66 : Int32) (v2_L66 : Int32) (M_L66 : Mem) (k112 : Int32 → Option (Int32 × Mem)) (hJ112 : ∀ (v3_112x : Int32) (H : Heap) (locs : List Loc) (ls : Array Slot), k112 v3_112x = some (r, M') → Wd D 20 ad (CM ad cy) A s.heap M_L66 H locs → lv_has ls 5 [(0, .ref (ad 0)), (1, .int v1_L66), (2, .int v2_L66), (3, .int v3_112x)] → W p l e (rmD 4) s m ([.ref (ad 0)] : List Value).toArray below meth c H locs 0 0 Q (F0 m 112 ls [])) (n : Nat) (v3_L66 : Int32) (v4_L66 : Int32) (H : Heap) (locs : List Loc) (ls : Array Slot), f_X2_round_L66 v1_L66 v2_L66 M_L66 k112 n v3_L66 v4_L66 = some (r, M') → Wd D 20 ad (CM ad cy) A s.heap M_L66 H locs → lv_has ls 5 [(0, .ref (ad 0)), (1, .int v1_L66), (2, .int v2_L66), (3, .int v3_L66), (4, .int v4_L66)] → W p l e (rmD 4) s m ([.ref (ad 0)] : List Value).toArray below meth c H locs 0 0 Q (F0 m 66 ls []) := by
    intro v1_L66 v2_L66 M_L66 k112 hJ112 n
    induction n with
    | zero =>
      intro v3_L66 v4_L66 H locs ls hf
      cases (show (none : Option (Int32 × Mem)) = some (r, M') from hf)
    | succ n ih =>
      intro v3_L66 v4_L66 H locs ls hf hW hl
      rw [f_X2_round_L66] at hf
      refine lv_iload hx hb dX2_round_66 (lv_at hl 4 rfl) ?_
      refine lv_aload_n hx hb dX2_round_68 rfl (lv_at hl 0 rfl) ?_
      refine gf_X2_79 X hW dX2_round_69 ?_
      refine lv_icmp_ge (tgt := 112) hx hb dX2_round_72 (by decide) (fun hc => ?_) (fun hc => ?_)
      · replace hf := ifp hc hf
        exact hJ112 v3_L66 H locs ls hf hW (lv_sub hl [0, 1, 2, 3] rfl)
      · replace hf := ifn hc hf
        refine lv_iload_n hx hb dX2_round_75 rfl (lv_at hl 3 rfl) ?_
        obtain ⟨k104, hk104, hf⟩ := jn_some0 hf
        have hJ104 : ∀  (H : Heap) (locs : List Loc) (ls : Array Slot), k104 = some (r, M') → Wd D 20 ad (CM ad cy) A s.heap M_L66 H locs → lv_has ls 5 [(0, .ref (ad 0)), (1, .int v1_L66), (2, .int v2_L66), (4, .int v4_L66)] → W p l e (rmD 4) s m ([.ref (ad 0)] : List Value).toArray below meth c H locs 0 0 Q (F0 m 104 ls []) := by
          intro  H locs ls hf hW hl
          rw [hk104] at hf
          refine lv_iconst (v := 0) hx hb dX2_round_104 (by decide) ?_
          refine lv_istore_n (lv' := [(3, .int 0), (0, .ref (ad 0)), (1, .int v1_L66), (2, .int v2_L66), (4, .int v4_L66)]) hx hb dX2_round_105 rfl hl (by decide) rfl (fun ls hl => ?_)
          refine lv_iinc (v := (v4_L66 + 1)) (lv' := [(4, .int (v4_L66 + 1)), (3, .int 0), (0, .ref (ad 0)), (1, .int v1_L66), (2, .int v2_L66)]) hx hb dX2_round_106 hl (k := 4) rfl rfl (by decide) rfl (fun ls hl => ?_)
          refine lv_goto (tgt := 66) hx hb dX2_round_109 (by decide) ?_
          exact ih 0 (v4_L66 + 1) H locs ls hf hW (lv_sub hl [2, 3, 4, 1, 0] rfl)
        obtain ⟨k105, hk105, hf⟩ := jn_some1 hf
        have hJ105 : ∀ (t0_105j : Int32) (H : Heap) (locs : List Loc) (ls : Array Slot), k105 t0_105j = some (r, M') → Wd D 20 ad (CM ad cy) A s.heap M_L66 H locs → lv_has ls 5 [(0, .ref (ad 0)), (1, .int v1_L66), (2, .int v2_L66), (4, .int v4_L66)] → W p l e (rmD 4) s m ([.ref (ad 0)] : List Value).toArray below meth c H locs 0 0 Q (F0 m 105 ls [.int t0_105j]) := by
          intro t0_105j H locs ls hf hW hl
          rw [hk105] at hf
          refine lv_istore_n (lv' := [(3, .int t0_105j), (0, .ref (ad 0)), (1, .int v1_L66), (2, .int v2_L66), (4, .int v4_L66)]) hx hb dX2_round_105 rfl hl (by decide) rfl (fun ls hl => ?_)
          refine lv_iinc (v := (v4_L66 + 1)) (lv' := [(4, .int (v4_L66 + 1)), (3, .int t0_105j), (0, .ref (ad 0)), (1, .int v1_L66), (2, .int v2_L66)]) hx hb dX2_round_106 hl (k := 4) rfl rfl (by decide) rfl (fun ls hl => ?_)
          refine lv_goto (tgt := 66) hx hb dX2_round_109 (by decide) ?_
          exact ih t0_105j (v4_L66 + 1) H locs ls hf hW (lv_sub hl [2, 3, 4, 1, 0] rfl)
        refine lv_if_eq (tgt := 104) hx hb dX2_round_76 (by decide) (fun hc => ?_) (fun hc => ?_)
        · replace hf := ifp hc hf
          exact hJ104  H locs ls hf hW (lv_sub hl [0, 1, 2, 4] rfl)
        · replace hf := ifn hc hf
          refine lv_aload_n hx hb dX2_round_79 rfl (lv_at hl 0 rfl) ?_
          refine gf_X2_34 X hW dX2_round_80 ?_
          refine lv_iconst (v := 1) hx hb dX2_round_83 (by decide) ?_
          refine lv_iload hx hb dX2_round_84 (lv_at hl 4 rfl) ?_
          refine lv_iadd hx hb dX2_round_86 ?_
          obtain ⟨hi87, hf⟩ := grd_some hf
          refine g_iald X hW iM_now hi87 dX2_round_87 ?_
          refine lv_aload_n hx hb dX2_round_88 rfl (lv_at hl 0 rfl) ?_
          refine gf_X2_31 X hW dX2_round_89 ?_
          refine lv_iconst (v := 1) hx hb dX2_round_92 (by decide) ?_
          refine lv_iload hx hb dX2_round_93 (lv_at hl 4 rfl) ?_
          refine lv_iadd hx hb dX2_round_95 ?_
          obtain ⟨hi96, hf⟩ := grd_some hf
          refine g_iald X hW iM_st hi96 dX2_round_96 ?_
          refine lv_icmp_ne (tgt := 104) hx hb dX2_round_97 (by decide) (fun hc => ?_) (fun hc => ?_)
          · replace hf := ifn hc hf
            exact hJ104  H locs ls hf hW (lv_sub hl [0, 1, 2, 4] rfl)
          · replace hf := ifp hc hf
            refine lv_iconst (v := 1) hx hb dX2_round_100 (by decide) ?_
            refine lv_goto (tgt := 105) hx hb dX2_round_101 (by decide) ?_
            exact hJ105 1 H locs ls hf hW (lv_sub hl [0, 1, 2, 4] rfl)
  have hL25 : ∀  (k116 : Int32 → Int32 → Mem → Option (Int32 × Mem)) (hJ116 : ∀ (v1_116x : Int32) (v2_116x : Int32) (M_116x : Mem) (H : Heap) (locs : List Loc) (ls : Array Slot), k116 v1_116x v2_116x M_116x = some (r, M') → Wd D 20 ad (CM ad cy) A s.heap M_116x H locs → lv_has ls 5 [(0, .ref (ad 0)), (1, .int v1_116x), (2, .int v2_116x)] → W p l e (rmD 4) s m ([.ref (ad 0)] : List Value).toArray below meth c H locs 0 0 Q (F0 m 116 ls [])) (n : Nat) (v1_L25 : Int32) (v2_L25 : Int32) (M_L25 : Mem) (H : Heap) (locs : List Loc) (ls : Array Slot), f_X2_round_L25 k116 n v1_L25 v2_L25 M_L25 = some (r, M') → Wd D 20 ad (CM ad cy) A s.heap M_L25 H locs → lv_has ls 5 [(0, .ref (ad 0)), (1, .int v1_L25), (2, .int v2_L25)] → W p l e (rmD 4) s m ([.ref (ad 0)] : List Value).toArray below meth c H locs 0 0 Q (F0 m 25 ls []) := by
    intro k116 hJ116 n
    induction n with
    | zero =>
      intro v1_L25 v2_L25 M_L25 H locs ls hf
      cases (show (none : Option (Int32 × Mem)) = some (r, M') from hf)
    | succ n ih =>
      intro v1_L25 v2_L25 M_L25 H locs ls hf hW hl
      rw [f_X2_round_L25] at hf
      refine lv_iload_n hx hb dX2_round_25 rfl (lv_at hl 2 rfl) ?_
      refine lv_bipush (v := 120) hx hb dX2_round_26 (by decide) ?_
      refine lv_icmp_gt (tgt := 129) hx hb dX2_round_28 (by decide) (fun hc => ?_) (fun hc => ?_)
      · replace hf := ifp hc hf
        refine lv_bipush (v := (-9)) hx hb dX2_round_129 (by decide) ?_
        exact g_iret X hr hlk hQ hW dX2_round_131 hf
      · replace hf := ifn hc hf
        refine lv_aload_n hx hb dX2_round_31 rfl (lv_at hl 0 rfl) ?_
        refine lv_iconst (v := 1) hx hb dX2_round_32 (by decide) ?_
        obtain ⟨M33, h33, hf⟩ := bR_some hf
        refine g_callvV X hl.1 hZ hA hW (c_X2_goes l D cy ad h33) cw_X2_goes ql_X2_176 iO_X2 rfl (by decide) rfl (Nat.le_of_ble_eq_true rfl) dX2_round_33 (fun H locs hW => ?_)
        refine lv_aload_n hx hb dX2_round_36 rfl (lv_at hl 0 rfl) ?_
        refine lv_aload_n hx hb dX2_round_37 rfl (lv_at hl 0 rfl) ?_
        refine gf_X2_34 X hW dX2_round_38 ?_
        obtain ⟨r41, h41, hf⟩ := bR_some hf
        refine g_calliV X hl.1 hZ hA hW (c_X2_pulses l D cy ad iM_now h41) cw_X2_pulses ql_X2_162 iO_X2 rfl (by decide) rfl (Nat.le_of_ble_eq_true rfl) dX2_round_41 (fun H locs hW => ?_)
        refine lv_iload_n hx hb dX2_round_44 rfl (lv_at hl 1 rfl) ?_
        obtain ⟨k60, hk60, hf⟩ := jn_some1 hf
        have hJ60 : ∀ (t0_60j : Int32) (H : Heap) (locs : List Loc) (ls : Array Slot), k60 t0_60j = some (r, M') → Wd D 20 ad (CM ad cy) A s.heap M33 H locs → lv_has ls 5 [(0, .ref (ad 0)), (2, .int v2_L25)] → W p l e (rmD 4) s m ([.ref (ad 0)] : List Value).toArray below meth c H locs 0 0 Q (F0 m 60 ls [.int t0_60j]) := by
          intro t0_60j H locs ls hf hW hl
          rw [hk60] at hf
          refine lv_istore_n (lv' := [(1, .int t0_60j), (0, .ref (ad 0)), (2, .int v2_L25)]) hx hb dX2_round_60 rfl hl (by decide) rfl (fun ls hl => ?_)
          refine lv_iconst (v := 1) hx hb dX2_round_61 (by decide) ?_
          refine lv_istore_n (lv' := [(3, .int 1), (1, .int t0_60j), (0, .ref (ad 0)), (2, .int v2_L25)]) hx hb dX2_round_62 rfl hl (by decide) rfl (fun ls hl => ?_)
          refine lv_iconst (v := 0) hx hb dX2_round_63 (by decide) ?_
          refine lv_istore (lv' := [(4, .int 0), (3, .int 1), (1, .int t0_60j), (0, .ref (ad 0)), (2, .int v2_L25)]) hx hb dX2_round_64 hl (by decide) rfl (fun ls hl => ?_)
          obtain ⟨k112, hk112, hf⟩ := jn_some1 hf
          have hJ112 : ∀ (v3_112x : Int32) (H : Heap) (locs : List Loc) (ls : Array Slot), k112 v3_112x = some (r, M') → Wd D 20 ad (CM ad cy) A s.heap M33 H locs → lv_has ls 5 [(0, .ref (ad 0)), (1, .int t0_60j), (2, .int v2_L25), (3, .int v3_112x)] → W p l e (rmD 4) s m ([.ref (ad 0)] : List Value).toArray below meth c H locs 0 0 Q (F0 m 112 ls []) := by
            intro v3_112x H locs ls hf hW hl
            rw [hk112] at hf
            refine lv_iload_n hx hb dX2_round_112 rfl (lv_at hl 3 rfl) ?_
            refine lv_if_eq (tgt := 123) hx hb dX2_round_113 (by decide) (fun hc => ?_) (fun hc => ?_)
            · replace hf := ifp hc hf
              refine lv_iinc (v := (v2_L25 + 1)) (lv' := [(2, .int (v2_L25 + 1)), (0, .ref (ad 0)), (1, .int t0_60j), (3, .int v3_112x)]) hx hb dX2_round_123 hl (k := 2) rfl rfl (by decide) rfl (fun ls hl => ?_)
              refine lv_goto (tgt := 25) hx hb dX2_round_126 (by decide) ?_
              exact ih t0_60j (v2_L25 + 1) M33 H locs ls hf hW (lv_sub hl [1, 2, 0] rfl)
            · replace hf := ifn hc hf
              exact hJ116 t0_60j v2_L25 M33 H locs ls hf hW (lv_sub hl [0, 1, 2] rfl)
          exact hL66 t0_60j v2_L25 M33 k112 hJ112 FU 1 0 H locs ls hf hW (lv_sub hl [3, 2, 4, 1, 0] rfl)
        refine lv_icmp_ge (tgt := 59) hx hb dX2_round_45 (by decide) (fun hc => ?_) (fun hc => ?_)
        · replace hf := ifp hc hf
          refine lv_iload_n hx hb dX2_round_59 rfl (lv_at hl 1 rfl) ?_
          exact hJ60 v1_L25 H locs ls hf hW (lv_sub hl [0, 2] rfl)
        · replace hf := ifn hc hf
          refine lv_aload_n hx hb dX2_round_48 rfl (lv_at hl 0 rfl) ?_
          refine lv_aload_n hx hb dX2_round_49 rfl (lv_at hl 0 rfl) ?_
          refine gf_X2_34 X hW dX2_round_50 ?_
          obtain ⟨r53, h53, hf⟩ := bR_some hf
          refine g_calliV X hl.1 hZ hA hW (c_X2_pulses l D cy ad iM_now h53) cw_X2_pulses ql_X2_162 iO_X2 rfl (by decide) rfl (Nat.le_of_ble_eq_true rfl) dX2_round_53 (fun H locs hW => ?_)
          refine lv_goto (tgt := 60) hx hb dX2_round_56 (by decide) ?_
          exact hJ60 r53 H locs ls hf hW (lv_sub hl [0, 2] rfl)
  obtain ⟨H, hH⟩ : ∃ H, H = s.heap := ⟨_, rfl⟩
  obtain ⟨locs, hlo⟩ : ∃ q : List Loc, q = [] := ⟨_, rfl⟩
  have hW : Wd D 20 ad (CM ad cy) A s.heap M H locs := by rw [hH, hlo]; exact hW
  suffices hh : W p l e (rmD 4) s m ([.ref (ad 0)] : List Value).toArray below meth c H locs 0 0 Q (F0 m 0 ls []) by rw [hH, hlo] at hh; exact hh
  unfold f_X2_round at hf
  refine lv_aload_n hx hb dX2_round_0 rfl (lv_at hl 0 rfl) ?_
  refine gf_X2_79 X hW dX2_round_1 ?_
  refine lv_if_ne (tgt := 10) hx hb dX2_round_4 (by decide) (fun hc => ?_) (fun hc => ?_)
  · replace hf := ifn hc hf
    refine lv_aload_n hx hb dX2_round_10 rfl (lv_at hl 0 rfl) ?_
    obtain ⟨M11, h11, hf⟩ := bR_some hf
    refine g_callvV X hl.1 hZ hA hW (c_X2_asItIs l D cy ad h11) cw_X2_asItIs ql_X2_173 iO_X2 rfl (by decide) rfl (Nat.le_of_ble_eq_true rfl) dX2_round_11 (fun H locs hW => ?_)
    refine lv_aload_n hx hb dX2_round_14 rfl (lv_at hl 0 rfl) ?_
    refine lv_aload_n hx hb dX2_round_15 rfl (lv_at hl 0 rfl) ?_
    refine gf_X2_34 X hW dX2_round_16 ?_
    obtain ⟨r19, h19, hf⟩ := bR_some hf
    refine g_calliV X hl.1 hZ hA hW (c_X2_pulses l D cy ad iM_now h19) cw_X2_pulses ql_X2_162 iO_X2 rfl (by decide) rfl (Nat.le_of_ble_eq_true rfl) dX2_round_19 (fun H locs hW => ?_)
    refine lv_istore_n (lv' := [(1, .int r19), (0, .ref (ad 0))]) hx hb dX2_round_22 rfl hl (by decide) rfl (fun ls hl => ?_)
    refine lv_iconst (v := 1) hx hb dX2_round_23 (by decide) ?_
    refine lv_istore_n (lv' := [(2, .int 1), (1, .int r19), (0, .ref (ad 0))]) hx hb dX2_round_24 rfl hl (by decide) rfl (fun ls hl => ?_)
    obtain ⟨k116, hk116, hf⟩ := jn_some3 hf
    have hJ116 : ∀ (v1_116x : Int32) (v2_116x : Int32) (M_116x : Mem) (H : Heap) (locs : List Loc) (ls : Array Slot), k116 v1_116x v2_116x M_116x = some (r, M') → Wd D 20 ad (CM ad cy) A s.heap M_116x H locs → lv_has ls 5 [(0, .ref (ad 0)), (1, .int v1_116x), (2, .int v2_116x)] → W p l e (rmD 4) s m ([.ref (ad 0)] : List Value).toArray below meth c H locs 0 0 Q (F0 m 116 ls []) := by
      intro v1_116x v2_116x M_116x H locs ls hf hW hl
      rw [hk116] at hf
      refine lv_aload_n hx hb dX2_round_116 rfl (lv_at hl 0 rfl) ?_
      refine lv_iload_n hx hb dX2_round_117 rfl (lv_at hl 1 rfl) ?_
      refine lv_iload_n hx hb dX2_round_118 rfl (lv_at hl 2 rfl) ?_
      obtain ⟨r119, M119, h119, hf⟩ := bI_some hf
      refine g_calliV X hl.1 hZ hA hW (c_X2_tells l D cy ad h119) cw_X2_tells ql_X2_102 iO_X2 rfl (by decide) rfl (Nat.le_of_ble_eq_true rfl) dX2_round_119 (fun H locs hW => ?_)
      exact g_iret X hr hlk hQ hW dX2_round_122 hf
    exact hL25 k116 hJ116 FU r19 1 M11 H locs ls hf hW (lv_sub hl [2, 1, 0] rfl)
  · replace hf := ifp hc hf
    refine lv_bipush (v := (-4)) hx hb dX2_round_7 (by decide) ?_
    exact g_iret X hr hlk hQ hW dX2_round_9 hf

def f_X2_left_L35 (M_L35 : Mem) (k68 : Int32 → Option (Int32 × Mem)) : Nat → Int32 → Int32 → Option (Int32 × Mem)
  | 0, _, _ => none
  | n + 1, v2_L35, v3_L35 => (if (M_L35.1 0 4) ≤ v3_L35 then (k68 v2_L35) else (grd (inb (1 + v3_L35) 15) (jn (fun (k60 : Int32 → Option (Int32 × Mem)) => (if (M_L35.1 9 (ix (1 + v3_L35))) = 0 then (k60 1) else (k60 0))) (fun (t0_60j : Int32) => (f_X2_left_L35 M_L35 k68 n (v2_L35 + t0_60j) (v3_L35 + 1))))))
def f_X2_left (v1 : Int32) (M : Mem) : Option (Int32 × Mem) :=
  (bR (f_X2_in v1 0 60 M) (fun r4 => (if r4 = 0 then (some ((-1), M)) else (if (M.1 0 4) = 0 then (some ((-4), M)) else (bR (f_X2_asItIs M) (fun M23 => (bR (f_X2_goes v1 M23) (fun M28 => (jn (fun (k68 : Int32 → Option (Int32 × Mem)) => (f_X2_left_L35 M28 k68 FU 0 0)) (fun (v2_68x : Int32) => (bR (f_X2_pulses 9 15 M28) (fun r75 => (bI (f_X2_tells v2_68x r75 M28) (fun r78 M78 => (some (r78, M78))))))))))))))))
set_option maxHeartbeats 4000000 in
set_option maxRecDepth 100000 in
theorem c_X2_left (l : Launch) (D : va_G) (cy : Nat → ClassId) (ad : Nat → Nat)   {v1 : Int32} {M M' : Mem} {r : Int32} (hf : f_X2_left v1 M = some (r, M')) : MetX l 20 (CM ad cy) D cy ad yX2_left cX2_left 4 (some .int) 4 [.ref (ad 0), .int v1] M (fun A => QI r M' 20 (CM ad cy) D cy ad A) := by
  refine MetX.of (own := RX2) (by decide) rfl (Nat.le_of_ble_eq_true rfl) ?_
  intro p e s m below meth c A Q ls X hr hlk hZ hA hQ hW hl
  have hl : lv_has ls 4 [(0, .ref (ad 0)), (1, .int v1)] := hl
  have hx := X.1
  have hb := X.2.1
  have hL35 : ∀ (M_L35 : Mem) (k68 : Int32 → Option (Int32 × Mem)) (hJ68 : ∀ (v2_68x : Int32) (H : Heap) (locs : List Loc) (ls : Array Slot), k68 v2_68x = some (r, M') → Wd D 20 ad (CM ad cy) A s.heap M_L35 H locs → lv_has ls 4 [(0, .ref (ad 0)), (2, .int v2_68x)] → W p l e (rmD 4) s m ([.ref (ad 0), .int v1] : List Value).toArray below meth c H locs 0 0 Q (F0 m 68 ls [])) (n : Nat) (v2_L35 : Int32) (v3_L35 : Int32) (H : Heap) (locs : List Loc) (ls : Array Slot), f_X2_left_L35 M_L35 k68 n v2_L35 v3_L35 = some (r, M') → Wd D 20 ad (CM ad cy) A s.heap M_L35 H locs → lv_has ls 4 [(0, .ref (ad 0)), (2, .int v2_L35), (3, .int v3_L35)] → W p l e (rmD 4) s m ([.ref (ad 0), .int v1] : List Value).toArray below meth c H locs 0 0 Q (F0 m 35 ls []) := by
    intro M_L35 k68 hJ68 n
    induction n with
    | zero =>
      intro v2_L35 v3_L35 H locs ls hf
      cases (show (none : Option (Int32 × Mem)) = some (r, M') from hf)
    | succ n ih =>
      intro v2_L35 v3_L35 H locs ls hf hW hl
      rw [f_X2_left_L35] at hf
      refine lv_iload_n hx hb dX2_left_35 rfl (lv_at hl 2 rfl) ?_
      refine lv_aload_n hx hb dX2_left_36 rfl (lv_at hl 0 rfl) ?_
      refine gf_X2_79 X hW dX2_left_37 ?_
      refine lv_icmp_ge (tgt := 68) hx hb dX2_left_40 (by decide) (fun hc => ?_) (fun hc => ?_)
      · replace hf := ifp hc hf
        exact hJ68 v2_L35 H locs ls hf hW (lv_sub hl [0, 1] rfl)
      · replace hf := ifn hc hf
        refine lv_iload_n hx hb dX2_left_43 rfl (lv_at hl 1 rfl) ?_
        refine lv_aload_n hx hb dX2_left_44 rfl (lv_at hl 0 rfl) ?_
        refine gf_X2_34 X hW dX2_left_45 ?_
        refine lv_iconst (v := 1) hx hb dX2_left_48 (by decide) ?_
        refine lv_iload_n hx hb dX2_left_49 rfl (lv_at hl 2 rfl) ?_
        refine lv_iadd hx hb dX2_left_50 ?_
        obtain ⟨hi51, hf⟩ := grd_some hf
        refine g_iald X hW iM_now hi51 dX2_left_51 ?_
        obtain ⟨k60, hk60, hf⟩ := jn_some1 hf
        have hJ60 : ∀ (t0_60j : Int32) (H : Heap) (locs : List Loc) (ls : Array Slot), k60 t0_60j = some (r, M') → Wd D 20 ad (CM ad cy) A s.heap M_L35 H locs → lv_has ls 4 [(0, .ref (ad 0)), (3, .int v3_L35)] → W p l e (rmD 4) s m ([.ref (ad 0), .int v1] : List Value).toArray below meth c H locs 0 0 Q (F0 m 60 ls [.int t0_60j, .int v2_L35]) := by
          intro t0_60j H locs ls hf hW hl
          rw [hk60] at hf
          refine lv_iadd hx hb dX2_left_60 ?_
          refine lv_istore_n (lv' := [(2, .int (v2_L35 + t0_60j)), (0, .ref (ad 0)), (3, .int v3_L35)]) hx hb dX2_left_61 rfl hl (by decide) rfl (fun ls hl => ?_)
          refine lv_iinc (v := (v3_L35 + 1)) (lv' := [(3, .int (v3_L35 + 1)), (2, .int (v2_L35 + t0_60j)), (0, .ref (ad 0))]) hx hb dX2_left_62 hl (k := 2) rfl rfl (by decide) rfl (fun ls hl => ?_)
          refine lv_goto (tgt := 35) hx hb dX2_left_65 (by decide) ?_
          exact ih (v2_L35 + t0_60j) (v3_L35 + 1) H locs ls hf hW (lv_sub hl [2, 1, 0] rfl)
        refine lv_if_ne (tgt := 59) hx hb dX2_left_52 (by decide) (fun hc => ?_) (fun hc => ?_)
        · replace hf := ifn hc hf
          refine lv_iconst (v := 0) hx hb dX2_left_59 (by decide) ?_
          exact hJ60 0 H locs ls hf hW (lv_sub hl [0, 2] rfl)
        · replace hf := ifp hc hf
          refine lv_iconst (v := 1) hx hb dX2_left_55 (by decide) ?_
          refine lv_goto (tgt := 60) hx hb dX2_left_56 (by decide) ?_
          exact hJ60 1 H locs ls hf hW (lv_sub hl [0, 2] rfl)
  obtain ⟨H, hH⟩ : ∃ H, H = s.heap := ⟨_, rfl⟩
  obtain ⟨locs, hlo⟩ : ∃ q : List Loc, q = [] := ⟨_, rfl⟩
  have hW : Wd D 20 ad (CM ad cy) A s.heap M H locs := by rw [hH, hlo]; exact hW
  suffices hh : W p l e (rmD 4) s m ([.ref (ad 0), .int v1] : List Value).toArray below meth c H locs 0 0 Q (F0 m 0 ls []) by rw [hH, hlo] at hh; exact hh
  unfold f_X2_left at hf
  refine lv_iload_n hx hb dX2_left_0 rfl (lv_at hl 1 rfl) ?_
  refine lv_iconst (v := 0) hx hb dX2_left_1 (by decide) ?_
  refine lv_bipush (v := 60) hx hb dX2_left_2 (by decide) ?_
  obtain ⟨r4, h4, hf⟩ := bR_some hf
  refine g_calliS X hl.1 hZ hA hW (c_X2_in l D cy ad h4) cs_X2_in ql_X2_82 rfl (by decide) rfl (Nat.le_of_ble_eq_true rfl) dX2_left_4 (fun H locs hW => ?_)
  refine lv_if_ne (tgt := 12) hx hb dX2_left_7 (by decide) (fun hc => ?_) (fun hc => ?_)
  · replace hf := ifn hc hf
    refine lv_aload_n hx hb dX2_left_12 rfl (lv_at hl 0 rfl) ?_
    refine gf_X2_79 X hW dX2_left_13 ?_
    refine lv_if_ne (tgt := 22) hx hb dX2_left_16 (by decide) (fun hc => ?_) (fun hc => ?_)
    · replace hf := ifn hc hf
      refine lv_aload_n hx hb dX2_left_22 rfl (lv_at hl 0 rfl) ?_
      obtain ⟨M23, h23, hf⟩ := bR_some hf
      refine g_callvV X hl.1 hZ hA hW (c_X2_asItIs l D cy ad h23) cw_X2_asItIs ql_X2_173 iO_X2 rfl (by decide) rfl (Nat.le_of_ble_eq_true rfl) dX2_left_23 (fun H locs hW => ?_)
      refine lv_aload_n hx hb dX2_left_26 rfl (lv_at hl 0 rfl) ?_
      refine lv_iload_n hx hb dX2_left_27 rfl (lv_at hl 1 rfl) ?_
      obtain ⟨M28, h28, hf⟩ := bR_some hf
      refine g_callvV X hl.1 hZ hA hW (c_X2_goes l D cy ad h28) cw_X2_goes ql_X2_176 iO_X2 rfl (by decide) rfl (Nat.le_of_ble_eq_true rfl) dX2_left_28 (fun H locs hW => ?_)
      refine lv_iconst (v := 0) hx hb dX2_left_31 (by decide) ?_
      refine lv_istore_n (lv' := [(2, .int 0), (0, .ref (ad 0)), (1, .int v1)]) hx hb dX2_left_32 rfl hl (by decide) rfl (fun ls hl => ?_)
      refine lv_iconst (v := 0) hx hb dX2_left_33 (by decide) ?_
      refine lv_istore_n (lv' := [(3, .int 0), (2, .int 0), (0, .ref (ad 0)), (1, .int v1)]) hx hb dX2_left_34 rfl hl (by decide) rfl (fun ls hl => ?_)
      obtain ⟨k68, hk68, hf⟩ := jn_some1 hf
      have hJ68 : ∀ (v2_68x : Int32) (H : Heap) (locs : List Loc) (ls : Array Slot), k68 v2_68x = some (r, M') → Wd D 20 ad (CM ad cy) A s.heap M28 H locs → lv_has ls 4 [(0, .ref (ad 0)), (2, .int v2_68x)] → W p l e (rmD 4) s m ([.ref (ad 0), .int v1] : List Value).toArray below meth c H locs 0 0 Q (F0 m 68 ls []) := by
        intro v2_68x H locs ls hf hW hl
        rw [hk68] at hf
        refine lv_aload_n hx hb dX2_left_68 rfl (lv_at hl 0 rfl) ?_
        refine lv_iload_n hx hb dX2_left_69 rfl (lv_at hl 1 rfl) ?_
        refine lv_aload_n hx hb dX2_left_70 rfl (lv_at hl 0 rfl) ?_
        refine lv_aload_n hx hb dX2_left_71 rfl (lv_at hl 0 rfl) ?_
        refine gf_X2_34 X hW dX2_left_72 ?_
        obtain ⟨r75, h75, hf⟩ := bR_some hf
        refine g_calliV X hl.1 hZ hA hW (c_X2_pulses l D cy ad iM_now h75) cw_X2_pulses ql_X2_162 iO_X2 rfl (by decide) rfl (Nat.le_of_ble_eq_true rfl) dX2_left_75 (fun H locs hW => ?_)
        obtain ⟨r78, M78, h78, hf⟩ := bI_some hf
        refine g_calliV X hl.1 hZ hA hW (c_X2_tells l D cy ad h78) cw_X2_tells ql_X2_102 iO_X2 rfl (by decide) rfl (Nat.le_of_ble_eq_true rfl) dX2_left_78 (fun H locs hW => ?_)
        exact g_iret X hr hlk hQ hW dX2_left_81 hf
      exact hL35 M28 k68 hJ68 FU 0 0 H locs ls hf hW (lv_sub hl [2, 1, 0] rfl)
    · replace hf := ifp hc hf
      refine lv_bipush (v := (-4)) hx hb dX2_left_19 (by decide) ?_
      exact g_iret X hr hlk hQ hW dX2_left_21 hf
  · replace hf := ifp hc hf
    refine lv_iconst (v := (-1)) hx hb dX2_left_10 (by decide) ?_
    exact g_iret X hr hlk hQ hW dX2_left_11 hf

def f_X2_best_L61 (v1_L61 : Int32) (v4_L61 : Int32) (k138 : Int32 → Int32 → Mem → Option (Int32 × Mem)) : Nat → Int32 → Int32 → Int32 → Mem → Option (Int32 × Mem)
  | 0, _, _, _, _ => none
  | n + 1, v2_L61, v3_L61, v5_L61, M_L61 => (if (M_L61.1 0 4) ≤ v5_L61 then (k138 v2_L61 v3_L61 M_L61) else (bR (f_X2_asItIs M_L61) (fun M71 => (bR (f_X2_swapped 9 15 v4_L61 v5_L61 M71) (fun M82 => (bR (f_X2_goes v1_L61 M82) (fun M87 => (bR (f_X2_pulses 9 15 M87) (fun r95 => (jn (fun (k118 : Int32 → Option (Int32 × Mem)) => (if r95 ≤ v2_L61 then (k118 v3_L61) else (k118 ((10 * v4_L61) + v5_L61)))) (fun (t0_118j : Int32) => (jn (fun (k131 : Int32 → Option (Int32 × Mem)) => (if r95 ≤ v2_L61 then (k131 v2_L61) else (k131 r95))) (fun (t0_131j : Int32) => (f_X2_best_L61 v1_L61 v4_L61 k138 n t0_131j t0_118j (v5_L61 + 1) M87))))))))))))))
def f_X2_best_L46 (v1_L46 : Int32) (k144 : Int32 → Int32 → Mem → Option (Int32 × Mem)) : Nat → Int32 → Int32 → Int32 → Mem → Option (Int32 × Mem)
  | 0, _, _, _, _ => none
  | n + 1, v2_L46, v3_L46, v4_L46, M_L46 => (if (M_L46.1 0 4) ≤ v4_L46 then (k144 v2_L46 v3_L46 M_L46) else (jn (fun (k138 : Int32 → Int32 → Mem → Option (Int32 × Mem)) => (f_X2_best_L61 v1_L46 v4_L46 k138 FU v2_L46 v3_L46 (v4_L46 + 1) M_L46)) (fun (v2_138x : Int32) (v3_138x : Int32) (M_138x : Mem) => (f_X2_best_L46 v1_L46 k144 n v2_138x v3_138x (v4_L46 + 1) M_138x))))
def f_X2_best (v1 : Int32) (M : Mem) : Option (Int32 × Mem) :=
  (bR (f_X2_in v1 1 40 M) (fun r4 => (if r4 = 0 then (some ((-1), M)) else (if (M.1 0 4) = 0 then (some ((-4), M)) else (bR (f_X2_asItIs M) (fun M23 => (bR (f_X2_goes v1 M23) (fun M28 => (bR (f_X2_pulses 9 15 M28) (fun r36 => (jn (fun (k144 : Int32 → Int32 → Mem → Option (Int32 × Mem)) => (f_X2_best_L46 v1 k144 FU r36 (-9) 0 M28)) (fun (v2_144x : Int32) (v3_144x : Int32) (M_144x : Mem) => (if v3_144x = (-9) then (some ((-9), M_144x)) else (bI (f_X2_tells v2_144x v3_144x M_144x) (fun r158 M158 => (some (r158, M158)))))))))))))))))
set_option maxHeartbeats 4000000 in
set_option maxRecDepth 100000 in
theorem c_X2_best (l : Launch) (D : va_G) (cy : Nat → ClassId) (ad : Nat → Nat)   {v1 : Int32} {M M' : Mem} {r : Int32} (hf : f_X2_best v1 M = some (r, M')) : MetX l 20 (CM ad cy) D cy ad yX2_best cX2_best 7 (some .int) 4 [.ref (ad 0), .int v1] M (fun A => QI r M' 20 (CM ad cy) D cy ad A) := by
  refine MetX.of (own := RX2) (by decide) rfl (Nat.le_of_ble_eq_true rfl) ?_
  intro p e s m below meth c A Q ls X hr hlk hZ hA hQ hW hl
  have hl : lv_has ls 7 [(0, .ref (ad 0)), (1, .int v1)] := hl
  have hx := X.1
  have hb := X.2.1
  have hL61 : ∀ (v1_L61 : Int32) (v4_L61 : Int32) (k138 : Int32 → Int32 → Mem → Option (Int32 × Mem)) (hJ138 : ∀ (v2_138x : Int32) (v3_138x : Int32) (M_138x : Mem) (H : Heap) (locs : List Loc) (ls : Array Slot), k138 v2_138x v3_138x M_138x = some (r, M') → Wd D 20 ad (CM ad cy) A s.heap M_138x H locs → lv_has ls 7 [(0, .ref (ad 0)), (1, .int v1_L61), (2, .int v2_138x), (3, .int v3_138x), (4, .int v4_L61)] → W p l e (rmD 4) s m ([.ref (ad 0), .int v1] : List Value).toArray below meth c H locs 0 0 Q (F0 m 138 ls [])) (n : Nat) (v2_L61 : Int32) (v3_L61 : Int32) (v5_L61 : Int32) (M_L61 : Mem) (H : Heap) (locs : List Loc) (ls : Array Slot), f_X2_best_L61 v1_L61 v4_L61 k138 n v2_L61 v3_L61 v5_L61 M_L61 = some (r, M') → Wd D 20 ad (CM ad cy) A s.heap M_L61 H locs → lv_has ls 7 [(0, .ref (ad 0)), (1, .int v1_L61), (2, .int v2_L61), (3, .int v3_L61), (4, .int v4_L61), (5, .int v5_L61)] → W p l e (rmD 4) s m ([.ref (ad 0), .int v1] : List Value).toArray below meth c H locs 0 0 Q (F0 m 61 ls []) := by
    intro v1_L61 v4_L61 k138 hJ138 n
    induction n with
    | zero =>
      intro v2_L61 v3_L61 v5_L61 M_L61 H locs ls hf
      cases (show (none : Option (Int32 × Mem)) = some (r, M') from hf)
    | succ n ih =>
      intro v2_L61 v3_L61 v5_L61 M_L61 H locs ls hf hW hl
      rw [f_X2_best_L61] at hf
      refine lv_iload hx hb dX2_best_61 (lv_at hl 5 rfl) ?_
      refine lv_aload_n hx hb dX2_best_63 rfl (lv_at hl 0 rfl) ?_
      refine gf_X2_79 X hW dX2_best_64 ?_
      refine lv_icmp_ge (tgt := 138) hx hb dX2_best_67 (by decide) (fun hc => ?_) (fun hc => ?_)
      · replace hf := ifp hc hf
        exact hJ138 v2_L61 v3_L61 M_L61 H locs ls hf hW (lv_sub hl [0, 1, 2, 3, 4] rfl)
      · replace hf := ifn hc hf
        refine lv_aload_n hx hb dX2_best_70 rfl (lv_at hl 0 rfl) ?_
        obtain ⟨M71, h71, hf⟩ := bR_some hf
        refine g_callvV X hl.1 hZ hA hW (c_X2_asItIs l D cy ad h71) cw_X2_asItIs ql_X2_173 iO_X2 rfl (by decide) rfl (Nat.le_of_ble_eq_true rfl) dX2_best_71 (fun H locs hW => ?_)
        refine lv_aload_n hx hb dX2_best_74 rfl (lv_at hl 0 rfl) ?_
        refine gf_X2_34 X hW dX2_best_75 ?_
        refine lv_iload hx hb dX2_best_78 (lv_at hl 4 rfl) ?_
        refine lv_iload hx hb dX2_best_80 (lv_at hl 5 rfl) ?_
        obtain ⟨M82, h82, hf⟩ := bR_some hf
        refine g_callvS X hl.1 hZ hA hW (c_X2_swapped l D cy ad iM_now h82) cs_X2_swapped ql_X2_166 rfl (by decide) rfl (Nat.le_of_ble_eq_true rfl) dX2_best_82 (fun H locs hW => ?_)
        refine lv_aload_n hx hb dX2_best_85 rfl (lv_at hl 0 rfl) ?_
        refine lv_iload_n hx hb dX2_best_86 rfl (lv_at hl 1 rfl) ?_
        obtain ⟨M87, h87, hf⟩ := bR_some hf
        refine g_callvV X hl.1 hZ hA hW (c_X2_goes l D cy ad h87) cw_X2_goes ql_X2_176 iO_X2 rfl (by decide) rfl (Nat.le_of_ble_eq_true rfl) dX2_best_87 (fun H locs hW => ?_)
        refine lv_aload_n hx hb dX2_best_90 rfl (lv_at hl 0 rfl) ?_
        refine lv_aload_n hx hb dX2_best_91 rfl (lv_at hl 0 rfl) ?_
        refine gf_X2_34 X hW dX2_best_92 ?_
        obtain ⟨r95, h95, hf⟩ := bR_some hf
        refine g_calliV X hl.1 hZ hA hW (c_X2_pulses l D cy ad iM_now h95) cw_X2_pulses ql_X2_162 iO_X2 rfl (by decide) rfl (Nat.le_of_ble_eq_true rfl) dX2_best_95 (fun H locs hW => ?_)
        refine lv_istore (lv' := [(6, .int r95), (0, .ref (ad 0)), (1, .int v1_L61), (2, .int v2_L61), (3, .int v3_L61), (4, .int v4_L61), (5, .int v5_L61)]) hx hb dX2_best_98 hl (by decide) rfl (fun ls hl => ?_)
        refine lv_iload hx hb dX2_best_100 (lv_at hl 0 rfl) ?_
        refine lv_iload_n hx hb dX2_best_102 rfl (lv_at hl 3 rfl) ?_
        obtain ⟨k118, hk118, hf⟩ := jn_some1 hf
        have hJ118 : ∀ (t0_118j : Int32) (H : Heap) (locs : List Loc) (ls : Array Slot), k118 t0_118j = some (r, M') → Wd D 20 ad (CM ad cy) A s.heap M87 H locs → lv_has ls 7 [(0, .ref (ad 0)), (1, .int v1_L61), (2, .int v2_L61), (4, .int v4_L61), (5, .int v5_L61), (6, .int r95)] → W p l e (rmD 4) s m ([.ref (ad 0), .int v1] : List Value).toArray below meth c H locs 0 0 Q (F0 m 118 ls [.int t0_118j]) := by
          intro t0_118j H locs ls hf hW hl
          rw [hk118] at hf
          refine lv_istore_n (lv' := [(3, .int t0_118j), (0, .ref (ad 0)), (1, .int v1_L61), (2, .int v2_L61), (4, .int v4_L61), (5, .int v5_L61), (6, .int r95)]) hx hb dX2_best_118 rfl hl (by decide) rfl (fun ls hl => ?_)
          refine lv_iload hx hb dX2_best_119 (lv_at hl 6 rfl) ?_
          refine lv_iload_n hx hb dX2_best_121 rfl (lv_at hl 3 rfl) ?_
          obtain ⟨k131, hk131, hf⟩ := jn_some1 hf
          have hJ131 : ∀ (t0_131j : Int32) (H : Heap) (locs : List Loc) (ls : Array Slot), k131 t0_131j = some (r, M') → Wd D 20 ad (CM ad cy) A s.heap M87 H locs → lv_has ls 7 [(0, .ref (ad 0)), (1, .int v1_L61), (3, .int t0_118j), (4, .int v4_L61), (5, .int v5_L61)] → W p l e (rmD 4) s m ([.ref (ad 0), .int v1] : List Value).toArray below meth c H locs 0 0 Q (F0 m 131 ls [.int t0_131j]) := by
            intro t0_131j H locs ls hf hW hl
            rw [hk131] at hf
            refine lv_istore_n (lv' := [(2, .int t0_131j), (0, .ref (ad 0)), (1, .int v1_L61), (3, .int t0_118j), (4, .int v4_L61), (5, .int v5_L61)]) hx hb dX2_best_131 rfl hl (by decide) rfl (fun ls hl => ?_)
            refine lv_iinc (v := (v5_L61 + 1)) (lv' := [(5, .int (v5_L61 + 1)), (2, .int t0_131j), (0, .ref (ad 0)), (1, .int v1_L61), (3, .int t0_118j), (4, .int v4_L61)]) hx hb dX2_best_132 hl (k := 5) rfl rfl (by decide) rfl (fun ls hl => ?_)
            refine lv_goto (tgt := 61) hx hb dX2_best_135 (by decide) ?_
            exact ih t0_131j t0_118j (v5_L61 + 1) M87 H locs ls hf hW (lv_sub hl [2, 3, 1, 4, 5, 0] rfl)
          refine lv_icmp_le (tgt := 130) hx hb dX2_best_122 (by decide) (fun hc => ?_) (fun hc => ?_)
          · replace hf := ifp hc hf
            refine lv_iload_n hx hb dX2_best_130 rfl (lv_at hl 3 rfl) ?_
            exact hJ131 v2_L61 H locs ls hf hW (lv_sub hl [1, 2, 0, 4, 5] rfl)
          · replace hf := ifn hc hf
            refine lv_iload hx hb dX2_best_125 (lv_at hl 6 rfl) ?_
            refine lv_goto (tgt := 131) hx hb dX2_best_127 (by decide) ?_
            exact hJ131 r95 H locs ls hf hW (lv_sub hl [1, 2, 0, 4, 5] rfl)
        refine lv_icmp_le (tgt := 117) hx hb dX2_best_103 (by decide) (fun hc => ?_) (fun hc => ?_)
        · replace hf := ifp hc hf
          refine lv_iload_n hx hb dX2_best_117 rfl (lv_at hl 4 rfl) ?_
          exact hJ118 v3_L61 H locs ls hf hW (lv_sub hl [1, 2, 3, 5, 6, 0] rfl)
        · replace hf := ifn hc hf
          refine lv_bipush (v := 10) hx hb dX2_best_106 (by decide) ?_
          refine lv_iload hx hb dX2_best_108 (lv_at hl 5 rfl) ?_
          refine lv_imul hx hb dX2_best_110 ?_
          refine lv_iload hx hb dX2_best_111 (lv_at hl 6 rfl) ?_
          refine lv_iadd hx hb dX2_best_113 ?_
          refine lv_goto (tgt := 118) hx hb dX2_best_114 (by decide) ?_
          exact hJ118 ((10 * v4_L61) + v5_L61) H locs ls hf hW (lv_sub hl [1, 2, 3, 5, 6, 0] rfl)
  have hL46 : ∀ (v1_L46 : Int32) (k144 : Int32 → Int32 → Mem → Option (Int32 × Mem)) (hJ144 : ∀ (v2_144x : Int32) (v3_144x : Int32) (M_144x : Mem) (H : Heap) (locs : List Loc) (ls : Array Slot), k144 v2_144x v3_144x M_144x = some (r, M') → Wd D 20 ad (CM ad cy) A s.heap M_144x H locs → lv_has ls 7 [(0, .ref (ad 0)), (2, .int v2_144x), (3, .int v3_144x)] → W p l e (rmD 4) s m ([.ref (ad 0), .int v1] : List Value).toArray below meth c H locs 0 0 Q (F0 m 144 ls [])) (n : Nat) (v2_L46 : Int32) (v3_L46 : Int32) (v4_L46 : Int32) (M_L46 : Mem) (H : Heap) (locs : List Loc) (ls : Array Slot), f_X2_best_L46 v1_L46 k144 n v2_L46 v3_L46 v4_L46 M_L46 = some (r, M') → Wd D 20 ad (CM ad cy) A s.heap M_L46 H locs → lv_has ls 7 [(0, .ref (ad 0)), (1, .int v1_L46), (2, .int v2_L46), (3, .int v3_L46), (4, .int v4_L46)] → W p l e (rmD 4) s m ([.ref (ad 0), .int v1] : List Value).toArray below meth c H locs 0 0 Q (F0 m 46 ls []) := by
    intro v1_L46 k144 hJ144 n
    induction n with
    | zero =>
      intro v2_L46 v3_L46 v4_L46 M_L46 H locs ls hf
      cases (show (none : Option (Int32 × Mem)) = some (r, M') from hf)
    | succ n ih =>
      intro v2_L46 v3_L46 v4_L46 M_L46 H locs ls hf hW hl
      rw [f_X2_best_L46] at hf
      refine lv_iload hx hb dX2_best_46 (lv_at hl 4 rfl) ?_
      refine lv_aload_n hx hb dX2_best_48 rfl (lv_at hl 0 rfl) ?_
      refine gf_X2_79 X hW dX2_best_49 ?_
      refine lv_icmp_ge (tgt := 144) hx hb dX2_best_52 (by decide) (fun hc => ?_) (fun hc => ?_)
      · replace hf := ifp hc hf
        exact hJ144 v2_L46 v3_L46 M_L46 H locs ls hf hW (lv_sub hl [0, 2, 3] rfl)
      · replace hf := ifn hc hf
        refine lv_iload hx hb dX2_best_55 (lv_at hl 4 rfl) ?_
        refine lv_iconst (v := 1) hx hb dX2_best_57 (by decide) ?_
        refine lv_iadd hx hb dX2_best_58 ?_
        refine lv_istore (lv' := [(5, .int (v4_L46 + 1)), (0, .ref (ad 0)), (1, .int v1_L46), (2, .int v2_L46), (3, .int v3_L46), (4, .int v4_L46)]) hx hb dX2_best_59 hl (by decide) rfl (fun ls hl => ?_)
        obtain ⟨k138, hk138, hf⟩ := jn_some3 hf
        have hJ138 : ∀ (v2_138x : Int32) (v3_138x : Int32) (M_138x : Mem) (H : Heap) (locs : List Loc) (ls : Array Slot), k138 v2_138x v3_138x M_138x = some (r, M') → Wd D 20 ad (CM ad cy) A s.heap M_138x H locs → lv_has ls 7 [(0, .ref (ad 0)), (1, .int v1_L46), (2, .int v2_138x), (3, .int v3_138x), (4, .int v4_L46)] → W p l e (rmD 4) s m ([.ref (ad 0), .int v1] : List Value).toArray below meth c H locs 0 0 Q (F0 m 138 ls []) := by
          intro v2_138x v3_138x M_138x H locs ls hf hW hl
          rw [hk138] at hf
          refine lv_iinc (v := (v4_L46 + 1)) (lv' := [(4, .int (v4_L46 + 1)), (0, .ref (ad 0)), (1, .int v1_L46), (2, .int v2_138x), (3, .int v3_138x)]) hx hb dX2_best_138 hl (k := 4) rfl rfl (by decide) rfl (fun ls hl => ?_)
          refine lv_goto (tgt := 46) hx hb dX2_best_141 (by decide) ?_
          exact ih v2_138x v3_138x (v4_L46 + 1) M_138x H locs ls hf hW (lv_sub hl [1, 2, 3, 4, 0] rfl)
        exact hL61 v1_L46 v4_L46 k138 hJ138 FU v2_L46 v3_L46 (v4_L46 + 1) M_L46 H locs ls hf hW (lv_sub hl [1, 2, 3, 4, 5, 0] rfl)
  obtain ⟨H, hH⟩ : ∃ H, H = s.heap := ⟨_, rfl⟩
  obtain ⟨locs, hlo⟩ : ∃ q : List Loc, q = [] := ⟨_, rfl⟩
  have hW : Wd D 20 ad (CM ad cy) A s.heap M H locs := by rw [hH, hlo]; exact hW
  suffices hh : W p l e (rmD 4) s m ([.ref (ad 0), .int v1] : List Value).toArray below meth c H locs 0 0 Q (F0 m 0 ls []) by rw [hH, hlo] at hh; exact hh
  unfold f_X2_best at hf
  refine lv_iload_n hx hb dX2_best_0 rfl (lv_at hl 1 rfl) ?_
  refine lv_iconst (v := 1) hx hb dX2_best_1 (by decide) ?_
  refine lv_bipush (v := 40) hx hb dX2_best_2 (by decide) ?_
  obtain ⟨r4, h4, hf⟩ := bR_some hf
  refine g_calliS X hl.1 hZ hA hW (c_X2_in l D cy ad h4) cs_X2_in ql_X2_82 rfl (by decide) rfl (Nat.le_of_ble_eq_true rfl) dX2_best_4 (fun H locs hW => ?_)
  refine lv_if_ne (tgt := 12) hx hb dX2_best_7 (by decide) (fun hc => ?_) (fun hc => ?_)
  · replace hf := ifn hc hf
    refine lv_aload_n hx hb dX2_best_12 rfl (lv_at hl 0 rfl) ?_
    refine gf_X2_79 X hW dX2_best_13 ?_
    refine lv_if_ne (tgt := 22) hx hb dX2_best_16 (by decide) (fun hc => ?_) (fun hc => ?_)
    · replace hf := ifn hc hf
      refine lv_aload_n hx hb dX2_best_22 rfl (lv_at hl 0 rfl) ?_
      obtain ⟨M23, h23, hf⟩ := bR_some hf
      refine g_callvV X hl.1 hZ hA hW (c_X2_asItIs l D cy ad h23) cw_X2_asItIs ql_X2_173 iO_X2 rfl (by decide) rfl (Nat.le_of_ble_eq_true rfl) dX2_best_23 (fun H locs hW => ?_)
      refine lv_aload_n hx hb dX2_best_26 rfl (lv_at hl 0 rfl) ?_
      refine lv_iload_n hx hb dX2_best_27 rfl (lv_at hl 1 rfl) ?_
      obtain ⟨M28, h28, hf⟩ := bR_some hf
      refine g_callvV X hl.1 hZ hA hW (c_X2_goes l D cy ad h28) cw_X2_goes ql_X2_176 iO_X2 rfl (by decide) rfl (Nat.le_of_ble_eq_true rfl) dX2_best_28 (fun H locs hW => ?_)
      refine lv_aload_n hx hb dX2_best_31 rfl (lv_at hl 0 rfl) ?_
      refine lv_aload_n hx hb dX2_best_32 rfl (lv_at hl 0 rfl) ?_
      refine gf_X2_34 X hW dX2_best_33 ?_
      obtain ⟨r36, h36, hf⟩ := bR_some hf
      refine g_calliV X hl.1 hZ hA hW (c_X2_pulses l D cy ad iM_now h36) cw_X2_pulses ql_X2_162 iO_X2 rfl (by decide) rfl (Nat.le_of_ble_eq_true rfl) dX2_best_36 (fun H locs hW => ?_)
      refine lv_istore_n (lv' := [(2, .int r36), (0, .ref (ad 0)), (1, .int v1)]) hx hb dX2_best_39 rfl hl (by decide) rfl (fun ls hl => ?_)
      refine lv_bipush (v := (-9)) hx hb dX2_best_40 (by decide) ?_
      refine lv_istore_n (lv' := [(3, .int (-9)), (2, .int r36), (0, .ref (ad 0)), (1, .int v1)]) hx hb dX2_best_42 rfl hl (by decide) rfl (fun ls hl => ?_)
      refine lv_iconst (v := 0) hx hb dX2_best_43 (by decide) ?_
      refine lv_istore (lv' := [(4, .int 0), (3, .int (-9)), (2, .int r36), (0, .ref (ad 0)), (1, .int v1)]) hx hb dX2_best_44 hl (by decide) rfl (fun ls hl => ?_)
      obtain ⟨k144, hk144, hf⟩ := jn_some3 hf
      have hJ144 : ∀ (v2_144x : Int32) (v3_144x : Int32) (M_144x : Mem) (H : Heap) (locs : List Loc) (ls : Array Slot), k144 v2_144x v3_144x M_144x = some (r, M') → Wd D 20 ad (CM ad cy) A s.heap M_144x H locs → lv_has ls 7 [(0, .ref (ad 0)), (2, .int v2_144x), (3, .int v3_144x)] → W p l e (rmD 4) s m ([.ref (ad 0), .int v1] : List Value).toArray below meth c H locs 0 0 Q (F0 m 144 ls []) := by
        intro v2_144x v3_144x M_144x H locs ls hf hW hl
        rw [hk144] at hf
        refine lv_iload_n hx hb dX2_best_144 rfl (lv_at hl 2 rfl) ?_
        refine lv_bipush (v := (-9)) hx hb dX2_best_145 (by decide) ?_
        refine lv_icmp_ne (tgt := 155) hx hb dX2_best_147 (by decide) (fun hc => ?_) (fun hc => ?_)
        · replace hf := ifn hc hf
          refine lv_aload_n hx hb dX2_best_155 rfl (lv_at hl 0 rfl) ?_
          refine lv_iload_n hx hb dX2_best_156 rfl (lv_at hl 1 rfl) ?_
          refine lv_iload_n hx hb dX2_best_157 rfl (lv_at hl 2 rfl) ?_
          obtain ⟨r158, M158, h158, hf⟩ := bI_some hf
          refine g_calliV X hl.1 hZ hA hW (c_X2_tells l D cy ad h158) cw_X2_tells ql_X2_102 iO_X2 rfl (by decide) rfl (Nat.le_of_ble_eq_true rfl) dX2_best_158 (fun H locs hW => ?_)
          exact g_iret X hr hlk hQ hW dX2_best_161 hf
        · replace hf := ifp hc hf
          refine lv_bipush (v := (-9)) hx hb dX2_best_150 (by decide) ?_
          refine lv_goto (tgt := 161) hx hb dX2_best_152 (by decide) ?_
          exact g_iret X hr hlk hQ hW dX2_best_161 hf
      exact hL46 v1 k144 hJ144 FU r36 (-9) 0 M28 H locs ls hf hW (lv_sub hl [3, 4, 2, 1, 0] rfl)
    · replace hf := ifp hc hf
      refine lv_bipush (v := (-4)) hx hb dX2_best_19 (by decide) ?_
      exact g_iret X hr hlk hQ hW dX2_best_21 hf
  · replace hf := ifp hc hf
    refine lv_iconst (v := (-1)) hx hb dX2_best_10 (by decide) ?_
    exact g_iret X hr hlk hQ hW dX2_best_11 hf
