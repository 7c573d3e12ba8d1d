/-! walks, by program out of the listing: 34.walk_X2e -/
def f_X2_lots_L52 (v1_L52 : Int32) (k80 : Mem → Option (Int32 × Mem)) : Nat → Int64 → Int32 → Mem → Option (Int32 × Mem)
  | 0, _, _, _ => none
  | n + 1, v3_L52, v5_L52, M_L52 => (if v1_L52 ≤ v5_L52 then (k80 M_L52) else (bR (f_X2_lot ((lrm (v3_L52 * 48271) 2147483647)).toInt32 M_L52) (fun M71 => (f_X2_lots_L52 v1_L52 k80 n (lrm (v3_L52 * 48271) 2147483647) (v5_L52 + 1) M71))))
def f_X2_lots (v1 : Int32) (v2 : Int32) (M : Mem) : Option (Int32 × Mem) :=
  (bR (f_X2_in v1 1 20 M) (fun r4 => (if r4 = 0 then (some ((-1), M)) else (bR (f_X2_in v2 1 2147483646 M) (fun r14 => (if r14 = 0 then (some ((-1), M)) else (if (M.1 0 4) = 0 then (some ((-4), M)) else (if ((M.1 0 11) + v1) ≤ 40 then (jn (fun (k80 : Mem → Option (Int32 × Mem)) => (f_X2_lots_L52 v1 k80 FU v2.toInt64 0 M)) (fun  (M_80x : Mem) => (bR (f_X2_pulses 8 15 M_80x) (fun r85 => (some (r85, M_80x)))))) else (some ((-2), M))))))))))
set_option maxHeartbeats 4000000 in
set_option maxRecDepth 100000 in
theorem c_X2_lots (l : Launch) (D : va_G) (cy : Nat → ClassId) (ad : Nat → Nat)   {v1 : Int32} {v2 : Int32} {M M' : Mem} {r : Int32} (hf : f_X2_lots v1 v2 M = some (r, M')) : MetX l 20 (CM ad cy) D cy ad yX2_lots cX2_lots 6 (some .int) 4 [.ref (ad 0), .int v1, .int v2] M (fun A => QI r M' 20 (CM ad cy) D cy ad A) := by
  refine MetX.of (own := RX2) (by decide) rfl (Nat.le_of_ble_eq_true rfl) ?_
  intro p e s m below meth c A Q ls X hr hlk hZ hA hQ hW hl
  have hl : lv_has ls 6 [(0, .ref (ad 0)), (1, .int v1), (2, .int v2)] := hl
  have hx := X.1
  have hb := X.2.1
  have hL52 : ∀ (v1_L52 : Int32) (k80 : Mem → Option (Int32 × Mem)) (hJ80 : ∀  (M_80x : Mem) (H : Heap) (locs : List Loc) (ls : Array Slot), k80 M_80x = some (r, M') → Wd D 20 ad (CM ad cy) A s.heap M_80x H locs → lv_has ls 6 [(0, .ref (ad 0))] → W p l e (rmD 4) s m ([.ref (ad 0), .int v1, .int v2] : List Value).toArray below meth c H locs 0 0 Q (F0 m 80 ls [])) (n : Nat) (v3_L52 : Int64) (v5_L52 : Int32) (M_L52 : Mem) (H : Heap) (locs : List Loc) (ls : Array Slot), f_X2_lots_L52 v1_L52 k80 n v3_L52 v5_L52 M_L52 = some (r, M') → Wd D 20 ad (CM ad cy) A s.heap M_L52 H locs → lv_has ls 6 [(0, .ref (ad 0)), (1, .int v1_L52), (3, .long v3_L52), (5, .int v5_L52)] → W p l e (rmD 4) s m ([.ref (ad 0), .int v1, .int v2] : List Value).toArray below meth c H locs 0 0 Q (F0 m 52 ls []) := by
    intro v1_L52 k80 hJ80 n
    induction n with
    | zero =>
      intro v3_L52 v5_L52 M_L52 H locs ls hf
      cases (show (none : Option (Int32 × Mem)) = some (r, M') from hf)
    | succ n ih =>
      intro v3_L52 v5_L52 M_L52 H locs ls hf hW hl
      rw [f_X2_lots_L52] at hf
      refine lv_iload hx hb dX2_lots_52 (lv_at hl 3 rfl) ?_
      refine lv_iload_n hx hb dX2_lots_54 rfl (lv_at hl 1 rfl) ?_
      refine lv_icmp_ge (tgt := 80) hx hb dX2_lots_55 (by decide) (fun hc => ?_) (fun hc => ?_)
      · replace hf := ifp hc hf
        exact hJ80 M_L52 H locs ls hf hW (lv_sub hl [0] rfl)
      · replace hf := ifn hc hf
        refine lv_lload_n hx hb dX2_lots_58 rfl (lv_at hl 2 rfl) ?_
        refine lv_ldc2 (v := 48271) hx hb X.2.2.2.1 (X.2.2.2.2.1 _ qk_X2_214) dX2_lots_59 ?_
        refine lv_lmul hx hb dX2_lots_62 ?_
        refine lv_ldc2 (v := 2147483647) hx hb X.2.2.2.1 (X.2.2.2.2.1 _ qk_X2_216) dX2_lots_63 ?_
        refine r_lrem hx hb dX2_lots_66 (by decide) ?_
        refine lv_lstore_n (lv' := [(3, .long (lrm (v3_L52 * 48271) 2147483647)), (0, .ref (ad 0)), (1, .int v1_L52), (5, .int v5_L52)]) hx hb dX2_lots_67 rfl hl (by decide) rfl (fun ls hl => ?_)
        refine lv_aload_n hx hb dX2_lots_68 rfl (lv_at hl 1 rfl) ?_
        refine lv_lload_n hx hb dX2_lots_69 rfl (lv_at hl 0 rfl) ?_
        refine lv_l2i (v := ((lrm (v3_L52 * 48271) 2147483647)).toInt32) hx hb dX2_lots_70 rfl ?_
        obtain ⟨M71, h71, hf⟩ := bR_some hf
        refine g_callvV X hl.1 hZ hA hW (c_X2_lot l D cy ad h71) cw_X2_lot ql_X2_218 iO_X2 rfl (by decide) rfl (Nat.le_of_ble_eq_true rfl) dX2_lots_71 (fun H locs hW => ?_)
        refine lv_iinc (v := (v5_L52 + 1)) (lv' := [(5, .int (v5_L52 + 1)), (3, .long (lrm (v3_L52 * 48271) 2147483647)), (0, .ref (ad 0)), (1, .int v1_L52)]) hx hb dX2_lots_74 hl (k := 3) rfl rfl (by decide) rfl (fun ls hl => ?_)
        refine lv_goto (tgt := 52) hx hb dX2_lots_77 (by decide) ?_
        exact ih (lrm (v3_L52 * 48271) 2147483647) (v5_L52 + 1) M71 H locs ls hf hW (lv_sub hl [2, 3, 1, 0] rfl)
  obtain ⟨H, hH⟩ : ∃ H, H = s.heap := ⟨_, rfl⟩
  obtain ⟨locs, hlo⟩ : ∃ q : List Loc, q = [] := ⟨_, rfl⟩
  have hW : Wd D 20 ad (CM ad cy) A s.heap M H locs := by rw [hH, hlo]; exact hW
  suffices hh : W p l e (rmD 4) s m ([.ref (ad 0), .int v1, .int v2] : List Value).toArray below meth c H locs 0 0 Q (F0 m 0 ls []) by rw [hH, hlo] at hh; exact hh
  unfold f_X2_lots at hf
  refine lv_iload_n hx hb dX2_lots_0 rfl (lv_at hl 1 rfl) ?_
  refine lv_iconst (v := 1) hx hb dX2_lots_1 (by decide) ?_
  refine lv_bipush (v := 20) hx hb dX2_lots_2 (by decide) ?_
  obtain ⟨r4, h4, hf⟩ := bR_some hf
  refine g_calliS X hl.1 hZ hA hW (c_X2_in l D cy ad h4) cs_X2_in ql_X2_82 rfl (by decide) rfl (Nat.le_of_ble_eq_true rfl) dX2_lots_4 (fun H locs hW => ?_)
  refine lv_if_eq (tgt := 20) hx hb dX2_lots_7 (by decide) (fun hc => ?_) (fun hc => ?_)
  · replace hf := ifp hc hf
    refine lv_iconst (v := (-1)) hx hb dX2_lots_20 (by decide) ?_
    exact g_iret X hr hlk hQ hW dX2_lots_21 hf
  · replace hf := ifn hc hf
    refine lv_iload_n hx hb dX2_lots_10 rfl (lv_at hl 2 rfl) ?_
    refine lv_iconst (v := 1) hx hb dX2_lots_11 (by decide) ?_
    refine lv_ldc (v := 2147483646) hx hb X.2.2.2.1 (X.2.2.2.2.1 _ qk_X2_213) dX2_lots_12 ?_
    obtain ⟨r14, h14, hf⟩ := bR_some hf
    refine g_calliS X hl.1 hZ hA hW (c_X2_in l D cy ad h14) cs_X2_in ql_X2_82 rfl (by decide) rfl (Nat.le_of_ble_eq_true rfl) dX2_lots_14 (fun H locs hW => ?_)
    refine lv_if_ne (tgt := 22) hx hb dX2_lots_17 (by decide) (fun hc => ?_) (fun hc => ?_)
    · replace hf := ifn hc hf
      refine lv_aload_n hx hb dX2_lots_22 rfl (lv_at hl 0 rfl) ?_
      refine gf_X2_79 X hW dX2_lots_23 ?_
      refine lv_if_ne (tgt := 32) hx hb dX2_lots_26 (by decide) (fun hc => ?_) (fun hc => ?_)
      · replace hf := ifn hc hf
        refine lv_aload_n hx hb dX2_lots_32 rfl (lv_at hl 0 rfl) ?_
        refine gf_X2_121 X hW dX2_lots_33 ?_
        refine lv_iload_n hx hb dX2_lots_36 rfl (lv_at hl 1 rfl) ?_
        refine lv_iadd hx hb dX2_lots_37 ?_
        refine lv_bipush (v := 40) hx hb dX2_lots_38 (by decide) ?_
        refine lv_icmp_le (tgt := 46) hx hb dX2_lots_40 (by decide) (fun hc => ?_) (fun hc => ?_)
        · replace hf := ifp hc hf
          refine lv_iload_n hx hb dX2_lots_46 rfl (lv_at hl 2 rfl) ?_
          refine lv_i2l (v := v2.toInt64) hx hb dX2_lots_47 rfl ?_
          refine lv_lstore_n (lv' := [(3, .long v2.toInt64), (0, .ref (ad 0)), (1, .int v1), (2, .int v2)]) hx hb dX2_lots_48 rfl hl (by decide) rfl (fun ls hl => ?_)
          refine lv_iconst (v := 0) hx hb dX2_lots_49 (by decide) ?_
          refine lv_istore (lv' := [(5, .int 0), (3, .long v2.toInt64), (0, .ref (ad 0)), (1, .int v1), (2, .int v2)]) hx hb dX2_lots_50 hl (by decide) rfl (fun ls hl => ?_)
          obtain ⟨k80, hk80, hf⟩ := jn_some1 hf
          have hJ80 : ∀  (M_80x : Mem) (H : Heap) (locs : List Loc) (ls : Array Slot), k80 M_80x = some (r, M') → Wd D 20 ad (CM ad cy) A s.heap M_80x H locs → lv_has ls 6 [(0, .ref (ad 0))] → W p l e (rmD 4) s m ([.ref (ad 0), .int v1, .int v2] : List Value).toArray below meth c H locs 0 0 Q (F0 m 80 ls []) := by
            intro M_80x H locs ls hf hW hl
            rw [hk80] at hf
            refine lv_aload_n hx hb dX2_lots_80 rfl (lv_at hl 0 rfl) ?_
            refine lv_aload_n hx hb dX2_lots_81 rfl (lv_at hl 0 rfl) ?_
            refine gf_X2_31 X hW dX2_lots_82 ?_
            obtain ⟨r85, h85, hf⟩ := bR_some hf
            refine g_calliV X hl.1 hZ hA hW (c_X2_pulses l D cy ad iM_st h85) cw_X2_pulses ql_X2_162 iO_X2 rfl (by decide) rfl (Nat.le_of_ble_eq_true rfl) dX2_lots_85 (fun H locs hW => ?_)
            exact g_iret X hr hlk hQ hW dX2_lots_88 hf
          exact hL52 v1 k80 hJ80 FU v2.toInt64 0 M H locs ls hf hW (lv_sub hl [2, 3, 1, 0] rfl)
        · replace hf := ifn hc hf
          refine lv_bipush (v := (-2)) hx hb dX2_lots_43 (by decide) ?_
          exact g_iret X hr hlk hQ hW dX2_lots_45 hf
      · replace hf := ifp hc hf
        refine lv_bipush (v := (-4)) hx hb dX2_lots_29 (by decide) ?_
        exact g_iret X hr hlk hQ hW dX2_lots_31 hf
    · replace hf := ifp hc hf
      refine lv_iconst (v := (-1)) hx hb dX2_lots_20 (by decide) ?_
      exact g_iret X hr hlk hQ hW dX2_lots_21 hf

def f_X2_asked (M : Mem) : Option Int32 :=
  (some (M.1 0 14))
set_option maxHeartbeats 4000000 in
set_option maxRecDepth 100000 in
theorem c_X2_asked (l : Launch) (D : va_G) (cy : Nat → ClassId) (ad : Nat → Nat)    {M : Mem} {r : Int32} (hf : f_X2_asked M = some r) : MetX l 20 (CM ad cy) D cy ad yX2_asked cX2_asked 1 (some .int) 0 [.ref (ad 0)] M (fun A => QI r M 20 (CM ad cy) D cy ad A) := by
  refine MetX.of (own := RX2) (by decide) rfl (Nat.le_of_ble_eq_true rfl) ?_
  intro p e s m below meth c A Q ls X hr hlk hZ hA hQ hW hl
  have hl : lv_has ls 1 [(0, .ref (ad 0))] := hl
  have hx := X.1
  have hb := X.2.1
  obtain ⟨H, hH⟩ : ∃ H, H = s.heap := ⟨_, rfl⟩
  obtain ⟨locs, hlo⟩ : ∃ q : List Loc, q = [] := ⟨_, rfl⟩
  have hW : Wd D 20 ad (CM ad cy) A s.heap M H locs := by rw [hH, hlo]; exact hW
  suffices hh : W p l e (rmD 0) s m ([.ref (ad 0)] : List Value).toArray below meth c H locs 0 0 Q (F0 m 0 ls []) by rw [hH, hlo] at hh; exact hh
  unfold f_X2_asked at hf
  refine lv_aload_n hx hb dX2_asked_0 rfl (lv_at hl 0 rfl) ?_
  refine gf_X2_76 X hW dX2_asked_1 ?_
  exact g_iret X hr hlk hQ hW dX2_asked_4 (rd_some hf)

def f_X2_upper (M : Mem) : Option Int64 :=
  (some (M.2 0 15))
set_option maxHeartbeats 4000000 in
set_option maxRecDepth 100000 in
theorem c_X2_upper (l : Launch) (D : va_G) (cy : Nat → ClassId) (ad : Nat → Nat)    {M : Mem} {r : Int64} (hf : f_X2_upper M = some r) : MetX l 20 (CM ad cy) D cy ad yX2_upper cX2_upper 1 (some .long) 0 [.ref (ad 0)] M (fun A => QL r M 20 (CM ad cy) D cy ad A) := by
  refine MetX.of (own := RX2) (by decide) rfl (Nat.le_of_ble_eq_true rfl) ?_
  intro p e s m below meth c A Q ls X hr hlk hZ hA hQ hW hl
  have hl : lv_has ls 1 [(0, .ref (ad 0))] := hl
  have hx := X.1
  have hb := X.2.1
  obtain ⟨H, hH⟩ : ∃ H, H = s.heap := ⟨_, rfl⟩
  obtain ⟨locs, hlo⟩ : ∃ q : List Loc, q = [] := ⟨_, rfl⟩
  have hW : Wd D 20 ad (CM ad cy) A s.heap M H locs := by rw [hH, hlo]; exact hW
  suffices hh : W p l e (rmD 0) s m ([.ref (ad 0)] : List Value).toArray below meth c H locs 0 0 Q (F0 m 0 ls []) by rw [hH, hlo] at hh; exact hh
  unfold f_X2_upper at hf
  refine lv_aload_n hx hb dX2_upper_0 rfl (lv_at hl 0 rfl) ?_
  refine gf_X2_203 X hW dX2_upper_1 ?_
  exact g_lret X hr hlk hQ hW dX2_upper_4 (rd_some hf)

def f_X2_lower (M : Mem) : Option Int64 :=
  (some (M.2 0 16))
set_option maxHeartbeats 4000000 in
set_option maxRecDepth 100000 in
theorem c_X2_lower (l : Launch) (D : va_G) (cy : Nat → ClassId) (ad : Nat → Nat)    {M : Mem} {r : Int64} (hf : f_X2_lower M = some r) : MetX l 20 (CM ad cy) D cy ad yX2_lower cX2_lower 1 (some .long) 0 [.ref (ad 0)] M (fun A => QL r M 20 (CM ad cy) D cy ad A) := by
  refine MetX.of (own := RX2) (by decide) rfl (Nat.le_of_ble_eq_true rfl) ?_
  intro p e s m below meth c A Q ls X hr hlk hZ hA hQ hW hl
  have hl : lv_has ls 1 [(0, .ref (ad 0))] := hl
  have hx := X.1
  have hb := X.2.1
  obtain ⟨H, hH⟩ : ∃ H, H = s.heap := ⟨_, rfl⟩
  obtain ⟨locs, hlo⟩ : ∃ q : List Loc, q = [] := ⟨_, rfl⟩
  have hW : Wd D 20 ad (CM ad cy) A s.heap M H locs := by rw [hH, hlo]; exact hW
  suffices hh : W p l e (rmD 0) s m ([.ref (ad 0)] : List Value).toArray below meth c H locs 0 0 Q (F0 m 0 ls []) by rw [hH, hlo] at hh; exact hh
  unfold f_X2_lower at hf
  refine lv_aload_n hx hb dX2_lower_0 rfl (lv_at hl 0 rfl) ?_
  refine gf_X2_47 X hW dX2_lower_1 ?_
  exact g_lret X hr hlk hQ hW dX2_lower_4 (rd_some hf)

def f_X2_slots_L4 (M : Mem) : Nat → Int32 → Int32 → Option Int32
  | 0, _, _ => none
  | n + 1, v1_L4, v2_L4 => (if (M.1 0 4) ≤ v2_L4 then (some v1_L4) else (grd (inb v2_L4 7) (f_X2_slots_L4 M n (v1_L4 + (M.1 6 (ix v2_L4))) (v2_L4 + 1))))
def f_X2_slots (M : Mem) : Option Int32 :=
  (f_X2_slots_L4 M FU 0 0)
set_option maxHeartbeats 4000000 in
set_option maxRecDepth 100000 in
theorem c_X2_slots (l : Launch) (D : va_G) (cy : Nat → ClassId) (ad : Nat → Nat)    {M : Mem} {r : Int32} (hf : f_X2_slots M = some r) : MetX l 20 (CM ad cy) D cy ad yX2_slots cX2_slots 3 (some .int) 0 [.ref (ad 0)] M (fun A => QI r M 20 (CM ad cy) D cy ad A) := by
  refine MetX.of (own := RX2) (by decide) rfl (Nat.le_of_ble_eq_true rfl) ?_
  intro p e s m below meth c A Q ls X hr hlk hZ hA hQ hW hl
  have hl : lv_has ls 3 [(0, .ref (ad 0))] := hl
  have hx := X.1
  have hb := X.2.1
  have hL4 : ∀   (n : Nat) (v1_L4 : Int32) (v2_L4 : Int32) (H : Heap) (locs : List Loc) (ls : Array Slot), f_X2_slots_L4 M n v1_L4 v2_L4 = some r → Wd D 20 ad (CM ad cy) A s.heap M H locs → lv_has ls 3 [(0, .ref (ad 0)), (1, .int v1_L4), (2, .int v2_L4)] → W p l e (rmD 0) s m ([.ref (ad 0)] : List Value).toArray below meth c H locs 0 0 Q (F0 m 4 ls []) := by
    intro  n
    induction n with
    | zero =>
      intro v1_L4 v2_L4 H locs ls hf
      cases (show (none : Option Int32) = some r from hf)
    | succ n ih =>
      intro v1_L4 v2_L4 H locs ls hf hW hl
      rw [f_X2_slots_L4] at hf
      refine lv_iload_n hx hb dX2_slots_4 rfl (lv_at hl 2 rfl) ?_
      refine lv_aload_n hx hb dX2_slots_5 rfl (lv_at hl 0 rfl) ?_
      refine gf_X2_79 X hW dX2_slots_6 ?_
      refine lv_icmp_ge (tgt := 27) hx hb dX2_slots_9 (by decide) (fun hc => ?_) (fun hc => ?_)
      · replace hf := ifp hc hf
        refine lv_iload_n hx hb dX2_slots_27 rfl (lv_at hl 1 rfl) ?_
        exact g_iret X hr hlk hQ hW dX2_slots_28 (rd_some hf)
      · replace hf := ifn hc hf
        refine lv_iload_n hx hb dX2_slots_12 rfl (lv_at hl 1 rfl) ?_
        refine lv_aload_n hx hb dX2_slots_13 rfl (lv_at hl 0 rfl) ?_
        refine gf_X2_25 X hW dX2_slots_14 ?_
        refine lv_iload_n hx hb dX2_slots_17 rfl (lv_at hl 2 rfl) ?_
        obtain ⟨hi18, hf⟩ := grd_some hf
        refine g_iald X hW iM_size hi18 dX2_slots_18 ?_
        refine lv_iadd hx hb dX2_slots_19 ?_
        refine lv_istore_n (lv' := [(1, .int (v1_L4 + (M.1 6 (ix v2_L4)))), (0, .ref (ad 0)), (2, .int v2_L4)]) hx hb dX2_slots_20 rfl hl (by decide) rfl (fun ls hl => ?_)
        refine lv_iinc (v := (v2_L4 + 1)) (lv' := [(2, .int (v2_L4 + 1)), (1, .int (v1_L4 + (M.1 6 (ix v2_L4)))), (0, .ref (ad 0))]) hx hb dX2_slots_21 hl (k := 2) rfl rfl (by decide) rfl (fun ls hl => ?_)
        refine lv_goto (tgt := 4) hx hb dX2_slots_24 (by decide) ?_
        exact ih (v1_L4 + (M.1 6 (ix v2_L4))) (v2_L4 + 1) H locs ls hf hW (lv_sub hl [2, 1, 0] rfl)
  obtain ⟨H, hH⟩ : ∃ H, H = s.heap := ⟨_, rfl⟩
  obtain ⟨locs, hlo⟩ : ∃ q : List Loc, q = [] := ⟨_, rfl⟩
  have hW : Wd D 20 ad (CM ad cy) A s.heap M H locs := by rw [hH, hlo]; exact hW
  suffices hh : W p l e (rmD 0) s m ([.ref (ad 0)] : List Value).toArray below meth c H locs 0 0 Q (F0 m 0 ls []) by rw [hH, hlo] at hh; exact hh
  unfold f_X2_slots at hf
  refine lv_iconst (v := 0) hx hb dX2_slots_0 (by decide) ?_
  refine lv_istore_n (lv' := [(1, .int 0), (0, .ref (ad 0))]) hx hb dX2_slots_1 rfl hl (by decide) rfl (fun ls hl => ?_)
  refine lv_iconst (v := 0) hx hb dX2_slots_2 (by decide) ?_
  refine lv_istore_n (lv' := [(2, .int 0), (1, .int 0), (0, .ref (ad 0))]) hx hb dX2_slots_3 rfl hl (by decide) rfl (fun ls hl => ?_)
  exact hL4  FU 0 0 H locs ls hf hW (lv_sub hl [2, 1, 0] rfl)

def f_X2_empties_L4 (M : Mem) : Nat → Int32 → Int32 → Option Int32
  | 0, _, _ => none
  | n + 1, v1_L4, v2_L4 => (if (M.1 0 4) ≤ v2_L4 then (some v1_L4) else (grd (inb (1 + v2_L4) 15) (jn (fun (k31 : Int32 → Option Int32) => (if (M.1 8 (ix (1 + v2_L4))) = 0 then (k31 (shl 1 v2_L4)) else (k31 0))) (fun (t0_31j : Int32) => (f_X2_empties_L4 M n (v1_L4 ||| t0_31j) (v2_L4 + 1))))))
def f_X2_empties (M : Mem) : Option Int32 :=
  (f_X2_empties_L4 M FU 0 0)
set_option maxHeartbeats 4000000 in
set_option maxRecDepth 100000 in
theorem c_X2_empties (l : Launch) (D : va_G) (cy : Nat → ClassId) (ad : Nat → Nat)    {M : Mem} {r : Int32} (hf : f_X2_empties M = some r) : MetX l 20 (CM ad cy) D cy ad yX2_empties cX2_empties 3 (some .int) 0 [.ref (ad 0)] M (fun A => QI r M 20 (CM ad cy) D cy ad A) := by
  refine MetX.of (own := RX2) (by decide) rfl (Nat.le_of_ble_eq_true rfl) ?_
  intro p e s m below meth c A Q ls X hr hlk hZ hA hQ hW hl
  have hl : lv_has ls 3 [(0, .ref (ad 0))] := hl
  have hx := X.1
  have hb := X.2.1
  have hL4 : ∀   (n : Nat) (v1_L4 : Int32) (v2_L4 : Int32) (H : Heap) (locs : List Loc) (ls : Array Slot), f_X2_empties_L4 M n v1_L4 v2_L4 = some r → Wd D 20 ad (CM ad cy) A s.heap M H locs → lv_has ls 3 [(0, .ref (ad 0)), (1, .int v1_L4), (2, .int v2_L4)] → W p l e (rmD 0) s m ([.ref (ad 0)] : List Value).toArray below meth c H locs 0 0 Q (F0 m 4 ls []) := by
    intro  n
    induction n with
    | zero =>
      intro v1_L4 v2_L4 H locs ls hf
      cases (show (none : Option Int32) = some r from hf)
    | succ n ih =>
      intro v1_L4 v2_L4 H locs ls hf hW hl
      rw [f_X2_empties_L4] at hf
      refine lv_iload_n hx hb dX2_empties_4 rfl (lv_at hl 2 rfl) ?_
      refine lv_aload_n hx hb dX2_empties_5 rfl (lv_at hl 0 rfl) ?_
      refine gf_X2_79 X hW dX2_empties_6 ?_
      refine lv_icmp_ge (tgt := 39) hx hb dX2_empties_9 (by decide) (fun hc => ?_) (fun hc => ?_)
      · replace hf := ifp hc hf
        refine lv_iload_n hx hb dX2_empties_39 rfl (lv_at hl 1 rfl) ?_
        exact g_iret X hr hlk hQ hW dX2_empties_40 (rd_some hf)
      · replace hf := ifn hc hf
        refine lv_iload_n hx hb dX2_empties_12 rfl (lv_at hl 1 rfl) ?_
        refine lv_aload_n hx hb dX2_empties_13 rfl (lv_at hl 0 rfl) ?_
        refine gf_X2_31 X hW dX2_empties_14 ?_
        refine lv_iconst (v := 1) hx hb dX2_empties_17 (by decide) ?_
        refine lv_iload_n hx hb dX2_empties_18 rfl (lv_at hl 2 rfl) ?_
        refine lv_iadd hx hb dX2_empties_19 ?_
        obtain ⟨hi20, hf⟩ := grd_some hf
        refine g_iald X hW iM_st hi20 dX2_empties_20 ?_
        obtain ⟨k31, hk31, hf⟩ := jn_some1 hf
        have hJ31 : ∀ (t0_31j : Int32) (H : Heap) (locs : List Loc) (ls : Array Slot), k31 t0_31j = some r → Wd D 20 ad (CM ad cy) A s.heap M H locs → lv_has ls 3 [(0, .ref (ad 0)), (2, .int v2_L4)] → W p l e (rmD 0) s m ([.ref (ad 0)] : List Value).toArray below meth c H locs 0 0 Q (F0 m 31 ls [.int t0_31j, .int v1_L4]) := by
          intro t0_31j H locs ls hf hW hl
          rw [hk31] at hf
          refine lv_ior hx hb dX2_empties_31 ?_
          refine lv_istore_n (lv' := [(1, .int (v1_L4 ||| t0_31j)), (0, .ref (ad 0)), (2, .int v2_L4)]) hx hb dX2_empties_32 rfl hl (by decide) rfl (fun ls hl => ?_)
          refine lv_iinc (v := (v2_L4 + 1)) (lv' := [(2, .int (v2_L4 + 1)), (1, .int (v1_L4 ||| t0_31j)), (0, .ref (ad 0))]) hx hb dX2_empties_33 hl (k := 2) rfl rfl (by decide) rfl (fun ls hl => ?_)
          refine lv_goto (tgt := 4) hx hb dX2_empties_36 (by decide) ?_
          exact ih (v1_L4 ||| t0_31j) (v2_L4 + 1) H locs ls hf hW (lv_sub hl [2, 1, 0] rfl)
        refine lv_if_ne (tgt := 30) hx hb dX2_empties_21 (by decide) (fun hc => ?_) (fun hc => ?_)
        · replace hf := ifn hc hf
          refine lv_iconst (v := 0) hx hb dX2_empties_30 (by decide) ?_
          exact hJ31 0 H locs ls hf hW (lv_sub hl [0, 2] rfl)
        · replace hf := ifp hc hf
          refine lv_iconst (v := 1) hx hb dX2_empties_24 (by decide) ?_
          refine lv_iload_n hx hb dX2_empties_25 rfl (lv_at hl 2 rfl) ?_
          refine r_ishl hx hb dX2_empties_26 ?_
          refine lv_goto (tgt := 31) hx hb dX2_empties_27 (by decide) ?_
          exact hJ31 (shl 1 v2_L4) H locs ls hf hW (lv_sub hl [0, 2] rfl)
  obtain ⟨H, hH⟩ : ∃ H, H = s.heap := ⟨_, rfl⟩
  obtain ⟨locs, hlo⟩ : ∃ q : List Loc, q = [] := ⟨_, rfl⟩
  have hW : Wd D 20 ad (CM ad cy) A s.heap M H locs := by rw [hH, hlo]; exact hW
  suffices hh : W p l e (rmD 0) s m ([.ref (ad 0)] : List Value).toArray below meth c H locs 0 0 Q (F0 m 0 ls []) by rw [hH, hlo] at hh; exact hh
  unfold f_X2_empties at hf
  refine lv_iconst (v := 0) hx hb dX2_empties_0 (by decide) ?_
  refine lv_istore_n (lv' := [(1, .int 0), (0, .ref (ad 0))]) hx hb dX2_empties_1 rfl hl (by decide) rfl (fun ls hl => ?_)
  refine lv_iconst (v := 0) hx hb dX2_empties_2 (by decide) ?_
  refine lv_istore_n (lv' := [(2, .int 0), (1, .int 0), (0, .ref (ad 0))]) hx hb dX2_empties_3 rfl hl (by decide) rfl (fun ls hl => ?_)
  exact hL4  FU 0 0 H locs ls hf hW (lv_sub hl [2, 1, 0] rfl)

def f_X2_there_L4 (k0 : Nat) (n0 : Nat) (M : Mem) : Nat → Int32 → Int32 → Option Int32
  | 0, _, _ => none
  | n + 1, v1_L4, v2_L4 => (if (nI n0) ≤ v2_L4 then (some v1_L4) else (grd (inb v2_L4 n0) (jn (fun (k22 : Int32 → Option Int32) => (if 0 ≤ (M.1 k0 (ix v2_L4)) then (k22 1) else (k22 0))) (fun (t0_22j : Int32) => (f_X2_there_L4 k0 n0 M n (v1_L4 + t0_22j) (v2_L4 + 1))))))
def f_X2_there (k0 : Nat) (n0 : Nat) (M : Mem) : Option Int32 :=
  (f_X2_there_L4 k0 n0 M FU 0 0)
set_option maxHeartbeats 4000000 in
set_option maxRecDepth 100000 in
theorem c_X2_there (l : Launch) (D : va_G) (cy : Nat → ClassId) (ad : Nat → Nat) {k0 : Nat} {n0 : Nat} (hA0 : isA (CM ad cy) 20 k0 (cy 0) n0)  {M : Mem} {r : Int32} (hf : f_X2_there k0 n0 M = some r) : MetX l 20 (CM ad cy) D cy ad yX2_there cX2_there 3 (some .int) 0 [.ref (ad k0)] M (fun A => QI r M 20 (CM ad cy) D cy ad A) := by
  refine MetX.of (own := RX2) (by decide) rfl (Nat.le_of_ble_eq_true rfl) ?_
  intro p e s m below meth c A Q ls X hr hlk hZ hA hQ hW hl
  have hl : lv_has ls 3 [(0, .ref (ad k0))] := hl
  have hx := X.1
  have hb := X.2.1
  have hL4 : ∀   (n : Nat) (v1_L4 : Int32) (v2_L4 : Int32) (H : Heap) (locs : List Loc) (ls : Array Slot), f_X2_there_L4 k0 n0 M n v1_L4 v2_L4 = some r → Wd D 20 ad (CM ad cy) A s.heap M H locs → lv_has ls 3 [(0, .ref (ad k0)), (1, .int v1_L4), (2, .int v2_L4)] → W p l e (rmD 0) s m ([.ref (ad k0)] : List Value).toArray below meth c H locs 0 0 Q (F0 m 4 ls []) := by
    intro  n
    induction n with
    | zero =>
      intro v1_L4 v2_L4 H locs ls hf
      cases (show (none : Option Int32) = some r from hf)
    | succ n ih =>
      intro v1_L4 v2_L4 H locs ls hf hW hl
      rw [f_X2_there_L4] at hf
      refine lv_iload_n hx hb dX2_there_4 rfl (lv_at hl 2 rfl) ?_
      refine lv_aload_n hx hb dX2_there_5 rfl (lv_at hl 0 rfl) ?_
      refine g_alen X hW (t0 := 0) hA0 rfl dX2_there_6 ?_
      refine lv_icmp_ge (tgt := 30) hx hb dX2_there_7 (by decide) (fun hc => ?_) (fun hc => ?_)
      · replace hf := ifp hc hf
        refine lv_iload_n hx hb dX2_there_30 rfl (lv_at hl 1 rfl) ?_
        exact g_iret X hr hlk hQ hW dX2_there_31 (rd_some hf)
      · replace hf := ifn hc hf
        refine lv_iload_n hx hb dX2_there_10 rfl (lv_at hl 1 rfl) ?_
        refine lv_aload_n hx hb dX2_there_11 rfl (lv_at hl 0 rfl) ?_
        refine lv_iload_n hx hb dX2_there_12 rfl (lv_at hl 2 rfl) ?_
        obtain ⟨hi13, hf⟩ := grd_some hf
        refine g_iald X hW hA0 hi13 dX2_there_13 ?_
        obtain ⟨k22, hk22, hf⟩ := jn_some1 hf
        have hJ22 : ∀ (t0_22j : Int32) (H : Heap) (locs : List Loc) (ls : Array Slot), k22 t0_22j = some r → Wd D 20 ad (CM ad cy) A s.heap M H locs → lv_has ls 3 [(0, .ref (ad k0)), (2, .int v2_L4)] → W p l e (rmD 0) s m ([.ref (ad k0)] : List Value).toArray below meth c H locs 0 0 Q (F0 m 22 ls [.int t0_22j, .int v1_L4]) := by
          intro t0_22j H locs ls hf hW hl
          rw [hk22] at hf
          refine lv_iadd hx hb dX2_there_22 ?_
          refine lv_istore_n (lv' := [(1, .int (v1_L4 + t0_22j)), (0, .ref (ad k0)), (2, .int v2_L4)]) hx hb dX2_there_23 rfl hl (by decide) rfl (fun ls hl => ?_)
          refine lv_iinc (v := (v2_L4 + 1)) (lv' := [(2, .int (v2_L4 + 1)), (1, .int (v1_L4 + t0_22j)), (0, .ref (ad k0))]) hx hb dX2_there_24 hl (k := 2) rfl rfl (by decide) rfl (fun ls hl => ?_)
          refine lv_goto (tgt := 4) hx hb dX2_there_27 (by decide) ?_
          exact ih (v1_L4 + t0_22j) (v2_L4 + 1) H locs ls hf hW (lv_sub hl [2, 1, 0] rfl)
        refine lv_if_ge (tgt := 21) hx hb dX2_there_14 (by decide) (fun hc => ?_) (fun hc => ?_)
        · replace hf := ifp hc hf
          refine lv_iconst (v := 1) hx hb dX2_there_21 (by decide) ?_
          exact hJ22 1 H locs ls hf hW (lv_sub hl [0, 2] rfl)
        · replace hf := ifn hc hf
          refine lv_iconst (v := 0) hx hb dX2_there_17 (by decide) ?_
          refine lv_goto (tgt := 22) hx hb dX2_there_18 (by decide) ?_
          exact hJ22 0 H locs ls hf hW (lv_sub hl [0, 2] rfl)
  obtain ⟨H, hH⟩ : ∃ H, H = s.heap := ⟨_, rfl⟩
  obtain ⟨locs, hlo⟩ : ∃ q : List Loc, q = [] := ⟨_, rfl⟩
  have hW : Wd D 20 ad (CM ad cy) A s.heap M H locs := by rw [hH, hlo]; exact hW
  suffices hh : W p l e (rmD 0) s m ([.ref (ad k0)] : List Value).toArray below meth c H locs 0 0 Q (F0 m 0 ls []) by rw [hH, hlo] at hh; exact hh
  unfold f_X2_there at hf
  refine lv_iconst (v := 0) hx hb dX2_there_0 (by decide) ?_
  refine lv_istore_n (lv' := [(1, .int 0), (0, .ref (ad k0))]) hx hb dX2_there_1 rfl hl (by decide) rfl (fun ls hl => ?_)
  refine lv_iconst (v := 0) hx hb dX2_there_2 (by decide) ?_
  refine lv_istore_n (lv' := [(2, .int 0), (1, .int 0), (0, .ref (ad k0))]) hx hb dX2_there_3 rfl hl (by decide) rfl (fun ls hl => ?_)
  exact hL4  FU 0 0 H locs ls hf hW (lv_sub hl [2, 1, 0] rfl)

def f_X2_keptMany_L4 (M : Mem) : Nat → Int32 → Int32 → Option Int32
  | 0, _, _ => none
  | n + 1, v1_L4, v2_L4 => (if 3 ≤ v2_L4 then (some v1_L4) else (grd (inb v2_L4 3) (jn (fun (k24 : Int32 → Option Int32) => (if (M.1 12 (ix v2_L4)) = 0 then (k24 0) else (k24 1))) (fun (t0_24j : Int32) => (f_X2_keptMany_L4 M n (v1_L4 + t0_24j) (v2_L4 + 1))))))
def f_X2_keptMany (M : Mem) : Option Int32 :=
  (f_X2_keptMany_L4 M FU 0 0)
set_option maxHeartbeats 4000000 in
set_option maxRecDepth 100000 in
theorem c_X2_keptMany (l : Launch) (D : va_G) (cy : Nat → ClassId) (ad : Nat → Nat)    {M : Mem} {r : Int32} (hf : f_X2_keptMany M = some r) : MetX l 20 (CM ad cy) D cy ad yX2_keptMany cX2_keptMany 3 (some .int) 0 [.ref (ad 0)] M (fun A => QI r M 20 (CM ad cy) D cy ad A) := by
  refine MetX.of (own := RX2) (by decide) rfl (Nat.le_of_ble_eq_true rfl) ?_
  intro p e s m below meth c A Q ls X hr hlk hZ hA hQ hW hl
  have hl : lv_has ls 3 [(0, .ref (ad 0))] := hl
  have hx := X.1
  have hb := X.2.1
  have hL4 : ∀   (n : Nat) (v1_L4 : Int32) (v2_L4 : Int32) (H : Heap) (locs : List Loc) (ls : Array Slot), f_X2_keptMany_L4 M n v1_L4 v2_L4 = some r → Wd D 20 ad (CM ad cy) A s.heap M H locs → lv_has ls 3 [(0, .ref (ad 0)), (1, .int v1_L4), (2, .int v2_L4)] → W p l e (rmD 0) s m ([.ref (ad 0)] : List Value).toArray below meth c H locs 0 0 Q (F0 m 4 ls []) := by
    intro  n
    induction n with
    | zero =>
      intro v1_L4 v2_L4 H locs ls hf
      cases (show (none : Option Int32) = some r from hf)
    | succ n ih =>
      intro v1_L4 v2_L4 H locs ls hf hW hl
      rw [f_X2_keptMany_L4] at hf
      refine lv_iload_n hx hb dX2_keptMany_4 rfl (lv_at hl 2 rfl) ?_
      refine lv_iconst (v := 3) hx hb dX2_keptMany_5 (by decide) ?_
      refine lv_icmp_ge (tgt := 32) hx hb dX2_keptMany_6 (by decide) (fun hc => ?_) (fun hc => ?_)
      · replace hf := ifp hc hf
        refine lv_iload_n hx hb dX2_keptMany_32 rfl (lv_at hl 1 rfl) ?_
        exact g_iret X hr hlk hQ hW dX2_keptMany_33 (rd_some hf)
      · replace hf := ifn hc hf
        refine lv_iload_n hx hb dX2_keptMany_9 rfl (lv_at hl 1 rfl) ?_
        refine lv_aload_n hx hb dX2_keptMany_10 rfl (lv_at hl 0 rfl) ?_
        refine gf_X2_43 X hW dX2_keptMany_11 ?_
        refine lv_iload_n hx hb dX2_keptMany_14 rfl (lv_at hl 2 rfl) ?_
        obtain ⟨hi15, hf⟩ := grd_some hf
        refine g_zald X hW iM_isKept hi15 dX2_keptMany_15 ?_
        obtain ⟨k24, hk24, hf⟩ := jn_some1 hf
        have hJ24 : ∀ (t0_24j : Int32) (H : Heap) (locs : List Loc) (ls : Array Slot), k24 t0_24j = some r → Wd D 20 ad (CM ad cy) A s.heap M H locs → lv_has ls 3 [(0, .ref (ad 0)), (2, .int v2_L4)] → W p l e (rmD 0) s m ([.ref (ad 0)] : List Value).toArray below meth c H locs 0 0 Q (F0 m 24 ls [.int t0_24j, .int v1_L4]) := by
          intro t0_24j H locs ls hf hW hl
          rw [hk24] at hf
          refine lv_iadd hx hb dX2_keptMany_24 ?_
          refine lv_istore_n (lv' := [(1, .int (v1_L4 + t0_24j)), (0, .ref (ad 0)), (2, .int v2_L4)]) hx hb dX2_keptMany_25 rfl hl (by decide) rfl (fun ls hl => ?_)
          refine lv_iinc (v := (v2_L4 + 1)) (lv' := [(2, .int (v2_L4 + 1)), (1, .int (v1_L4 + t0_24j)), (0, .ref (ad 0))]) hx hb dX2_keptMany_26 hl (k := 2) rfl rfl (by decide) rfl (fun ls hl => ?_)
          refine lv_goto (tgt := 4) hx hb dX2_keptMany_29 (by decide) ?_
          exact ih (v1_L4 + t0_24j) (v2_L4 + 1) H locs ls hf hW (lv_sub hl [2, 1, 0] rfl)
        refine lv_if_eq (tgt := 23) hx hb dX2_keptMany_16 (by decide) (fun hc => ?_) (fun hc => ?_)
        · replace hf := ifp hc hf
          refine lv_iconst (v := 0) hx hb dX2_keptMany_23 (by decide) ?_
          exact hJ24 0 H locs ls hf hW (lv_sub hl [0, 2] rfl)
        · replace hf := ifn hc hf
          refine lv_iconst (v := 1) hx hb dX2_keptMany_19 (by decide) ?_
          refine lv_goto (tgt := 24) hx hb dX2_keptMany_20 (by decide) ?_
          exact hJ24 1 H locs ls hf hW (lv_sub hl [0, 2] rfl)
  obtain ⟨H, hH⟩ : ∃ H, H = s.heap := ⟨_, rfl⟩
  obtain ⟨locs, hlo⟩ : ∃ q : List Loc, q = [] := ⟨_, rfl⟩
  have hW : Wd D 20 ad (CM ad cy) A s.heap M H locs := by rw [hH, hlo]; exact hW
  suffices hh : W p l e (rmD 0) s m ([.ref (ad 0)] : List Value).toArray below meth c H locs 0 0 Q (F0 m 0 ls []) by rw [hH, hlo] at hh; exact hh
  unfold f_X2_keptMany at hf
  refine lv_iconst (v := 0) hx hb dX2_keptMany_0 (by decide) ?_
  refine lv_istore_n (lv' := [(1, .int 0), (0, .ref (ad 0))]) hx hb dX2_keptMany_1 rfl hl (by decide) rfl (fun ls hl => ?_)
  refine lv_iconst (v := 0) hx hb dX2_keptMany_2 (by decide) ?_
  refine lv_istore_n (lv' := [(2, .int 0), (1, .int 0), (0, .ref (ad 0))]) hx hb dX2_keptMany_3 rfl hl (by decide) rfl (fun ls hl => ?_)
  exact hL4  FU 0 0 H locs ls hf hW (lv_sub hl [2, 1, 0] rfl)

def f_X2_those_L4 (v1_L4 : Int32) (M : Mem) : Nat → Int32 → Int32 → Option Int32
  | 0, _, _ => none
  | n + 1, v2_L4, v3_L4 => (if (M.1 0 4) ≤ v3_L4 then (some v2_L4) else (bR (f_X2_isA v3_L4 v1_L4 M) (fun r16 => (jn (fun (k27 : Int32 → Option Int32) => (if r16 = 0 then (k27 0) else (k27 1))) (fun (t0_27j : Int32) => (f_X2_those_L4 v1_L4 M n (v2_L4 + t0_27j) (v3_L4 + 1)))))))
def f_X2_those (v1 : Int32) (M : Mem) : Option Int32 :=
  (f_X2_those_L4 v1 M FU 0 0)
set_option maxHeartbeats 4000000 in
set_option maxRecDepth 100000 in
theorem c_X2_those (l : Launch) (D : va_G) (cy : Nat → ClassId) (ad : Nat → Nat)   {v1 : Int32} {M : Mem} {r : Int32} (hf : f_X2_those v1 M = some r) : MetX l 20 (CM ad cy) D cy ad yX2_those cX2_those 4 (some .int) 1 [.ref (ad 0), .int v1] M (fun A => QI r M 20 (CM ad cy) D cy ad A) := by
  refine MetX.of (own := RX2) (by decide) rfl (Nat.le_of_ble_eq_true rfl) ?_
  intro p e s m below meth c A Q ls X hr hlk hZ hA hQ hW hl
  have hl : lv_has ls 4 [(0, .ref (ad 0)), (1, .int v1)] := hl
  have hx := X.1
  have hb := X.2.1
  have hL4 : ∀ (v1_L4 : Int32)  (n : Nat) (v2_L4 : Int32) (v3_L4 : Int32) (H : Heap) (locs : List Loc) (ls : Array Slot), f_X2_those_L4 v1_L4 M n v2_L4 v3_L4 = some r → Wd D 20 ad (CM ad cy) A s.heap M H locs → lv_has ls 4 [(0, .ref (ad 0)), (1, .int v1_L4), (2, .int v2_L4), (3, .int v3_L4)] → W p l e (rmD 1) s m ([.ref (ad 0), .int v1] : List Value).toArray below meth c H locs 0 0 Q (F0 m 4 ls []) := by
    intro v1_L4 n
    induction n with
    | zero =>
      intro v2_L4 v3_L4 H locs ls hf
      cases (show (none : Option Int32) = some r from hf)
    | succ n ih =>
      intro v2_L4 v3_L4 H locs ls hf hW hl
      rw [f_X2_those_L4] at hf
      refine lv_iload_n hx hb dX2_those_4 rfl (lv_at hl 3 rfl) ?_
      refine lv_aload_n hx hb dX2_those_5 rfl (lv_at hl 0 rfl) ?_
      refine gf_X2_79 X hW dX2_those_6 ?_
      refine lv_icmp_ge (tgt := 35) hx hb dX2_those_9 (by decide) (fun hc => ?_) (fun hc => ?_)
      · replace hf := ifp hc hf
        refine lv_iload_n hx hb dX2_those_35 rfl (lv_at hl 2 rfl) ?_
        exact g_iret X hr hlk hQ hW dX2_those_36 (rd_some hf)
      · replace hf := ifn hc hf
        refine lv_iload_n hx hb dX2_those_12 rfl (lv_at hl 2 rfl) ?_
        refine lv_aload_n hx hb dX2_those_13 rfl (lv_at hl 0 rfl) ?_
        refine lv_iload_n hx hb dX2_those_14 rfl (lv_at hl 3 rfl) ?_
        refine lv_iload_n hx hb dX2_those_15 rfl (lv_at hl 1 rfl) ?_
        obtain ⟨r16, h16, hf⟩ := bR_some hf
        refine g_calliV X hl.1 hZ hA hW (c_X2_isA l D cy ad h16) cw_X2_isA ql_X2_151 iO_X2 rfl (by decide) rfl (Nat.le_of_ble_eq_true rfl) dX2_those_16 (fun H locs hW => ?_)
        obtain ⟨k27, hk27, hf⟩ := jn_some1 hf
        have hJ27 : ∀ (t0_27j : Int32) (H : Heap) (locs : List Loc) (ls : Array Slot), k27 t0_27j = some r → Wd D 20 ad (CM ad cy) A s.heap M H locs → lv_has ls 4 [(0, .ref (ad 0)), (1, .int v1_L4), (3, .int v3_L4)] → W p l e (rmD 1) s m ([.ref (ad 0), .int v1] : List Value).toArray below meth c H locs 0 0 Q (F0 m 27 ls [.int t0_27j, .int v2_L4]) := by
          intro t0_27j H locs ls hf hW hl
          rw [hk27] at hf
          refine lv_iadd hx hb dX2_those_27 ?_
          refine lv_istore_n (lv' := [(2, .int (v2_L4 + t0_27j)), (0, .ref (ad 0)), (1, .int v1_L4), (3, .int v3_L4)]) hx hb dX2_those_28 rfl hl (by decide) rfl (fun ls hl => ?_)
          refine lv_iinc (v := (v3_L4 + 1)) (lv' := [(3, .int (v3_L4 + 1)), (2, .int (v2_L4 + t0_27j)), (0, .ref (ad 0)), (1, .int v1_L4)]) hx hb dX2_those_29 hl (k := 3) rfl rfl (by decide) rfl (fun ls hl => ?_)
          refine lv_goto (tgt := 4) hx hb dX2_those_32 (by decide) ?_
          exact ih (v2_L4 + t0_27j) (v3_L4 + 1) H locs ls hf hW (lv_sub hl [2, 3, 1, 0] rfl)
        refine lv_if_eq (tgt := 26) hx hb dX2_those_19 (by decide) (fun hc => ?_) (fun hc => ?_)
        · replace hf := ifp hc hf
          refine lv_iconst (v := 0) hx hb dX2_those_26 (by decide) ?_
          exact hJ27 0 H locs ls hf hW (lv_sub hl [0, 1, 3] rfl)
        · replace hf := ifn hc hf
          refine lv_iconst (v := 1) hx hb dX2_those_22 (by decide) ?_
          refine lv_goto (tgt := 27) hx hb dX2_those_23 (by decide) ?_
          exact hJ27 1 H locs ls hf hW (lv_sub hl [0, 1, 3] rfl)
  obtain ⟨H, hH⟩ : ∃ H, H = s.heap := ⟨_, rfl⟩
  obtain ⟨locs, hlo⟩ : ∃ q : List Loc, q = [] := ⟨_, rfl⟩
  have hW : Wd D 20 ad (CM ad cy) A s.heap M H locs := by rw [hH, hlo]; exact hW
  suffices hh : W p l e (rmD 1) s m ([.ref (ad 0), .int v1] : List Value).toArray below meth c H locs 0 0 Q (F0 m 0 ls []) by rw [hH, hlo] at hh; exact hh
  unfold f_X2_those at hf
  refine lv_iconst (v := 0) hx hb dX2_those_0 (by decide) ?_
  refine lv_istore_n (lv' := [(2, .int 0), (0, .ref (ad 0)), (1, .int v1)]) hx hb dX2_those_1 rfl hl (by decide) rfl (fun ls hl => ?_)
  refine lv_iconst (v := 0) hx hb dX2_those_2 (by decide) ?_
  refine lv_istore_n (lv' := [(3, .int 0), (2, .int 0), (0, .ref (ad 0)), (1, .int v1)]) hx hb dX2_those_3 rfl hl (by decide) rfl (fun ls hl => ?_)
  exact hL4 v1 FU 0 0 H locs ls hf hW (lv_sub hl [2, 3, 1, 0] rfl)

def f_X2_count (v1 : Int32) (M : Mem) : Option Int32 :=
  (if v1 = 0 then (some (M.1 0 4)) else (if v1 = 1 then (grd (inb 0 15) (some (M.1 8 (ix 0)))) else (if v1 = 2 then (some (M.1 0 11)) else (if v1 = 3 then (bR (f_X2_pulses 8 15 M) (fun r82 => (some r82))) else (if v1 = 4 then (bR (f_X2_slots M) (fun r87 => (some r87))) else (if v1 = 5 then (bR (f_X2_empties M) (fun r92 => (some r92))) else (if v1 = 6 then (bR (f_X2_there 1 6 M) (fun r100 => (some r100))) else (if v1 = 7 then (bR (f_X2_there 3 4 M) (fun r108 => (some r108))) else (if v1 = 8 then (bR (f_X2_keptMany M) (fun r113 => (some r113))) else (if v1 = 9 then (bR (f_X2_those 1 M) (fun r119 => (some r119))) else (if v1 = 10 then (bR (f_X2_those 2 M) (fun r125 => (some r125))) else (some (-1)))))))))))))
set_option maxHeartbeats 4000000 in
set_option maxRecDepth 100000 in
theorem c_X2_count (l : Launch) (D : va_G) (cy : Nat → ClassId) (ad : Nat → Nat)   {v1 : Int32} {M : Mem} {r : Int32} (hf : f_X2_count v1 M = some r) : MetX l 20 (CM ad cy) D cy ad yX2_count cX2_count 2 (some .int) 2 [.ref (ad 0), .int v1] M (fun A => QI r M 20 (CM ad cy) D cy ad A) := by
  refine MetX.of (own := RX2) (by decide) rfl (Nat.le_of_ble_eq_true rfl) ?_
  intro p e s m below meth c A Q ls X hr hlk hZ hA hQ hW hl
  have hl : lv_has ls 2 [(0, .ref (ad 0)), (1, .int v1)] := hl
  have hx := X.1
  have hb := X.2.1
  obtain ⟨H, hH⟩ : ∃ H, H = s.heap := ⟨_, rfl⟩
  obtain ⟨locs, hlo⟩ : ∃ q : List Loc, q = [] := ⟨_, rfl⟩
  have hW : Wd D 20 ad (CM ad cy) A s.heap M H locs := by rw [hH, hlo]; exact hW
  suffices hh : W p l e (rmD 2) s m ([.ref (ad 0), .int v1] : List Value).toArray below meth c H locs 0 0 Q (F0 m 0 ls []) by rw [hH, hlo] at hh; exact hh
  unfold f_X2_count at hf
  refine lv_iload_n hx hb dX2_count_0 rfl (lv_at hl 1 rfl) ?_
  by_cases hc0 : v1 = 0
  · replace hf := ifp hc0 hf
    refine lv_tableIn (tgt := 60) hx hb dX2_count_1 (by rw [hc0]; decide) (by rw [hc0]; decide) (by rw [hc0]; rfl) (by decide) ?_
    refine lv_aload_n hx hb dX2_count_60 rfl (lv_at hl 0 rfl) ?_
    refine gf_X2_79 X hW dX2_count_61 ?_
    exact g_iret X hr hlk hQ hW dX2_count_64 (rd_some hf)
  · replace hf := ifn hc0 hf
    by_cases hc1 : v1 = 1
    · replace hf := ifp hc1 hf
      refine lv_tableIn (tgt := 65) hx hb dX2_count_1 (by rw [hc1]; decide) (by rw [hc1]; decide) (by rw [hc1]; rfl) (by decide) ?_
      refine lv_aload_n hx hb dX2_count_65 rfl (lv_at hl 0 rfl) ?_
      refine gf_X2_31 X hW dX2_count_66 ?_
      refine lv_iconst (v := 0) hx hb dX2_count_69 (by decide) ?_
      obtain ⟨hi70, hf⟩ := grd_some hf
      refine g_iald X hW iM_st hi70 dX2_count_70 ?_
      exact g_iret X hr hlk hQ hW dX2_count_71 (rd_some hf)
    · replace hf := ifn hc1 hf
      by_cases hc2 : v1 = 2
      · replace hf := ifp hc2 hf
        refine lv_tableIn (tgt := 72) hx hb dX2_count_1 (by rw [hc2]; decide) (by rw [hc2]; decide) (by rw [hc2]; rfl) (by decide) ?_
        refine lv_aload_n hx hb dX2_count_72 rfl (lv_at hl 0 rfl) ?_
        refine gf_X2_121 X hW dX2_count_73 ?_
        exact g_iret X hr hlk hQ hW dX2_count_76 (rd_some hf)
      · replace hf := ifn hc2 hf
        by_cases hc3 : v1 = 3
        · replace hf := ifp hc3 hf
          refine lv_tableIn (tgt := 77) hx hb dX2_count_1 (by rw [hc3]; decide) (by rw [hc3]; decide) (by rw [hc3]; rfl) (by decide) ?_
          refine lv_aload_n hx hb dX2_count_77 rfl (lv_at hl 0 rfl) ?_
          refine lv_aload_n hx hb dX2_count_78 rfl (lv_at hl 0 rfl) ?_
          refine gf_X2_31 X hW dX2_count_79 ?_
          obtain ⟨r82, h82, hf⟩ := bR_some hf
          refine g_calliV X hl.1 hZ hA hW (c_X2_pulses l D cy ad iM_st h82) cw_X2_pulses ql_X2_162 iO_X2 rfl (by decide) rfl (Nat.le_of_ble_eq_true rfl) dX2_count_82 (fun H locs hW => ?_)
          exact g_iret X hr hlk hQ hW dX2_count_85 (rd_some hf)
        · replace hf := ifn hc3 hf
          by_cases hc4 : v1 = 4
          · replace hf := ifp hc4 hf
            refine lv_tableIn (tgt := 86) hx hb dX2_count_1 (by rw [hc4]; decide) (by rw [hc4]; decide) (by rw [hc4]; rfl) (by decide) ?_
            refine lv_aload_n hx hb dX2_count_86 rfl (lv_at hl 0 rfl) ?_
            obtain ⟨r87, h87, hf⟩ := bR_some hf
            refine g_calliV X hl.1 hZ hA hW (c_X2_slots l D cy ad h87) cw_X2_slots ql_X2_221 iO_X2 rfl (by decide) rfl (Nat.le_of_ble_eq_true rfl) dX2_count_87 (fun H locs hW => ?_)
            exact g_iret X hr hlk hQ hW dX2_count_90 (rd_some hf)
          · replace hf := ifn hc4 hf
            by_cases hc5 : v1 = 5
            · replace hf := ifp hc5 hf
              refine lv_tableIn (tgt := 91) hx hb dX2_count_1 (by rw [hc5]; decide) (by rw [hc5]; decide) (by rw [hc5]; rfl) (by decide) ?_
              refine lv_aload_n hx hb dX2_count_91 rfl (lv_at hl 0 rfl) ?_
              obtain ⟨r92, h92, hf⟩ := bR_some hf
              refine g_calliV X hl.1 hZ hA hW (c_X2_empties l D cy ad h92) cw_X2_empties ql_X2_225 iO_X2 rfl (by decide) rfl (Nat.le_of_ble_eq_true rfl) dX2_count_92 (fun H locs hW => ?_)
              exact g_iret X hr hlk hQ hW dX2_count_95 (rd_some hf)
            · replace hf := ifn hc5 hf
              by_cases hc6 : v1 = 6
              · replace hf := ifp hc6 hf
                refine lv_tableIn (tgt := 96) hx hb dX2_count_1 (by rw [hc6]; decide) (by rw [hc6]; decide) (by rw [hc6]; rfl) (by decide) ?_
                refine lv_aload_n hx hb dX2_count_96 rfl (lv_at hl 0 rfl) ?_
                refine gf_X2_7 X hW dX2_count_97 ?_
                obtain ⟨r100, h100, hf⟩ := bR_some hf
                refine g_calliS X hl.1 hZ hA hW (c_X2_there l D cy ad iM_rowSize h100) cs_X2_there ql_X2_228 rfl (by decide) rfl (Nat.le_of_ble_eq_true rfl) dX2_count_100 (fun H locs hW => ?_)
                exact g_iret X hr hlk hQ hW dX2_count_103 (rd_some hf)
              · replace hf := ifn hc6 hf
                by_cases hc7 : v1 = 7
                · replace hf := ifp hc7 hf
                  refine lv_tableIn (tgt := 104) hx hb dX2_count_1 (by rw [hc7]; decide) (by rw [hc7]; decide) (by rw [hc7]; rfl) (by decide) ?_
                  refine lv_aload_n hx hb dX2_count_104 rfl (lv_at hl 0 rfl) ?_
                  refine gf_X2_16 X hW dX2_count_105 ?_
                  obtain ⟨r108, h108, hf⟩ := bR_some hf
                  refine g_calliS X hl.1 hZ hA hW (c_X2_there l D cy ad iM_textSize h108) cs_X2_there ql_X2_228 rfl (by decide) rfl (Nat.le_of_ble_eq_true rfl) dX2_count_108 (fun H locs hW => ?_)
                  exact g_iret X hr hlk hQ hW dX2_count_111 (rd_some hf)
                · replace hf := ifn hc7 hf
                  by_cases hc8 : v1 = 8
                  · replace hf := ifp hc8 hf
                    refine lv_tableIn (tgt := 112) hx hb dX2_count_1 (by rw [hc8]; decide) (by rw [hc8]; decide) (by rw [hc8]; rfl) (by decide) ?_
                    refine lv_aload_n hx hb dX2_count_112 rfl (lv_at hl 0 rfl) ?_
                    obtain ⟨r113, h113, hf⟩ := bR_some hf
                    refine g_calliV X hl.1 hZ hA hW (c_X2_keptMany l D cy ad h113) cw_X2_keptMany ql_X2_231 iO_X2 rfl (by decide) rfl (Nat.le_of_ble_eq_true rfl) dX2_count_113 (fun H locs hW => ?_)
                    exact g_iret X hr hlk hQ hW dX2_count_116 (rd_some hf)
                  · replace hf := ifn hc8 hf
                    by_cases hc9 : v1 = 9
                    · replace hf := ifp hc9 hf
                      refine lv_tableIn (tgt := 117) hx hb dX2_count_1 (by rw [hc9]; decide) (by rw [hc9]; decide) (by rw [hc9]; rfl) (by decide) ?_
                      refine lv_aload_n hx hb dX2_count_117 rfl (lv_at hl 0 rfl) ?_
                      refine lv_iconst (v := 1) hx hb dX2_count_118 (by decide) ?_
                      obtain ⟨r119, h119, hf⟩ := bR_some hf
                      refine g_calliV X hl.1 hZ hA hW (c_X2_those l D cy ad h119) cw_X2_those ql_X2_234 iO_X2 rfl (by decide) rfl (Nat.le_of_ble_eq_true rfl) dX2_count_119 (fun H locs hW => ?_)
                      exact g_iret X hr hlk hQ hW dX2_count_122 (rd_some hf)
                    · replace hf := ifn hc9 hf
                      by_cases hc10 : v1 = 10
                      · replace hf := ifp hc10 hf
                        refine lv_tableIn (tgt := 123) hx hb dX2_count_1 (by rw [hc10]; decide) (by rw [hc10]; decide) (by rw [hc10]; rfl) (by decide) ?_
                        refine lv_aload_n hx hb dX2_count_123 rfl (lv_at hl 0 rfl) ?_
                        refine lv_iconst (v := 2) hx hb dX2_count_124 (by decide) ?_
                        obtain ⟨r125, h125, hf⟩ := bR_some hf
                        refine g_calliV X hl.1 hZ hA hW (c_X2_those l D cy ad h125) cw_X2_those ql_X2_234 iO_X2 rfl (by decide) rfl (Nat.le_of_ble_eq_true rfl) dX2_count_125 (fun H locs hW => ?_)
                        exact g_iret X hr hlk hQ hW dX2_count_128 (rd_some hf)
                      · replace hf := ifn hc10 hf
                        refine lv_tableOut (tgt := 129) hx hb dX2_count_1 (by have q0 := sw_ne (a := 0) hc0 (by decide); have q1 := sw_ne (a := 1) hc1 (by decide); have q2 := sw_ne (a := 2) hc2 (by decide); have q3 := sw_ne (a := 3) hc3 (by decide); have q4 := sw_ne (a := 4) hc4 (by decide); have q5 := sw_ne (a := 5) hc5 (by decide); have q6 := sw_ne (a := 6) hc6 (by decide); have q7 := sw_ne (a := 7) hc7 (by decide); have q8 := sw_ne (a := 8) hc8 (by decide); have q9 := sw_ne (a := 9) hc9 (by decide); have q10 := sw_ne (a := 10) hc10 (by decide); omega) (by decide) ?_
                        refine lv_iconst (v := (-1)) hx hb dX2_count_129 (by decide) ?_
                        exact g_iret X hr hlk hQ hW dX2_count_130 (rd_some hf)

def f_X2_finding (M : Mem) : Option Int32 :=
  (some (M.1 0 17))
set_option maxHeartbeats 4000000 in
set_option maxRecDepth 100000 in
theorem c_X2_finding (l : Launch) (D : va_G) (cy : Nat → ClassId) (ad : Nat → Nat)    {M : Mem} {r : Int32} (hf : f_X2_finding M = some r) : MetX l 20 (CM ad cy) D cy ad yX2_finding cX2_finding 1 (some .int) 0 [.ref (ad 0)] M (fun A => QI r M 20 (CM ad cy) D cy ad A) := by
  refine MetX.of (own := RX2) (by decide) rfl (Nat.le_of_ble_eq_true rfl) ?_
  intro p e s m below meth c A Q ls X hr hlk hZ hA hQ hW hl
  have hl : lv_has ls 1 [(0, .ref (ad 0))] := hl
  have hx := X.1
  have hb := X.2.1
  obtain ⟨H, hH⟩ : ∃ H, H = s.heap := ⟨_, rfl⟩
  obtain ⟨locs, hlo⟩ : ∃ q : List Loc, q = [] := ⟨_, rfl⟩
  have hW : Wd D 20 ad (CM ad cy) A s.heap M H locs := by rw [hH, hlo]; exact hW
  suffices hh : W p l e (rmD 0) s m ([.ref (ad 0)] : List Value).toArray below meth c H locs 0 0 Q (F0 m 0 ls []) by rw [hH, hlo] at hh; exact hh
  unfold f_X2_finding at hf
  refine lv_aload_n hx hb dX2_finding_0 rfl (lv_at hl 0 rfl) ?_
  refine gf_X2_72 X hW dX2_finding_1 ?_
  exact g_iret X hr hlk hQ hW dX2_finding_4 (rd_some hf)

def f_X2_findings (v1 : Int32) (M : Mem) : Option Int32 :=
  (bR (f_X2_in v1 1 5 M) (fun r3 => (if r3 = 0 then (some (-1)) else (grd (inb v1 6) (some (M.1 13 (ix v1)))))))
set_option maxHeartbeats 4000000 in
set_option maxRecDepth 100000 in
theorem c_X2_findings (l : Launch) (D : va_G) (cy : Nat → ClassId) (ad : Nat → Nat)   {v1 : Int32} {M : Mem} {r : Int32} (hf : f_X2_findings v1 M = some r) : MetX l 20 (CM ad cy) D cy ad yX2_findings cX2_findings 2 (some .int) 1 [.ref (ad 0), .int v1] M (fun A => QI r M 20 (CM ad cy) D cy ad A) := by
  refine MetX.of (own := RX2) (by decide) rfl (Nat.le_of_ble_eq_true rfl) ?_
  intro p e s m below meth c A Q ls X hr hlk hZ hA hQ hW hl
  have hl : lv_has ls 2 [(0, .ref (ad 0)), (1, .int v1)] := hl
  have hx := X.1
  have hb := X.2.1
  obtain ⟨H, hH⟩ : ∃ H, H = s.heap := ⟨_, rfl⟩
  obtain ⟨locs, hlo⟩ : ∃ q : List Loc, q = [] := ⟨_, rfl⟩
  have hW : Wd D 20 ad (CM ad cy) A s.heap M H locs := by rw [hH, hlo]; exact hW
  suffices hh : W p l e (rmD 1) s m ([.ref (ad 0), .int v1] : List Value).toArray below meth c H locs 0 0 Q (F0 m 0 ls []) by rw [hH, hlo] at hh; exact hh
  unfold f_X2_findings at hf
  refine lv_iload_n hx hb dX2_findings_0 rfl (lv_at hl 1 rfl) ?_
  refine lv_iconst (v := 1) hx hb dX2_findings_1 (by decide) ?_
  refine lv_iconst (v := 5) hx hb dX2_findings_2 (by decide) ?_
  obtain ⟨r3, h3, hf⟩ := bR_some hf
  refine g_calliS X hl.1 hZ hA hW (c_X2_in l D cy ad h3) cs_X2_in ql_X2_82 rfl (by decide) rfl (Nat.le_of_ble_eq_true rfl) dX2_findings_3 (fun H locs hW => ?_)
  refine lv_if_eq (tgt := 18) hx hb dX2_findings_6 (by decide) (fun hc => ?_) (fun hc => ?_)
  · replace hf := ifp hc hf
    refine lv_iconst (v := (-1)) hx hb dX2_findings_18 (by decide) ?_
    exact g_iret X hr hlk hQ hW dX2_findings_19 (rd_some hf)
  · replace hf := ifn hc hf
    refine lv_aload_n hx hb dX2_findings_9 rfl (lv_at hl 0 rfl) ?_
    refine gf_X2_51 X hW dX2_findings_10 ?_
    refine lv_iload_n hx hb dX2_findings_13 rfl (lv_at hl 1 rfl) ?_
    obtain ⟨hi14, hf⟩ := grd_some hf
    refine g_iald X hW iM_findings hi14 dX2_findings_14 ?_
    refine lv_goto (tgt := 19) hx hb dX2_findings_15 (by decide) ?_
    exact g_iret X hr hlk hQ hW dX2_findings_19 (rd_some hf)

def f_X2_tubeOf (v1 : Int32) (v2 : Int32) (M : Mem) : Option (Int32 × Mem) :=
  (bI (f_X2_tube v1 v2 M) (fun r8 M8 => (lt (sI M8 0 14 (M.1 0 14)) (fun M20 => (some ((M8.1 0 14), M20))))))
set_option maxHeartbeats 4000000 in
set_option maxRecDepth 100000 in
theorem c_X2_tubeOf (l : Launch) (D : va_G) (cy : Nat → ClassId) (ad : Nat → Nat)   {v1 : Int32} {v2 : Int32} {M M' : Mem} {r : Int32} (hf : f_X2_tubeOf v1 v2 M = some (r, M')) : MetX l 20 (CM ad cy) D cy ad yX2_tubeOf cX2_tubeOf 5 (some .int) 4 [.ref (ad 0), .int v1, .int v2] M (fun A => QI r M' 20 (CM ad cy) D cy ad A) := by
  refine MetX.of (own := RX2) (by decide) rfl (Nat.le_of_ble_eq_true rfl) ?_
  intro p e s m below meth c A Q ls X hr hlk hZ hA hQ hW hl
  have hl : lv_has ls 5 [(0, .ref (ad 0)), (1, .int v1), (2, .int v2)] := hl
  have hx := X.1
  have hb := X.2.1
  obtain ⟨H, hH⟩ : ∃ H, H = s.heap := ⟨_, rfl⟩
  obtain ⟨locs, hlo⟩ : ∃ q : List Loc, q = [] := ⟨_, rfl⟩
  have hW : Wd D 20 ad (CM ad cy) A s.heap M H locs := by rw [hH, hlo]; exact hW
  suffices hh : W p l e (rmD 4) s m ([.ref (ad 0), .int v1, .int v2] : List Value).toArray below meth c H locs 0 0 Q (F0 m 0 ls []) by rw [hH, hlo] at hh; exact hh
  unfold f_X2_tubeOf at hf
  refine lv_aload_n hx hb dX2_tubeOf_0 rfl (lv_at hl 0 rfl) ?_
  refine gf_X2_76 X hW dX2_tubeOf_1 ?_
  refine lv_istore_n (lv' := [(3, .int (M.1 0 14)), (0, .ref (ad 0)), (1, .int v1), (2, .int v2)]) hx hb dX2_tubeOf_4 rfl hl (by decide) rfl (fun ls hl => ?_)
  refine lv_aload_n hx hb dX2_tubeOf_5 rfl (lv_at hl 1 rfl) ?_
  refine lv_iload_n hx hb dX2_tubeOf_6 rfl (lv_at hl 2 rfl) ?_
  refine lv_iload_n hx hb dX2_tubeOf_7 rfl (lv_at hl 3 rfl) ?_
  obtain ⟨r8, M8, h8, hf⟩ := bI_some hf
  refine g_calliV X hl.1 hZ hA hW (c_X2_tube l D cy ad h8) cw_X2_tube ql_X2_237 iO_X2 rfl (by decide) rfl (Nat.le_of_ble_eq_true rfl) dX2_tubeOf_8 (fun H locs hW => ?_)
  refine lv_pop hx hb dX2_tubeOf_11 rfl ?_
  refine lv_aload_n hx hb dX2_tubeOf_12 rfl (lv_at hl 1 rfl) ?_
  refine gf_X2_76 X hW dX2_tubeOf_13 ?_
  refine lv_istore (lv' := [(4, .int (M8.1 0 14)), (3, .int (M.1 0 14)), (0, .ref (ad 0)), (1, .int v1), (2, .int v2)]) hx hb dX2_tubeOf_16 hl (by decide) rfl (fun ls hl => ?_)
  refine lv_aload_n hx hb dX2_tubeOf_18 rfl (lv_at hl 2 rfl) ?_
  refine lv_iload_n hx hb dX2_tubeOf_19 rfl (lv_at hl 1 rfl) ?_
  refine gp_X2_76 X hW dX2_tubeOf_20 (fun H locs hW => ?_)
  obtain ⟨M20, e20, hf⟩ := lt_some hf
  have hW : Wd D 20 ad (CM ad cy) A s.heap M20 H locs := by rw [e20]; exact hW
  refine lv_iload hx hb dX2_tubeOf_23 (lv_at hl 0 rfl) ?_
  exact g_iret X hr hlk hQ hW dX2_tubeOf_25 hf

def f_X2_digest_L214 (v3_L214 : Int32) (M_L214 : Mem) (k251 : Int64 → Option (Int64 × Mem)) : Nat → Int64 → Int32 → Option (Int64 × Mem)
  | 0, _, _ => none
  | n + 1, v1_L214, v4_L214 => (grd (inb v3_L214 4) (if (M_L214.1 3 (ix v3_L214)) ≤ v4_L214 then (k251 v1_L214) else (grd (inb ((60 * v3_L214) + v4_L214) 240) (f_X2_digest_L214 v3_L214 M_L214 k251 n ((31 * v1_L214) + ((M_L214.1 4 (ix ((60 * v3_L214) + v4_L214)))).toInt64) (v4_L214 + 1)))))
def f_X2_digest_L192 (M_L192 : Mem) : Nat → Int64 → Int32 → Option (Int64 × Mem)
  | 0, _, _ => none
  | n + 1, v1_L192, v3_L192 => (if 4 ≤ v3_L192 then (some (v1_L192, M_L192)) else (grd (inb v3_L192 4) (jn (fun (k251 : Int64 → Option (Int64 × Mem)) => (f_X2_digest_L214 v3_L192 M_L192 k251 FU ((31 * v1_L192) + ((M_L192.1 3 (ix v3_L192))).toInt64) 0)) (fun (v1_251x : Int64) => (f_X2_digest_L192 M_L192 n v1_251x (v3_L192 + 1))))))
def f_X2_digest_L147 (v3_L147 : Int32) (M_L147 : Mem) (k184 : Int64 → Option (Int64 × Mem)) : Nat → Int64 → Int32 → Option (Int64 × Mem)
  | 0, _, _ => none
  | n + 1, v1_L147, v4_L147 => (grd (inb v3_L147 6) (if (M_L147.1 1 (ix v3_L147)) ≤ v4_L147 then (k184 v1_L147) else (grd (inb ((40 * v3_L147) + v4_L147) 240) (f_X2_digest_L147 v3_L147 M_L147 k184 n ((31 * v1_L147) + ((M_L147.1 2 (ix ((40 * v3_L147) + v4_L147)))).toInt64) (v4_L147 + 1)))))
def f_X2_digest_L124 (M_L124 : Mem) (k190 : Int64 → Option (Int64 × Mem)) : Nat → Int64 → Int32 → Option (Int64 × Mem)
  | 0, _, _ => none
  | n + 1, v1_L124, v3_L124 => (if 6 ≤ v3_L124 then (k190 v1_L124) else (grd (inb v3_L124 6) (jn (fun (k184 : Int64 → Option (Int64 × Mem)) => (f_X2_digest_L147 v3_L124 M_L124 k184 FU ((31 * v1_L124) + ((M_L124.1 1 (ix v3_L124))).toInt64) 0)) (fun (v1_184x : Int64) => (f_X2_digest_L124 M_L124 k190 n v1_184x (v3_L124 + 1))))))
def f_X2_digest_L80 (M_L80 : Mem) (k122 : Int64 → Option (Int64 × Mem)) : Nat → Int64 → Int32 → Option (Int64 × Mem)
  | 0, _, _ => none
  | n + 1, v1_L80, v3_L80 => (if 3 ≤ v3_L80 then (k122 v1_L80) else (grd (inb v3_L80 3) (jn (fun (k113 : Int32 → Option (Int64 × Mem)) => (if (M_L80.1 12 (ix v3_L80)) = 0 then (k113 (-1)) else (grd (inb (616 * v3_L80) 1848) (k113 (M_L80.1 11 (ix (616 * v3_L80))))))) (fun (t0_113j : Int32) => (f_X2_digest_L80 M_L80 k122 n ((31 * v1_L80) + t0_113j.toInt64) (v3_L80 + 1))))))
def f_X2_digest_L44 (v3_L44 : Int32) (k72 : Int64 → Mem → Option (Int64 × Mem)) : Nat → Int64 → Int32 → Mem → Option (Int64 × Mem)
  | 0, _, _, _ => none
  | n + 1, v1_L44, v4_L44, M_L44 => (if 7 ≤ v4_L44 then (k72 v1_L44 M_L44) else (bI (f_X2_tubeOf v3_L44 v4_L44 M_L44) (fun r60 M60 => (f_X2_digest_L44 v3_L44 k72 n ((31 * v1_L44) + r60.toInt64) (v4_L44 + 1) M60))))
def f_X2_digest_L33 (k78 : Int64 → Mem → Option (Int64 × Mem)) : Nat → Int64 → Int32 → Mem → Option (Int64 × Mem)
  | 0, _, _, _ => none
  | n + 1, v1_L33, v3_L33, M_L33 => (if (M_L33.1 0 4) ≤ v3_L33 then (k78 v1_L33 M_L33) else (jn (fun (k72 : Int64 → Mem → Option (Int64 × Mem)) => (f_X2_digest_L44 v3_L33 k72 FU v1_L33 0 M_L33)) (fun (v1_72x : Int64) (M_72x : Mem) => (f_X2_digest_L33 k78 n v1_72x (v3_L33 + 1) M_72x))))
def f_X2_digest_L6 (M_L6 : Mem) (k31 : Int64 → Option (Int64 × Mem)) : Nat → Int64 → Int32 → Option (Int64 × Mem)
  | 0, _, _ => none
  | n + 1, v1_L6, v3_L6 => (if 11 ≤ v3_L6 then (k31 v1_L6) else (bR (f_X2_count v3_L6 M_L6) (fun r19 => (f_X2_digest_L6 M_L6 k31 n ((31 * v1_L6) + r19.toInt64) (v3_L6 + 1)))))
def f_X2_digest (M : Mem) : Option (Int64 × Mem) :=
  (jn (fun (k31 : Int64 → Option (Int64 × Mem)) => (f_X2_digest_L6 M k31 FU 17 0)) (fun (v1_31x : Int64) => (jn (fun (k78 : Int64 → Mem → Option (Int64 × Mem)) => (f_X2_digest_L33 k78 FU v1_31x 0 M)) (fun (v1_78x : Int64) (M_78x : Mem) => (jn (fun (k122 : Int64 → Option (Int64 × Mem)) => (f_X2_digest_L80 M_78x k122 FU v1_78x 0)) (fun (v1_122x : Int64) => (jn (fun (k190 : Int64 → Option (Int64 × Mem)) => (f_X2_digest_L124 M_78x k190 FU v1_122x 0)) (fun (v1_190x : Int64) => (f_X2_digest_L192 M_78x FU v1_190x 0)))))))))
set_option maxHeartbeats 4000000 in
set_option maxRecDepth 100000 in
theorem c_X2_digest (l : Launch) (D : va_G) (cy : Nat → ClassId) (ad : Nat → Nat)    {M M' : Mem} {r : Int64} (hf : f_X2_digest M = some (r, M')) : MetX l 20 (CM ad cy) D cy ad yX2_digest cX2_digest 5 (some .long) 5 [.ref (ad 0)] M (fun A => QL r M' 20 (CM ad cy) D cy ad A) := by
  refine MetX.of (own := RX2) (by decide) rfl (Nat.le_of_ble_eq_true rfl) ?_
  intro p e s m below meth c A Q ls X hr hlk hZ hA hQ hW hl
  have hl : lv_has ls 5 [(0, .ref (ad 0))] := hl
  have hx := X.1
  have hb := X.2.1
  have hL214 : ∀ (v3_L214 : Int32) (M_L214 : Mem) (k251 : Int64 → Option (Int64 × Mem)) (hJ251 : ∀ (v1_251x : Int64) (H : Heap) (locs : List Loc) (ls : Array Slot), k251 v1_251x = some (r, M') → Wd D 20 ad (CM ad cy) A s.heap M_L214 H locs → lv_has ls 5 [(0, .ref (ad 0)), (1, .long v1_251x), (3, .int v3_L214)] → W p l e (rmD 5) s m ([.ref (ad 0)] : List Value).toArray below meth c H locs 0 0 Q (F0 m 251 ls [])) (n : Nat) (v1_L214 : Int64) (v4_L214 : Int32) (H : Heap) (locs : List Loc) (ls : Array Slot), f_X2_digest_L214 v3_L214 M_L214 k251 n v1_L214 v4_L214 = some (r, M') → Wd D 20 ad (CM ad cy) A s.heap M_L214 H locs → lv_has ls 5 [(0, .ref (ad 0)), (1, .long v1_L214), (3, .int v3_L214), (4, .int v4_L214)] → W p l e (rmD 5) s m ([.ref (ad 0)] : List Value).toArray below meth c H locs 0 0 Q (F0 m 214 ls []) := by
    intro v3_L214 M_L214 k251 hJ251 n
    induction n with
    | zero =>
      intro v1_L214 v4_L214 H locs ls hf
      cases (show (none : Option (Int64 × Mem)) = some (r, M') from hf)
    | succ n ih =>
      intro v1_L214 v4_L214 H locs ls hf hW hl
      rw [f_X2_digest_L214] at hf
      refine lv_iload hx hb dX2_digest_214 (lv_at hl 3 rfl) ?_
      refine lv_aload_n hx hb dX2_digest_216 rfl (lv_at hl 0 rfl) ?_
      refine gf_X2_16 X hW dX2_digest_217 ?_
      refine lv_iload_n hx hb dX2_digest_220 rfl (lv_at hl 2 rfl) ?_
      obtain ⟨hi221, hf⟩ := grd_some hf
      refine g_iald X hW iM_textSize hi221 dX2_digest_221 ?_
      refine lv_icmp_ge (tgt := 251) hx hb dX2_digest_222 (by decide) (fun hc => ?_) (fun hc => ?_)
      · replace hf := ifp hc hf
        exact hJ251 v1_L214 H locs ls hf hW (lv_sub hl [0, 1, 2] rfl)
      · replace hf := ifn hc hf
        refine lv_ldc2 (v := 31) hx hb X.2.2.2.1 (X.2.2.2.2.1 _ qk_X2_242) dX2_digest_225 ?_
        refine lv_lload_n hx hb dX2_digest_228 rfl (lv_at hl 1 rfl) ?_
        refine lv_lmul hx hb dX2_digest_229 ?_
        refine lv_aload_n hx hb dX2_digest_230 rfl (lv_at hl 0 rfl) ?_
        refine gf_X2_19 X hW dX2_digest_231 ?_
        refine lv_bipush (v := 60) hx hb dX2_digest_234 (by decide) ?_
        refine lv_iload_n hx hb dX2_digest_236 rfl (lv_at hl 2 rfl) ?_
        refine lv_imul hx hb dX2_digest_237 ?_
        refine lv_iload hx hb dX2_digest_238 (lv_at hl 3 rfl) ?_
        refine lv_iadd hx hb dX2_digest_240 ?_
        obtain ⟨hi241, hf⟩ := grd_some hf
        refine g_iald X hW iM_texts hi241 dX2_digest_241 ?_
        refine lv_i2l (v := ((M_L214.1 4 (ix ((60 * v3_L214) + v4_L214)))).toInt64) hx hb dX2_digest_242 rfl ?_
        refine lv_ladd hx hb dX2_digest_243 ?_
        refine lv_lstore_n (lv' := [(1, .long ((31 * v1_L214) + ((M_L214.1 4 (ix ((60 * v3_L214) + v4_L214)))).toInt64)), (0, .ref (ad 0)), (3, .int v3_L214), (4, .int v4_L214)]) hx hb dX2_digest_244 rfl hl (by decide) rfl (fun ls hl => ?_)
        refine lv_iinc (v := (v4_L214 + 1)) (lv' := [(4, .int (v4_L214 + 1)), (1, .long ((31 * v1_L214) + ((M_L214.1 4 (ix ((60 * v3_L214) + v4_L214)))).toInt64)), (0, .ref (ad 0)), (3, .int v3_L214)]) hx hb dX2_digest_245 hl (k := 3) rfl rfl (by decide) rfl (fun ls hl => ?_)
        refine lv_goto (tgt := 214) hx hb dX2_digest_248 (by decide) ?_
        exact ih ((31 * v1_L214) + ((M_L214.1 4 (ix ((60 * v3_L214) + v4_L214)))).toInt64) (v4_L214 + 1) H locs ls hf hW (lv_sub hl [2, 1, 3, 0] rfl)
  have hL192 : ∀ (M_L192 : Mem)  (n : Nat) (v1_L192 : Int64) (v3_L192 : Int32) (H : Heap) (locs : List Loc) (ls : Array Slot), f_X2_digest_L192 M_L192 n v1_L192 v3_L192 = some (r, M') → Wd D 20 ad (CM ad cy) A s.heap M_L192 H locs → lv_has ls 5 [(0, .ref (ad 0)), (1, .long v1_L192), (3, .int v3_L192)] → W p l e (rmD 5) s m ([.ref (ad 0)] : List Value).toArray below meth c H locs 0 0 Q (F0 m 192 ls []) := by
    intro M_L192 n
    induction n with
    | zero =>
      intro v1_L192 v3_L192 H locs ls hf
      cases (show (none : Option (Int64 × Mem)) = some (r, M') from hf)
    | succ n ih =>
      intro v1_L192 v3_L192 H locs ls hf hW hl
      rw [f_X2_digest_L192] at hf
      refine lv_iload_n hx hb dX2_digest_192 rfl (lv_at hl 2 rfl) ?_
      refine lv_iconst (v := 4) hx hb dX2_digest_193 (by decide) ?_
      refine lv_icmp_ge (tgt := 257) hx hb dX2_digest_194 (by decide) (fun hc => ?_) (fun hc => ?_)
      · replace hf := ifp hc hf
        refine lv_lload_n hx hb dX2_digest_257 rfl (lv_at hl 1 rfl) ?_
        exact g_lret X hr hlk hQ hW dX2_digest_258 hf
      · replace hf := ifn hc hf
        refine lv_ldc2 (v := 31) hx hb X.2.2.2.1 (X.2.2.2.2.1 _ qk_X2_242) dX2_digest_197 ?_
        refine lv_lload_n hx hb dX2_digest_200 rfl (lv_at hl 1 rfl) ?_
        refine lv_lmul hx hb dX2_digest_201 ?_
        refine lv_aload_n hx hb dX2_digest_202 rfl (lv_at hl 0 rfl) ?_
        refine gf_X2_16 X hW dX2_digest_203 ?_
        refine lv_iload_n hx hb dX2_digest_206 rfl (lv_at hl 2 rfl) ?_
        obtain ⟨hi207, hf⟩ := grd_some hf
        refine g_iald X hW iM_textSize hi207 dX2_digest_207 ?_
        refine lv_i2l (v := ((M_L192.1 3 (ix v3_L192))).toInt64) hx hb dX2_digest_208 rfl ?_
        refine lv_ladd hx hb dX2_digest_209 ?_
        refine lv_lstore_n (lv' := [(1, .long ((31 * v1_L192) + ((M_L192.1 3 (ix v3_L192))).toInt64)), (0, .ref (ad 0)), (3, .int v3_L192)]) hx hb dX2_digest_210 rfl hl (by decide) rfl (fun ls hl => ?_)
        refine lv_iconst (v := 0) hx hb dX2_digest_211 (by decide) ?_
        refine lv_istore (lv' := [(4, .int 0), (1, .long ((31 * v1_L192) + ((M_L192.1 3 (ix v3_L192))).toInt64)), (0, .ref (ad 0)), (3, .int v3_L192)]) hx hb dX2_digest_212 hl (by decide) rfl (fun ls hl => ?_)
        obtain ⟨k251, hk251, hf⟩ := jn_some1 hf
        have hJ251 : ∀ (v1_251x : Int64) (H : Heap) (locs : List Loc) (ls : Array Slot), k251 v1_251x = some (r, M') → Wd D 20 ad (CM ad cy) A s.heap M_L192 H locs → lv_has ls 5 [(0, .ref (ad 0)), (1, .long v1_251x), (3, .int v3_L192)] → W p l e (rmD 5) s m ([.ref (ad 0)] : List Value).toArray below meth c H locs 0 0 Q (F0 m 251 ls []) := by
          intro v1_251x H locs ls hf hW hl
          rw [hk251] at hf
          refine lv_iinc (v := (v3_L192 + 1)) (lv' := [(3, .int (v3_L192 + 1)), (0, .ref (ad 0)), (1, .long v1_251x)]) hx hb dX2_digest_251 hl (k := 2) rfl rfl (by decide) rfl (fun ls hl => ?_)
          refine lv_goto (tgt := 192) hx hb dX2_digest_254 (by decide) ?_
          exact ih v1_251x (v3_L192 + 1) H locs ls hf hW (lv_sub hl [1, 2, 0] rfl)
        exact hL214 v3_L192 M_L192 k251 hJ251 FU ((31 * v1_L192) + ((M_L192.1 3 (ix v3_L192))).toInt64) 0 H locs ls hf hW (lv_sub hl [2, 1, 3, 0] rfl)
  have hL147 : ∀ (v3_L147 : Int32) (M_L147 : Mem) (k184 : Int64 → Option (Int64 × Mem)) (hJ184 : ∀ (v1_184x : Int64) (H : Heap) (locs : List Loc) (ls : Array Slot), k184 v1_184x = some (r, M') → Wd D 20 ad (CM ad cy) A s.heap M_L147 H locs → lv_has ls 5 [(0, .ref (ad 0)), (1, .long v1_184x), (3, .int v3_L147)] → W p l e (rmD 5) s m ([.ref (ad 0)] : List Value).toArray below meth c H locs 0 0 Q (F0 m 184 ls [])) (n : Nat) (v1_L147 : Int64) (v4_L147 : Int32) (H : Heap) (locs : List Loc) (ls : Array Slot), f_X2_digest_L147 v3_L147 M_L147 k184 n v1_L147 v4_L147 = some (r, M') → Wd D 20 ad (CM ad cy) A s.heap M_L147 H locs → lv_has ls 5 [(0, .ref (ad 0)), (1, .long v1_L147), (3, .int v3_L147), (4, .int v4_L147)] → W p l e (rmD 5) s m ([.ref (ad 0)] : List Value).toArray below meth c H locs 0 0 Q (F0 m 147 ls []) := by
    intro v3_L147 M_L147 k184 hJ184 n
    induction n with
    | zero =>
      intro v1_L147 v4_L147 H locs ls hf
      cases (show (none : Option (Int64 × Mem)) = some (r, M') from hf)
    | succ n ih =>
      intro v1_L147 v4_L147 H locs ls hf hW hl
      rw [f_X2_digest_L147] at hf
      refine lv_iload hx hb dX2_digest_147 (lv_at hl 3 rfl) ?_
      refine lv_aload_n hx hb dX2_digest_149 rfl (lv_at hl 0 rfl) ?_
      refine gf_X2_7 X hW dX2_digest_150 ?_
      refine lv_iload_n hx hb dX2_digest_153 rfl (lv_at hl 2 rfl) ?_
      obtain ⟨hi154, hf⟩ := grd_some hf
      refine g_iald X hW iM_rowSize hi154 dX2_digest_154 ?_
      refine lv_icmp_ge (tgt := 184) hx hb dX2_digest_155 (by decide) (fun hc => ?_) (fun hc => ?_)
      · replace hf := ifp hc hf
        exact hJ184 v1_L147 H locs ls hf hW (lv_sub hl [0, 1, 2] rfl)
      · replace hf := ifn hc hf
        refine lv_ldc2 (v := 31) hx hb X.2.2.2.1 (X.2.2.2.2.1 _ qk_X2_242) dX2_digest_158 ?_
        refine lv_lload_n hx hb dX2_digest_161 rfl (lv_at hl 1 rfl) ?_
        refine lv_lmul hx hb dX2_digest_162 ?_
        refine lv_aload_n hx hb dX2_digest_163 rfl (lv_at hl 0 rfl) ?_
        refine gf_X2_13 X hW dX2_digest_164 ?_
        refine lv_bipush (v := 40) hx hb dX2_digest_167 (by decide) ?_
        refine lv_iload_n hx hb dX2_digest_169 rfl (lv_at hl 2 rfl) ?_
        refine lv_imul hx hb dX2_digest_170 ?_
        refine lv_iload hx hb dX2_digest_171 (lv_at hl 3 rfl) ?_
        refine lv_iadd hx hb dX2_digest_173 ?_
        obtain ⟨hi174, hf⟩ := grd_some hf
        refine g_iald X hW iM_rows hi174 dX2_digest_174 ?_
        refine lv_i2l (v := ((M_L147.1 2 (ix ((40 * v3_L147) + v4_L147)))).toInt64) hx hb dX2_digest_175 rfl ?_
        refine lv_ladd hx hb dX2_digest_176 ?_
        refine lv_lstore_n (lv' := [(1, .long ((31 * v1_L147) + ((M_L147.1 2 (ix ((40 * v3_L147) + v4_L147)))).toInt64)), (0, .ref (ad 0)), (3, .int v3_L147), (4, .int v4_L147)]) hx hb dX2_digest_177 rfl hl (by decide) rfl (fun ls hl => ?_)
        refine lv_iinc (v := (v4_L147 + 1)) (lv' := [(4, .int (v4_L147 + 1)), (1, .long ((31 * v1_L147) + ((M_L147.1 2 (ix ((40 * v3_L147) + v4_L147)))).toInt64)), (0, .ref (ad 0)), (3, .int v3_L147)]) hx hb dX2_digest_178 hl (k := 3) rfl rfl (by decide) rfl (fun ls hl => ?_)
        refine lv_goto (tgt := 147) hx hb dX2_digest_181 (by decide) ?_
        exact ih ((31 * v1_L147) + ((M_L147.1 2 (ix ((40 * v3_L147) + v4_L147)))).toInt64) (v4_L147 + 1) H locs ls hf hW (lv_sub hl [2, 1, 3, 0] rfl)
  have hL124 : ∀ (M_L124 : Mem) (k190 : Int64 → Option (Int64 × Mem)) (hJ190 : ∀ (v1_190x : Int64) (H : Heap) (locs : List Loc) (ls : Array Slot), k190 v1_190x = some (r, M') → Wd D 20 ad (CM ad cy) A s.heap M_L124 H locs → lv_has ls 5 [(0, .ref (ad 0)), (1, .long v1_190x)] → W p l e (rmD 5) s m ([.ref (ad 0)] : List Value).toArray below meth c H locs 0 0 Q (F0 m 190 ls [])) (n : Nat) (v1_L124 : Int64) (v3_L124 : Int32) (H : Heap) (locs : List Loc) (ls : Array Slot), f_X2_digest_L124 M_L124 k190 n v1_L124 v3_L124 = some (r, M') → Wd D 20 ad (CM ad cy) A s.heap M_L124 H locs → lv_has ls 5 [(0, .ref (ad 0)), (1, .long v1_L124), (3, .int v3_L124)] → W p l e (rmD 5) s m ([.ref (ad 0)] : List Value).toArray below meth c H locs 0 0 Q (F0 m 124 ls []) := by
    intro M_L124 k190 hJ190 n
    induction n with
    | zero =>
      intro v1_L124 v3_L124 H locs ls hf
      cases (show (none : Option (Int64 × Mem)) = some (r, M') from hf)
    | succ n ih =>
      intro v1_L124 v3_L124 H locs ls hf hW hl
      rw [f_X2_digest_L124] at hf
      refine lv_iload_n hx hb dX2_digest_124 rfl (lv_at hl 2 rfl) ?_
      refine lv_bipush (v := 6) hx hb dX2_digest_125 (by decide) ?_
      refine lv_icmp_ge (tgt := 190) hx hb dX2_digest_127 (by decide) (fun hc => ?_) (fun hc => ?_)
      · replace hf := ifp hc hf
        exact hJ190 v1_L124 H locs ls hf hW (lv_sub hl [0, 1] rfl)
      · replace hf := ifn hc hf
        refine lv_ldc2 (v := 31) hx hb X.2.2.2.1 (X.2.2.2.2.1 _ qk_X2_242) dX2_digest_130 ?_
        refine lv_lload_n hx hb dX2_digest_133 rfl (lv_at hl 1 rfl) ?_
        refine lv_lmul hx hb dX2_digest_134 ?_
        refine lv_aload_n hx hb dX2_digest_135 rfl (lv_at hl 0 rfl) ?_
        refine gf_X2_7 X hW dX2_digest_136 ?_
        refine lv_iload_n hx hb dX2_digest_139 rfl (lv_at hl 2 rfl) ?_
        obtain ⟨hi140, hf⟩ := grd_some hf
        refine g_iald X hW iM_rowSize hi140 dX2_digest_140 ?_
        refine lv_i2l (v := ((M_L124.1 1 (ix v3_L124))).toInt64) hx hb dX2_digest_141 rfl ?_
        refine lv_ladd hx hb dX2_digest_142 ?_
        refine lv_lstore_n (lv' := [(1, .long ((31 * v1_L124) + ((M_L124.1 1 (ix v3_L124))).toInt64)), (0, .ref (ad 0)), (3, .int v3_L124)]) hx hb dX2_digest_143 rfl hl (by decide) rfl (fun ls hl => ?_)
        refine lv_iconst (v := 0) hx hb dX2_digest_144 (by decide) ?_
        refine lv_istore (lv' := [(4, .int 0), (1, .long ((31 * v1_L124) + ((M_L124.1 1 (ix v3_L124))).toInt64)), (0, .ref (ad 0)), (3, .int v3_L124)]) hx hb dX2_digest_145 hl (by decide) rfl (fun ls hl => ?_)
        obtain ⟨k184, hk184, hf⟩ := jn_some1 hf
        have hJ184 : ∀ (v1_184x : Int64) (H : Heap) (locs : List Loc) (ls : Array Slot), k184 v1_184x = some (r, M') → Wd D 20 ad (CM ad cy) A s.heap M_L124 H locs → lv_has ls 5 [(0, .ref (ad 0)), (1, .long v1_184x), (3, .int v3_L124)] → W p l e (rmD 5) s m ([.ref (ad 0)] : List Value).toArray below meth c H locs 0 0 Q (F0 m 184 ls []) := by
          intro v1_184x H locs ls hf hW hl
          rw [hk184] at hf
          refine lv_iinc (v := (v3_L124 + 1)) (lv' := [(3, .int (v3_L124 + 1)), (0, .ref (ad 0)), (1, .long v1_184x)]) hx hb dX2_digest_184 hl (k := 2) rfl rfl (by decide) rfl (fun ls hl => ?_)
          refine lv_goto (tgt := 124) hx hb dX2_digest_187 (by decide) ?_
          exact ih v1_184x (v3_L124 + 1) H locs ls hf hW (lv_sub hl [1, 2, 0] rfl)
        exact hL147 v3_L124 M_L124 k184 hJ184 FU ((31 * v1_L124) + ((M_L124.1 1 (ix v3_L124))).toInt64) 0 H locs ls hf hW (lv_sub hl [2, 1, 3, 0] rfl)
  have hL80 : ∀ (M_L80 : Mem) (k122 : Int64 → Option (Int64 × Mem)) (hJ122 : ∀ (v1_122x : Int64) (H : Heap) (locs : List Loc) (ls : Array Slot), k122 v1_122x = some (r, M') → Wd D 20 ad (CM ad cy) A s.heap M_L80 H locs → lv_has ls 5 [(0, .ref (ad 0)), (1, .long v1_122x)] → W p l e (rmD 5) s m ([.ref (ad 0)] : List Value).toArray below meth c H locs 0 0 Q (F0 m 122 ls [])) (n : Nat) (v1_L80 : Int64) (v3_L80 : Int32) (H : Heap) (locs : List Loc) (ls : Array Slot), f_X2_digest_L80 M_L80 k122 n v1_L80 v3_L80 = some (r, M') → Wd D 20 ad (CM ad cy) A s.heap M_L80 H locs → lv_has ls 5 [(0, .ref (ad 0)), (1, .long v1_L80), (3, .int v3_L80)] → W p l e (rmD 5) s m ([.ref (ad 0)] : List Value).toArray below meth c H locs 0 0 Q (F0 m 80 ls []) := by
    intro M_L80 k122 hJ122 n
    induction n with
    | zero =>
      intro v1_L80 v3_L80 H locs ls hf
      cases (show (none : Option (Int64 × Mem)) = some (r, M') from hf)
    | succ n ih =>
      intro v1_L80 v3_L80 H locs ls hf hW hl
      rw [f_X2_digest_L80] at hf
      refine lv_iload_n hx hb dX2_digest_80 rfl (lv_at hl 2 rfl) ?_
      refine lv_iconst (v := 3) hx hb dX2_digest_81 (by decide) ?_
      refine lv_icmp_ge (tgt := 122) hx hb dX2_digest_82 (by decide) (fun hc => ?_) (fun hc => ?_)
      · replace hf := ifp hc hf
        exact hJ122 v1_L80 H locs ls hf hW (lv_sub hl [0, 1] rfl)
      · replace hf := ifn hc hf
        refine lv_ldc2 (v := 31) hx hb X.2.2.2.1 (X.2.2.2.2.1 _ qk_X2_242) dX2_digest_85 ?_
        refine lv_lload_n hx hb dX2_digest_88 rfl (lv_at hl 1 rfl) ?_
        refine lv_lmul hx hb dX2_digest_89 ?_
        refine lv_aload_n hx hb dX2_digest_90 rfl (lv_at hl 0 rfl) ?_
        refine gf_X2_43 X hW dX2_digest_91 ?_
        refine lv_iload_n hx hb dX2_digest_94 rfl (lv_at hl 2 rfl) ?_
        obtain ⟨hi95, hf⟩ := grd_some hf
        refine g_zald X hW iM_isKept hi95 dX2_digest_95 ?_
        obtain ⟨k113, hk113, hf⟩ := jn_some1 hf
        have hJ113 : ∀ (t0_113j : Int32) (H : Heap) (locs : List Loc) (ls : Array Slot), k113 t0_113j = some (r, M') → Wd D 20 ad (CM ad cy) A s.heap M_L80 H locs → lv_has ls 5 [(0, .ref (ad 0)), (3, .int v3_L80)] → W p l e (rmD 5) s m ([.ref (ad 0)] : List Value).toArray below meth c H locs 0 0 Q (F0 m 113 ls [.int t0_113j, .long (31 * v1_L80)]) := by
          intro t0_113j H locs ls hf hW hl
          rw [hk113] at hf
          refine lv_i2l (v := t0_113j.toInt64) hx hb dX2_digest_113 rfl ?_
          refine lv_ladd hx hb dX2_digest_114 ?_
          refine lv_lstore_n (lv' := [(1, .long ((31 * v1_L80) + t0_113j.toInt64)), (0, .ref (ad 0)), (3, .int v3_L80)]) hx hb dX2_digest_115 rfl hl (by decide) rfl (fun ls hl => ?_)
          refine lv_iinc (v := (v3_L80 + 1)) (lv' := [(3, .int (v3_L80 + 1)), (1, .long ((31 * v1_L80) + t0_113j.toInt64)), (0, .ref (ad 0))]) hx hb dX2_digest_116 hl (k := 2) rfl rfl (by decide) rfl (fun ls hl => ?_)
          refine lv_goto (tgt := 80) hx hb dX2_digest_119 (by decide) ?_
          exact ih ((31 * v1_L80) + t0_113j.toInt64) (v3_L80 + 1) H locs ls hf hW (lv_sub hl [2, 1, 0] rfl)
        refine lv_if_eq (tgt := 112) hx hb dX2_digest_96 (by decide) (fun hc => ?_) (fun hc => ?_)
        · replace hf := ifp hc hf
          refine lv_iconst (v := (-1)) hx hb dX2_digest_112 (by decide) ?_
          exact hJ113 (-1) H locs ls hf hW (lv_sub hl [0, 2] rfl)
        · replace hf := ifn hc hf
          refine lv_aload_n hx hb dX2_digest_99 rfl (lv_at hl 0 rfl) ?_
          refine gf_X2_40 X hW dX2_digest_100 ?_
          refine lv_sipush (v := 616) hx hb dX2_digest_103 (by decide) ?_
          refine lv_iload_n hx hb dX2_digest_106 rfl (lv_at hl 2 rfl) ?_
          refine lv_imul hx hb dX2_digest_107 ?_
          obtain ⟨hi108, hf⟩ := grd_some hf
          refine g_iald X hW iM_kept hi108 dX2_digest_108 ?_
          refine lv_goto (tgt := 113) hx hb dX2_digest_109 (by decide) ?_
          exact hJ113 (M_L80.1 11 (ix (616 * v3_L80))) H locs ls hf hW (lv_sub hl [0, 2] rfl)
  have hL44 : ∀ (v3_L44 : Int32) (k72 : Int64 → Mem → Option (Int64 × Mem)) (hJ72 : ∀ (v1_72x : Int64) (M_72x : Mem) (H : Heap) (locs : List Loc) (ls : Array Slot), k72 v1_72x M_72x = some (r, M') → Wd D 20 ad (CM ad cy) A s.heap M_72x H locs → lv_has ls 5 [(0, .ref (ad 0)), (1, .long v1_72x), (3, .int v3_L44)] → W p l e (rmD 5) s m ([.ref (ad 0)] : List Value).toArray below meth c H locs 0 0 Q (F0 m 72 ls [])) (n : Nat) (v1_L44 : Int64) (v4_L44 : Int32) (M_L44 : Mem) (H : Heap) (locs : List Loc) (ls : Array Slot), f_X2_digest_L44 v3_L44 k72 n v1_L44 v4_L44 M_L44 = some (r, M') → Wd D 20 ad (CM ad cy) A s.heap M_L44 H locs → lv_has ls 5 [(0, .ref (ad 0)), (1, .long v1_L44), (3, .int v3_L44), (4, .int v4_L44)] → W p l e (rmD 5) s m ([.ref (ad 0)] : List Value).toArray below meth c H locs 0 0 Q (F0 m 44 ls []) := by
    intro v3_L44 k72 hJ72 n
    induction n with
    | zero =>
      intro v1_L44 v4_L44 M_L44 H locs ls hf
      cases (show (none : Option (Int64 × Mem)) = some (r, M') from hf)
    | succ n ih =>
      intro v1_L44 v4_L44 M_L44 H locs ls hf hW hl
      rw [f_X2_digest_L44] at hf
      refine lv_iload hx hb dX2_digest_44 (lv_at hl 3 rfl) ?_
      refine lv_bipush (v := 7) hx hb dX2_digest_46 (by decide) ?_
      refine lv_icmp_ge (tgt := 72) hx hb dX2_digest_48 (by decide) (fun hc => ?_) (fun hc => ?_)
      · replace hf := ifp hc hf
        exact hJ72 v1_L44 M_L44 H locs ls hf hW (lv_sub hl [0, 1, 2] rfl)
      · replace hf := ifn hc hf
        refine lv_ldc2 (v := 31) hx hb X.2.2.2.1 (X.2.2.2.2.1 _ qk_X2_242) dX2_digest_51 ?_
        refine lv_lload_n hx hb dX2_digest_54 rfl (lv_at hl 1 rfl) ?_
        refine lv_lmul hx hb dX2_digest_55 ?_
        refine lv_aload_n hx hb dX2_digest_56 rfl (lv_at hl 0 rfl) ?_
        refine lv_iload_n hx hb dX2_digest_57 rfl (lv_at hl 2 rfl) ?_
        refine lv_iload hx hb dX2_digest_58 (lv_at hl 3 rfl) ?_
        obtain ⟨r60, M60, h60, hf⟩ := bI_some hf
        refine g_calliV X hl.1 hZ hA hW (c_X2_tubeOf l D cy ad h60) cw_X2_tubeOf ql_X2_247 iO_X2 rfl (by decide) rfl (Nat.le_of_ble_eq_true rfl) dX2_digest_60 (fun H locs hW => ?_)
        refine lv_i2l (v := r60.toInt64) hx hb dX2_digest_63 rfl ?_
        refine lv_ladd hx hb dX2_digest_64 ?_
        refine lv_lstore_n (lv' := [(1, .long ((31 * v1_L44) + r60.toInt64)), (0, .ref (ad 0)), (3, .int v3_L44), (4, .int v4_L44)]) hx hb dX2_digest_65 rfl hl (by decide) rfl (fun ls hl => ?_)
        refine lv_iinc (v := (v4_L44 + 1)) (lv' := [(4, .int (v4_L44 + 1)), (1, .long ((31 * v1_L44) + r60.toInt64)), (0, .ref (ad 0)), (3, .int v3_L44)]) hx hb dX2_digest_66 hl (k := 3) rfl rfl (by decide) rfl (fun ls hl => ?_)
        refine lv_goto (tgt := 44) hx hb dX2_digest_69 (by decide) ?_
        exact ih ((31 * v1_L44) + r60.toInt64) (v4_L44 + 1) M60 H locs ls hf hW (lv_sub hl [2, 1, 3, 0] rfl)
  have hL33 : ∀  (k78 : Int64 → Mem → Option (Int64 × Mem)) (hJ78 : ∀ (v1_78x : Int64) (M_78x : Mem) (H : Heap) (locs : List Loc) (ls : Array Slot), k78 v1_78x M_78x = some (r, M') → Wd D 20 ad (CM ad cy) A s.heap M_78x H locs → lv_has ls 5 [(0, .ref (ad 0)), (1, .long v1_78x)] → W p l e (rmD 5) s m ([.ref (ad 0)] : List Value).toArray below meth c H locs 0 0 Q (F0 m 78 ls [])) (n : Nat) (v1_L33 : Int64) (v3_L33 : Int32) (M_L33 : Mem) (H : Heap) (locs : List Loc) (ls : Array Slot), f_X2_digest_L33 k78 n v1_L33 v3_L33 M_L33 = some (r, M') → Wd D 20 ad (CM ad cy) A s.heap M_L33 H locs → lv_has ls 5 [(0, .ref (ad 0)), (1, .long v1_L33), (3, .int v3_L33)] → W p l e (rmD 5) s m ([.ref (ad 0)] : List Value).toArray below meth c H locs 0 0 Q (F0 m 33 ls []) := by
    intro k78 hJ78 n
    induction n with
    | zero =>
      intro v1_L33 v3_L33 M_L33 H locs ls hf
      cases (show (none : Option (Int64 × Mem)) = some (r, M') from hf)
    | succ n ih =>
      intro v1_L33 v3_L33 M_L33 H locs ls hf hW hl
      rw [f_X2_digest_L33] at hf
      refine lv_iload_n hx hb dX2_digest_33 rfl (lv_at hl 2 rfl) ?_
      refine lv_aload_n hx hb dX2_digest_34 rfl (lv_at hl 0 rfl) ?_
      refine gf_X2_79 X hW dX2_digest_35 ?_
      refine lv_icmp_ge (tgt := 78) hx hb dX2_digest_38 (by decide) (fun hc => ?_) (fun hc => ?_)
      · replace hf := ifp hc hf
        exact hJ78 v1_L33 M_L33 H locs ls hf hW (lv_sub hl [0, 1] rfl)
      · replace hf := ifn hc hf
        refine lv_iconst (v := 0) hx hb dX2_digest_41 (by decide) ?_
        refine lv_istore (lv' := [(4, .int 0), (0, .ref (ad 0)), (1, .long v1_L33), (3, .int v3_L33)]) hx hb dX2_digest_42 hl (by decide) rfl (fun ls hl => ?_)
        obtain ⟨k72, hk72, hf⟩ := jn_some2 hf
        have hJ72 : ∀ (v1_72x : Int64) (M_72x : Mem) (H : Heap) (locs : List Loc) (ls : Array Slot), k72 v1_72x M_72x = some (r, M') → Wd D 20 ad (CM ad cy) A s.heap M_72x H locs → lv_has ls 5 [(0, .ref (ad 0)), (1, .long v1_72x), (3, .int v3_L33)] → W p l e (rmD 5) s m ([.ref (ad 0)] : List Value).toArray below meth c H locs 0 0 Q (F0 m 72 ls []) := by
          intro v1_72x M_72x H locs ls hf hW hl
          rw [hk72] at hf
          refine lv_iinc (v := (v3_L33 + 1)) (lv' := [(3, .int (v3_L33 + 1)), (0, .ref (ad 0)), (1, .long v1_72x)]) hx hb dX2_digest_72 hl (k := 2) rfl rfl (by decide) rfl (fun ls hl => ?_)
          refine lv_goto (tgt := 33) hx hb dX2_digest_75 (by decide) ?_
          exact ih v1_72x (v3_L33 + 1) M_72x H locs ls hf hW (lv_sub hl [1, 2, 0] rfl)
        exact hL44 v3_L33 k72 hJ72 FU v1_L33 0 M_L33 H locs ls hf hW (lv_sub hl [1, 2, 3, 0] rfl)
  have hL6 : ∀ (M_L6 : Mem) (k31 : Int64 → Option (Int64 × Mem)) (hJ31 : ∀ (v1_31x : Int64) (H : Heap) (locs : List Loc) (ls : Array Slot), k31 v1_31x = some (r, M') → Wd D 20 ad (CM ad cy) A s.heap M_L6 H locs → lv_has ls 5 [(0, .ref (ad 0)), (1, .long v1_31x)] → W p l e (rmD 5) s m ([.ref (ad 0)] : List Value).toArray below meth c H locs 0 0 Q (F0 m 31 ls [])) (n : Nat) (v1_L6 : Int64) (v3_L6 : Int32) (H : Heap) (locs : List Loc) (ls : Array Slot), f_X2_digest_L6 M_L6 k31 n v1_L6 v3_L6 = some (r, M') → Wd D 20 ad (CM ad cy) A s.heap M_L6 H locs → lv_has ls 5 [(0, .ref (ad 0)), (1, .long v1_L6), (3, .int v3_L6)] → W p l e (rmD 5) s m ([.ref (ad 0)] : List Value).toArray below meth c H locs 0 0 Q (F0 m 6 ls []) := by
    intro M_L6 k31 hJ31 n
    induction n with
    | zero =>
      intro v1_L6 v3_L6 H locs ls hf
      cases (show (none : Option (Int64 × Mem)) = some (r, M') from hf)
    | succ n ih =>
      intro v1_L6 v3_L6 H locs ls hf hW hl
      rw [f_X2_digest_L6] at hf
      refine lv_iload_n hx hb dX2_digest_6 rfl (lv_at hl 2 rfl) ?_
      refine lv_bipush (v := 11) hx hb dX2_digest_7 (by decide) ?_
      refine lv_icmp_ge (tgt := 31) hx hb dX2_digest_9 (by decide) (fun hc => ?_) (fun hc => ?_)
      · replace hf := ifp hc hf
        exact hJ31 v1_L6 H locs ls hf hW (lv_sub hl [0, 1] rfl)
      · replace hf := ifn hc hf
        refine lv_ldc2 (v := 31) hx hb X.2.2.2.1 (X.2.2.2.2.1 _ qk_X2_242) dX2_digest_12 ?_
        refine lv_lload_n hx hb dX2_digest_15 rfl (lv_at hl 1 rfl) ?_
        refine lv_lmul hx hb dX2_digest_16 ?_
        refine lv_aload_n hx hb dX2_digest_17 rfl (lv_at hl 0 rfl) ?_
        refine lv_iload_n hx hb dX2_digest_18 rfl (lv_at hl 2 rfl) ?_
        obtain ⟨r19, h19, hf⟩ := bR_some hf
        refine g_calliV X hl.1 hZ hA hW (c_X2_count l D cy ad h19) cw_X2_count ql_X2_244 iO_X2 rfl (by decide) rfl (Nat.le_of_ble_eq_true rfl) dX2_digest_19 (fun H locs hW => ?_)
        refine lv_i2l (v := r19.toInt64) hx hb dX2_digest_22 rfl ?_
        refine lv_ladd hx hb dX2_digest_23 ?_
        refine lv_lstore_n (lv' := [(1, .long ((31 * v1_L6) + r19.toInt64)), (0, .ref (ad 0)), (3, .int v3_L6)]) hx hb dX2_digest_24 rfl hl (by decide) rfl (fun ls hl => ?_)
        refine lv_iinc (v := (v3_L6 + 1)) (lv' := [(3, .int (v3_L6 + 1)), (1, .long ((31 * v1_L6) + r19.toInt64)), (0, .ref (ad 0))]) hx hb dX2_digest_25 hl (k := 2) rfl rfl (by decide) rfl (fun ls hl => ?_)
        refine lv_goto (tgt := 6) hx hb dX2_digest_28 (by decide) ?_
        exact ih ((31 * v1_L6) + r19.toInt64) (v3_L6 + 1) H locs ls hf hW (lv_sub hl [2, 1, 0] rfl)
  obtain ⟨H, hH⟩ : ∃ H, H = s.heap := ⟨_, rfl⟩
  obtain ⟨locs, hlo⟩ : ∃ q : List Loc, q = [] := ⟨_, rfl⟩
  have hW : Wd D 20 ad (CM ad cy) A s.heap M H locs := by rw [hH, hlo]; exact hW
  suffices hh : W p l e (rmD 5) s m ([.ref (ad 0)] : List Value).toArray below meth c H locs 0 0 Q (F0 m 0 ls []) by rw [hH, hlo] at hh; exact hh
  unfold f_X2_digest at hf
  refine lv_ldc2 (v := 17) hx hb X.2.2.2.1 (X.2.2.2.2.1 _ qk_X2_240) dX2_digest_0 ?_
  refine lv_lstore_n (lv' := [(1, .long 17), (0, .ref (ad 0))]) hx hb dX2_digest_3 rfl hl (by decide) rfl (fun ls hl => ?_)
  refine lv_iconst (v := 0) hx hb dX2_digest_4 (by decide) ?_
  refine lv_istore_n (lv' := [(3, .int 0), (1, .long 17), (0, .ref (ad 0))]) hx hb dX2_digest_5 rfl hl (by decide) rfl (fun ls hl => ?_)
  obtain ⟨k31, hk31, hf⟩ := jn_some1 hf
  have hJ31 : ∀ (v1_31x : Int64) (H : Heap) (locs : List Loc) (ls : Array Slot), k31 v1_31x = some (r, M') → Wd D 20 ad (CM ad cy) A s.heap M H locs → lv_has ls 5 [(0, .ref (ad 0)), (1, .long v1_31x)] → W p l e (rmD 5) s m ([.ref (ad 0)] : List Value).toArray below meth c H locs 0 0 Q (F0 m 31 ls []) := by
    intro v1_31x H locs ls hf hW hl
    rw [hk31] at hf
    refine lv_iconst (v := 0) hx hb dX2_digest_31 (by decide) ?_
    refine lv_istore_n (lv' := [(3, .int 0), (0, .ref (ad 0)), (1, .long v1_31x)]) hx hb dX2_digest_32 rfl hl (by decide) rfl (fun ls hl => ?_)
    obtain ⟨k78, hk78, hf⟩ := jn_some2 hf
    have hJ78 : ∀ (v1_78x : Int64) (M_78x : Mem) (H : Heap) (locs : List Loc) (ls : Array Slot), k78 v1_78x M_78x = some (r, M') → Wd D 20 ad (CM ad cy) A s.heap M_78x H locs → lv_has ls 5 [(0, .ref (ad 0)), (1, .long v1_78x)] → W p l e (rmD 5) s m ([.ref (ad 0)] : List Value).toArray below meth c H locs 0 0 Q (F0 m 78 ls []) := by
      intro v1_78x M_78x H locs ls hf hW hl
      rw [hk78] at hf
      refine lv_iconst (v := 0) hx hb dX2_digest_78 (by decide) ?_
      refine lv_istore_n (lv' := [(3, .int 0), (0, .ref (ad 0)), (1, .long v1_78x)]) hx hb dX2_digest_79 rfl hl (by decide) rfl (fun ls hl => ?_)
      obtain ⟨k122, hk122, hf⟩ := jn_some1 hf
      have hJ122 : ∀ (v1_122x : Int64) (H : Heap) (locs : List Loc) (ls : Array Slot), k122 v1_122x = some (r, M') → Wd D 20 ad (CM ad cy) A s.heap M_78x H locs → lv_has ls 5 [(0, .ref (ad 0)), (1, .long v1_122x)] → W p l e (rmD 5) s m ([.ref (ad 0)] : List Value).toArray below meth c H locs 0 0 Q (F0 m 122 ls []) := by
        intro v1_122x H locs ls hf hW hl
        rw [hk122] at hf
        refine lv_iconst (v := 0) hx hb dX2_digest_122 (by decide) ?_
        refine lv_istore_n (lv' := [(3, .int 0), (0, .ref (ad 0)), (1, .long v1_122x)]) hx hb dX2_digest_123 rfl hl (by decide) rfl (fun ls hl => ?_)
        obtain ⟨k190, hk190, hf⟩ := jn_some1 hf
        have hJ190 : ∀ (v1_190x : Int64) (H : Heap) (locs : List Loc) (ls : Array Slot), k190 v1_190x = some (r, M') → Wd D 20 ad (CM ad cy) A s.heap M_78x H locs → lv_has ls 5 [(0, .ref (ad 0)), (1, .long v1_190x)] → W p l e (rmD 5) s m ([.ref (ad 0)] : List Value).toArray below meth c H locs 0 0 Q (F0 m 190 ls []) := by
          intro v1_190x H locs ls hf hW hl
          rw [hk190] at hf
          refine lv_iconst (v := 0) hx hb dX2_digest_190 (by decide) ?_
          refine lv_istore_n (lv' := [(3, .int 0), (0, .ref (ad 0)), (1, .long v1_190x)]) hx hb dX2_digest_191 rfl hl (by decide) rfl (fun ls hl => ?_)
          exact hL192 M_78x FU v1_190x 0 H locs ls hf hW (lv_sub hl [1, 2, 0] rfl)
        exact hL124 M_78x k190 hJ190 FU v1_122x 0 H locs ls hf hW (lv_sub hl [1, 2, 0] rfl)
      exact hL80 M_78x k122 hJ122 FU v1_78x 0 H locs ls hf hW (lv_sub hl [1, 2, 0] rfl)
    exact hL33 k78 hJ78 FU v1_31x 0 M H locs ls hf hW (lv_sub hl [1, 2, 0] rfl)
  exact hL6 M k31 hJ31 FU 17 0 H locs ls hf hW (lv_sub hl [2, 1, 0] rfl)
