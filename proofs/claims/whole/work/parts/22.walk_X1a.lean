/-! walks, by program out of the listing: 22.walk_X1a -/
def f_X1_isWithin (v0 : Int32) (v1 : Int32) (v2 : Int32) (M : Mem) : Option Int32 :=
  (if v0 < v1 then (some 0) else (if v2 < v0 then (some 0) else (some 1)))
set_option maxHeartbeats 4000000 in
set_option maxRecDepth 100000 in
theorem c_X1_isWithin (l : Launch) (D : va_G) (cy : Nat → ClassId) (ad : Nat → Nat)   {v0 : Int32} {v1 : Int32} {v2 : Int32} {M : Mem} {r : Int32} (hf : f_X1_isWithin v0 v1 v2 M = some r) : MetX l 43 (CC ad cy) D cy ad yX1_isWithin cX1_isWithin 3 (some .boolean) 0 [.int v0, .int v1, .int v2] M (fun A => QI r M 43 (CC ad cy) D cy ad A) := by
  refine MetX.of (own := RX1) (by decide) rfl (Nat.le_of_ble_eq_true rfl) ?_
  intro p e s m below meth c A Q ls X hr hlk hZ hA hQ hW hl
  have hl : lv_has ls 3 [(0, .int v0), (1, .int v1), (2, .int v2)] := hl
  have hx := X.1
  have hb := X.2.1
  obtain ⟨H, hH⟩ : ∃ H, H = s.heap := ⟨_, rfl⟩
  obtain ⟨locs, hlo⟩ : ∃ q : List Loc, q = [] := ⟨_, rfl⟩
  have hW : Wd D 43 ad (CC ad cy) A s.heap M H locs := by rw [hH, hlo]; exact hW
  suffices hh : W p l e (rmD 0) s m ([.int v0, .int v1, .int v2] : List Value).toArray below meth c H locs 0 0 Q (F0 m 0 ls []) by rw [hH, hlo] at hh; exact hh
  unfold f_X1_isWithin at hf
  refine lv_iload_n hx hb dX1_isWithin_0 rfl (lv_at hl 0 rfl) ?_
  refine lv_iload_n hx hb dX1_isWithin_1 rfl (lv_at hl 1 rfl) ?_
  refine lv_icmp_lt (tgt := 14) hx hb dX1_isWithin_2 (by decide) (fun hc => ?_) (fun hc => ?_)
  · replace hf := ifp hc hf
    refine lv_iconst (v := 0) hx hb dX1_isWithin_14 (by decide) ?_
    exact g_zret X hr hlk hQ hW dX1_isWithin_15 (by decide) (rd_some hf)
  · replace hf := ifn hc hf
    refine lv_iload_n hx hb dX1_isWithin_5 rfl (lv_at hl 0 rfl) ?_
    refine lv_iload_n hx hb dX1_isWithin_6 rfl (lv_at hl 2 rfl) ?_
    refine lv_icmp_gt (tgt := 14) hx hb dX1_isWithin_7 (by decide) (fun hc => ?_) (fun hc => ?_)
    · replace hf := ifp hc hf
      refine lv_iconst (v := 0) hx hb dX1_isWithin_14 (by decide) ?_
      exact g_zret X hr hlk hQ hW dX1_isWithin_15 (by decide) (rd_some hf)
    · replace hf := ifn hc hf
      refine lv_iconst (v := 1) hx hb dX1_isWithin_10 (by decide) ?_
      refine lv_goto (tgt := 15) hx hb dX1_isWithin_11 (by decide) ?_
      exact g_zret X hr hlk hQ hW dX1_isWithin_15 (by decide) (rd_some hf)

def f_X1_isRow (v0 : Int32) (M : Mem) : Option Int32 :=
  (bR (f_X1_isWithin v0 0 5 M) (fun r3 => (grd (isB r3) (some r3))))
set_option maxHeartbeats 4000000 in
set_option maxRecDepth 100000 in
theorem c_X1_isRow (l : Launch) (D : va_G) (cy : Nat → ClassId) (ad : Nat → Nat)   {v0 : Int32} {M : Mem} {r : Int32} (hf : f_X1_isRow v0 M = some r) : MetX l 43 (CC ad cy) D cy ad yX1_isRow cX1_isRow 1 (some .boolean) 1 [.int v0] M (fun A => QI r M 43 (CC ad cy) D cy ad A) := by
  refine MetX.of (own := RX1) (by decide) rfl (Nat.le_of_ble_eq_true rfl) ?_
  intro p e s m below meth c A Q ls X hr hlk hZ hA hQ hW hl
  have hl : lv_has ls 1 [(0, .int v0)] := hl
  have hx := X.1
  have hb := X.2.1
  obtain ⟨H, hH⟩ : ∃ H, H = s.heap := ⟨_, rfl⟩
  obtain ⟨locs, hlo⟩ : ∃ q : List Loc, q = [] := ⟨_, rfl⟩
  have hW : Wd D 43 ad (CC ad cy) A s.heap M H locs := by rw [hH, hlo]; exact hW
  suffices hh : W p l e (rmD 1) s m ([.int v0] : List Value).toArray below meth c H locs 0 0 Q (F0 m 0 ls []) by rw [hH, hlo] at hh; exact hh
  unfold f_X1_isRow at hf
  refine lv_iload_n hx hb dX1_isRow_0 rfl (lv_at hl 0 rfl) ?_
  refine lv_iconst (v := 0) hx hb dX1_isRow_1 (by decide) ?_
  refine lv_iconst (v := 5) hx hb dX1_isRow_2 (by decide) ?_
  obtain ⟨r3, h3, hf⟩ := bR_some hf
  refine g_calliS X hl.1 hZ hA hW (c_X1_isWithin l D cy ad h3) cs_X1_isWithin ql_X1_114 rfl (by decide) rfl (Nat.le_of_ble_eq_true rfl) dX1_isRow_3 (fun H locs hW => ?_)
  obtain ⟨hzb, hf⟩ := grd_some hf
  exact g_zret X hr hlk hQ hW dX1_isRow_6 hzb (rd_some hf)

def f_X1_refuse (v1 : Int32) (M : Mem) : Option (Int32 × Mem) :=
  (bR (f_X1_isWithin v1 1 5 M) (fun r3 => (if r3 = 0 then (some ((-3), M)) else (lt (sI M 0 12 v1) (fun M11 => (grd (inb v1 6) (grd (inb v1 6) (lt (sI M11 42 (ix v1) ((M11.1 42 (ix v1)) + 1)) (fun M23 => (some ((-3), M23)))))))))))
set_option maxHeartbeats 4000000 in
set_option maxRecDepth 100000 in
theorem c_X1_refuse (l : Launch) (D : va_G) (cy : Nat → ClassId) (ad : Nat → Nat)   {v1 : Int32} {M M' : Mem} {r : Int32} (hf : f_X1_refuse v1 M = some (r, M')) : MetX l 43 (CC ad cy) D cy ad yX1_refuse cX1_refuse 2 (some .int) 1 [.ref (ad 0), .int v1] M (fun A => QI r M' 43 (CC ad cy) D cy ad A) := by
  refine MetX.of (own := RX1) (by decide) rfl (Nat.le_of_ble_eq_true rfl) ?_
  intro p e s m below meth c A Q ls X hr hlk hZ hA hQ hW hl
  have hl : lv_has ls 2 [(0, .ref (ad 0)), (1, .int v1)] := hl
  have hx := X.1
  have hb := X.2.1
  obtain ⟨H, hH⟩ : ∃ H, H = s.heap := ⟨_, rfl⟩
  obtain ⟨locs, hlo⟩ : ∃ q : List Loc, q = [] := ⟨_, rfl⟩
  have hW : Wd D 43 ad (CC ad cy) A s.heap M H locs := by rw [hH, hlo]; exact hW
  suffices hh : W p l e (rmD 1) s m ([.ref (ad 0), .int v1] : List Value).toArray below meth c H locs 0 0 Q (F0 m 0 ls []) by rw [hH, hlo] at hh; exact hh
  unfold f_X1_refuse at hf
  refine lv_iload_n hx hb dX1_refuse_0 rfl (lv_at hl 1 rfl) ?_
  refine lv_iconst (v := 1) hx hb dX1_refuse_1 (by decide) ?_
  refine lv_iconst (v := 5) hx hb dX1_refuse_2 (by decide) ?_
  obtain ⟨r3, h3, hf⟩ := bR_some hf
  refine g_calliS X hl.1 hZ hA hW (c_X1_isWithin l D cy ad h3) cs_X1_isWithin ql_X1_114 rfl (by decide) rfl (Nat.le_of_ble_eq_true rfl) dX1_refuse_3 (fun H locs hW => ?_)
  refine lv_if_eq (tgt := 24) hx hb dX1_refuse_6 (by decide) (fun hc => ?_) (fun hc => ?_)
  · replace hf := ifp hc hf
    refine lv_bipush (v := (-3)) hx hb dX1_refuse_24 (by decide) ?_
    exact g_iret X hr hlk hQ hW dX1_refuse_26 hf
  · replace hf := ifn hc hf
    refine lv_aload_n hx hb dX1_refuse_9 rfl (lv_at hl 0 rfl) ?_
    refine lv_iload_n hx hb dX1_refuse_10 rfl (lv_at hl 1 rfl) ?_
    refine gp_X1_55 X hW dX1_refuse_11 (fun H locs hW => ?_)
    obtain ⟨M11, e11, hf⟩ := lt_some hf
    have hW : Wd D 43 ad (CC ad cy) A s.heap M11 H locs := by rw [e11]; exact hW
    refine lv_aload_n hx hb dX1_refuse_14 rfl (lv_at hl 0 rfl) ?_
    refine gf_X1_52 X hW dX1_refuse_15 ?_
    refine lv_iload_n hx hb dX1_refuse_18 rfl (lv_at hl 1 rfl) ?_
    refine lv_dup2_11 hx hb dX1_refuse_19 rfl rfl ?_
    obtain ⟨hi20, hf⟩ := grd_some hf
    refine g_iald X hW iA_findingCounts hi20 dX1_refuse_20 ?_
    refine lv_iconst (v := 1) hx hb dX1_refuse_21 (by decide) ?_
    refine lv_iadd hx hb dX1_refuse_22 ?_
    obtain ⟨hi23, hf⟩ := grd_some hf
    refine g_iast X hW iA_findingCounts hi23 dX1_refuse_23 (fun H locs hW => ?_)
    obtain ⟨M23, e23, hf⟩ := lt_some hf
    have hW : Wd D 43 ad (CC ad cy) A s.heap M23 H locs := by rw [e23]; exact hW
    refine lv_bipush (v := (-3)) hx hb dX1_refuse_24 (by decide) ?_
    exact g_iret X hr hlk hQ hW dX1_refuse_26 hf

def f_X1_makeRow_L2 (v1_L2 : Int32) (v2_L2 : Int32) (k22 : Mem → Option Mem) : Nat → Int32 → Mem → Option Mem
  | 0, _, _ => none
  | n + 1, v3_L2, M_L2 => (if v2_L2 ≤ v3_L2 then (k22 M_L2) else (grd (inb v1_L2 6) (grd (inb v3_L2 40) (lt (sI M_L2 (2 + (ix v1_L2)) (ix v3_L2) 0) (fun M15 => (f_X1_makeRow_L2 v1_L2 v2_L2 k22 n (v3_L2 + 1) M15))))))
def f_X1_makeRow (v1 : Int32) (v2 : Int32) (M : Mem) : Option Mem :=
  (jn (fun (k22 : Mem → Option Mem) => (f_X1_makeRow_L2 v1 v2 k22 FU 0 M)) (fun  (M_22x : Mem) => (grd (inb v1 6) (lt (sI M_22x 8 (ix v1) v2) (fun M28 => (some M28))))))
set_option maxHeartbeats 4000000 in
set_option maxRecDepth 100000 in
theorem c_X1_makeRow (l : Launch) (D : va_G) (cy : Nat → ClassId) (ad : Nat → Nat)   {v1 : Int32} {v2 : Int32} {M M' : Mem} (hf : f_X1_makeRow v1 v2 M = some M') : MetX l 43 (CC ad cy) D cy ad yX1_makeRow cX1_makeRow 4 none 0 [.ref (ad 0), .int v1, .int v2] M (fun A => QV M' 43 (CC ad cy) D cy ad A) := by
  refine MetX.of (own := RX1) (by decide) rfl (Nat.le_of_ble_eq_true rfl) ?_
  intro p e s m below meth c A Q ls X hr hlk hZ hA hQ hW hl
  have hl : lv_has ls 4 [(0, .ref (ad 0)), (1, .int v1), (2, .int v2)] := hl
  have hx := X.1
  have hb := X.2.1
  have hL2 : ∀ (v1_L2 : Int32) (v2_L2 : Int32) (k22 : Mem → Option Mem) (hJ22 : ∀  (M_22x : Mem) (H : Heap) (locs : List Loc) (ls : Array Slot), k22 M_22x = some M' → Wd D 43 ad (CC ad cy) A s.heap M_22x H locs → lv_has ls 4 [(0, .ref (ad 0)), (1, .int v1_L2), (2, .int v2_L2)] → W p l e (rmD 0) s m ([.ref (ad 0), .int v1, .int v2] : List Value).toArray below meth c H locs 0 0 Q (F0 m 22 ls [])) (n : Nat) (v3_L2 : Int32) (M_L2 : Mem) (H : Heap) (locs : List Loc) (ls : Array Slot), f_X1_makeRow_L2 v1_L2 v2_L2 k22 n v3_L2 M_L2 = some M' → Wd D 43 ad (CC ad cy) A s.heap M_L2 H locs → lv_has ls 4 [(0, .ref (ad 0)), (1, .int v1_L2), (2, .int v2_L2), (3, .int v3_L2)] → W p l e (rmD 0) s m ([.ref (ad 0), .int v1, .int v2] : List Value).toArray below meth c H locs 0 0 Q (F0 m 2 ls []) := by
    intro v1_L2 v2_L2 k22 hJ22 n
    induction n with
    | zero =>
      intro v3_L2 M_L2 H locs ls hf
      cases (show (none : Option Mem) = some M' from hf)
    | succ n ih =>
      intro v3_L2 M_L2 H locs ls hf hW hl
      rw [f_X1_makeRow_L2] at hf
      refine lv_iload_n hx hb dX1_makeRow_2 rfl (lv_at hl 3 rfl) ?_
      refine lv_iload_n hx hb dX1_makeRow_3 rfl (lv_at hl 2 rfl) ?_
      refine lv_icmp_ge (tgt := 22) hx hb dX1_makeRow_4 (by decide) (fun hc => ?_) (fun hc => ?_)
      · replace hf := ifp hc hf
        exact hJ22 M_L2 H locs ls hf hW (lv_sub hl [0, 1, 2] rfl)
      · replace hf := ifn hc hf
        refine lv_aload_n hx hb dX1_makeRow_7 rfl (lv_at hl 0 rfl) ?_
        refine gf_X1_11 X hW dX1_makeRow_8 ?_
        refine lv_iload_n hx hb dX1_makeRow_11 rfl (lv_at hl 1 rfl) ?_
        obtain ⟨hi12, hf⟩ := grd_some hf
        refine g_aald X hW (t0 := 3) iG_rows rfl rfl hi12 dX1_makeRow_12 ?_
        refine lv_iload_n hx hb dX1_makeRow_13 rfl (lv_at hl 3 rfl) ?_
        refine lv_iconst (v := 0) hx hb dX1_makeRow_14 (by decide) ?_
        obtain ⟨hi15, hf⟩ := grd_some hf
        refine g_iast X hW (iA_rows_r (inb_lt hi12)) hi15 dX1_makeRow_15 (fun H locs hW => ?_)
        obtain ⟨M15, e15, hf⟩ := lt_some hf
        have hW : Wd D 43 ad (CC ad cy) A s.heap M15 H locs := by rw [e15]; exact hW
        refine lv_iinc (v := (v3_L2 + 1)) (lv' := [(3, .int (v3_L2 + 1)), (0, .ref (ad 0)), (1, .int v1_L2), (2, .int v2_L2)]) hx hb dX1_makeRow_16 hl (k := 3) rfl rfl (by decide) rfl (fun ls hl => ?_)
        refine lv_goto (tgt := 2) hx hb dX1_makeRow_19 (by decide) ?_
        exact ih (v3_L2 + 1) M15 H locs ls hf hW (lv_sub hl [1, 2, 3, 0] rfl)
  obtain ⟨H, hH⟩ : ∃ H, H = s.heap := ⟨_, rfl⟩
  obtain ⟨locs, hlo⟩ : ∃ q : List Loc, q = [] := ⟨_, rfl⟩
  have hW : Wd D 43 ad (CC ad cy) A s.heap M H locs := by rw [hH, hlo]; exact hW
  suffices hh : W p l e (rmD 0) s m ([.ref (ad 0), .int v1, .int v2] : List Value).toArray below meth c H locs 0 0 Q (F0 m 0 ls []) by rw [hH, hlo] at hh; exact hh
  unfold f_X1_makeRow at hf
  refine lv_iconst (v := 0) hx hb dX1_makeRow_0 (by decide) ?_
  refine lv_istore_n (lv' := [(3, .int 0), (0, .ref (ad 0)), (1, .int v1), (2, .int v2)]) hx hb dX1_makeRow_1 rfl hl (by decide) rfl (fun ls hl => ?_)
  obtain ⟨k22, hk22, hf⟩ := jn_some1 hf
  have hJ22 : ∀  (M_22x : Mem) (H : Heap) (locs : List Loc) (ls : Array Slot), k22 M_22x = some M' → Wd D 43 ad (CC ad cy) A s.heap M_22x H locs → lv_has ls 4 [(0, .ref (ad 0)), (1, .int v1), (2, .int v2)] → W p l e (rmD 0) s m ([.ref (ad 0), .int v1, .int v2] : List Value).toArray below meth c H locs 0 0 Q (F0 m 22 ls []) := by
    intro M_22x H locs ls hf hW hl
    rw [hk22] at hf
    refine lv_aload_n hx hb dX1_makeRow_22 rfl (lv_at hl 0 rfl) ?_
    refine gf_X1_14 X hW dX1_makeRow_23 ?_
    refine lv_iload_n hx hb dX1_makeRow_26 rfl (lv_at hl 1 rfl) ?_
    refine lv_iload_n hx hb dX1_makeRow_27 rfl (lv_at hl 2 rfl) ?_
    obtain ⟨hi28, hf⟩ := grd_some hf
    refine g_iast X hW iA_rowSizes hi28 dX1_makeRow_28 (fun H locs hW => ?_)
    obtain ⟨M28, e28, hf⟩ := lt_some hf
    have hW : Wd D 43 ad (CC ad cy) A s.heap M28 H locs := by rw [e28]; exact hW
    exact g_vret X hr hlk hQ hW dX1_makeRow_29 hf
  exact hL2 v1 v2 k22 hJ22 FU 0 M H locs ls hf hW (lv_sub hl [1, 2, 3, 0] rfl)

def f_X1_row (v1 : Int32) (v2 : Int32) (M : Mem) : Option (Int32 × Mem) :=
  (bR (f_X1_isRow v1 M) (fun r1 => (if r1 = 0 then (some ((-1), M)) else (if v2 ≤ 40 then (if 0 ≤ v2 then (bR (f_X1_makeRow v1 v2 M) (fun M28 => (some (v2, M28)))) else (bI (f_X1_refuse 5 M) (fun r21 M21 => (some (r21, M21))))) else (some ((-1), M))))))
set_option maxHeartbeats 4000000 in
set_option maxRecDepth 100000 in
theorem c_X1_row (l : Launch) (D : va_G) (cy : Nat → ClassId) (ad : Nat → Nat)   {v1 : Int32} {v2 : Int32} {M M' : Mem} {r : Int32} (hf : f_X1_row v1 v2 M = some (r, M')) : MetX l 43 (CC ad cy) D cy ad yX1_row cX1_row 3 (some .int) 2 [.ref (ad 0), .int v1, .int v2] M (fun A => QI r M' 43 (CC ad cy) D cy ad A) := by
  refine MetX.of (own := RX1) (by decide) rfl (Nat.le_of_ble_eq_true rfl) ?_
  intro p e s m below meth c A Q ls X hr hlk hZ hA hQ hW hl
  have hl : lv_has ls 3 [(0, .ref (ad 0)), (1, .int v1), (2, .int v2)] := hl
  have hx := X.1
  have hb := X.2.1
  obtain ⟨H, hH⟩ : ∃ H, H = s.heap := ⟨_, rfl⟩
  obtain ⟨locs, hlo⟩ : ∃ q : List Loc, q = [] := ⟨_, rfl⟩
  have hW : Wd D 43 ad (CC ad cy) A s.heap M H locs := by rw [hH, hlo]; exact hW
  suffices hh : W p l e (rmD 2) s m ([.ref (ad 0), .int v1, .int v2] : List Value).toArray below meth c H locs 0 0 Q (F0 m 0 ls []) by rw [hH, hlo] at hh; exact hh
  unfold f_X1_row at hf
  refine lv_iload_n hx hb dX1_row_0 rfl (lv_at hl 1 rfl) ?_
  obtain ⟨r1, h1, hf⟩ := bR_some hf
  refine g_calliS X hl.1 hZ hA hW (c_X1_isRow l D cy ad h1) cs_X1_isRow ql_X1_68 rfl (by decide) rfl (Nat.le_of_ble_eq_true rfl) dX1_row_1 (fun H locs hW => ?_)
  refine lv_if_eq (tgt := 13) hx hb dX1_row_4 (by decide) (fun hc => ?_) (fun hc => ?_)
  · replace hf := ifp hc hf
    refine lv_iconst (v := (-1)) hx hb dX1_row_13 (by decide) ?_
    exact g_iret X hr hlk hQ hW dX1_row_14 hf
  · replace hf := ifn hc hf
    refine lv_iload_n hx hb dX1_row_7 rfl (lv_at hl 2 rfl) ?_
    refine lv_bipush (v := 40) hx hb dX1_row_8 (by decide) ?_
    refine lv_icmp_le (tgt := 15) hx hb dX1_row_10 (by decide) (fun hc => ?_) (fun hc => ?_)
    · replace hf := ifp hc hf
      refine lv_iload_n hx hb dX1_row_15 rfl (lv_at hl 2 rfl) ?_
      refine lv_if_ge (tgt := 25) hx hb dX1_row_16 (by decide) (fun hc => ?_) (fun hc => ?_)
      · replace hf := ifp hc hf
        refine lv_aload_n hx hb dX1_row_25 rfl (lv_at hl 0 rfl) ?_
        refine lv_iload_n hx hb dX1_row_26 rfl (lv_at hl 1 rfl) ?_
        refine lv_iload_n hx hb dX1_row_27 rfl (lv_at hl 2 rfl) ?_
        obtain ⟨M28, h28, hf⟩ := bR_some hf
        refine g_callvV X hl.1 hZ hA hW (c_X1_makeRow l D cy ad h28) cw_X1_makeRow ql_X1_76 iO_X1 rfl (by decide) rfl (Nat.le_of_ble_eq_true rfl) dX1_row_28 (fun H locs hW => ?_)
        refine lv_iload_n hx hb dX1_row_31 rfl (lv_at hl 2 rfl) ?_
        exact g_iret X hr hlk hQ hW dX1_row_32 hf
      · replace hf := ifn hc hf
        refine lv_aload_n hx hb dX1_row_19 rfl (lv_at hl 0 rfl) ?_
        refine lv_iconst (v := 5) hx hb dX1_row_20 (by decide) ?_
        obtain ⟨r21, M21, h21, hf⟩ := bI_some hf
        refine g_calliV X hl.1 hZ hA hW (c_X1_refuse l D cy ad h21) cw_X1_refuse ql_X1_72 iO_X1 rfl (by decide) rfl (Nat.le_of_ble_eq_true rfl) dX1_row_21 (fun H locs hW => ?_)
        exact g_iret X hr hlk hQ hW dX1_row_24 hf
    · replace hf := ifn hc hf
      refine lv_iconst (v := (-1)) hx hb dX1_row_13 (by decide) ?_
      exact g_iret X hr hlk hQ hW dX1_row_14 hf

def f_X1_lookForPlace (v0 : Int32) (v1 : Int32) (M : Mem) : Option Int32 :=
  (if v1 = (-1) then (some 1) else (if v0 < 0 then (some 2) else (if v0 < v1 then (some 0) else (some 2))))
set_option maxHeartbeats 4000000 in
set_option maxRecDepth 100000 in
theorem c_X1_lookForPlace (l : Launch) (D : va_G) (cy : Nat → ClassId) (ad : Nat → Nat)   {v0 : Int32} {v1 : Int32} {M : Mem} {r : Int32} (hf : f_X1_lookForPlace v0 v1 M = some r) : MetX l 43 (CC ad cy) D cy ad yX1_lookForPlace cX1_lookForPlace 2 (some .int) 0 [.int v0, .int v1] M (fun A => QI r M 43 (CC ad cy) D cy ad A) := by
  refine MetX.of (own := RX1) (by decide) rfl (Nat.le_of_ble_eq_true rfl) ?_
  intro p e s m below meth c A Q ls X hr hlk hZ hA hQ hW hl
  have hl : lv_has ls 2 [(0, .int v0), (1, .int v1)] := hl
  have hx := X.1
  have hb := X.2.1
  obtain ⟨H, hH⟩ : ∃ H, H = s.heap := ⟨_, rfl⟩
  obtain ⟨locs, hlo⟩ : ∃ q : List Loc, q = [] := ⟨_, rfl⟩
  have hW : Wd D 43 ad (CC ad cy) A s.heap M H locs := by rw [hH, hlo]; exact hW
  suffices hh : W p l e (rmD 0) s m ([.int v0, .int v1] : List Value).toArray below meth c H locs 0 0 Q (F0 m 0 ls []) by rw [hH, hlo] at hh; exact hh
  unfold f_X1_lookForPlace at hf
  refine lv_iload_n hx hb dX1_lookForPlace_0 rfl (lv_at hl 1 rfl) ?_
  refine lv_iconst (v := (-1)) hx hb dX1_lookForPlace_1 (by decide) ?_
  refine lv_icmp_ne (tgt := 7) hx hb dX1_lookForPlace_2 (by decide) (fun hc => ?_) (fun hc => ?_)
  · replace hf := ifn hc hf
    refine lv_iload_n hx hb dX1_lookForPlace_7 rfl (lv_at hl 0 rfl) ?_
    refine lv_if_lt (tgt := 16) hx hb dX1_lookForPlace_8 (by decide) (fun hc => ?_) (fun hc => ?_)
    · replace hf := ifp hc hf
      refine lv_iconst (v := 2) hx hb dX1_lookForPlace_16 (by decide) ?_
      refine lv_goto (tgt := 21) hx hb dX1_lookForPlace_17 (by decide) ?_
      exact g_iret X hr hlk hQ hW dX1_lookForPlace_21 (rd_some hf)
    · replace hf := ifn hc hf
      refine lv_iload_n hx hb dX1_lookForPlace_11 rfl (lv_at hl 0 rfl) ?_
      refine lv_iload_n hx hb dX1_lookForPlace_12 rfl (lv_at hl 1 rfl) ?_
      refine lv_icmp_lt (tgt := 20) hx hb dX1_lookForPlace_13 (by decide) (fun hc => ?_) (fun hc => ?_)
      · replace hf := ifp hc hf
        refine lv_iconst (v := 0) hx hb dX1_lookForPlace_20 (by decide) ?_
        exact g_iret X hr hlk hQ hW dX1_lookForPlace_21 (rd_some hf)
      · replace hf := ifn hc hf
        refine lv_iconst (v := 2) hx hb dX1_lookForPlace_16 (by decide) ?_
        refine lv_goto (tgt := 21) hx hb dX1_lookForPlace_17 (by decide) ?_
        exact g_iret X hr hlk hQ hW dX1_lookForPlace_21 (rd_some hf)
  · replace hf := ifp hc hf
    refine lv_iconst (v := 1) hx hb dX1_lookForPlace_5 (by decide) ?_
    exact g_iret X hr hlk hQ hW dX1_lookForPlace_6 (rd_some hf)

def f_X1_lay (v1 : Int32) (v2 : Int32) (v3 : Int32) (M : Mem) : Option (Int32 × Mem) :=
  (bR (f_X1_isRow v1 M) (fun r1 => (if r1 = 0 then (some ((-1), M)) else (grd (inb v1 6) (bR (f_X1_lookForPlace v2 (M.1 8 (ix v1)) M) (fun r16 => (if r16 = 0 then (grd (inb v1 6) (grd (inb v2 40) (lt (sI M 0 13 (M.1 (2 + (ix v1)) (ix v2))) (fun M42 => (grd (inb v1 6) (grd (inb v2 40) (lt (sI M42 (2 + (ix v1)) (ix v2) v3) (fun M53 => (some (1, M53)))))))))) else (bI (f_X1_refuse r16 M) (fun r29 M29 => (some (r29, M29)))))))))))
set_option maxHeartbeats 4000000 in
set_option maxRecDepth 100000 in
theorem c_X1_lay (l : Launch) (D : va_G) (cy : Nat → ClassId) (ad : Nat → Nat)   {v1 : Int32} {v2 : Int32} {v3 : Int32} {M M' : Mem} {r : Int32} (hf : f_X1_lay v1 v2 v3 M = some (r, M')) : MetX l 43 (CC ad cy) D cy ad yX1_lay cX1_lay 5 (some .int) 2 [.ref (ad 0), .int v1, .int v2, .int v3] M (fun A => QI r M' 43 (CC ad cy) D cy ad A) := by
  refine MetX.of (own := RX1) (by decide) rfl (Nat.le_of_ble_eq_true rfl) ?_
  intro p e s m below meth c A Q ls X hr hlk hZ hA hQ hW hl
  have hl : lv_has ls 5 [(0, .ref (ad 0)), (1, .int v1), (2, .int v2), (3, .int v3)] := hl
  have hx := X.1
  have hb := X.2.1
  obtain ⟨H, hH⟩ : ∃ H, H = s.heap := ⟨_, rfl⟩
  obtain ⟨locs, hlo⟩ : ∃ q : List Loc, q = [] := ⟨_, rfl⟩
  have hW : Wd D 43 ad (CC ad cy) A s.heap M H locs := by rw [hH, hlo]; exact hW
  suffices hh : W p l e (rmD 2) s m ([.ref (ad 0), .int v1, .int v2, .int v3] : List Value).toArray below meth c H locs 0 0 Q (F0 m 0 ls []) by rw [hH, hlo] at hh; exact hh
  unfold f_X1_lay at hf
  refine lv_iload_n hx hb dX1_lay_0 rfl (lv_at hl 1 rfl) ?_
  obtain ⟨r1, h1, hf⟩ := bR_some hf
  refine g_calliS X hl.1 hZ hA hW (c_X1_isRow l D cy ad h1) cs_X1_isRow ql_X1_68 rfl (by decide) rfl (Nat.le_of_ble_eq_true rfl) dX1_lay_1 (fun H locs hW => ?_)
  refine lv_if_ne (tgt := 9) hx hb dX1_lay_4 (by decide) (fun hc => ?_) (fun hc => ?_)
  · replace hf := ifn hc hf
    refine lv_iload_n hx hb dX1_lay_9 rfl (lv_at hl 2 rfl) ?_
    refine lv_aload_n hx hb dX1_lay_10 rfl (lv_at hl 0 rfl) ?_
    refine gf_X1_14 X hW dX1_lay_11 ?_
    refine lv_iload_n hx hb dX1_lay_14 rfl (lv_at hl 1 rfl) ?_
    obtain ⟨hi15, hf⟩ := grd_some hf
    refine g_iald X hW iA_rowSizes hi15 dX1_lay_15 ?_
    obtain ⟨r16, h16, hf⟩ := bR_some hf
    refine g_calliS X hl.1 hZ hA hW (c_X1_lookForPlace l D cy ad h16) cs_X1_lookForPlace ql_X1_80 rfl (by decide) rfl (Nat.le_of_ble_eq_true rfl) dX1_lay_16 (fun H locs hW => ?_)
    refine lv_istore (lv' := [(4, .int r16), (0, .ref (ad 0)), (1, .int v1), (2, .int v2), (3, .int v3)]) hx hb dX1_lay_19 hl (by decide) rfl (fun ls hl => ?_)
    refine lv_iload hx hb dX1_lay_21 (lv_at hl 0 rfl) ?_
    refine lv_if_eq (tgt := 33) hx hb dX1_lay_23 (by decide) (fun hc => ?_) (fun hc => ?_)
    · replace hf := ifp hc hf
      refine lv_aload_n hx hb dX1_lay_33 rfl (lv_at hl 1 rfl) ?_
      refine lv_aload_n hx hb dX1_lay_34 rfl (lv_at hl 1 rfl) ?_
      refine gf_X1_11 X hW dX1_lay_35 ?_
      refine lv_iload_n hx hb dX1_lay_38 rfl (lv_at hl 2 rfl) ?_
      obtain ⟨hi39, hf⟩ := grd_some hf
      refine g_aald X hW (t0 := 3) iG_rows rfl rfl hi39 dX1_lay_39 ?_
      refine lv_iload_n hx hb dX1_lay_40 rfl (lv_at hl 3 rfl) ?_
      obtain ⟨hi41, hf⟩ := grd_some hf
      refine g_iald X hW (iA_rows_r (inb_lt hi39)) hi41 dX1_lay_41 ?_
      refine gp_X1_58 X hW dX1_lay_42 (fun H locs hW => ?_)
      obtain ⟨M42, e42, hf⟩ := lt_some hf
      have hW : Wd D 43 ad (CC ad cy) A s.heap M42 H locs := by rw [e42]; exact hW
      refine lv_aload_n hx hb dX1_lay_45 rfl (lv_at hl 1 rfl) ?_
      refine gf_X1_11 X hW dX1_lay_46 ?_
      refine lv_iload_n hx hb dX1_lay_49 rfl (lv_at hl 2 rfl) ?_
      obtain ⟨hi50, hf⟩ := grd_some hf
      refine g_aald X hW (t0 := 3) iG_rows rfl rfl hi50 dX1_lay_50 ?_
      refine lv_iload_n hx hb dX1_lay_51 rfl (lv_at hl 3 rfl) ?_
      refine lv_iload_n hx hb dX1_lay_52 rfl (lv_at hl 4 rfl) ?_
      obtain ⟨hi53, hf⟩ := grd_some hf
      refine g_iast X hW (iA_rows_r (inb_lt hi50)) hi53 dX1_lay_53 (fun H locs hW => ?_)
      obtain ⟨M53, e53, hf⟩ := lt_some hf
      have hW : Wd D 43 ad (CC ad cy) A s.heap M53 H locs := by rw [e53]; exact hW
      refine lv_iconst (v := 1) hx hb dX1_lay_54 (by decide) ?_
      exact g_iret X hr hlk hQ hW dX1_lay_55 hf
    · replace hf := ifn hc hf
      refine lv_aload_n hx hb dX1_lay_26 rfl (lv_at hl 1 rfl) ?_
      refine lv_iload hx hb dX1_lay_27 (lv_at hl 0 rfl) ?_
      obtain ⟨r29, M29, h29, hf⟩ := bI_some hf
      refine g_calliV X hl.1 hZ hA hW (c_X1_refuse l D cy ad h29) cw_X1_refuse ql_X1_72 iO_X1 rfl (by decide) rfl (Nat.le_of_ble_eq_true rfl) dX1_lay_29 (fun H locs hW => ?_)
      exact g_iret X hr hlk hQ hW dX1_lay_32 hf
  · replace hf := ifp hc hf
    refine lv_iconst (v := (-1)) hx hb dX1_lay_7 (by decide) ?_
    exact g_iret X hr hlk hQ hW dX1_lay_8 hf

def f_X1_at (v1 : Int32) (v2 : Int32) (M : Mem) : Option (Int32 × Mem) :=
  (bR (f_X1_isRow v1 M) (fun r1 => (if r1 = 0 then (some ((-1), M)) else (grd (inb v1 6) (bR (f_X1_lookForPlace v2 (M.1 8 (ix v1)) M) (fun r16 => (if r16 = 0 then (grd (inb v1 6) (grd (inb v2 40) (lt (sI M 0 13 (M.1 (2 + (ix v1)) (ix v2))) (fun M39 => (some (1, M39)))))) else (bI (f_X1_refuse r16 M) (fun r26 M26 => (some (r26, M26)))))))))))
set_option maxHeartbeats 4000000 in
set_option maxRecDepth 100000 in
theorem c_X1_at (l : Launch) (D : va_G) (cy : Nat → ClassId) (ad : Nat → Nat)   {v1 : Int32} {v2 : Int32} {M M' : Mem} {r : Int32} (hf : f_X1_at v1 v2 M = some (r, M')) : MetX l 43 (CC ad cy) D cy ad yX1_at cX1_at 4 (some .int) 2 [.ref (ad 0), .int v1, .int v2] M (fun A => QI r M' 43 (CC ad cy) D cy ad A) := by
  refine MetX.of (own := RX1) (by decide) rfl (Nat.le_of_ble_eq_true rfl) ?_
  intro p e s m below meth c A Q ls X hr hlk hZ hA hQ hW hl
  have hl : lv_has ls 4 [(0, .ref (ad 0)), (1, .int v1), (2, .int v2)] := hl
  have hx := X.1
  have hb := X.2.1
  obtain ⟨H, hH⟩ : ∃ H, H = s.heap := ⟨_, rfl⟩
  obtain ⟨locs, hlo⟩ : ∃ q : List Loc, q = [] := ⟨_, rfl⟩
  have hW : Wd D 43 ad (CC ad cy) A s.heap M H locs := by rw [hH, hlo]; exact hW
  suffices hh : W p l e (rmD 2) s m ([.ref (ad 0), .int v1, .int v2] : List Value).toArray below meth c H locs 0 0 Q (F0 m 0 ls []) by rw [hH, hlo] at hh; exact hh
  unfold f_X1_at at hf
  refine lv_iload_n hx hb dX1_at_0 rfl (lv_at hl 1 rfl) ?_
  obtain ⟨r1, h1, hf⟩ := bR_some hf
  refine g_calliS X hl.1 hZ hA hW (c_X1_isRow l D cy ad h1) cs_X1_isRow ql_X1_68 rfl (by decide) rfl (Nat.le_of_ble_eq_true rfl) dX1_at_1 (fun H locs hW => ?_)
  refine lv_if_ne (tgt := 9) hx hb dX1_at_4 (by decide) (fun hc => ?_) (fun hc => ?_)
  · replace hf := ifn hc hf
    refine lv_iload_n hx hb dX1_at_9 rfl (lv_at hl 2 rfl) ?_
    refine lv_aload_n hx hb dX1_at_10 rfl (lv_at hl 0 rfl) ?_
    refine gf_X1_14 X hW dX1_at_11 ?_
    refine lv_iload_n hx hb dX1_at_14 rfl (lv_at hl 1 rfl) ?_
    obtain ⟨hi15, hf⟩ := grd_some hf
    refine g_iald X hW iA_rowSizes hi15 dX1_at_15 ?_
    obtain ⟨r16, h16, hf⟩ := bR_some hf
    refine g_calliS X hl.1 hZ hA hW (c_X1_lookForPlace l D cy ad h16) cs_X1_lookForPlace ql_X1_80 rfl (by decide) rfl (Nat.le_of_ble_eq_true rfl) dX1_at_16 (fun H locs hW => ?_)
    refine lv_istore_n (lv' := [(3, .int r16), (0, .ref (ad 0)), (1, .int v1), (2, .int v2)]) hx hb dX1_at_19 rfl hl (by decide) rfl (fun ls hl => ?_)
    refine lv_iload_n hx hb dX1_at_20 rfl (lv_at hl 0 rfl) ?_
    refine lv_if_eq (tgt := 30) hx hb dX1_at_21 (by decide) (fun hc => ?_) (fun hc => ?_)
    · replace hf := ifp hc hf
      refine lv_aload_n hx hb dX1_at_30 rfl (lv_at hl 1 rfl) ?_
      refine lv_aload_n hx hb dX1_at_31 rfl (lv_at hl 1 rfl) ?_
      refine gf_X1_11 X hW dX1_at_32 ?_
      refine lv_iload_n hx hb dX1_at_35 rfl (lv_at hl 2 rfl) ?_
      obtain ⟨hi36, hf⟩ := grd_some hf
      refine g_aald X hW (t0 := 3) iG_rows rfl rfl hi36 dX1_at_36 ?_
      refine lv_iload_n hx hb dX1_at_37 rfl (lv_at hl 3 rfl) ?_
      obtain ⟨hi38, hf⟩ := grd_some hf
      refine g_iald X hW (iA_rows_r (inb_lt hi36)) hi38 dX1_at_38 ?_
      refine gp_X1_58 X hW dX1_at_39 (fun H locs hW => ?_)
      obtain ⟨M39, e39, hf⟩ := lt_some hf
      have hW : Wd D 43 ad (CC ad cy) A s.heap M39 H locs := by rw [e39]; exact hW
      refine lv_iconst (v := 1) hx hb dX1_at_42 (by decide) ?_
      exact g_iret X hr hlk hQ hW dX1_at_43 hf
    · replace hf := ifn hc hf
      refine lv_aload_n hx hb dX1_at_24 rfl (lv_at hl 1 rfl) ?_
      refine lv_iload_n hx hb dX1_at_25 rfl (lv_at hl 0 rfl) ?_
      obtain ⟨r26, M26, h26, hf⟩ := bI_some hf
      refine g_calliV X hl.1 hZ hA hW (c_X1_refuse l D cy ad h26) cw_X1_refuse ql_X1_72 iO_X1 rfl (by decide) rfl (Nat.le_of_ble_eq_true rfl) dX1_at_26 (fun H locs hW => ?_)
      exact g_iret X hr hlk hQ hW dX1_at_29 hf
  · replace hf := ifp hc hf
    refine lv_iconst (v := (-1)) hx hb dX1_at_7 (by decide) ?_
    exact g_iret X hr hlk hQ hW dX1_at_8 hf

def f_X1_tear (v1 : Int32) (M : Mem) : Option (Int32 × Mem) :=
  (bR (f_X1_isRow v1 M) (fun r1 => (if r1 = 0 then (some ((-1), M)) else (grd (inb v1 6) (if (M.1 8 (ix v1)) = (-1) then (bI (f_X1_refuse 1 M) (fun r21 M21 => (some (r21, M21)))) else (grd (inb v1 6) (lt (sI M 8 (ix v1) (-1)) (fun M31 => (some (1, M31))))))))))
set_option maxHeartbeats 4000000 in
set_option maxRecDepth 100000 in
theorem c_X1_tear (l : Launch) (D : va_G) (cy : Nat → ClassId) (ad : Nat → Nat)   {v1 : Int32} {M M' : Mem} {r : Int32} (hf : f_X1_tear v1 M = some (r, M')) : MetX l 43 (CC ad cy) D cy ad yX1_tear cX1_tear 2 (some .int) 2 [.ref (ad 0), .int v1] M (fun A => QI r M' 43 (CC ad cy) D cy ad A) := by
  refine MetX.of (own := RX1) (by decide) rfl (Nat.le_of_ble_eq_true rfl) ?_
  intro p e s m below meth c A Q ls X hr hlk hZ hA hQ hW hl
  have hl : lv_has ls 2 [(0, .ref (ad 0)), (1, .int v1)] := hl
  have hx := X.1
  have hb := X.2.1
  obtain ⟨H, hH⟩ : ∃ H, H = s.heap := ⟨_, rfl⟩
  obtain ⟨locs, hlo⟩ : ∃ q : List Loc, q = [] := ⟨_, rfl⟩
  have hW : Wd D 43 ad (CC ad cy) A s.heap M H locs := by rw [hH, hlo]; exact hW
  suffices hh : W p l e (rmD 2) s m ([.ref (ad 0), .int v1] : List Value).toArray below meth c H locs 0 0 Q (F0 m 0 ls []) by rw [hH, hlo] at hh; exact hh
  unfold f_X1_tear at hf
  refine lv_iload_n hx hb dX1_tear_0 rfl (lv_at hl 1 rfl) ?_
  obtain ⟨r1, h1, hf⟩ := bR_some hf
  refine g_calliS X hl.1 hZ hA hW (c_X1_isRow l D cy ad h1) cs_X1_isRow ql_X1_68 rfl (by decide) rfl (Nat.le_of_ble_eq_true rfl) dX1_tear_1 (fun H locs hW => ?_)
  refine lv_if_ne (tgt := 9) hx hb dX1_tear_4 (by decide) (fun hc => ?_) (fun hc => ?_)
  · replace hf := ifn hc hf
    refine lv_aload_n hx hb dX1_tear_9 rfl (lv_at hl 0 rfl) ?_
    refine gf_X1_14 X hW dX1_tear_10 ?_
    refine lv_iload_n hx hb dX1_tear_13 rfl (lv_at hl 1 rfl) ?_
    obtain ⟨hi14, hf⟩ := grd_some hf
    refine g_iald X hW iA_rowSizes hi14 dX1_tear_14 ?_
    refine lv_iconst (v := (-1)) hx hb dX1_tear_15 (by decide) ?_
    refine lv_icmp_ne (tgt := 25) hx hb dX1_tear_16 (by decide) (fun hc => ?_) (fun hc => ?_)
    · replace hf := ifn hc hf
      refine lv_aload_n hx hb dX1_tear_25 rfl (lv_at hl 0 rfl) ?_
      refine gf_X1_14 X hW dX1_tear_26 ?_
      refine lv_iload_n hx hb dX1_tear_29 rfl (lv_at hl 1 rfl) ?_
      refine lv_iconst (v := (-1)) hx hb dX1_tear_30 (by decide) ?_
      obtain ⟨hi31, hf⟩ := grd_some hf
      refine g_iast X hW iA_rowSizes hi31 dX1_tear_31 (fun H locs hW => ?_)
      obtain ⟨M31, e31, hf⟩ := lt_some hf
      have hW : Wd D 43 ad (CC ad cy) A s.heap M31 H locs := by rw [e31]; exact hW
      refine lv_iconst (v := 1) hx hb dX1_tear_32 (by decide) ?_
      exact g_iret X hr hlk hQ hW dX1_tear_33 hf
    · replace hf := ifp hc hf
      refine lv_aload_n hx hb dX1_tear_19 rfl (lv_at hl 0 rfl) ?_
      refine lv_iconst (v := 1) hx hb dX1_tear_20 (by decide) ?_
      obtain ⟨r21, M21, h21, hf⟩ := bI_some hf
      refine g_calliV X hl.1 hZ hA hW (c_X1_refuse l D cy ad h21) cw_X1_refuse ql_X1_72 iO_X1 rfl (by decide) rfl (Nat.le_of_ble_eq_true rfl) dX1_tear_21 (fun H locs hW => ?_)
      exact g_iret X hr hlk hQ hW dX1_tear_24 hf
  · replace hf := ifp hc hf
    refine lv_iconst (v := (-1)) hx hb dX1_tear_7 (by decide) ?_
    exact g_iret X hr hlk hQ hW dX1_tear_8 hf

def f_X1_hasPlaces (v0 : Int32) (v1 : Int32) (v2 : Int32) (M : Mem) : Option Int32 :=
  (if v0 < 0 then (some 0) else (if (v2 - v1) < v0 then (some 0) else (some 1)))
set_option maxHeartbeats 4000000 in
set_option maxRecDepth 100000 in
theorem c_X1_hasPlaces (l : Launch) (D : va_G) (cy : Nat → ClassId) (ad : Nat → Nat)   {v0 : Int32} {v1 : Int32} {v2 : Int32} {M : Mem} {r : Int32} (hf : f_X1_hasPlaces v0 v1 v2 M = some r) : MetX l 43 (CC ad cy) D cy ad yX1_hasPlaces cX1_hasPlaces 3 (some .boolean) 0 [.int v0, .int v1, .int v2] M (fun A => QI r M 43 (CC ad cy) D cy ad A) := by
  refine MetX.of (own := RX1) (by decide) rfl (Nat.le_of_ble_eq_true rfl) ?_
  intro p e s m below meth c A Q ls X hr hlk hZ hA hQ hW hl
  have hl : lv_has ls 3 [(0, .int v0), (1, .int v1), (2, .int v2)] := hl
  have hx := X.1
  have hb := X.2.1
  obtain ⟨H, hH⟩ : ∃ H, H = s.heap := ⟨_, rfl⟩
  obtain ⟨locs, hlo⟩ : ∃ q : List Loc, q = [] := ⟨_, rfl⟩
  have hW : Wd D 43 ad (CC ad cy) A s.heap M H locs := by rw [hH, hlo]; exact hW
  suffices hh : W p l e (rmD 0) s m ([.int v0, .int v1, .int v2] : List Value).toArray below meth c H locs 0 0 Q (F0 m 0 ls []) by rw [hH, hlo] at hh; exact hh
  unfold f_X1_hasPlaces at hf
  refine lv_iload_n hx hb dX1_hasPlaces_0 rfl (lv_at hl 0 rfl) ?_
  refine lv_if_lt (tgt := 15) hx hb dX1_hasPlaces_1 (by decide) (fun hc => ?_) (fun hc => ?_)
  · replace hf := ifp hc hf
    refine lv_iconst (v := 0) hx hb dX1_hasPlaces_15 (by decide) ?_
    exact g_zret X hr hlk hQ hW dX1_hasPlaces_16 (by decide) (rd_some hf)
  · replace hf := ifn hc hf
    refine lv_iload_n hx hb dX1_hasPlaces_4 rfl (lv_at hl 0 rfl) ?_
    refine lv_iload_n hx hb dX1_hasPlaces_5 rfl (lv_at hl 2 rfl) ?_
    refine lv_iload_n hx hb dX1_hasPlaces_6 rfl (lv_at hl 1 rfl) ?_
    refine lv_isub hx hb dX1_hasPlaces_7 ?_
    refine lv_icmp_gt (tgt := 15) hx hb dX1_hasPlaces_8 (by decide) (fun hc => ?_) (fun hc => ?_)
    · replace hf := ifp hc hf
      refine lv_iconst (v := 0) hx hb dX1_hasPlaces_15 (by decide) ?_
      exact g_zret X hr hlk hQ hW dX1_hasPlaces_16 (by decide) (rd_some hf)
    · replace hf := ifn hc hf
      refine lv_iconst (v := 1) hx hb dX1_hasPlaces_11 (by decide) ?_
      refine lv_goto (tgt := 16) hx hb dX1_hasPlaces_12 (by decide) ?_
      exact g_zret X hr hlk hQ hW dX1_hasPlaces_16 (by decide) (rd_some hf)

def f_X1_copy (v1 : Int32) (v2 : Int32) (v3 : Int32) (v4 : Int32) (v5 : Int32) (M : Mem) : Option (Int32 × Mem) :=
  (bR (f_X1_isRow v1 M) (fun r1 => (if r1 = 0 then (some ((-1), M)) else (bR (f_X1_isRow v3 M) (fun r8 => (if r8 = 0 then (some ((-1), M)) else (if 0 ≤ v5 then (grd (inb v1 6) (jn (fun (k47 : Option (Int32 × Mem)) => (if (M.1 8 (ix v1)) = (-1) then k47 else (grd (inb v3 6) (if (M.1 8 (ix v3)) = (-1) then k47 else (grd (inb v1 6) (bR (f_X1_hasPlaces v2 v5 (M.1 8 (ix v1)) M) (fun r62 => (jn (fun (k84 : Option (Int32 × Mem)) => (if r62 = 0 then k84 else (grd (inb v3 6) (bR (f_X1_hasPlaces v4 v5 (M.1 8 (ix v3)) M) (fun r78 => (if r78 = 0 then k84 else (grd (inb v1 6) (grd (inb v3 6) (grd (cpk v2 v4 v5 40 40) (lt (sA M (2 + (ix v3)) (va_cpy (M.1 (2 + (ix v1))) (M.1 (2 + (ix v3))) (ix v2) (ix v4) (ix v5))) (fun M107 => (some (1, M107))))))))))))) ((bI (f_X1_refuse 2 M) (fun r86 M86 => (some (r86, M86))))))))))))) ((bI (f_X1_refuse 1 M) (fun r49 M49 => (some (r49, M49))))))) else (bI (f_X1_refuse 5 M) (fun r23 M23 => (some (r23, M23)))))))))))
set_option maxHeartbeats 4000000 in
set_option maxRecDepth 100000 in
theorem c_X1_copy (l : Launch) (D : va_G) (cy : Nat → ClassId) (ad : Nat → Nat)   {v1 : Int32} {v2 : Int32} {v3 : Int32} {v4 : Int32} {v5 : Int32} {M M' : Mem} {r : Int32} (hf : f_X1_copy v1 v2 v3 v4 v5 M = some (r, M')) : MetX l 43 (CC ad cy) D cy ad yX1_copy cX1_copy 6 (some .int) 2 [.ref (ad 0), .int v1, .int v2, .int v3, .int v4, .int v5] M (fun A => QI r M' 43 (CC ad cy) D cy ad A) := by
  refine MetX.of (own := RX1) (by decide) rfl (Nat.le_of_ble_eq_true rfl) ?_
  intro p e s m below meth c A Q ls X hr hlk hZ hA hQ hW hl
  have hl : lv_has ls 6 [(0, .ref (ad 0)), (1, .int v1), (2, .int v2), (3, .int v3), (4, .int v4), (5, .int v5)] := hl
  have hx := X.1
  have hb := X.2.1
  obtain ⟨H, hH⟩ : ∃ H, H = s.heap := ⟨_, rfl⟩
  obtain ⟨locs, hlo⟩ : ∃ q : List Loc, q = [] := ⟨_, rfl⟩
  have hW : Wd D 43 ad (CC ad cy) A s.heap M H locs := by rw [hH, hlo]; exact hW
  suffices hh : W p l e (rmD 2) s m ([.ref (ad 0), .int v1, .int v2, .int v3, .int v4, .int v5] : List Value).toArray below meth c H locs 0 0 Q (F0 m 0 ls []) by rw [hH, hlo] at hh; exact hh
  unfold f_X1_copy at hf
  refine lv_iload_n hx hb dX1_copy_0 rfl (lv_at hl 1 rfl) ?_
  obtain ⟨r1, h1, hf⟩ := bR_some hf
  refine g_calliS X hl.1 hZ hA hW (c_X1_isRow l D cy ad h1) cs_X1_isRow ql_X1_68 rfl (by decide) rfl (Nat.le_of_ble_eq_true rfl) dX1_copy_1 (fun H locs hW => ?_)
  refine lv_if_eq (tgt := 14) hx hb dX1_copy_4 (by decide) (fun hc => ?_) (fun hc => ?_)
  · replace hf := ifp hc hf
    refine lv_iconst (v := (-1)) hx hb dX1_copy_14 (by decide) ?_
    exact g_iret X hr hlk hQ hW dX1_copy_15 hf
  · replace hf := ifn hc hf
    refine lv_iload_n hx hb dX1_copy_7 rfl (lv_at hl 3 rfl) ?_
    obtain ⟨r8, h8, hf⟩ := bR_some hf
    refine g_calliS X hl.1 hZ hA hW (c_X1_isRow l D cy ad h8) cs_X1_isRow ql_X1_68 rfl (by decide) rfl (Nat.le_of_ble_eq_true rfl) dX1_copy_8 (fun H locs hW => ?_)
    refine lv_if_ne (tgt := 16) hx hb dX1_copy_11 (by decide) (fun hc => ?_) (fun hc => ?_)
    · replace hf := ifn hc hf
      refine lv_iload hx hb dX1_copy_16 (lv_at hl 5 rfl) ?_
      refine lv_if_ge (tgt := 27) hx hb dX1_copy_18 (by decide) (fun hc => ?_) (fun hc => ?_)
      · replace hf := ifp hc hf
        refine lv_aload_n hx hb dX1_copy_27 rfl (lv_at hl 0 rfl) ?_
        refine gf_X1_14 X hW dX1_copy_28 ?_
        refine lv_iload_n hx hb dX1_copy_31 rfl (lv_at hl 1 rfl) ?_
        obtain ⟨hi32, hf⟩ := grd_some hf
        refine g_iald X hW iA_rowSizes hi32 dX1_copy_32 ?_
        refine lv_iconst (v := (-1)) hx hb dX1_copy_33 (by decide) ?_
        obtain ⟨k47, hk47, hf⟩ := jn_some0 hf
        have hJ47 : ∀  (H : Heap) (locs : List Loc) (ls : Array Slot), k47 = some (r, M') → Wd D 43 ad (CC ad cy) A s.heap M H locs → lv_has ls 6 [(0, .ref (ad 0))] → W p l e (rmD 2) s m ([.ref (ad 0), .int v1, .int v2, .int v3, .int v4, .int v5] : List Value).toArray below meth c H locs 0 0 Q (F0 m 47 ls []) := by
          intro  H locs ls hf hW hl
          rw [hk47] at hf
          refine lv_aload_n hx hb dX1_copy_47 rfl (lv_at hl 0 rfl) ?_
          refine lv_iconst (v := 1) hx hb dX1_copy_48 (by decide) ?_
          obtain ⟨r49, M49, h49, hf⟩ := bI_some hf
          refine g_calliV X hl.1 hZ hA hW (c_X1_refuse l D cy ad h49) cw_X1_refuse ql_X1_72 iO_X1 rfl (by decide) rfl (Nat.le_of_ble_eq_true rfl) dX1_copy_49 (fun H locs hW => ?_)
          exact g_iret X hr hlk hQ hW dX1_copy_52 hf
        refine lv_icmp_eq (tgt := 47) hx hb dX1_copy_34 (by decide) (fun hc => ?_) (fun hc => ?_)
        · replace hf := ifp hc hf
          exact hJ47  H locs ls hf hW (lv_sub hl [0] rfl)
        · replace hf := ifn hc hf
          refine lv_aload_n hx hb dX1_copy_37 rfl (lv_at hl 0 rfl) ?_
          refine gf_X1_14 X hW dX1_copy_38 ?_
          refine lv_iload_n hx hb dX1_copy_41 rfl (lv_at hl 3 rfl) ?_
          obtain ⟨hi42, hf⟩ := grd_some hf
          refine g_iald X hW iA_rowSizes hi42 dX1_copy_42 ?_
          refine lv_iconst (v := (-1)) hx hb dX1_copy_43 (by decide) ?_
          refine lv_icmp_ne (tgt := 53) hx hb dX1_copy_44 (by decide) (fun hc => ?_) (fun hc => ?_)
          · replace hf := ifn hc hf
            refine lv_iload_n hx hb dX1_copy_53 rfl (lv_at hl 2 rfl) ?_
            refine lv_iload hx hb dX1_copy_54 (lv_at hl 5 rfl) ?_
            refine lv_aload_n hx hb dX1_copy_56 rfl (lv_at hl 0 rfl) ?_
            refine gf_X1_14 X hW dX1_copy_57 ?_
            refine lv_iload_n hx hb dX1_copy_60 rfl (lv_at hl 1 rfl) ?_
            obtain ⟨hi61, hf⟩ := grd_some hf
            refine g_iald X hW iA_rowSizes hi61 dX1_copy_61 ?_
            obtain ⟨r62, h62, hf⟩ := bR_some hf
            refine g_calliS X hl.1 hZ hA hW (c_X1_hasPlaces l D cy ad h62) cs_X1_hasPlaces ql_X1_84 rfl (by decide) rfl (Nat.le_of_ble_eq_true rfl) dX1_copy_62 (fun H locs hW => ?_)
            obtain ⟨k84, hk84, hf⟩ := jn_some0 hf
            have hJ84 : ∀  (H : Heap) (locs : List Loc) (ls : Array Slot), k84 = some (r, M') → Wd D 43 ad (CC ad cy) A s.heap M H locs → lv_has ls 6 [(0, .ref (ad 0))] → W p l e (rmD 2) s m ([.ref (ad 0), .int v1, .int v2, .int v3, .int v4, .int v5] : List Value).toArray below meth c H locs 0 0 Q (F0 m 84 ls []) := by
              intro  H locs ls hf hW hl
              rw [hk84] at hf
              refine lv_aload_n hx hb dX1_copy_84 rfl (lv_at hl 0 rfl) ?_
              refine lv_iconst (v := 2) hx hb dX1_copy_85 (by decide) ?_
              obtain ⟨r86, M86, h86, hf⟩ := bI_some hf
              refine g_calliV X hl.1 hZ hA hW (c_X1_refuse l D cy ad h86) cw_X1_refuse ql_X1_72 iO_X1 rfl (by decide) rfl (Nat.le_of_ble_eq_true rfl) dX1_copy_86 (fun H locs hW => ?_)
              exact g_iret X hr hlk hQ hW dX1_copy_89 hf
            refine lv_if_eq (tgt := 84) hx hb dX1_copy_65 (by decide) (fun hc => ?_) (fun hc => ?_)
            · replace hf := ifp hc hf
              exact hJ84  H locs ls hf hW (lv_sub hl [0] rfl)
            · replace hf := ifn hc hf
              refine lv_iload hx hb dX1_copy_68 (lv_at hl 4 rfl) ?_
              refine lv_iload hx hb dX1_copy_70 (lv_at hl 5 rfl) ?_
              refine lv_aload_n hx hb dX1_copy_72 rfl (lv_at hl 0 rfl) ?_
              refine gf_X1_14 X hW dX1_copy_73 ?_
              refine lv_iload_n hx hb dX1_copy_76 rfl (lv_at hl 3 rfl) ?_
              obtain ⟨hi77, hf⟩ := grd_some hf
              refine g_iald X hW iA_rowSizes hi77 dX1_copy_77 ?_
              obtain ⟨r78, h78, hf⟩ := bR_some hf
              refine g_calliS X hl.1 hZ hA hW (c_X1_hasPlaces l D cy ad h78) cs_X1_hasPlaces ql_X1_84 rfl (by decide) rfl (Nat.le_of_ble_eq_true rfl) dX1_copy_78 (fun H locs hW => ?_)
              refine lv_if_ne (tgt := 90) hx hb dX1_copy_81 (by decide) (fun hc => ?_) (fun hc => ?_)
              · replace hf := ifn hc hf
                refine lv_aload_n hx hb dX1_copy_90 rfl (lv_at hl 0 rfl) ?_
                refine gf_X1_11 X hW dX1_copy_91 ?_
                refine lv_iload_n hx hb dX1_copy_94 rfl (lv_at hl 1 rfl) ?_
                obtain ⟨hi95, hf⟩ := grd_some hf
                refine g_aald X hW (t0 := 3) iG_rows rfl rfl hi95 dX1_copy_95 ?_
                refine lv_iload_n hx hb dX1_copy_96 rfl (lv_at hl 2 rfl) ?_
                refine lv_aload_n hx hb dX1_copy_97 rfl (lv_at hl 0 rfl) ?_
                refine gf_X1_11 X hW dX1_copy_98 ?_
                refine lv_iload_n hx hb dX1_copy_101 rfl (lv_at hl 3 rfl) ?_
                obtain ⟨hi102, hf⟩ := grd_some hf
                refine g_aald X hW (t0 := 3) iG_rows rfl rfl hi102 dX1_copy_102 ?_
                refine lv_iload hx hb dX1_copy_103 (lv_at hl 4 rfl) ?_
                refine lv_iload hx hb dX1_copy_105 (lv_at hl 5 rfl) ?_
                obtain ⟨hc107, hf⟩ := grd_some hf
                refine g_copy X hl.1 hW ql_X1_88 q_acn q_acs q_inSys (iA_rows_r (inb_lt hi95)) (iA_rows_r (inb_lt hi102)) hc107 (by decide) (Nat.le_of_ble_eq_true rfl) dX1_copy_107 (fun H locs hW => ?_)
                obtain ⟨M107, e107, hf⟩ := lt_some hf
                have hW : Wd D 43 ad (CC ad cy) A s.heap M107 H locs := by rw [e107]; exact hW
                refine lv_iconst (v := 1) hx hb dX1_copy_110 (by decide) ?_
                exact g_iret X hr hlk hQ hW dX1_copy_111 hf
              · replace hf := ifp hc hf
                exact hJ84  H locs ls hf hW (lv_sub hl [0] rfl)
          · replace hf := ifp hc hf
            exact hJ47  H locs ls hf hW (lv_sub hl [0] rfl)
      · replace hf := ifn hc hf
        refine lv_aload_n hx hb dX1_copy_21 rfl (lv_at hl 0 rfl) ?_
        refine lv_iconst (v := 5) hx hb dX1_copy_22 (by decide) ?_
        obtain ⟨r23, M23, h23, hf⟩ := bI_some hf
        refine g_calliV X hl.1 hZ hA hW (c_X1_refuse l D cy ad h23) cw_X1_refuse ql_X1_72 iO_X1 rfl (by decide) rfl (Nat.le_of_ble_eq_true rfl) dX1_copy_23 (fun H locs hW => ?_)
        exact g_iret X hr hlk hQ hW dX1_copy_26 hf
    · replace hf := ifp hc hf
      refine lv_iconst (v := (-1)) hx hb dX1_copy_14 (by decide) ?_
      exact g_iret X hr hlk hQ hW dX1_copy_15 hf

def f_X1_mean_L42 (v1_L42 : Int32) (v2_L42 : Int32) (M_L42 : Mem) (k67 : Int64 → Option (Int32 × Mem)) : Nat → Int64 → Int32 → Option (Int32 × Mem)
  | 0, _, _ => none
  | n + 1, v3_L42, v5_L42 => (if v2_L42 ≤ v5_L42 then (k67 v3_L42) else (grd (inb v1_L42 6) (grd (inb v5_L42 40) (f_X1_mean_L42 v1_L42 v2_L42 M_L42 k67 n (v3_L42 + ((M_L42.1 (2 + (ix v1_L42)) (ix v5_L42))).toInt64) (v5_L42 + 1)))))
def f_X1_mean (v1 : Int32) (M : Mem) : Option (Int32 × Mem) :=
  (bR (f_X1_isRow v1 M) (fun r1 => (if r1 = 0 then (some ((-1), M)) else (grd (inb v1 6) (if (M.1 8 (ix v1)) = (-1) then (bI (f_X1_refuse 1 M) (fun r23 M23 => (some (r23, M23)))) else (if (M.1 8 (ix v1)) = 0 then (bI (f_X1_refuse 4 M) (fun r33 M33 => (some (r33, M33)))) else (jn (fun (k67 : Int64 → Option (Int32 × Mem)) => (f_X1_mean_L42 v1 (M.1 8 (ix v1)) M k67 FU 0 0)) (fun (v3_67x : Int64) => (grd (nzL ((M.1 8 (ix v1))).toInt64) (lt (sI M 0 13 ((v3_67x / ((M.1 8 (ix v1))).toInt64)).toInt32) (fun M73 => (some (1, M73)))))))))))))
set_option maxHeartbeats 4000000 in
set_option maxRecDepth 100000 in
theorem c_X1_mean (l : Launch) (D : va_G) (cy : Nat → ClassId) (ad : Nat → Nat)   {v1 : Int32} {M M' : Mem} {r : Int32} (hf : f_X1_mean v1 M = some (r, M')) : MetX l 43 (CC ad cy) D cy ad yX1_mean cX1_mean 6 (some .int) 2 [.ref (ad 0), .int v1] M (fun A => QI r M' 43 (CC ad cy) D cy ad A) := by
  refine MetX.of (own := RX1) (by decide) rfl (Nat.le_of_ble_eq_true rfl) ?_
  intro p e s m below meth c A Q ls X hr hlk hZ hA hQ hW hl
  have hl : lv_has ls 6 [(0, .ref (ad 0)), (1, .int v1)] := hl
  have hx := X.1
  have hb := X.2.1
  have hL42 : ∀ (v1_L42 : Int32) (v2_L42 : Int32) (M_L42 : Mem) (k67 : Int64 → Option (Int32 × Mem)) (hJ67 : ∀ (v3_67x : Int64) (H : Heap) (locs : List Loc) (ls : Array Slot), k67 v3_67x = some (r, M') → Wd D 43 ad (CC ad cy) A s.heap M_L42 H locs → lv_has ls 6 [(0, .ref (ad 0)), (2, .int v2_L42), (3, .long v3_67x)] → W p l e (rmD 2) s m ([.ref (ad 0), .int v1] : List Value).toArray below meth c H locs 0 0 Q (F0 m 67 ls [])) (n : Nat) (v3_L42 : Int64) (v5_L42 : Int32) (H : Heap) (locs : List Loc) (ls : Array Slot), f_X1_mean_L42 v1_L42 v2_L42 M_L42 k67 n v3_L42 v5_L42 = some (r, M') → Wd D 43 ad (CC ad cy) A s.heap M_L42 H locs → lv_has ls 6 [(0, .ref (ad 0)), (1, .int v1_L42), (2, .int v2_L42), (3, .long v3_L42), (5, .int v5_L42)] → W p l e (rmD 2) s m ([.ref (ad 0), .int v1] : List Value).toArray below meth c H locs 0 0 Q (F0 m 42 ls []) := by
    intro v1_L42 v2_L42 M_L42 k67 hJ67 n
    induction n with
    | zero =>
      intro v3_L42 v5_L42 H locs ls hf
      cases (show (none : Option (Int32 × Mem)) = some (r, M') from hf)
    | succ n ih =>
      intro v3_L42 v5_L42 H locs ls hf hW hl
      rw [f_X1_mean_L42] at hf
      refine lv_iload hx hb dX1_mean_42 (lv_at hl 4 rfl) ?_
      refine lv_iload_n hx hb dX1_mean_44 rfl (lv_at hl 2 rfl) ?_
      refine lv_icmp_ge (tgt := 67) hx hb dX1_mean_45 (by decide) (fun hc => ?_) (fun hc => ?_)
      · replace hf := ifp hc hf
        exact hJ67 v3_L42 H locs ls hf hW (lv_sub hl [0, 2, 3] rfl)
      · replace hf := ifn hc hf
        refine lv_lload_n hx hb dX1_mean_48 rfl (lv_at hl 3 rfl) ?_
        refine lv_aload_n hx hb dX1_mean_49 rfl (lv_at hl 0 rfl) ?_
        refine gf_X1_11 X hW dX1_mean_50 ?_
        refine lv_iload_n hx hb dX1_mean_53 rfl (lv_at hl 1 rfl) ?_
        obtain ⟨hi54, hf⟩ := grd_some hf
        refine g_aald X hW (t0 := 3) iG_rows rfl rfl hi54 dX1_mean_54 ?_
        refine lv_iload hx hb dX1_mean_55 (lv_at hl 4 rfl) ?_
        obtain ⟨hi57, hf⟩ := grd_some hf
        refine g_iald X hW (iA_rows_r (inb_lt hi54)) hi57 dX1_mean_57 ?_
        refine lv_i2l (v := ((M_L42.1 (2 + (ix v1_L42)) (ix v5_L42))).toInt64) hx hb dX1_mean_58 rfl ?_
        refine lv_ladd hx hb dX1_mean_59 ?_
        refine lv_lstore_n (lv' := [(3, .long (v3_L42 + ((M_L42.1 (2 + (ix v1_L42)) (ix v5_L42))).toInt64)), (0, .ref (ad 0)), (1, .int v1_L42), (2, .int v2_L42), (5, .int v5_L42)]) hx hb dX1_mean_60 rfl hl (by decide) rfl (fun ls hl => ?_)
        refine lv_iinc (v := (v5_L42 + 1)) (lv' := [(5, .int (v5_L42 + 1)), (3, .long (v3_L42 + ((M_L42.1 (2 + (ix v1_L42)) (ix v5_L42))).toInt64)), (0, .ref (ad 0)), (1, .int v1_L42), (2, .int v2_L42)]) hx hb dX1_mean_61 hl (k := 4) rfl rfl (by decide) rfl (fun ls hl => ?_)
        refine lv_goto (tgt := 42) hx hb dX1_mean_64 (by decide) ?_
        exact ih (v3_L42 + ((M_L42.1 (2 + (ix v1_L42)) (ix v5_L42))).toInt64) (v5_L42 + 1) H locs ls hf hW (lv_sub hl [2, 3, 4, 1, 0] rfl)
  obtain ⟨H, hH⟩ : ∃ H, H = s.heap := ⟨_, rfl⟩
  obtain ⟨locs, hlo⟩ : ∃ q : List Loc, q = [] := ⟨_, rfl⟩
  have hW : Wd D 43 ad (CC ad cy) A s.heap M H locs := by rw [hH, hlo]; exact hW
  suffices hh : W p l e (rmD 2) s m ([.ref (ad 0), .int v1] : List Value).toArray below meth c H locs 0 0 Q (F0 m 0 ls []) by rw [hH, hlo] at hh; exact hh
  unfold f_X1_mean at hf
  refine lv_iload_n hx hb dX1_mean_0 rfl (lv_at hl 1 rfl) ?_
  obtain ⟨r1, h1, hf⟩ := bR_some hf
  refine g_calliS X hl.1 hZ hA hW (c_X1_isRow l D cy ad h1) cs_X1_isRow ql_X1_68 rfl (by decide) rfl (Nat.le_of_ble_eq_true rfl) dX1_mean_1 (fun H locs hW => ?_)
  refine lv_if_ne (tgt := 9) hx hb dX1_mean_4 (by decide) (fun hc => ?_) (fun hc => ?_)
  · replace hf := ifn hc hf
    refine lv_aload_n hx hb dX1_mean_9 rfl (lv_at hl 0 rfl) ?_
    refine gf_X1_14 X hW dX1_mean_10 ?_
    refine lv_iload_n hx hb dX1_mean_13 rfl (lv_at hl 1 rfl) ?_
    obtain ⟨hi14, hf⟩ := grd_some hf
    refine g_iald X hW iA_rowSizes hi14 dX1_mean_14 ?_
    refine lv_istore_n (lv' := [(2, .int (M.1 8 (ix v1))), (0, .ref (ad 0)), (1, .int v1)]) hx hb dX1_mean_15 rfl hl (by decide) rfl (fun ls hl => ?_)
    refine lv_iload_n hx hb dX1_mean_16 rfl (lv_at hl 0 rfl) ?_
    refine lv_iconst (v := (-1)) hx hb dX1_mean_17 (by decide) ?_
    refine lv_icmp_ne (tgt := 27) hx hb dX1_mean_18 (by decide) (fun hc => ?_) (fun hc => ?_)
    · replace hf := ifn hc hf
      refine lv_iload_n hx hb dX1_mean_27 rfl (lv_at hl 0 rfl) ?_
      refine lv_if_ne (tgt := 37) hx hb dX1_mean_28 (by decide) (fun hc => ?_) (fun hc => ?_)
      · replace hf := ifn hc hf
        refine lv_lconst (v := 0) hx hb dX1_mean_37 (by decide) ?_
        refine lv_lstore_n (lv' := [(3, .long 0), (2, .int (M.1 8 (ix v1))), (0, .ref (ad 0)), (1, .int v1)]) hx hb dX1_mean_38 rfl hl (by decide) rfl (fun ls hl => ?_)
        refine lv_iconst (v := 0) hx hb dX1_mean_39 (by decide) ?_
        refine lv_istore (lv' := [(5, .int 0), (3, .long 0), (2, .int (M.1 8 (ix v1))), (0, .ref (ad 0)), (1, .int v1)]) hx hb dX1_mean_40 hl (by decide) rfl (fun ls hl => ?_)
        obtain ⟨k67, hk67, hf⟩ := jn_some1 hf
        have hJ67 : ∀ (v3_67x : Int64) (H : Heap) (locs : List Loc) (ls : Array Slot), k67 v3_67x = some (r, M') → Wd D 43 ad (CC ad cy) A s.heap M H locs → lv_has ls 6 [(0, .ref (ad 0)), (2, .int (M.1 8 (ix v1))), (3, .long v3_67x)] → W p l e (rmD 2) s m ([.ref (ad 0), .int v1] : List Value).toArray below meth c H locs 0 0 Q (F0 m 67 ls []) := by
          intro v3_67x H locs ls hf hW hl
          rw [hk67] at hf
          refine lv_aload_n hx hb dX1_mean_67 rfl (lv_at hl 0 rfl) ?_
          refine lv_lload_n hx hb dX1_mean_68 rfl (lv_at hl 2 rfl) ?_
          refine lv_iload_n hx hb dX1_mean_69 rfl (lv_at hl 1 rfl) ?_
          refine lv_i2l (v := ((M.1 8 (ix v1))).toInt64) hx hb dX1_mean_70 rfl ?_
          obtain ⟨hz71, hf⟩ := grd_some hf
          refine lv_ldiv hx hb dX1_mean_71 (nzL_ne hz71) ?_
          refine lv_l2i (v := ((v3_67x / ((M.1 8 (ix v1))).toInt64)).toInt32) hx hb dX1_mean_72 rfl ?_
          refine gp_X1_58 X hW dX1_mean_73 (fun H locs hW => ?_)
          obtain ⟨M73, e73, hf⟩ := lt_some hf
          have hW : Wd D 43 ad (CC ad cy) A s.heap M73 H locs := by rw [e73]; exact hW
          refine lv_iconst (v := 1) hx hb dX1_mean_76 (by decide) ?_
          exact g_iret X hr hlk hQ hW dX1_mean_77 hf
        exact hL42 v1 (M.1 8 (ix v1)) M k67 hJ67 FU 0 0 H locs ls hf hW (lv_sub hl [3, 4, 2, 1, 0] rfl)
      · replace hf := ifp hc hf
        refine lv_aload_n hx hb dX1_mean_31 rfl (lv_at hl 1 rfl) ?_
        refine lv_iconst (v := 4) hx hb dX1_mean_32 (by decide) ?_
        obtain ⟨r33, M33, h33, hf⟩ := bI_some hf
        refine g_calliV X hl.1 hZ hA hW (c_X1_refuse l D cy ad h33) cw_X1_refuse ql_X1_72 iO_X1 rfl (by decide) rfl (Nat.le_of_ble_eq_true rfl) dX1_mean_33 (fun H locs hW => ?_)
        exact g_iret X hr hlk hQ hW dX1_mean_36 hf
    · replace hf := ifp hc hf
      refine lv_aload_n hx hb dX1_mean_21 rfl (lv_at hl 1 rfl) ?_
      refine lv_iconst (v := 1) hx hb dX1_mean_22 (by decide) ?_
      obtain ⟨r23, M23, h23, hf⟩ := bI_some hf
      refine g_calliV X hl.1 hZ hA hW (c_X1_refuse l D cy ad h23) cw_X1_refuse ql_X1_72 iO_X1 rfl (by decide) rfl (Nat.le_of_ble_eq_true rfl) dX1_mean_23 (fun H locs hW => ?_)
      exact g_iret X hr hlk hQ hW dX1_mean_26 hf
  · replace hf := ifp hc hf
    refine lv_iconst (v := (-1)) hx hb dX1_mean_7 (by decide) ?_
    exact g_iret X hr hlk hQ hW dX1_mean_8 hf

def f_X1_isText (v0 : Int32) (M : Mem) : Option Int32 :=
  (bR (f_X1_isWithin v0 0 3 M) (fun r3 => (grd (isB r3) (some r3))))
set_option maxHeartbeats 4000000 in
set_option maxRecDepth 100000 in
theorem c_X1_isText (l : Launch) (D : va_G) (cy : Nat → ClassId) (ad : Nat → Nat)   {v0 : Int32} {M : Mem} {r : Int32} (hf : f_X1_isText v0 M = some r) : MetX l 43 (CC ad cy) D cy ad yX1_isText cX1_isText 1 (some .boolean) 1 [.int v0] M (fun A => QI r M 43 (CC ad cy) D cy ad A) := by
  refine MetX.of (own := RX1) (by decide) rfl (Nat.le_of_ble_eq_true rfl) ?_
  intro p e s m below meth c A Q ls X hr hlk hZ hA hQ hW hl
  have hl : lv_has ls 1 [(0, .int v0)] := hl
  have hx := X.1
  have hb := X.2.1
  obtain ⟨H, hH⟩ : ∃ H, H = s.heap := ⟨_, rfl⟩
  obtain ⟨locs, hlo⟩ : ∃ q : List Loc, q = [] := ⟨_, rfl⟩
  have hW : Wd D 43 ad (CC ad cy) A s.heap M H locs := by rw [hH, hlo]; exact hW
  suffices hh : W p l e (rmD 1) s m ([.int v0] : List Value).toArray below meth c H locs 0 0 Q (F0 m 0 ls []) by rw [hH, hlo] at hh; exact hh
  unfold f_X1_isText at hf
  refine lv_iload_n hx hb dX1_isText_0 rfl (lv_at hl 0 rfl) ?_
  refine lv_iconst (v := 0) hx hb dX1_isText_1 (by decide) ?_
  refine lv_iconst (v := 3) hx hb dX1_isText_2 (by decide) ?_
  obtain ⟨r3, h3, hf⟩ := bR_some hf
  refine g_calliS X hl.1 hZ hA hW (c_X1_isWithin l D cy ad h3) cs_X1_isWithin ql_X1_114 rfl (by decide) rfl (Nat.le_of_ble_eq_true rfl) dX1_isText_3 (fun H locs hW => ?_)
  obtain ⟨hzb, hf⟩ := grd_some hf
  exact g_zret X hr hlk hQ hW dX1_isText_6 hzb (rd_some hf)

def f_X1_text_L27 (v1_L27 : Int32) (v2_L27 : Int32) (k48 : Mem → Option (Int32 × Mem)) : Nat → Int32 → Mem → Option (Int32 × Mem)
  | 0, _, _ => none
  | n + 1, v3_L27, M_L27 => (if v2_L27 ≤ v3_L27 then (k48 M_L27) else (grd (inb v1_L27 4) (grd (inb v3_L27 60) (lt (sI M_L27 (10 + (ix v1_L27)) (ix v3_L27) (vp_nar .byte 32)) (fun M41 => (f_X1_text_L27 v1_L27 v2_L27 k48 n (v3_L27 + 1) M41))))))
def f_X1_text (v1 : Int32) (v2 : Int32) (M : Mem) : Option (Int32 × Mem) :=
  (bR (f_X1_isText v1 M) (fun r1 => (if r1 = 0 then (some ((-1), M)) else (if v2 ≤ 60 then (if 0 ≤ v2 then (jn (fun (k48 : Mem → Option (Int32 × Mem)) => (f_X1_text_L27 v1 v2 k48 FU 0 M)) (fun  (M_48x : Mem) => (grd (inb v1 4) (lt (sI M_48x 14 (ix v1) v2) (fun M54 => (some (v2, M54))))))) else (bI (f_X1_refuse 5 M) (fun r21 M21 => (some (r21, M21))))) else (some ((-1), M))))))
set_option maxHeartbeats 4000000 in
set_option maxRecDepth 100000 in
theorem c_X1_text (l : Launch) (D : va_G) (cy : Nat → ClassId) (ad : Nat → Nat)   {v1 : Int32} {v2 : Int32} {M M' : Mem} {r : Int32} (hf : f_X1_text v1 v2 M = some (r, M')) : MetX l 43 (CC ad cy) D cy ad yX1_text cX1_text 4 (some .int) 2 [.ref (ad 0), .int v1, .int v2] M (fun A => QI r M' 43 (CC ad cy) D cy ad A) := by
  refine MetX.of (own := RX1) (by decide) rfl (Nat.le_of_ble_eq_true rfl) ?_
  intro p e s m below meth c A Q ls X hr hlk hZ hA hQ hW hl
  have hl : lv_has ls 4 [(0, .ref (ad 0)), (1, .int v1), (2, .int v2)] := hl
  have hx := X.1
  have hb := X.2.1
  have hL27 : ∀ (v1_L27 : Int32) (v2_L27 : Int32) (k48 : Mem → Option (Int32 × Mem)) (hJ48 : ∀  (M_48x : Mem) (H : Heap) (locs : List Loc) (ls : Array Slot), k48 M_48x = some (r, M') → Wd D 43 ad (CC ad cy) A s.heap M_48x H locs → lv_has ls 4 [(0, .ref (ad 0)), (1, .int v1_L27), (2, .int v2_L27)] → W p l e (rmD 2) s m ([.ref (ad 0), .int v1, .int v2] : List Value).toArray below meth c H locs 0 0 Q (F0 m 48 ls [])) (n : Nat) (v3_L27 : Int32) (M_L27 : Mem) (H : Heap) (locs : List Loc) (ls : Array Slot), f_X1_text_L27 v1_L27 v2_L27 k48 n v3_L27 M_L27 = some (r, M') → Wd D 43 ad (CC ad cy) A s.heap M_L27 H locs → lv_has ls 4 [(0, .ref (ad 0)), (1, .int v1_L27), (2, .int v2_L27), (3, .int v3_L27)] → W p l e (rmD 2) s m ([.ref (ad 0), .int v1, .int v2] : List Value).toArray below meth c H locs 0 0 Q (F0 m 27 ls []) := by
    intro v1_L27 v2_L27 k48 hJ48 n
    induction n with
    | zero =>
      intro v3_L27 M_L27 H locs ls hf
      cases (show (none : Option (Int32 × Mem)) = some (r, M') from hf)
    | succ n ih =>
      intro v3_L27 M_L27 H locs ls hf hW hl
      rw [f_X1_text_L27] at hf
      refine lv_iload_n hx hb dX1_text_27 rfl (lv_at hl 3 rfl) ?_
      refine lv_iload_n hx hb dX1_text_28 rfl (lv_at hl 2 rfl) ?_
      refine lv_icmp_ge (tgt := 48) hx hb dX1_text_29 (by decide) (fun hc => ?_) (fun hc => ?_)
      · replace hf := ifp hc hf
        exact hJ48 M_L27 H locs ls hf hW (lv_sub hl [0, 1, 2] rfl)
      · replace hf := ifn hc hf
        refine lv_aload_n hx hb dX1_text_32 rfl (lv_at hl 0 rfl) ?_
        refine gf_X1_20 X hW dX1_text_33 ?_
        refine lv_iload_n hx hb dX1_text_36 rfl (lv_at hl 1 rfl) ?_
        obtain ⟨hi37, hf⟩ := grd_some hf
        refine g_aald X hW (t0 := 4) iG_texts rfl rfl hi37 dX1_text_37 ?_
        refine lv_iload_n hx hb dX1_text_38 rfl (lv_at hl 3 rfl) ?_
        refine lv_bipush (v := 32) hx hb dX1_text_39 (by decide) ?_
        obtain ⟨hi41, hf⟩ := grd_some hf
        refine g_bast X hW (iA_texts_r (inb_lt hi37)) hi41 dX1_text_41 (fun H locs hW => ?_)
        obtain ⟨M41, e41, hf⟩ := lt_some hf
        have hW : Wd D 43 ad (CC ad cy) A s.heap M41 H locs := by rw [e41]; exact hW
        refine lv_iinc (v := (v3_L27 + 1)) (lv' := [(3, .int (v3_L27 + 1)), (0, .ref (ad 0)), (1, .int v1_L27), (2, .int v2_L27)]) hx hb dX1_text_42 hl (k := 3) rfl rfl (by decide) rfl (fun ls hl => ?_)
        refine lv_goto (tgt := 27) hx hb dX1_text_45 (by decide) ?_
        exact ih (v3_L27 + 1) M41 H locs ls hf hW (lv_sub hl [1, 2, 3, 0] rfl)
  obtain ⟨H, hH⟩ : ∃ H, H = s.heap := ⟨_, rfl⟩
  obtain ⟨locs, hlo⟩ : ∃ q : List Loc, q = [] := ⟨_, rfl⟩
  have hW : Wd D 43 ad (CC ad cy) A s.heap M H locs := by rw [hH, hlo]; exact hW
  suffices hh : W p l e (rmD 2) s m ([.ref (ad 0), .int v1, .int v2] : List Value).toArray below meth c H locs 0 0 Q (F0 m 0 ls []) by rw [hH, hlo] at hh; exact hh
  unfold f_X1_text at hf
  refine lv_iload_n hx hb dX1_text_0 rfl (lv_at hl 1 rfl) ?_
  obtain ⟨r1, h1, hf⟩ := bR_some hf
  refine g_calliS X hl.1 hZ hA hW (c_X1_isText l D cy ad h1) cs_X1_isText ql_X1_94 rfl (by decide) rfl (Nat.le_of_ble_eq_true rfl) dX1_text_1 (fun H locs hW => ?_)
  refine lv_if_eq (tgt := 13) hx hb dX1_text_4 (by decide) (fun hc => ?_) (fun hc => ?_)
  · replace hf := ifp hc hf
    refine lv_iconst (v := (-1)) hx hb dX1_text_13 (by decide) ?_
    exact g_iret X hr hlk hQ hW dX1_text_14 hf
  · replace hf := ifn hc hf
    refine lv_iload_n hx hb dX1_text_7 rfl (lv_at hl 2 rfl) ?_
    refine lv_bipush (v := 60) hx hb dX1_text_8 (by decide) ?_
    refine lv_icmp_le (tgt := 15) hx hb dX1_text_10 (by decide) (fun hc => ?_) (fun hc => ?_)
    · replace hf := ifp hc hf
      refine lv_iload_n hx hb dX1_text_15 rfl (lv_at hl 2 rfl) ?_
      refine lv_if_ge (tgt := 25) hx hb dX1_text_16 (by decide) (fun hc => ?_) (fun hc => ?_)
      · replace hf := ifp hc hf
        refine lv_iconst (v := 0) hx hb dX1_text_25 (by decide) ?_
        refine lv_istore_n (lv' := [(3, .int 0), (0, .ref (ad 0)), (1, .int v1), (2, .int v2)]) hx hb dX1_text_26 rfl hl (by decide) rfl (fun ls hl => ?_)
        obtain ⟨k48, hk48, hf⟩ := jn_some1 hf
        have hJ48 : ∀  (M_48x : Mem) (H : Heap) (locs : List Loc) (ls : Array Slot), k48 M_48x = some (r, M') → Wd D 43 ad (CC ad cy) A s.heap M_48x H locs → lv_has ls 4 [(0, .ref (ad 0)), (1, .int v1), (2, .int v2)] → W p l e (rmD 2) s m ([.ref (ad 0), .int v1, .int v2] : List Value).toArray below meth c H locs 0 0 Q (F0 m 48 ls []) := by
          intro M_48x H locs ls hf hW hl
          rw [hk48] at hf
          refine lv_aload_n hx hb dX1_text_48 rfl (lv_at hl 0 rfl) ?_
          refine gf_X1_23 X hW dX1_text_49 ?_
          refine lv_iload_n hx hb dX1_text_52 rfl (lv_at hl 1 rfl) ?_
          refine lv_iload_n hx hb dX1_text_53 rfl (lv_at hl 2 rfl) ?_
          obtain ⟨hi54, hf⟩ := grd_some hf
          refine g_iast X hW iA_textSizes hi54 dX1_text_54 (fun H locs hW => ?_)
          obtain ⟨M54, e54, hf⟩ := lt_some hf
          have hW : Wd D 43 ad (CC ad cy) A s.heap M54 H locs := by rw [e54]; exact hW
          refine lv_iload_n hx hb dX1_text_55 rfl (lv_at hl 2 rfl) ?_
          exact g_iret X hr hlk hQ hW dX1_text_56 hf
        exact hL27 v1 v2 k48 hJ48 FU 0 M H locs ls hf hW (lv_sub hl [1, 2, 3, 0] rfl)
      · replace hf := ifn hc hf
        refine lv_aload_n hx hb dX1_text_19 rfl (lv_at hl 0 rfl) ?_
        refine lv_iconst (v := 5) hx hb dX1_text_20 (by decide) ?_
        obtain ⟨r21, M21, h21, hf⟩ := bI_some hf
        refine g_calliV X hl.1 hZ hA hW (c_X1_refuse l D cy ad h21) cw_X1_refuse ql_X1_72 iO_X1 rfl (by decide) rfl (Nat.le_of_ble_eq_true rfl) dX1_text_21 (fun H locs hW => ?_)
        exact g_iret X hr hlk hQ hW dX1_text_24 hf
    · replace hf := ifn hc hf
      refine lv_iconst (v := (-1)) hx hb dX1_text_13 (by decide) ?_
      exact g_iret X hr hlk hQ hW dX1_text_14 hf

def f_X1_put (v1 : Int32) (v2 : Int32) (v3 : Int32) (M : Mem) : Option (Int32 × Mem) :=
  (bR (f_X1_isText v1 M) (fun r1 => (if r1 = 0 then (some ((-1), M)) else (grd (inb v1 4) (bR (f_X1_lookForPlace v2 (M.1 14 (ix v1)) M) (fun r16 => (if r16 = 0 then (grd (inb v1 4) (grd (inb v2 60) (grd (inb v1 4) (grd (inb v2 60) (lt (sI M (10 + (ix v1)) (ix v2) (vp_nar .byte (v3).toInt8.toInt32)) (fun M52 => (some (((M.1 (10 + (ix v1)) (ix v2)) + 1000), M52)))))))) else (bI (f_X1_refuse r16 M) (fun r29 M29 => (some (r29, M29)))))))))))
set_option maxHeartbeats 4000000 in
set_option maxRecDepth 100000 in
theorem c_X1_put (l : Launch) (D : va_G) (cy : Nat → ClassId) (ad : Nat → Nat)   {v1 : Int32} {v2 : Int32} {v3 : Int32} {M M' : Mem} {r : Int32} (hf : f_X1_put v1 v2 v3 M = some (r, M')) : MetX l 43 (CC ad cy) D cy ad yX1_put cX1_put 6 (some .int) 2 [.ref (ad 0), .int v1, .int v2, .int v3] M (fun A => QI r M' 43 (CC ad cy) D cy ad A) := by
  refine MetX.of (own := RX1) (by decide) rfl (Nat.le_of_ble_eq_true rfl) ?_
  intro p e s m below meth c A Q ls X hr hlk hZ hA hQ hW hl
  have hl : lv_has ls 6 [(0, .ref (ad 0)), (1, .int v1), (2, .int v2), (3, .int v3)] := hl
  have hx := X.1
  have hb := X.2.1
  obtain ⟨H, hH⟩ : ∃ H, H = s.heap := ⟨_, rfl⟩
  obtain ⟨locs, hlo⟩ : ∃ q : List Loc, q = [] := ⟨_, rfl⟩
  have hW : Wd D 43 ad (CC ad cy) A s.heap M H locs := by rw [hH, hlo]; exact hW
  suffices hh : W p l e (rmD 2) s m ([.ref (ad 0), .int v1, .int v2, .int v3] : List Value).toArray below meth c H locs 0 0 Q (F0 m 0 ls []) by rw [hH, hlo] at hh; exact hh
  unfold f_X1_put at hf
  refine lv_iload_n hx hb dX1_put_0 rfl (lv_at hl 1 rfl) ?_
  obtain ⟨r1, h1, hf⟩ := bR_some hf
  refine g_calliS X hl.1 hZ hA hW (c_X1_isText l D cy ad h1) cs_X1_isText ql_X1_94 rfl (by decide) rfl (Nat.le_of_ble_eq_true rfl) dX1_put_1 (fun H locs hW => ?_)
  refine lv_if_ne (tgt := 9) hx hb dX1_put_4 (by decide) (fun hc => ?_) (fun hc => ?_)
  · replace hf := ifn hc hf
    refine lv_iload_n hx hb dX1_put_9 rfl (lv_at hl 2 rfl) ?_
    refine lv_aload_n hx hb dX1_put_10 rfl (lv_at hl 0 rfl) ?_
    refine gf_X1_23 X hW dX1_put_11 ?_
    refine lv_iload_n hx hb dX1_put_14 rfl (lv_at hl 1 rfl) ?_
    obtain ⟨hi15, hf⟩ := grd_some hf
    refine g_iald X hW iA_textSizes hi15 dX1_put_15 ?_
    obtain ⟨r16, h16, hf⟩ := bR_some hf
    refine g_calliS X hl.1 hZ hA hW (c_X1_lookForPlace l D cy ad h16) cs_X1_lookForPlace ql_X1_80 rfl (by decide) rfl (Nat.le_of_ble_eq_true rfl) dX1_put_16 (fun H locs hW => ?_)
    refine lv_istore (lv' := [(4, .int r16), (0, .ref (ad 0)), (1, .int v1), (2, .int v2), (3, .int v3)]) hx hb dX1_put_19 hl (by decide) rfl (fun ls hl => ?_)
    refine lv_iload hx hb dX1_put_21 (lv_at hl 0 rfl) ?_
    refine lv_if_eq (tgt := 33) hx hb dX1_put_23 (by decide) (fun hc => ?_) (fun hc => ?_)
    · replace hf := ifp hc hf
      refine lv_aload_n hx hb dX1_put_33 rfl (lv_at hl 1 rfl) ?_
      refine gf_X1_20 X hW dX1_put_34 ?_
      refine lv_iload_n hx hb dX1_put_37 rfl (lv_at hl 2 rfl) ?_
      obtain ⟨hi38, hf⟩ := grd_some hf
      refine g_aald X hW (t0 := 4) iG_texts rfl rfl hi38 dX1_put_38 ?_
      refine lv_iload_n hx hb dX1_put_39 rfl (lv_at hl 3 rfl) ?_
      obtain ⟨hi40, hf⟩ := grd_some hf
      refine g_bald X hW (iA_texts_r (inb_lt hi38)) hi40 dX1_put_40 ?_
      refine lv_istore (lv' := [(5, .int (M.1 (10 + (ix v1)) (ix v2))), (4, .int r16), (0, .ref (ad 0)), (1, .int v1), (2, .int v2), (3, .int v3)]) hx hb dX1_put_41 hl (by decide) rfl (fun ls hl => ?_)
      refine lv_aload_n hx hb dX1_put_43 rfl (lv_at hl 2 rfl) ?_
      refine gf_X1_20 X hW dX1_put_44 ?_
      refine lv_iload_n hx hb dX1_put_47 rfl (lv_at hl 3 rfl) ?_
      obtain ⟨hi48, hf⟩ := grd_some hf
      refine g_aald X hW (t0 := 4) iG_texts rfl rfl hi48 dX1_put_48 ?_
      refine lv_iload_n hx hb dX1_put_49 rfl (lv_at hl 4 rfl) ?_
      refine lv_iload_n hx hb dX1_put_50 rfl (lv_at hl 5 rfl) ?_
      refine lv_i2b (v := (v3).toInt8.toInt32) hx hb dX1_put_51 rfl ?_
      obtain ⟨hi52, hf⟩ := grd_some hf
      refine g_bast X hW (iA_texts_r (inb_lt hi48)) hi52 dX1_put_52 (fun H locs hW => ?_)
      obtain ⟨M52, e52, hf⟩ := lt_some hf
      have hW : Wd D 43 ad (CC ad cy) A s.heap M52 H locs := by rw [e52]; exact hW
      refine lv_iload hx hb dX1_put_53 (lv_at hl 0 rfl) ?_
      refine lv_sipush (v := 1000) hx hb dX1_put_55 (by decide) ?_
      refine lv_iadd hx hb dX1_put_58 ?_
      exact g_iret X hr hlk hQ hW dX1_put_59 hf
    · replace hf := ifn hc hf
      refine lv_aload_n hx hb dX1_put_26 rfl (lv_at hl 1 rfl) ?_
      refine lv_iload hx hb dX1_put_27 (lv_at hl 0 rfl) ?_
      obtain ⟨r29, M29, h29, hf⟩ := bI_some hf
      refine g_calliV X hl.1 hZ hA hW (c_X1_refuse l D cy ad h29) cw_X1_refuse ql_X1_72 iO_X1 rfl (by decide) rfl (Nat.le_of_ble_eq_true rfl) dX1_put_29 (fun H locs hW => ?_)
      exact g_iret X hr hlk hQ hW dX1_put_32 hf
  · replace hf := ifp hc hf
    refine lv_iconst (v := (-1)) hx hb dX1_put_7 (by decide) ?_
    exact g_iret X hr hlk hQ hW dX1_put_8 hf

def f_X1_fault (v1 : Int32) (M : Mem) : Option (Int32 × Mem) :=
  (bR (f_X1_isText v1 M) (fun r1 => (if r1 = 0 then (some ((-1), M)) else (grd (inb v1 4) (if (M.1 14 (ix v1)) = (-1) then (bI (f_X1_refuse 1 M) (fun r21 M21 => (some (r21, M21)))) else (grd (inb v1 4) (grd (inb v1 4) (bI (f_X0_read 22 (10 + (ix v1)) 60 (M.1 14 (ix v1)) M) (fun r41 M41 => (some (r41, M41)))))))))))
set_option maxHeartbeats 4000000 in
set_option maxRecDepth 100000 in
theorem c_X1_fault (l : Launch) (D : va_G) (cy : Nat → ClassId) (ad : Nat → Nat)   {v1 : Int32} {M M' : Mem} {r : Int32} (hf : f_X1_fault v1 M = some (r, M')) : MetX l 43 (CC ad cy) D cy ad yX1_fault cX1_fault 2 (some .int) 3 [.ref (ad 0), .int v1] M (fun A => QI r M' 43 (CC ad cy) D cy ad A) := by
  refine MetX.of (own := RX1) (by decide) rfl (Nat.le_of_ble_eq_true rfl) ?_
  intro p e s m below meth c A Q ls X hr hlk hZ hA hQ hW hl
  have hl : lv_has ls 2 [(0, .ref (ad 0)), (1, .int v1)] := hl
  have hx := X.1
  have hb := X.2.1
  obtain ⟨H, hH⟩ : ∃ H, H = s.heap := ⟨_, rfl⟩
  obtain ⟨locs, hlo⟩ : ∃ q : List Loc, q = [] := ⟨_, rfl⟩
  have hW : Wd D 43 ad (CC ad cy) A s.heap M H locs := by rw [hH, hlo]; exact hW
  suffices hh : W p l e (rmD 3) s m ([.ref (ad 0), .int v1] : List Value).toArray below meth c H locs 0 0 Q (F0 m 0 ls []) by rw [hH, hlo] at hh; exact hh
  unfold f_X1_fault at hf
  refine lv_iload_n hx hb dX1_fault_0 rfl (lv_at hl 1 rfl) ?_
  obtain ⟨r1, h1, hf⟩ := bR_some hf
  refine g_calliS X hl.1 hZ hA hW (c_X1_isText l D cy ad h1) cs_X1_isText ql_X1_94 rfl (by decide) rfl (Nat.le_of_ble_eq_true rfl) dX1_fault_1 (fun H locs hW => ?_)
  refine lv_if_ne (tgt := 9) hx hb dX1_fault_4 (by decide) (fun hc => ?_) (fun hc => ?_)
  · replace hf := ifn hc hf
    refine lv_aload_n hx hb dX1_fault_9 rfl (lv_at hl 0 rfl) ?_
    refine gf_X1_23 X hW dX1_fault_10 ?_
    refine lv_iload_n hx hb dX1_fault_13 rfl (lv_at hl 1 rfl) ?_
    obtain ⟨hi14, hf⟩ := grd_some hf
    refine g_iald X hW iA_textSizes hi14 dX1_fault_14 ?_
    refine lv_iconst (v := (-1)) hx hb dX1_fault_15 (by decide) ?_
    refine lv_icmp_ne (tgt := 25) hx hb dX1_fault_16 (by decide) (fun hc => ?_) (fun hc => ?_)
    · replace hf := ifn hc hf
      refine lv_aload_n hx hb dX1_fault_25 rfl (lv_at hl 0 rfl) ?_
      refine gf_X1_33 X hW dX1_fault_26 ?_
      refine lv_aload_n hx hb dX1_fault_29 rfl (lv_at hl 0 rfl) ?_
      refine gf_X1_20 X hW dX1_fault_30 ?_
      refine lv_iload_n hx hb dX1_fault_33 rfl (lv_at hl 1 rfl) ?_
      obtain ⟨hi34, hf⟩ := grd_some hf
      refine g_aald X hW (t0 := 4) iG_texts rfl rfl hi34 dX1_fault_34 ?_
      refine lv_aload_n hx hb dX1_fault_35 rfl (lv_at hl 0 rfl) ?_
      refine gf_X1_23 X hW dX1_fault_36 ?_
      refine lv_iload_n hx hb dX1_fault_39 rfl (lv_at hl 1 rfl) ?_
      obtain ⟨hi40, hf⟩ := grd_some hf
      refine g_iald X hW iA_textSizes hi40 dX1_fault_40 ?_
      obtain ⟨r41, M41, h41, hf⟩ := bI_some hf
      refine g_calliN (host := "TubeWords") X hl.1 hZ hA hW (c_X0_read l D cy ad isSt22 (iA_texts_r (inb_lt hi34)) h41) cw_X0_read (by decide +kernel) (iO_st isSt22) rfl (by decide) rfl (Nat.le_of_ble_eq_true rfl) dX1_fault_41 (fun H locs hW => ?_)
      exact g_iret X hr hlk hQ hW dX1_fault_44 hf
    · replace hf := ifp hc hf
      refine lv_aload_n hx hb dX1_fault_19 rfl (lv_at hl 0 rfl) ?_
      refine lv_iconst (v := 1) hx hb dX1_fault_20 (by decide) ?_
      obtain ⟨r21, M21, h21, hf⟩ := bI_some hf
      refine g_calliV X hl.1 hZ hA hW (c_X1_refuse l D cy ad h21) cw_X1_refuse ql_X1_72 iO_X1 rfl (by decide) rfl (Nat.le_of_ble_eq_true rfl) dX1_fault_21 (fun H locs hW => ?_)
      exact g_iret X hr hlk hQ hW dX1_fault_24 hf
  · replace hf := ifp hc hf
    refine lv_iconst (v := (-1)) hx hb dX1_fault_7 (by decide) ?_
    exact g_iret X hr hlk hQ hW dX1_fault_8 hf

def f_X1_store_L77 (k95 : Mem → Option (Int32 × Mem)) : Nat → Int32 → Mem → Option (Int32 × Mem)
  | 0, _, _ => none
  | n + 1, v2_L77, M_L77 => (if 3 ≤ v2_L77 then (k95 M_L77) else (grd (inb v2_L77 3) (lt (sI M_L77 34 (ix v2_L77) (-1)) (fun M88 => (f_X1_store_L77 k95 n (v2_L77 + 1) M88)))))
def f_X1_store (v1 : Int32) (M : Mem) : Option (Int32 × Mem) :=
  (bR (f_X1_isText v1 M) (fun r1 => (if r1 = 0 then (some ((-1), M)) else (grd (inb v1 4) (if (M.1 14 (ix v1)) = (-1) then (bI (f_X1_refuse 1 M) (fun r21 M21 => (some (r21, M21)))) else (grd (inb v1 4) (grd (inb v1 4) (bI (f_X0_read 22 (10 + (ix v1)) 60 (M.1 14 (ix v1)) M) (fun r41 M41 => (if r41 = (-9) then (bR (f_X0_beginAnew 22 M41) (fun M56 => (bR (f_X0_takeFrom 15 22 M56) (fun M67 => (lt (sI M67 0 7 0) (fun M72 => (jn (fun (k95 : Mem → Option (Int32 × Mem)) => (f_X1_store_L77 k95 FU 0 M72)) (fun  (M_95x : Mem) => (some ((M_95x.1 15 6), M_95x)))))))))) else (some ((-4), M41))))))))))))
set_option maxHeartbeats 4000000 in
set_option maxRecDepth 100000 in
theorem c_X1_store (l : Launch) (D : va_G) (cy : Nat → ClassId) (ad : Nat → Nat)   {v1 : Int32} {M M' : Mem} {r : Int32} (hf : f_X1_store v1 M = some (r, M')) : MetX l 43 (CC ad cy) D cy ad yX1_store cX1_store 3 (some .int) 3 [.ref (ad 0), .int v1] M (fun A => QI r M' 43 (CC ad cy) D cy ad A) := by
  refine MetX.of (own := RX1) (by decide) rfl (Nat.le_of_ble_eq_true rfl) ?_
  intro p e s m below meth c A Q ls X hr hlk hZ hA hQ hW hl
  have hl : lv_has ls 3 [(0, .ref (ad 0)), (1, .int v1)] := hl
  have hx := X.1
  have hb := X.2.1
  have hL77 : ∀  (k95 : Mem → Option (Int32 × Mem)) (hJ95 : ∀  (M_95x : Mem) (H : Heap) (locs : List Loc) (ls : Array Slot), k95 M_95x = some (r, M') → Wd D 43 ad (CC ad cy) A s.heap M_95x H locs → lv_has ls 3 [(0, .ref (ad 0))] → W p l e (rmD 3) s m ([.ref (ad 0), .int v1] : List Value).toArray below meth c H locs 0 0 Q (F0 m 95 ls [])) (n : Nat) (v2_L77 : Int32) (M_L77 : Mem) (H : Heap) (locs : List Loc) (ls : Array Slot), f_X1_store_L77 k95 n v2_L77 M_L77 = some (r, M') → Wd D 43 ad (CC ad cy) A s.heap M_L77 H locs → lv_has ls 3 [(0, .ref (ad 0)), (2, .int v2_L77)] → W p l e (rmD 3) s m ([.ref (ad 0), .int v1] : List Value).toArray below meth c H locs 0 0 Q (F0 m 77 ls []) := by
    intro k95 hJ95 n
    induction n with
    | zero =>
      intro v2_L77 M_L77 H locs ls hf
      cases (show (none : Option (Int32 × Mem)) = some (r, M') from hf)
    | succ n ih =>
      intro v2_L77 M_L77 H locs ls hf hW hl
      rw [f_X1_store_L77] at hf
      refine lv_iload_n hx hb dX1_store_77 rfl (lv_at hl 1 rfl) ?_
      refine lv_iconst (v := 3) hx hb dX1_store_78 (by decide) ?_
      refine lv_icmp_ge (tgt := 95) hx hb dX1_store_79 (by decide) (fun hc => ?_) (fun hc => ?_)
      · replace hf := ifp hc hf
        exact hJ95 M_L77 H locs ls hf hW (lv_sub hl [0] rfl)
      · replace hf := ifn hc hf
        refine lv_aload_n hx hb dX1_store_82 rfl (lv_at hl 0 rfl) ?_
        refine gf_X1_46 X hW dX1_store_83 ?_
        refine lv_iload_n hx hb dX1_store_86 rfl (lv_at hl 1 rfl) ?_
        refine lv_iconst (v := (-1)) hx hb dX1_store_87 (by decide) ?_
        obtain ⟨hi88, hf⟩ := grd_some hf
        refine g_iast X hW iA_keptSizes hi88 dX1_store_88 (fun H locs hW => ?_)
        obtain ⟨M88, e88, hf⟩ := lt_some hf
        have hW : Wd D 43 ad (CC ad cy) A s.heap M88 H locs := by rw [e88]; exact hW
        refine lv_iinc (v := (v2_L77 + 1)) (lv' := [(2, .int (v2_L77 + 1)), (0, .ref (ad 0))]) hx hb dX1_store_89 hl (k := 1) rfl rfl (by decide) rfl (fun ls hl => ?_)
        refine lv_goto (tgt := 77) hx hb dX1_store_92 (by decide) ?_
        exact ih (v2_L77 + 1) M88 H locs ls hf hW (lv_sub hl [1, 0] rfl)
  obtain ⟨H, hH⟩ : ∃ H, H = s.heap := ⟨_, rfl⟩
  obtain ⟨locs, hlo⟩ : ∃ q : List Loc, q = [] := ⟨_, rfl⟩
  have hW : Wd D 43 ad (CC ad cy) A s.heap M H locs := by rw [hH, hlo]; exact hW
  suffices hh : W p l e (rmD 3) s m ([.ref (ad 0), .int v1] : List Value).toArray below meth c H locs 0 0 Q (F0 m 0 ls []) by rw [hH, hlo] at hh; exact hh
  unfold f_X1_store at hf
  refine lv_iload_n hx hb dX1_store_0 rfl (lv_at hl 1 rfl) ?_
  obtain ⟨r1, h1, hf⟩ := bR_some hf
  refine g_calliS X hl.1 hZ hA hW (c_X1_isText l D cy ad h1) cs_X1_isText ql_X1_94 rfl (by decide) rfl (Nat.le_of_ble_eq_true rfl) dX1_store_1 (fun H locs hW => ?_)
  refine lv_if_ne (tgt := 9) hx hb dX1_store_4 (by decide) (fun hc => ?_) (fun hc => ?_)
  · replace hf := ifn hc hf
    refine lv_aload_n hx hb dX1_store_9 rfl (lv_at hl 0 rfl) ?_
    refine gf_X1_23 X hW dX1_store_10 ?_
    refine lv_iload_n hx hb dX1_store_13 rfl (lv_at hl 1 rfl) ?_
    obtain ⟨hi14, hf⟩ := grd_some hf
    refine g_iald X hW iA_textSizes hi14 dX1_store_14 ?_
    refine lv_iconst (v := (-1)) hx hb dX1_store_15 (by decide) ?_
    refine lv_icmp_ne (tgt := 25) hx hb dX1_store_16 (by decide) (fun hc => ?_) (fun hc => ?_)
    · replace hf := ifn hc hf
      refine lv_aload_n hx hb dX1_store_25 rfl (lv_at hl 0 rfl) ?_
      refine gf_X1_33 X hW dX1_store_26 ?_
      refine lv_aload_n hx hb dX1_store_29 rfl (lv_at hl 0 rfl) ?_
      refine gf_X1_20 X hW dX1_store_30 ?_
      refine lv_iload_n hx hb dX1_store_33 rfl (lv_at hl 1 rfl) ?_
      obtain ⟨hi34, hf⟩ := grd_some hf
      refine g_aald X hW (t0 := 4) iG_texts rfl rfl hi34 dX1_store_34 ?_
      refine lv_aload_n hx hb dX1_store_35 rfl (lv_at hl 0 rfl) ?_
      refine gf_X1_23 X hW dX1_store_36 ?_
      refine lv_iload_n hx hb dX1_store_39 rfl (lv_at hl 1 rfl) ?_
      obtain ⟨hi40, hf⟩ := grd_some hf
      refine g_iald X hW iA_textSizes hi40 dX1_store_40 ?_
      obtain ⟨r41, M41, h41, hf⟩ := bI_some hf
      refine g_calliN (host := "TubeWords") X hl.1 hZ hA hW (c_X0_read l D cy ad isSt22 (iA_texts_r (inb_lt hi34)) h41) cw_X0_read (by decide +kernel) (iO_st isSt22) rfl (by decide) rfl (Nat.le_of_ble_eq_true rfl) dX1_store_41 (fun H locs hW => ?_)
      refine lv_bipush (v := (-9)) hx hb dX1_store_44 (by decide) ?_
      refine lv_icmp_eq (tgt := 52) hx hb dX1_store_46 (by decide) (fun hc => ?_) (fun hc => ?_)
      · replace hf := ifp hc hf
        refine lv_aload_n hx hb dX1_store_52 rfl (lv_at hl 0 rfl) ?_
        refine gf_X1_33 X hW dX1_store_53 ?_
        obtain ⟨M56, h56, hf⟩ := bR_some hf
        refine g_callvN (host := "TubeWords") X hl.1 hZ hA hW (c_X0_beginAnew l D cy ad isSt22 h56) cw_X0_beginAnew (by decide +kernel) (iO_st isSt22) rfl (by decide) rfl (Nat.le_of_ble_eq_true rfl) dX1_store_56 (fun H locs hW => ?_)
        refine lv_aload_n hx hb dX1_store_59 rfl (lv_at hl 0 rfl) ?_
        refine gf_X1_29 X hW dX1_store_60 ?_
        refine lv_aload_n hx hb dX1_store_63 rfl (lv_at hl 0 rfl) ?_
        refine gf_X1_33 X hW dX1_store_64 ?_
        obtain ⟨M67, h67, hf⟩ := bR_some hf
        refine g_callvN (host := "TubeWords") X hl.1 hZ hA hW (c_X0_takeFrom l D cy ad isSt15 isSt22 h67) cw_X0_takeFrom (by decide +kernel) (iO_st isSt15) rfl (by decide) rfl (Nat.le_of_ble_eq_true rfl) dX1_store_67 (fun H locs hW => ?_)
        refine lv_aload_n hx hb dX1_store_70 rfl (lv_at hl 0 rfl) ?_
        refine lv_iconst (v := 0) hx hb dX1_store_71 (by decide) ?_
        refine gp_X1_39 X hW dX1_store_72 (fun H locs hW => ?_)
        obtain ⟨M72, e72, hf⟩ := lt_some hf
        have hW : Wd D 43 ad (CC ad cy) A s.heap M72 H locs := by rw [e72]; exact hW
        refine lv_iconst (v := 0) hx hb dX1_store_75 (by decide) ?_
        refine lv_istore_n (lv' := [(2, .int 0), (0, .ref (ad 0)), (1, .int v1)]) hx hb dX1_store_76 rfl hl (by decide) rfl (fun ls hl => ?_)
        obtain ⟨k95, hk95, hf⟩ := jn_some1 hf
        have hJ95 : ∀  (M_95x : Mem) (H : Heap) (locs : List Loc) (ls : Array Slot), k95 M_95x = some (r, M') → Wd D 43 ad (CC ad cy) A s.heap M_95x H locs → lv_has ls 3 [(0, .ref (ad 0))] → W p l e (rmD 3) s m ([.ref (ad 0), .int v1] : List Value).toArray below meth c H locs 0 0 Q (F0 m 95 ls []) := by
          intro M_95x H locs ls hf hW hl
          rw [hk95] at hf
          refine lv_aload_n hx hb dX1_store_95 rfl (lv_at hl 0 rfl) ?_
          refine gf_X1_29 X hW dX1_store_96 ?_
          refine gf_X1_108 isSt15 X hW dX1_store_99 ?_
          exact g_iret X hr hlk hQ hW dX1_store_102 hf
        exact hL77 k95 hJ95 FU 0 M72 H locs ls hf hW (lv_sub hl [1, 0] rfl)
      · replace hf := ifn hc hf
        refine lv_bipush (v := (-4)) hx hb dX1_store_49 (by decide) ?_
        exact g_iret X hr hlk hQ hW dX1_store_51 hf
    · replace hf := ifp hc hf
      refine lv_aload_n hx hb dX1_store_19 rfl (lv_at hl 0 rfl) ?_
      refine lv_iconst (v := 1) hx hb dX1_store_20 (by decide) ?_
      obtain ⟨r21, M21, h21, hf⟩ := bI_some hf
      refine g_calliV X hl.1 hZ hA hW (c_X1_refuse l D cy ad h21) cw_X1_refuse ql_X1_72 iO_X1 rfl (by decide) rfl (Nat.le_of_ble_eq_true rfl) dX1_store_21 (fun H locs hW => ?_)
      exact g_iret X hr hlk hQ hW dX1_store_24 hf
  · replace hf := ifp hc hf
    refine lv_iconst (v := (-1)) hx hb dX1_store_7 (by decide) ?_
    exact g_iret X hr hlk hQ hW dX1_store_8 hf
