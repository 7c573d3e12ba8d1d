/-! walks, by program out of the listing: 21.walk_X0b -/
def f_X0_turnSlot (o : Nat) (v1 : Int32) (v2 : Int32) (M : Mem) : Option Mem :=
  (bR (f_X0_has o v1 M) (fun r2 => (if r2 = 0 then (some M) else (grd (inb v1 7) (grd (inb v1 7) (lt (sI M (o + 4) (ix v1) ((M.1 (o + 4) (ix v1)) ^^^ (shl 1 v2))) (fun M19 => (some M19))))))))
set_option maxHeartbeats 4000000 in
set_option maxRecDepth 100000 in
theorem c_X0_turnSlot (l : Launch) (D : va_G) (cy : Nat → ClassId) (ad : Nat → Nat) {o : Nat} (ho : isSt o) {v1 : Int32} {v2 : Int32} {M M' : Mem} (hf : f_X0_turnSlot o v1 v2 M = some M') : MetX l 43 (CC ad cy) D cy ad yX0_turnSlot cX0_turnSlot 3 none 1 [.ref (ad o), .int v1, .int v2] M (fun A => QV M' 43 (CC ad cy) D cy ad A) := by
  refine MetX.of (own := RX0) (by decide) rfl (Nat.le_of_ble_eq_true rfl) ?_
  intro p e s m below meth c A Q ls X hr hlk hZ hA hQ hW hl
  have hl : lv_has ls 3 [(0, .ref (ad o)), (1, .int v1), (2, .int v2)] := hl
  have hx := X.1
  have hb := X.2.1
  obtain ⟨H, hH⟩ : ∃ H, H = s.heap := ⟨_, rfl⟩
  obtain ⟨locs, hlo⟩ : ∃ q : List Loc, q = [] := ⟨_, rfl⟩
  have hW : Wd D 43 ad (CC ad cy) A s.heap M H locs := by rw [hH, hlo]; exact hW
  suffices hh : W p l e (rmD 1) s m ([.ref (ad o), .int v1, .int v2] : List Value).toArray below meth c H locs 0 0 Q (F0 m 0 ls []) by rw [hH, hlo] at hh; exact hh
  unfold f_X0_turnSlot at hf
  refine lv_aload_n hx hb dX0_turnSlot_0 rfl (lv_at hl 0 rfl) ?_
  refine lv_iload_n hx hb dX0_turnSlot_1 rfl (lv_at hl 1 rfl) ?_
  obtain ⟨r2, h2, hf⟩ := bR_some hf
  refine g_calliV X hl.1 hZ hA hW (c_X0_has l D cy ad ho h2) cw_X0_has ql_X0_58 (iO_st ho) rfl (by decide) rfl (Nat.le_of_ble_eq_true rfl) dX0_turnSlot_2 (fun H locs hW => ?_)
  refine lv_if_eq (tgt := 20) hx hb dX0_turnSlot_5 (by decide) (fun hc => ?_) (fun hc => ?_)
  · replace hf := ifp hc hf
    exact g_vret X hr hlk hQ hW dX0_turnSlot_20 hf
  · replace hf := ifn hc hf
    refine lv_aload_n hx hb dX0_turnSlot_8 rfl (lv_at hl 0 rfl) ?_
    refine gf_X0_21 ho X hW dX0_turnSlot_9 ?_
    refine lv_iload_n hx hb dX0_turnSlot_12 rfl (lv_at hl 1 rfl) ?_
    refine lv_dup2_11 hx hb dX0_turnSlot_13 rfl rfl ?_
    obtain ⟨hi14, hf⟩ := grd_some hf
    refine g_iald X hW (iA_st4 ho) hi14 dX0_turnSlot_14 ?_
    refine lv_iconst (v := 1) hx hb dX0_turnSlot_15 (by decide) ?_
    refine lv_iload_n hx hb dX0_turnSlot_16 rfl (lv_at hl 2 rfl) ?_
    refine r_ishl hx hb dX0_turnSlot_17 ?_
    refine lv_ixor hx hb dX0_turnSlot_18 ?_
    obtain ⟨hi19, hf⟩ := grd_some hf
    refine g_iast X hW (iA_st4 ho) hi19 dX0_turnSlot_19 (fun H locs hW => ?_)
    obtain ⟨M19, e19, hf⟩ := lt_some hf
    have hW : Wd D 43 ad (CC ad cy) A s.heap M19 H locs := by rw [e19]; exact hW
    exact g_vret X hr hlk hQ hW dX0_turnSlot_20 hf

def f_X0_swapWays (o : Nat) (v1 : Int32) (v2 : Int32) (M : Mem) : Option Mem :=
  (bR (f_X0_has o v1 M) (fun r2 => (if r2 = 0 then (some M) else (bR (f_X0_has o v2 M) (fun r10 => (if r10 = 0 then (some M) else (grd (inb v1 7) (grd (inb v2 7) (grd (inb v1 7) (lt (sI M (o + 5) (ix v1) (M.1 (o + 5) (ix v2))) (fun M34 => (grd (inb v2 7) (lt (sI M34 (o + 5) (ix v2) (M.1 (o + 5) (ix v1))) (fun M41 => (some M41)))))))))))))))
set_option maxHeartbeats 4000000 in
set_option maxRecDepth 100000 in
theorem c_X0_swapWays (l : Launch) (D : va_G) (cy : Nat → ClassId) (ad : Nat → Nat) {o : Nat} (ho : isSt o) {v1 : Int32} {v2 : Int32} {M M' : Mem} (hf : f_X0_swapWays o v1 v2 M = some M') : MetX l 43 (CC ad cy) D cy ad yX0_swapWays cX0_swapWays 4 none 1 [.ref (ad o), .int v1, .int v2] M (fun A => QV M' 43 (CC ad cy) D cy ad A) := by
  refine MetX.of (own := RX0) (by decide) rfl (Nat.le_of_ble_eq_true rfl) ?_
  intro p e s m below meth c A Q ls X hr hlk hZ hA hQ hW hl
  have hl : lv_has ls 4 [(0, .ref (ad o)), (1, .int v1), (2, .int v2)] := hl
  have hx := X.1
  have hb := X.2.1
  obtain ⟨H, hH⟩ : ∃ H, H = s.heap := ⟨_, rfl⟩
  obtain ⟨locs, hlo⟩ : ∃ q : List Loc, q = [] := ⟨_, rfl⟩
  have hW : Wd D 43 ad (CC ad cy) A s.heap M H locs := by rw [hH, hlo]; exact hW
  suffices hh : W p l e (rmD 1) s m ([.ref (ad o), .int v1, .int v2] : List Value).toArray below meth c H locs 0 0 Q (F0 m 0 ls []) by rw [hH, hlo] at hh; exact hh
  unfold f_X0_swapWays at hf
  refine lv_aload_n hx hb dX0_swapWays_0 rfl (lv_at hl 0 rfl) ?_
  refine lv_iload_n hx hb dX0_swapWays_1 rfl (lv_at hl 1 rfl) ?_
  obtain ⟨r2, h2, hf⟩ := bR_some hf
  refine g_calliV X hl.1 hZ hA hW (c_X0_has l D cy ad ho h2) cw_X0_has ql_X0_58 (iO_st ho) rfl (by decide) rfl (Nat.le_of_ble_eq_true rfl) dX0_swapWays_2 (fun H locs hW => ?_)
  refine lv_if_eq (tgt := 42) hx hb dX0_swapWays_5 (by decide) (fun hc => ?_) (fun hc => ?_)
  · replace hf := ifp hc hf
    exact g_vret X hr hlk hQ hW dX0_swapWays_42 hf
  · replace hf := ifn hc hf
    refine lv_aload_n hx hb dX0_swapWays_8 rfl (lv_at hl 0 rfl) ?_
    refine lv_iload_n hx hb dX0_swapWays_9 rfl (lv_at hl 2 rfl) ?_
    obtain ⟨r10, h10, hf⟩ := bR_some hf
    refine g_calliV X hl.1 hZ hA hW (c_X0_has l D cy ad ho h10) cw_X0_has ql_X0_58 (iO_st ho) rfl (by decide) rfl (Nat.le_of_ble_eq_true rfl) dX0_swapWays_10 (fun H locs hW => ?_)
    refine lv_if_eq (tgt := 42) hx hb dX0_swapWays_13 (by decide) (fun hc => ?_) (fun hc => ?_)
    · replace hf := ifp hc hf
      exact g_vret X hr hlk hQ hW dX0_swapWays_42 hf
    · replace hf := ifn hc hf
      refine lv_aload_n hx hb dX0_swapWays_16 rfl (lv_at hl 0 rfl) ?_
      refine gf_X0_24 ho X hW dX0_swapWays_17 ?_
      refine lv_iload_n hx hb dX0_swapWays_20 rfl (lv_at hl 1 rfl) ?_
      obtain ⟨hi21, hf⟩ := grd_some hf
      refine g_iald X hW (iA_st5 ho) hi21 dX0_swapWays_21 ?_
      refine lv_istore_n (lv' := [(3, .int (M.1 (o + 5) (ix v1))), (0, .ref (ad o)), (1, .int v1), (2, .int v2)]) hx hb dX0_swapWays_22 rfl hl (by decide) rfl (fun ls hl => ?_)
      refine lv_aload_n hx hb dX0_swapWays_23 rfl (lv_at hl 1 rfl) ?_
      refine gf_X0_24 ho X hW dX0_swapWays_24 ?_
      refine lv_iload_n hx hb dX0_swapWays_27 rfl (lv_at hl 2 rfl) ?_
      refine lv_aload_n hx hb dX0_swapWays_28 rfl (lv_at hl 1 rfl) ?_
      refine gf_X0_24 ho X hW dX0_swapWays_29 ?_
      refine lv_iload_n hx hb dX0_swapWays_32 rfl (lv_at hl 3 rfl) ?_
      obtain ⟨hi33, hf⟩ := grd_some hf
      refine g_iald X hW (iA_st5 ho) hi33 dX0_swapWays_33 ?_
      obtain ⟨hi34, hf⟩ := grd_some hf
      refine g_iast X hW (iA_st5 ho) hi34 dX0_swapWays_34 (fun H locs hW => ?_)
      obtain ⟨M34, e34, hf⟩ := lt_some hf
      have hW : Wd D 43 ad (CC ad cy) A s.heap M34 H locs := by rw [e34]; exact hW
      refine lv_aload_n hx hb dX0_swapWays_35 rfl (lv_at hl 1 rfl) ?_
      refine gf_X0_24 ho X hW dX0_swapWays_36 ?_
      refine lv_iload_n hx hb dX0_swapWays_39 rfl (lv_at hl 3 rfl) ?_
      refine lv_iload_n hx hb dX0_swapWays_40 rfl (lv_at hl 0 rfl) ?_
      obtain ⟨hi41, hf⟩ := grd_some hf
      refine g_iast X hW (iA_st5 ho) hi41 dX0_swapWays_41 (fun H locs hW => ?_)
      obtain ⟨M41, e41, hf⟩ := lt_some hf
      have hW : Wd D 43 ad (CC ad cy) A s.heap M41 H locs := by rw [e41]; exact hW
      exact g_vret X hr hlk hQ hW dX0_swapWays_42 hf

def f_X0_putWord (o : Nat) (v1 : Int32) (v2 : Int32) (M : Mem) : Option Mem :=
  (bR (f_X0_has o v1 M) (fun r2 => (if r2 = 0 then (some M) else (grd (inb v1 7) (lt (sI M (o + 4) (ix v1) v2) (fun M14 => (some M14)))))))
set_option maxHeartbeats 4000000 in
set_option maxRecDepth 100000 in
theorem c_X0_putWord (l : Launch) (D : va_G) (cy : Nat → ClassId) (ad : Nat → Nat) {o : Nat} (ho : isSt o) {v1 : Int32} {v2 : Int32} {M M' : Mem} (hf : f_X0_putWord o v1 v2 M = some M') : MetX l 43 (CC ad cy) D cy ad yX0_putWord cX0_putWord 3 none 1 [.ref (ad o), .int v1, .int v2] M (fun A => QV M' 43 (CC ad cy) D cy ad A) := by
  refine MetX.of (own := RX0) (by decide) rfl (Nat.le_of_ble_eq_true rfl) ?_
  intro p e s m below meth c A Q ls X hr hlk hZ hA hQ hW hl
  have hl : lv_has ls 3 [(0, .ref (ad o)), (1, .int v1), (2, .int v2)] := hl
  have hx := X.1
  have hb := X.2.1
  obtain ⟨H, hH⟩ : ∃ H, H = s.heap := ⟨_, rfl⟩
  obtain ⟨locs, hlo⟩ : ∃ q : List Loc, q = [] := ⟨_, rfl⟩
  have hW : Wd D 43 ad (CC ad cy) A s.heap M H locs := by rw [hH, hlo]; exact hW
  suffices hh : W p l e (rmD 1) s m ([.ref (ad o), .int v1, .int v2] : List Value).toArray below meth c H locs 0 0 Q (F0 m 0 ls []) by rw [hH, hlo] at hh; exact hh
  unfold f_X0_putWord at hf
  refine lv_aload_n hx hb dX0_putWord_0 rfl (lv_at hl 0 rfl) ?_
  refine lv_iload_n hx hb dX0_putWord_1 rfl (lv_at hl 1 rfl) ?_
  obtain ⟨r2, h2, hf⟩ := bR_some hf
  refine g_calliV X hl.1 hZ hA hW (c_X0_has l D cy ad ho h2) cw_X0_has ql_X0_58 (iO_st ho) rfl (by decide) rfl (Nat.le_of_ble_eq_true rfl) dX0_putWord_2 (fun H locs hW => ?_)
  refine lv_if_eq (tgt := 15) hx hb dX0_putWord_5 (by decide) (fun hc => ?_) (fun hc => ?_)
  · replace hf := ifp hc hf
    exact g_vret X hr hlk hQ hW dX0_putWord_15 hf
  · replace hf := ifn hc hf
    refine lv_aload_n hx hb dX0_putWord_8 rfl (lv_at hl 0 rfl) ?_
    refine gf_X0_21 ho X hW dX0_putWord_9 ?_
    refine lv_iload_n hx hb dX0_putWord_12 rfl (lv_at hl 1 rfl) ?_
    refine lv_iload_n hx hb dX0_putWord_13 rfl (lv_at hl 2 rfl) ?_
    obtain ⟨hi14, hf⟩ := grd_some hf
    refine g_iast X hW (iA_st4 ho) hi14 dX0_putWord_14 (fun H locs hW => ?_)
    obtain ⟨M14, e14, hf⟩ := lt_some hf
    have hW : Wd D 43 ad (CC ad cy) A s.heap M14 H locs := by rw [e14]; exact hW
    exact g_vret X hr hlk hQ hW dX0_putWord_15 hf

def f_X0_pulses_L4 (o : Nat) (M : Mem) : Nat → Int32 → Int32 → Option Int32
  | 0, _, _ => none
  | n + 1, v1_L4, v2_L4 => (if (M.1 o 6) ≤ v2_L4 then (some v1_L4) else (grd (inb v2_L4 7) (f_X0_pulses_L4 o M n (v1_L4 + (bcI (M.1 (o + 4) (ix v2_L4)))) (v2_L4 + 1))))
def f_X0_pulses (o : Nat) (M : Mem) : Option Int32 :=
  (f_X0_pulses_L4 o M FU 0 0)
set_option maxHeartbeats 4000000 in
set_option maxRecDepth 100000 in
theorem c_X0_pulses (l : Launch) (D : va_G) (cy : Nat → ClassId) (ad : Nat → Nat) {o : Nat} (ho : isSt o)  {M : Mem} {r : Int32} (hf : f_X0_pulses o M = some r) : MetX l 43 (CC ad cy) D cy ad yX0_pulses cX0_pulses 3 (some .int) 1 [.ref (ad o)] M (fun A => QI r M 43 (CC ad cy) D cy ad A) := by
  refine MetX.of (own := RX0) (by decide) rfl (Nat.le_of_ble_eq_true rfl) ?_
  intro p e s m below meth c A Q ls X hr hlk hZ hA hQ hW hl
  have hl : lv_has ls 3 [(0, .ref (ad o))] := hl
  have hx := X.1
  have hb := X.2.1
  have hL4 : ∀   (n : Nat) (v1_L4 : Int32) (v2_L4 : Int32) (H : Heap) (locs : List Loc) (ls : Array Slot), f_X0_pulses_L4 o M n v1_L4 v2_L4 = some r → Wd D 43 ad (CC ad cy) A s.heap M H locs → lv_has ls 3 [(0, .ref (ad o)), (1, .int v1_L4), (2, .int v2_L4)] → W p l e (rmD 1) s m ([.ref (ad o)] : List Value).toArray below meth c H locs 0 0 Q (F0 m 4 ls []) := by
    intro  n
    induction n with
    | zero =>
      intro v1_L4 v2_L4 H locs ls hf
      cases (show (none : Option Int32) = some r from hf)
    | succ n ih =>
      intro v1_L4 v2_L4 H locs ls hf hW hl
      rw [f_X0_pulses_L4] at hf
      refine lv_iload_n hx hb dX0_pulses_4 rfl (lv_at hl 2 rfl) ?_
      refine lv_aload_n hx hb dX0_pulses_5 rfl (lv_at hl 0 rfl) ?_
      refine gf_X0_30 ho X hW dX0_pulses_6 ?_
      refine lv_icmp_ge (tgt := 30) hx hb dX0_pulses_9 (by decide) (fun hc => ?_) (fun hc => ?_)
      · replace hf := ifp hc hf
        refine lv_iload_n hx hb dX0_pulses_30 rfl (lv_at hl 1 rfl) ?_
        exact g_iret X hr hlk hQ hW dX0_pulses_31 (rd_some hf)
      · replace hf := ifn hc hf
        refine lv_iload_n hx hb dX0_pulses_12 rfl (lv_at hl 1 rfl) ?_
        refine lv_aload_n hx hb dX0_pulses_13 rfl (lv_at hl 0 rfl) ?_
        refine gf_X0_21 ho X hW dX0_pulses_14 ?_
        refine lv_iload_n hx hb dX0_pulses_17 rfl (lv_at hl 2 rfl) ?_
        obtain ⟨hi18, hf⟩ := grd_some hf
        refine g_iald X hW (iA_st4 ho) hi18 dX0_pulses_18 ?_
        refine g_calliS X hl.1 hZ hA hW (c_J6_bitCount (CC ad cy) ad D cy l 43 (M.1 (o + 4) (ix v2_L4))) cs_J6_bitCount ql_X0_78 rfl (by decide) rfl (Nat.le_of_ble_eq_true rfl) dX0_pulses_19 (fun H locs hW => ?_)
        refine lv_iadd hx hb dX0_pulses_22 ?_
        refine lv_istore_n (lv' := [(1, .int (v1_L4 + (bcI (M.1 (o + 4) (ix v2_L4))))), (0, .ref (ad o)), (2, .int v2_L4)]) hx hb dX0_pulses_23 rfl hl (by decide) rfl (fun ls hl => ?_)
        refine lv_iinc (v := (v2_L4 + 1)) (lv' := [(2, .int (v2_L4 + 1)), (1, .int (v1_L4 + (bcI (M.1 (o + 4) (ix v2_L4))))), (0, .ref (ad o))]) hx hb dX0_pulses_24 hl (k := 2) rfl rfl (by decide) rfl (fun ls hl => ?_)
        refine lv_goto (tgt := 4) hx hb dX0_pulses_27 (by decide) ?_
        exact ih (v1_L4 + (bcI (M.1 (o + 4) (ix v2_L4)))) (v2_L4 + 1) H locs ls hf hW (lv_sub hl [2, 1, 0] rfl)
  obtain ⟨H, hH⟩ : ∃ H, H = s.heap := ⟨_, rfl⟩
  obtain ⟨locs, hlo⟩ : ∃ q : List Loc, q = [] := ⟨_, rfl⟩
  have hW : Wd D 43 ad (CC ad cy) A s.heap M H locs := by rw [hH, hlo]; exact hW
  suffices hh : W p l e (rmD 1) s m ([.ref (ad o)] : List Value).toArray below meth c H locs 0 0 Q (F0 m 0 ls []) by rw [hH, hlo] at hh; exact hh
  unfold f_X0_pulses at hf
  refine lv_iconst (v := 0) hx hb dX0_pulses_0 (by decide) ?_
  refine lv_istore_n (lv' := [(1, .int 0), (0, .ref (ad o))]) hx hb dX0_pulses_1 rfl hl (by decide) rfl (fun ls hl => ?_)
  refine lv_iconst (v := 0) hx hb dX0_pulses_2 (by decide) ?_
  refine lv_istore_n (lv' := [(2, .int 0), (1, .int 0), (0, .ref (ad o))]) hx hb dX0_pulses_3 rfl hl (by decide) rfl (fun ls hl => ?_)
  exact hL4  FU 0 0 H locs ls hf hW (lv_sub hl [2, 1, 0] rfl)

def f_X0_canHave (o : Nat) (v1 : Int32) (v2 : Int32) (M : Mem) : Option Int32 :=
  (if v2 < 0 then (some 0) else (grd (inb v1 7) (if (shl 1 (M.1 (o + 2) (ix v1))) ≤ v2 then (some 0) else (some 1))))
set_option maxHeartbeats 4000000 in
set_option maxRecDepth 100000 in
theorem c_X0_canHave (l : Launch) (D : va_G) (cy : Nat → ClassId) (ad : Nat → Nat) {o : Nat} (ho : isSt o) {v1 : Int32} {v2 : Int32} {M : Mem} {r : Int32} (hf : f_X0_canHave o v1 v2 M = some r) : MetX l 43 (CC ad cy) D cy ad yX0_canHave cX0_canHave 3 (some .boolean) 0 [.ref (ad o), .int v1, .int v2] M (fun A => QI r M 43 (CC ad cy) D cy ad A) := by
  refine MetX.of (own := RX0) (by decide) rfl (Nat.le_of_ble_eq_true rfl) ?_
  intro p e s m below meth c A Q ls X hr hlk hZ hA hQ hW hl
  have hl : lv_has ls 3 [(0, .ref (ad o)), (1, .int v1), (2, .int v2)] := hl
  have hx := X.1
  have hb := X.2.1
  obtain ⟨H, hH⟩ : ∃ H, H = s.heap := ⟨_, rfl⟩
  obtain ⟨locs, hlo⟩ : ∃ q : List Loc, q = [] := ⟨_, rfl⟩
  have hW : Wd D 43 ad (CC ad cy) A s.heap M H locs := by rw [hH, hlo]; exact hW
  suffices hh : W p l e (rmD 0) s m ([.ref (ad o), .int v1, .int v2] : List Value).toArray below meth c H locs 0 0 Q (F0 m 0 ls []) by rw [hH, hlo] at hh; exact hh
  unfold f_X0_canHave at hf
  refine lv_iload_n hx hb dX0_canHave_0 rfl (lv_at hl 2 rfl) ?_
  refine lv_if_lt (tgt := 20) hx hb dX0_canHave_1 (by decide) (fun hc => ?_) (fun hc => ?_)
  · replace hf := ifp hc hf
    refine lv_iconst (v := 0) hx hb dX0_canHave_20 (by decide) ?_
    exact g_zret X hr hlk hQ hW dX0_canHave_21 (by decide) (rd_some hf)
  · replace hf := ifn hc hf
    refine lv_iload_n hx hb dX0_canHave_4 rfl (lv_at hl 2 rfl) ?_
    refine lv_iconst (v := 1) hx hb dX0_canHave_5 (by decide) ?_
    refine lv_aload_n hx hb dX0_canHave_6 rfl (lv_at hl 0 rfl) ?_
    refine gf_X0_15 ho X hW dX0_canHave_7 ?_
    refine lv_iload_n hx hb dX0_canHave_10 rfl (lv_at hl 1 rfl) ?_
    obtain ⟨hi11, hf⟩ := grd_some hf
    refine g_iald X hW (iA_st2 ho) hi11 dX0_canHave_11 ?_
    refine r_ishl hx hb dX0_canHave_12 ?_
    refine lv_icmp_ge (tgt := 20) hx hb dX0_canHave_13 (by decide) (fun hc => ?_) (fun hc => ?_)
    · replace hf := ifp hc hf
      refine lv_iconst (v := 0) hx hb dX0_canHave_20 (by decide) ?_
      exact g_zret X hr hlk hQ hW dX0_canHave_21 (by decide) (rd_some hf)
    · replace hf := ifn hc hf
      refine lv_iconst (v := 1) hx hb dX0_canHave_16 (by decide) ?_
      refine lv_goto (tgt := 21) hx hb dX0_canHave_17 (by decide) ?_
      exact g_zret X hr hlk hQ hW dX0_canHave_21 (by decide) (rd_some hf)

def f_X0_goOn_L2 (o : Nat) (v1_L2 : Int32) : Nat → Int32 → Mem → Option Mem
  | 0, _, _ => none
  | n + 1, v2_L2, M_L2 => (if v1_L2 ≤ v2_L2 then (some M_L2) else (bR (f_X0_letPass o M_L2) (fun M8 => (f_X0_goOn_L2 o v1_L2 n (v2_L2 + 1) M8))))
def f_X0_goOn (o : Nat) (v1 : Int32) (M : Mem) : Option Mem :=
  (f_X0_goOn_L2 o v1 FU 0 M)
set_option maxHeartbeats 4000000 in
set_option maxRecDepth 100000 in
theorem c_X0_goOn (l : Launch) (D : va_G) (cy : Nat → ClassId) (ad : Nat → Nat) {o : Nat} (ho : isSt o) {v1 : Int32} {M M' : Mem} (hf : f_X0_goOn o v1 M = some M') : MetX l 43 (CC ad cy) D cy ad yX0_goOn cX0_goOn 3 none 3 [.ref (ad o), .int v1] M (fun A => QV M' 43 (CC ad cy) D cy ad A) := by
  refine MetX.of (own := RX0) (by decide) rfl (Nat.le_of_ble_eq_true rfl) ?_
  intro p e s m below meth c A Q ls X hr hlk hZ hA hQ hW hl
  have hl : lv_has ls 3 [(0, .ref (ad o)), (1, .int v1)] := hl
  have hx := X.1
  have hb := X.2.1
  have hL2 : ∀ (v1_L2 : Int32)  (n : Nat) (v2_L2 : Int32) (M_L2 : Mem) (H : Heap) (locs : List Loc) (ls : Array Slot), f_X0_goOn_L2 o v1_L2 n v2_L2 M_L2 = some M' → Wd D 43 ad (CC ad cy) A s.heap M_L2 H locs → lv_has ls 3 [(0, .ref (ad o)), (1, .int v1_L2), (2, .int v2_L2)] → W p l e (rmD 3) s m ([.ref (ad o), .int v1] : List Value).toArray below meth c H locs 0 0 Q (F0 m 2 ls []) := by
    intro v1_L2 n
    induction n with
    | zero =>
      intro v2_L2 M_L2 H locs ls hf
      cases (show (none : Option Mem) = some M' from hf)
    | succ n ih =>
      intro v2_L2 M_L2 H locs ls hf hW hl
      rw [f_X0_goOn_L2] at hf
      refine lv_iload_n hx hb dX0_goOn_2 rfl (lv_at hl 2 rfl) ?_
      refine lv_iload_n hx hb dX0_goOn_3 rfl (lv_at hl 1 rfl) ?_
      refine lv_icmp_ge (tgt := 17) hx hb dX0_goOn_4 (by decide) (fun hc => ?_) (fun hc => ?_)
      · replace hf := ifp hc hf
        exact g_vret X hr hlk hQ hW dX0_goOn_17 hf
      · replace hf := ifn hc hf
        refine lv_aload_n hx hb dX0_goOn_7 rfl (lv_at hl 0 rfl) ?_
        obtain ⟨M8, h8, hf⟩ := bR_some hf
        refine g_callvV X hl.1 hZ hA hW (c_X0_letPass l D cy ad ho h8) cw_X0_letPass ql_X0_55 (iO_st ho) rfl (by decide) rfl (Nat.le_of_ble_eq_true rfl) dX0_goOn_8 (fun H locs hW => ?_)
        refine lv_iinc (v := (v2_L2 + 1)) (lv' := [(2, .int (v2_L2 + 1)), (0, .ref (ad o)), (1, .int v1_L2)]) hx hb dX0_goOn_11 hl (k := 2) rfl rfl (by decide) rfl (fun ls hl => ?_)
        refine lv_goto (tgt := 2) hx hb dX0_goOn_14 (by decide) ?_
        exact ih (v2_L2 + 1) M8 H locs ls hf hW (lv_sub hl [1, 2, 0] rfl)
  obtain ⟨H, hH⟩ : ∃ H, H = s.heap := ⟨_, rfl⟩
  obtain ⟨locs, hlo⟩ : ∃ q : List Loc, q = [] := ⟨_, rfl⟩
  have hW : Wd D 43 ad (CC ad cy) A s.heap M H locs := by rw [hH, hlo]; exact hW
  suffices hh : W p l e (rmD 3) s m ([.ref (ad o), .int v1] : List Value).toArray below meth c H locs 0 0 Q (F0 m 0 ls []) by rw [hH, hlo] at hh; exact hh
  unfold f_X0_goOn at hf
  refine lv_iconst (v := 0) hx hb dX0_goOn_0 (by decide) ?_
  refine lv_istore_n (lv' := [(2, .int 0), (0, .ref (ad o)), (1, .int v1)]) hx hb dX0_goOn_1 rfl hl (by decide) rfl (fun ls hl => ?_)
  exact hL2 v1 FU 0 M H locs ls hf hW (lv_sub hl [1, 2, 0] rfl)

def f_X0_hasWordsOf_L2 (o : Nat) (o1 : Nat) (M : Mem) : Nat → Int32 → Option Int32
  | 0, _ => none
  | n + 1, v2_L2 => (if (M.1 o 6) ≤ v2_L2 then (some 1) else (grd (inb v2_L2 7) (grd (inb v2_L2 7) (if (M.1 (o + 4) (ix v2_L2)) = (M.1 (o1 + 4) (ix v2_L2)) then (f_X0_hasWordsOf_L2 o o1 M n (v2_L2 + 1)) else (some 0)))))
def f_X0_hasWordsOf (o : Nat) (o1 : Nat) (M : Mem) : Option Int32 :=
  (f_X0_hasWordsOf_L2 o o1 M FU 0)
set_option maxHeartbeats 4000000 in
set_option maxRecDepth 100000 in
theorem c_X0_hasWordsOf (l : Launch) (D : va_G) (cy : Nat → ClassId) (ad : Nat → Nat) {o : Nat} {o1 : Nat} (ho : isSt o) (ho1 : isSt o1)  {M : Mem} {r : Int32} (hf : f_X0_hasWordsOf o o1 M = some r) : MetX l 43 (CC ad cy) D cy ad yX0_hasWordsOf cX0_hasWordsOf 3 (some .boolean) 0 [.ref (ad o), .ref (ad o1)] M (fun A => QI r M 43 (CC ad cy) D cy ad A) := by
  refine MetX.of (own := RX0) (by decide) rfl (Nat.le_of_ble_eq_true rfl) ?_
  intro p e s m below meth c A Q ls X hr hlk hZ hA hQ hW hl
  have hl : lv_has ls 3 [(0, .ref (ad o)), (1, .ref (ad o1))] := hl
  have hx := X.1
  have hb := X.2.1
  have hL2 : ∀   (n : Nat) (v2_L2 : Int32) (H : Heap) (locs : List Loc) (ls : Array Slot), f_X0_hasWordsOf_L2 o o1 M n v2_L2 = some r → Wd D 43 ad (CC ad cy) A s.heap M H locs → lv_has ls 3 [(0, .ref (ad o)), (1, .ref (ad o1)), (2, .int v2_L2)] → W p l e (rmD 0) s m ([.ref (ad o), .ref (ad o1)] : List Value).toArray below meth c H locs 0 0 Q (F0 m 2 ls []) := by
    intro  n
    induction n with
    | zero =>
      intro v2_L2 H locs ls hf
      cases (show (none : Option Int32) = some r from hf)
    | succ n ih =>
      intro v2_L2 H locs ls hf hW hl
      rw [f_X0_hasWordsOf_L2] at hf
      refine lv_iload_n hx hb dX0_hasWordsOf_2 rfl (lv_at hl 2 rfl) ?_
      refine lv_aload_n hx hb dX0_hasWordsOf_3 rfl (lv_at hl 0 rfl) ?_
      refine gf_X0_30 ho X hW dX0_hasWordsOf_4 ?_
      refine lv_icmp_ge (tgt := 33) hx hb dX0_hasWordsOf_7 (by decide) (fun hc => ?_) (fun hc => ?_)
      · replace hf := ifp hc hf
        refine lv_iconst (v := 1) hx hb dX0_hasWordsOf_33 (by decide) ?_
        exact g_zret X hr hlk hQ hW dX0_hasWordsOf_34 (by decide) (rd_some hf)
      · replace hf := ifn hc hf
        refine lv_aload_n hx hb dX0_hasWordsOf_10 rfl (lv_at hl 0 rfl) ?_
        refine gf_X0_21 ho X hW dX0_hasWordsOf_11 ?_
        refine lv_iload_n hx hb dX0_hasWordsOf_14 rfl (lv_at hl 2 rfl) ?_
        obtain ⟨hi15, hf⟩ := grd_some hf
        refine g_iald X hW (iA_st4 ho) hi15 dX0_hasWordsOf_15 ?_
        refine lv_aload_n hx hb dX0_hasWordsOf_16 rfl (lv_at hl 1 rfl) ?_
        refine gf_X0_21 ho1 X hW dX0_hasWordsOf_17 ?_
        refine lv_iload_n hx hb dX0_hasWordsOf_20 rfl (lv_at hl 2 rfl) ?_
        obtain ⟨hi21, hf⟩ := grd_some hf
        refine g_iald X hW (iA_st4 ho1) hi21 dX0_hasWordsOf_21 ?_
        refine lv_icmp_eq (tgt := 27) hx hb dX0_hasWordsOf_22 (by decide) (fun hc => ?_) (fun hc => ?_)
        · replace hf := ifp hc hf
          refine lv_iinc (v := (v2_L2 + 1)) (lv' := [(2, .int (v2_L2 + 1)), (0, .ref (ad o)), (1, .ref (ad o1))]) hx hb dX0_hasWordsOf_27 hl (k := 2) rfl rfl (by decide) rfl (fun ls hl => ?_)
          refine lv_goto (tgt := 2) hx hb dX0_hasWordsOf_30 (by decide) ?_
          exact ih (v2_L2 + 1) H locs ls hf hW (lv_sub hl [1, 2, 0] rfl)
        · replace hf := ifn hc hf
          refine lv_iconst (v := 0) hx hb dX0_hasWordsOf_25 (by decide) ?_
          exact g_zret X hr hlk hQ hW dX0_hasWordsOf_26 (by decide) (rd_some hf)
  obtain ⟨H, hH⟩ : ∃ H, H = s.heap := ⟨_, rfl⟩
  obtain ⟨locs, hlo⟩ : ∃ q : List Loc, q = [] := ⟨_, rfl⟩
  have hW : Wd D 43 ad (CC ad cy) A s.heap M H locs := by rw [hH, hlo]; exact hW
  suffices hh : W p l e (rmD 0) s m ([.ref (ad o), .ref (ad o1)] : List Value).toArray below meth c H locs 0 0 Q (F0 m 0 ls []) by rw [hH, hlo] at hh; exact hh
  unfold f_X0_hasWordsOf at hf
  refine lv_iconst (v := 0) hx hb dX0_hasWordsOf_0 (by decide) ?_
  refine lv_istore_n (lv' := [(2, .int 0), (0, .ref (ad o)), (1, .ref (ad o1))]) hx hb dX0_hasWordsOf_1 rfl hl (by decide) rfl (fun ls hl => ?_)
  exact hL2  FU 0 H locs ls hf hW (lv_sub hl [1, 2, 0] rfl)

def f_X0_emptyOnes_L4 (o : Nat) (M : Mem) : Nat → Int32 → Int32 → Option Int32
  | 0, _, _ => none
  | n + 1, v1_L4, v2_L4 => (if (M.1 o 6) ≤ v2_L4 then (some v1_L4) else (grd (inb v2_L4 7) (jn (fun (k27 : Int32 → Option Int32) => (if (M.1 (o + 4) (ix v2_L4)) = 0 then (k27 (v1_L4 ||| (shl 1 v2_L4))) else (k27 v1_L4))) (fun (v1_27j : Int32) => (f_X0_emptyOnes_L4 o M n v1_27j (v2_L4 + 1))))))
def f_X0_emptyOnes (o : Nat) (M : Mem) : Option Int32 :=
  (f_X0_emptyOnes_L4 o M FU 0 0)
set_option maxHeartbeats 4000000 in
set_option maxRecDepth 100000 in
theorem c_X0_emptyOnes (l : Launch) (D : va_G) (cy : Nat → ClassId) (ad : Nat → Nat) {o : Nat} (ho : isSt o)  {M : Mem} {r : Int32} (hf : f_X0_emptyOnes o M = some r) : MetX l 43 (CC ad cy) D cy ad yX0_emptyOnes cX0_emptyOnes 3 (some .int) 0 [.ref (ad o)] M (fun A => QI r M 43 (CC ad cy) D cy ad A) := by
  refine MetX.of (own := RX0) (by decide) rfl (Nat.le_of_ble_eq_true rfl) ?_
  intro p e s m below meth c A Q ls X hr hlk hZ hA hQ hW hl
  have hl : lv_has ls 3 [(0, .ref (ad o))] := hl
  have hx := X.1
  have hb := X.2.1
  have hL4 : ∀   (n : Nat) (v1_L4 : Int32) (v2_L4 : Int32) (H : Heap) (locs : List Loc) (ls : Array Slot), f_X0_emptyOnes_L4 o M n v1_L4 v2_L4 = some r → Wd D 43 ad (CC ad cy) A s.heap M H locs → lv_has ls 3 [(0, .ref (ad o)), (1, .int v1_L4), (2, .int v2_L4)] → W p l e (rmD 0) s m ([.ref (ad o)] : List Value).toArray below meth c H locs 0 0 Q (F0 m 4 ls []) := by
    intro  n
    induction n with
    | zero =>
      intro v1_L4 v2_L4 H locs ls hf
      cases (show (none : Option Int32) = some r from hf)
    | succ n ih =>
      intro v1_L4 v2_L4 H locs ls hf hW hl
      rw [f_X0_emptyOnes_L4] at hf
      refine lv_iload_n hx hb dX0_emptyOnes_4 rfl (lv_at hl 2 rfl) ?_
      refine lv_aload_n hx hb dX0_emptyOnes_5 rfl (lv_at hl 0 rfl) ?_
      refine gf_X0_30 ho X hW dX0_emptyOnes_6 ?_
      refine lv_icmp_ge (tgt := 33) hx hb dX0_emptyOnes_9 (by decide) (fun hc => ?_) (fun hc => ?_)
      · replace hf := ifp hc hf
        refine lv_iload_n hx hb dX0_emptyOnes_33 rfl (lv_at hl 1 rfl) ?_
        exact g_iret X hr hlk hQ hW dX0_emptyOnes_34 (rd_some hf)
      · replace hf := ifn hc hf
        refine lv_aload_n hx hb dX0_emptyOnes_12 rfl (lv_at hl 0 rfl) ?_
        refine gf_X0_21 ho X hW dX0_emptyOnes_13 ?_
        refine lv_iload_n hx hb dX0_emptyOnes_16 rfl (lv_at hl 2 rfl) ?_
        obtain ⟨hi17, hf⟩ := grd_some hf
        refine g_iald X hW (iA_st4 ho) hi17 dX0_emptyOnes_17 ?_
        obtain ⟨k27, hk27, hf⟩ := jn_some1 hf
        have hJ27 : ∀ (v1_27j : Int32) (H : Heap) (locs : List Loc) (ls : Array Slot), k27 v1_27j = some r → Wd D 43 ad (CC ad cy) A s.heap M H locs → lv_has ls 3 [(0, .ref (ad o)), (1, .int v1_27j), (2, .int v2_L4)] → W p l e (rmD 0) s m ([.ref (ad o)] : List Value).toArray below meth c H locs 0 0 Q (F0 m 27 ls []) := by
          intro v1_27j H locs ls hf hW hl
          rw [hk27] at hf
          refine lv_iinc (v := (v2_L4 + 1)) (lv' := [(2, .int (v2_L4 + 1)), (0, .ref (ad o)), (1, .int v1_27j)]) hx hb dX0_emptyOnes_27 hl (k := 2) rfl rfl (by decide) rfl (fun ls hl => ?_)
          refine lv_goto (tgt := 4) hx hb dX0_emptyOnes_30 (by decide) ?_
          exact ih v1_27j (v2_L4 + 1) H locs ls hf hW (lv_sub hl [1, 2, 0] rfl)
        refine lv_if_ne (tgt := 27) hx hb dX0_emptyOnes_18 (by decide) (fun hc => ?_) (fun hc => ?_)
        · replace hf := ifn hc hf
          exact hJ27 v1_L4 H locs ls hf hW (lv_sub hl [0, 1, 2] rfl)
        · replace hf := ifp hc hf
          refine lv_iload_n hx hb dX0_emptyOnes_21 rfl (lv_at hl 1 rfl) ?_
          refine lv_iconst (v := 1) hx hb dX0_emptyOnes_22 (by decide) ?_
          refine lv_iload_n hx hb dX0_emptyOnes_23 rfl (lv_at hl 2 rfl) ?_
          refine r_ishl hx hb dX0_emptyOnes_24 ?_
          refine lv_ior hx hb dX0_emptyOnes_25 ?_
          refine lv_istore_n (lv' := [(1, .int (v1_L4 ||| (shl 1 v2_L4))), (0, .ref (ad o)), (2, .int v2_L4)]) hx hb dX0_emptyOnes_26 rfl hl (by decide) rfl (fun ls hl => ?_)
          exact hJ27 (v1_L4 ||| (shl 1 v2_L4)) H locs ls hf hW (lv_sub hl [1, 0, 2] rfl)
  obtain ⟨H, hH⟩ : ∃ H, H = s.heap := ⟨_, rfl⟩
  obtain ⟨locs, hlo⟩ : ∃ q : List Loc, q = [] := ⟨_, rfl⟩
  have hW : Wd D 43 ad (CC ad cy) A s.heap M H locs := by rw [hH, hlo]; exact hW
  suffices hh : W p l e (rmD 0) s m ([.ref (ad o)] : List Value).toArray below meth c H locs 0 0 Q (F0 m 0 ls []) by rw [hH, hlo] at hh; exact hh
  unfold f_X0_emptyOnes at hf
  refine lv_iconst (v := 0) hx hb dX0_emptyOnes_0 (by decide) ?_
  refine lv_istore_n (lv' := [(1, .int 0), (0, .ref (ad o))]) hx hb dX0_emptyOnes_1 rfl hl (by decide) rfl (fun ls hl => ?_)
  refine lv_iconst (v := 0) hx hb dX0_emptyOnes_2 (by decide) ?_
  refine lv_istore_n (lv' := [(2, .int 0), (1, .int 0), (0, .ref (ad o))]) hx hb dX0_emptyOnes_3 rfl hl (by decide) rfl (fun ls hl => ?_)
  exact hL4  FU 0 0 H locs ls hf hW (lv_sub hl [2, 1, 0] rfl)

def f_X0_ends_L4 (o : Nat) (M : Mem) : Nat → Int32 → Int32 → Option Int32
  | 0, _, _ => none
  | n + 1, v1_L4, v2_L4 => (if (M.1 o 6) ≤ v2_L4 then (some v1_L4) else (grd (inb v2_L4 7) (f_X0_ends_L4 o M n (v1_L4 ||| (shl ((M.1 (o + 4) (ix v2_L4)) &&& 1) v2_L4)) (v2_L4 + 1))))
def f_X0_ends (o : Nat) (M : Mem) : Option Int32 :=
  (f_X0_ends_L4 o M FU 0 0)
set_option maxHeartbeats 4000000 in
set_option maxRecDepth 100000 in
theorem c_X0_ends (l : Launch) (D : va_G) (cy : Nat → ClassId) (ad : Nat → Nat) {o : Nat} (ho : isSt o)  {M : Mem} {r : Int32} (hf : f_X0_ends o M = some r) : MetX l 43 (CC ad cy) D cy ad yX0_ends cX0_ends 3 (some .int) 0 [.ref (ad o)] M (fun A => QI r M 43 (CC ad cy) D cy ad A) := by
  refine MetX.of (own := RX0) (by decide) rfl (Nat.le_of_ble_eq_true rfl) ?_
  intro p e s m below meth c A Q ls X hr hlk hZ hA hQ hW hl
  have hl : lv_has ls 3 [(0, .ref (ad o))] := hl
  have hx := X.1
  have hb := X.2.1
  have hL4 : ∀   (n : Nat) (v1_L4 : Int32) (v2_L4 : Int32) (H : Heap) (locs : List Loc) (ls : Array Slot), f_X0_ends_L4 o M n v1_L4 v2_L4 = some r → Wd D 43 ad (CC ad cy) A s.heap M H locs → lv_has ls 3 [(0, .ref (ad o)), (1, .int v1_L4), (2, .int v2_L4)] → W p l e (rmD 0) s m ([.ref (ad o)] : List Value).toArray below meth c H locs 0 0 Q (F0 m 4 ls []) := by
    intro  n
    induction n with
    | zero =>
      intro v1_L4 v2_L4 H locs ls hf
      cases (show (none : Option Int32) = some r from hf)
    | succ n ih =>
      intro v1_L4 v2_L4 H locs ls hf hW hl
      rw [f_X0_ends_L4] at hf
      refine lv_iload_n hx hb dX0_ends_4 rfl (lv_at hl 2 rfl) ?_
      refine lv_aload_n hx hb dX0_ends_5 rfl (lv_at hl 0 rfl) ?_
      refine gf_X0_30 ho X hW dX0_ends_6 ?_
      refine lv_icmp_ge (tgt := 31) hx hb dX0_ends_9 (by decide) (fun hc => ?_) (fun hc => ?_)
      · replace hf := ifp hc hf
        refine lv_iload_n hx hb dX0_ends_31 rfl (lv_at hl 1 rfl) ?_
        exact g_iret X hr hlk hQ hW dX0_ends_32 (rd_some hf)
      · replace hf := ifn hc hf
        refine lv_iload_n hx hb dX0_ends_12 rfl (lv_at hl 1 rfl) ?_
        refine lv_aload_n hx hb dX0_ends_13 rfl (lv_at hl 0 rfl) ?_
        refine gf_X0_21 ho X hW dX0_ends_14 ?_
        refine lv_iload_n hx hb dX0_ends_17 rfl (lv_at hl 2 rfl) ?_
        obtain ⟨hi18, hf⟩ := grd_some hf
        refine g_iald X hW (iA_st4 ho) hi18 dX0_ends_18 ?_
        refine lv_iconst (v := 1) hx hb dX0_ends_19 (by decide) ?_
        refine lv_iand hx hb dX0_ends_20 ?_
        refine lv_iload_n hx hb dX0_ends_21 rfl (lv_at hl 2 rfl) ?_
        refine r_ishl hx hb dX0_ends_22 ?_
        refine lv_ior hx hb dX0_ends_23 ?_
        refine lv_istore_n (lv' := [(1, .int (v1_L4 ||| (shl ((M.1 (o + 4) (ix v2_L4)) &&& 1) v2_L4))), (0, .ref (ad o)), (2, .int v2_L4)]) hx hb dX0_ends_24 rfl hl (by decide) rfl (fun ls hl => ?_)
        refine lv_iinc (v := (v2_L4 + 1)) (lv' := [(2, .int (v2_L4 + 1)), (1, .int (v1_L4 ||| (shl ((M.1 (o + 4) (ix v2_L4)) &&& 1) v2_L4))), (0, .ref (ad o))]) hx hb dX0_ends_25 hl (k := 2) rfl rfl (by decide) rfl (fun ls hl => ?_)
        refine lv_goto (tgt := 4) hx hb dX0_ends_28 (by decide) ?_
        exact ih (v1_L4 ||| (shl ((M.1 (o + 4) (ix v2_L4)) &&& 1) v2_L4)) (v2_L4 + 1) H locs ls hf hW (lv_sub hl [2, 1, 0] rfl)
  obtain ⟨H, hH⟩ : ∃ H, H = s.heap := ⟨_, rfl⟩
  obtain ⟨locs, hlo⟩ : ∃ q : List Loc, q = [] := ⟨_, rfl⟩
  have hW : Wd D 43 ad (CC ad cy) A s.heap M H locs := by rw [hH, hlo]; exact hW
  suffices hh : W p l e (rmD 0) s m ([.ref (ad o)] : List Value).toArray below meth c H locs 0 0 Q (F0 m 0 ls []) by rw [hH, hlo] at hh; exact hh
  unfold f_X0_ends at hf
  refine lv_iconst (v := 0) hx hb dX0_ends_0 (by decide) ?_
  refine lv_istore_n (lv' := [(1, .int 0), (0, .ref (ad o))]) hx hb dX0_ends_1 rfl hl (by decide) rfl (fun ls hl => ?_)
  refine lv_iconst (v := 0) hx hb dX0_ends_2 (by decide) ?_
  refine lv_istore_n (lv' := [(2, .int 0), (1, .int 0), (0, .ref (ad o))]) hx hb dX0_ends_3 rfl hl (by decide) rfl (fun ls hl => ?_)
  exact hL4  FU 0 0 H locs ls hf hW (lv_sub hl [2, 1, 0] rfl)

def f_X0_putEnds_L2 (o : Nat) (v1_L2 : Int32) : Nat → Int32 → Mem → Option Mem
  | 0, _, _ => none
  | n + 1, v2_L2, M_L2 => (if (M_L2.1 o 6) ≤ v2_L2 then (some M_L2) else (grd (inb v2_L2 7) (grd (inb v2_L2 7) (lt (sI M_L2 (o + 4) (ix v2_L2) (((M_L2.1 (o + 4) (ix v2_L2)) &&& (-2)) ||| ((shr v1_L2 v2_L2) &&& 1))) (fun M30 => (f_X0_putEnds_L2 o v1_L2 n (v2_L2 + 1) M30))))))
def f_X0_putEnds (o : Nat) (v1 : Int32) (M : Mem) : Option Mem :=
  (f_X0_putEnds_L2 o v1 FU 0 M)
set_option maxHeartbeats 4000000 in
set_option maxRecDepth 100000 in
theorem c_X0_putEnds (l : Launch) (D : va_G) (cy : Nat → ClassId) (ad : Nat → Nat) {o : Nat} (ho : isSt o) {v1 : Int32} {M M' : Mem} (hf : f_X0_putEnds o v1 M = some M') : MetX l 43 (CC ad cy) D cy ad yX0_putEnds cX0_putEnds 3 none 0 [.ref (ad o), .int v1] M (fun A => QV M' 43 (CC ad cy) D cy ad A) := by
  refine MetX.of (own := RX0) (by decide) rfl (Nat.le_of_ble_eq_true rfl) ?_
  intro p e s m below meth c A Q ls X hr hlk hZ hA hQ hW hl
  have hl : lv_has ls 3 [(0, .ref (ad o)), (1, .int v1)] := hl
  have hx := X.1
  have hb := X.2.1
  have hL2 : ∀ (v1_L2 : Int32)  (n : Nat) (v2_L2 : Int32) (M_L2 : Mem) (H : Heap) (locs : List Loc) (ls : Array Slot), f_X0_putEnds_L2 o v1_L2 n v2_L2 M_L2 = some M' → Wd D 43 ad (CC ad cy) A s.heap M_L2 H locs → lv_has ls 3 [(0, .ref (ad o)), (1, .int v1_L2), (2, .int v2_L2)] → W p l e (rmD 0) s m ([.ref (ad o), .int v1] : List Value).toArray below meth c H locs 0 0 Q (F0 m 2 ls []) := by
    intro v1_L2 n
    induction n with
    | zero =>
      intro v2_L2 M_L2 H locs ls hf
      cases (show (none : Option Mem) = some M' from hf)
    | succ n ih =>
      intro v2_L2 M_L2 H locs ls hf hW hl
      rw [f_X0_putEnds_L2] at hf
      refine lv_iload_n hx hb dX0_putEnds_2 rfl (lv_at hl 2 rfl) ?_
      refine lv_aload_n hx hb dX0_putEnds_3 rfl (lv_at hl 0 rfl) ?_
      refine gf_X0_30 ho X hW dX0_putEnds_4 ?_
      refine lv_icmp_ge (tgt := 37) hx hb dX0_putEnds_7 (by decide) (fun hc => ?_) (fun hc => ?_)
      · replace hf := ifp hc hf
        exact g_vret X hr hlk hQ hW dX0_putEnds_37 hf
      · replace hf := ifn hc hf
        refine lv_aload_n hx hb dX0_putEnds_10 rfl (lv_at hl 0 rfl) ?_
        refine gf_X0_21 ho X hW dX0_putEnds_11 ?_
        refine lv_iload_n hx hb dX0_putEnds_14 rfl (lv_at hl 2 rfl) ?_
        refine lv_aload_n hx hb dX0_putEnds_15 rfl (lv_at hl 0 rfl) ?_
        refine gf_X0_21 ho X hW dX0_putEnds_16 ?_
        refine lv_iload_n hx hb dX0_putEnds_19 rfl (lv_at hl 2 rfl) ?_
        obtain ⟨hi20, hf⟩ := grd_some hf
        refine g_iald X hW (iA_st4 ho) hi20 dX0_putEnds_20 ?_
        refine lv_bipush (v := (-2)) hx hb dX0_putEnds_21 (by decide) ?_
        refine lv_iand hx hb dX0_putEnds_23 ?_
        refine lv_iload_n hx hb dX0_putEnds_24 rfl (lv_at hl 1 rfl) ?_
        refine lv_iload_n hx hb dX0_putEnds_25 rfl (lv_at hl 2 rfl) ?_
        refine r_ishr hx hb dX0_putEnds_26 ?_
        refine lv_iconst (v := 1) hx hb dX0_putEnds_27 (by decide) ?_
        refine lv_iand hx hb dX0_putEnds_28 ?_
        refine lv_ior hx hb dX0_putEnds_29 ?_
        obtain ⟨hi30, hf⟩ := grd_some hf
        refine g_iast X hW (iA_st4 ho) hi30 dX0_putEnds_30 (fun H locs hW => ?_)
        obtain ⟨M30, e30, hf⟩ := lt_some hf
        have hW : Wd D 43 ad (CC ad cy) A s.heap M30 H locs := by rw [e30]; exact hW
        refine lv_iinc (v := (v2_L2 + 1)) (lv' := [(2, .int (v2_L2 + 1)), (0, .ref (ad o)), (1, .int v1_L2)]) hx hb dX0_putEnds_31 hl (k := 2) rfl rfl (by decide) rfl (fun ls hl => ?_)
        refine lv_goto (tgt := 2) hx hb dX0_putEnds_34 (by decide) ?_
        exact ih (v2_L2 + 1) M30 H locs ls hf hW (lv_sub hl [1, 2, 0] rfl)
  obtain ⟨H, hH⟩ : ∃ H, H = s.heap := ⟨_, rfl⟩
  obtain ⟨locs, hlo⟩ : ∃ q : List Loc, q = [] := ⟨_, rfl⟩
  have hW : Wd D 43 ad (CC ad cy) A s.heap M H locs := by rw [hH, hlo]; exact hW
  suffices hh : W p l e (rmD 0) s m ([.ref (ad o), .int v1] : List Value).toArray below meth c H locs 0 0 Q (F0 m 0 ls []) by rw [hH, hlo] at hh; exact hh
  unfold f_X0_putEnds at hf
  refine lv_iconst (v := 0) hx hb dX0_putEnds_0 (by decide) ?_
  refine lv_istore_n (lv' := [(2, .int 0), (0, .ref (ad o)), (1, .int v1)]) hx hb dX0_putEnds_1 rfl hl (by decide) rfl (fun ls hl => ?_)
  exact hL2 v1 FU 0 M H locs ls hf hW (lv_sub hl [1, 2, 0] rfl)

def f_X0_empty_L2 (o : Nat) (v1_L2 : Int32) : Nat → Int32 → Mem → Option Mem
  | 0, _, _ => none
  | n + 1, v2_L2, M_L2 => (if (M_L2.1 o 6) ≤ v2_L2 then (some M_L2) else (jn (fun (k26 : Mem → Option Mem) => (if ((shr v1_L2 v2_L2) &&& 1) = 1 then (grd (inb v2_L2 7) (lt (sI M_L2 (o + 4) (ix v2_L2) 0) (fun M25 => (k26 M25)))) else (k26 M_L2))) (fun  (M_26j : Mem) => (f_X0_empty_L2 o v1_L2 n (v2_L2 + 1) M_26j))))
def f_X0_empty (o : Nat) (v1 : Int32) (M : Mem) : Option Mem :=
  (f_X0_empty_L2 o v1 FU 0 M)
set_option maxHeartbeats 4000000 in
set_option maxRecDepth 100000 in
theorem c_X0_empty (l : Launch) (D : va_G) (cy : Nat → ClassId) (ad : Nat → Nat) {o : Nat} (ho : isSt o) {v1 : Int32} {M M' : Mem} (hf : f_X0_empty o v1 M = some M') : MetX l 43 (CC ad cy) D cy ad yX0_empty cX0_empty 3 none 0 [.ref (ad o), .int v1] M (fun A => QV M' 43 (CC ad cy) D cy ad A) := by
  refine MetX.of (own := RX0) (by decide) rfl (Nat.le_of_ble_eq_true rfl) ?_
  intro p e s m below meth c A Q ls X hr hlk hZ hA hQ hW hl
  have hl : lv_has ls 3 [(0, .ref (ad o)), (1, .int v1)] := hl
  have hx := X.1
  have hb := X.2.1
  have hL2 : ∀ (v1_L2 : Int32)  (n : Nat) (v2_L2 : Int32) (M_L2 : Mem) (H : Heap) (locs : List Loc) (ls : Array Slot), f_X0_empty_L2 o v1_L2 n v2_L2 M_L2 = some M' → Wd D 43 ad (CC ad cy) A s.heap M_L2 H locs → lv_has ls 3 [(0, .ref (ad o)), (1, .int v1_L2), (2, .int v2_L2)] → W p l e (rmD 0) s m ([.ref (ad o), .int v1] : List Value).toArray below meth c H locs 0 0 Q (F0 m 2 ls []) := by
    intro v1_L2 n
    induction n with
    | zero =>
      intro v2_L2 M_L2 H locs ls hf
      cases (show (none : Option Mem) = some M' from hf)
    | succ n ih =>
      intro v2_L2 M_L2 H locs ls hf hW hl
      rw [f_X0_empty_L2] at hf
      refine lv_iload_n hx hb dX0_empty_2 rfl (lv_at hl 2 rfl) ?_
      refine lv_aload_n hx hb dX0_empty_3 rfl (lv_at hl 0 rfl) ?_
      refine gf_X0_30 ho X hW dX0_empty_4 ?_
      refine lv_icmp_ge (tgt := 32) hx hb dX0_empty_7 (by decide) (fun hc => ?_) (fun hc => ?_)
      · replace hf := ifp hc hf
        exact g_vret X hr hlk hQ hW dX0_empty_32 hf
      · replace hf := ifn hc hf
        refine lv_iload_n hx hb dX0_empty_10 rfl (lv_at hl 1 rfl) ?_
        refine lv_iload_n hx hb dX0_empty_11 rfl (lv_at hl 2 rfl) ?_
        refine r_ishr hx hb dX0_empty_12 ?_
        refine lv_iconst (v := 1) hx hb dX0_empty_13 (by decide) ?_
        refine lv_iand hx hb dX0_empty_14 ?_
        refine lv_iconst (v := 1) hx hb dX0_empty_15 (by decide) ?_
        obtain ⟨k26, hk26, hf⟩ := jn_some1 hf
        have hJ26 : ∀  (M_26j : Mem) (H : Heap) (locs : List Loc) (ls : Array Slot), k26 M_26j = some M' → Wd D 43 ad (CC ad cy) A s.heap M_26j H locs → lv_has ls 3 [(0, .ref (ad o)), (1, .int v1_L2), (2, .int v2_L2)] → W p l e (rmD 0) s m ([.ref (ad o), .int v1] : List Value).toArray below meth c H locs 0 0 Q (F0 m 26 ls []) := by
          intro M_26j H locs ls hf hW hl
          rw [hk26] at hf
          refine lv_iinc (v := (v2_L2 + 1)) (lv' := [(2, .int (v2_L2 + 1)), (0, .ref (ad o)), (1, .int v1_L2)]) hx hb dX0_empty_26 hl (k := 2) rfl rfl (by decide) rfl (fun ls hl => ?_)
          refine lv_goto (tgt := 2) hx hb dX0_empty_29 (by decide) ?_
          exact ih (v2_L2 + 1) M_26j H locs ls hf hW (lv_sub hl [1, 2, 0] rfl)
        refine lv_icmp_ne (tgt := 26) hx hb dX0_empty_16 (by decide) (fun hc => ?_) (fun hc => ?_)
        · replace hf := ifn hc hf
          exact hJ26 M_L2 H locs ls hf hW (lv_sub hl [0, 1, 2] rfl)
        · replace hf := ifp hc hf
          refine lv_aload_n hx hb dX0_empty_19 rfl (lv_at hl 0 rfl) ?_
          refine gf_X0_21 ho X hW dX0_empty_20 ?_
          refine lv_iload_n hx hb dX0_empty_23 rfl (lv_at hl 2 rfl) ?_
          refine lv_iconst (v := 0) hx hb dX0_empty_24 (by decide) ?_
          obtain ⟨hi25, hf⟩ := grd_some hf
          refine g_iast X hW (iA_st4 ho) hi25 dX0_empty_25 (fun H locs hW => ?_)
          obtain ⟨M25, e25, hf⟩ := lt_some hf
          have hW : Wd D 43 ad (CC ad cy) A s.heap M25 H locs := by rw [e25]; exact hW
          exact hJ26 M25 H locs ls hf hW (lv_sub hl [0, 1, 2] rfl)
  obtain ⟨H, hH⟩ : ∃ H, H = s.heap := ⟨_, rfl⟩
  obtain ⟨locs, hlo⟩ : ∃ q : List Loc, q = [] := ⟨_, rfl⟩
  have hW : Wd D 43 ad (CC ad cy) A s.heap M H locs := by rw [hH, hlo]; exact hW
  suffices hh : W p l e (rmD 0) s m ([.ref (ad o), .int v1] : List Value).toArray below meth c H locs 0 0 Q (F0 m 0 ls []) by rw [hH, hlo] at hh; exact hh
  unfold f_X0_empty at hf
  refine lv_iconst (v := 0) hx hb dX0_empty_0 (by decide) ?_
  refine lv_istore_n (lv' := [(2, .int 0), (0, .ref (ad o)), (1, .int v1)]) hx hb dX0_empty_1 rfl hl (by decide) rfl (fun ls hl => ?_)
  exact hL2 v1 FU 0 M H locs ls hf hW (lv_sub hl [1, 2, 0] rfl)

def f_X0_slots_L4 (o : Nat) (M : Mem) : Nat → Int32 → Int32 → Option Int32
  | 0, _, _ => none
  | n + 1, v1_L4, v2_L4 => (if (M.1 o 6) ≤ v2_L4 then (some v1_L4) else (grd (inb v2_L4 7) (f_X0_slots_L4 o M n (v1_L4 + (M.1 (o + 2) (ix v2_L4))) (v2_L4 + 1))))
def f_X0_slots (o : Nat) (M : Mem) : Option Int32 :=
  (f_X0_slots_L4 o M FU 0 0)
set_option maxHeartbeats 4000000 in
set_option maxRecDepth 100000 in
theorem c_X0_slots (l : Launch) (D : va_G) (cy : Nat → ClassId) (ad : Nat → Nat) {o : Nat} (ho : isSt o)  {M : Mem} {r : Int32} (hf : f_X0_slots o M = some r) : MetX l 43 (CC ad cy) D cy ad yX0_slots cX0_slots 3 (some .int) 0 [.ref (ad o)] M (fun A => QI r M 43 (CC ad cy) D cy ad A) := by
  refine MetX.of (own := RX0) (by decide) rfl (Nat.le_of_ble_eq_true rfl) ?_
  intro p e s m below meth c A Q ls X hr hlk hZ hA hQ hW hl
  have hl : lv_has ls 3 [(0, .ref (ad o))] := hl
  have hx := X.1
  have hb := X.2.1
  have hL4 : ∀   (n : Nat) (v1_L4 : Int32) (v2_L4 : Int32) (H : Heap) (locs : List Loc) (ls : Array Slot), f_X0_slots_L4 o M n v1_L4 v2_L4 = some r → Wd D 43 ad (CC ad cy) A s.heap M H locs → lv_has ls 3 [(0, .ref (ad o)), (1, .int v1_L4), (2, .int v2_L4)] → W p l e (rmD 0) s m ([.ref (ad o)] : List Value).toArray below meth c H locs 0 0 Q (F0 m 4 ls []) := by
    intro  n
    induction n with
    | zero =>
      intro v1_L4 v2_L4 H locs ls hf
      cases (show (none : Option Int32) = some r from hf)
    | succ n ih =>
      intro v1_L4 v2_L4 H locs ls hf hW hl
      rw [f_X0_slots_L4] at hf
      refine lv_iload_n hx hb dX0_slots_4 rfl (lv_at hl 2 rfl) ?_
      refine lv_aload_n hx hb dX0_slots_5 rfl (lv_at hl 0 rfl) ?_
      refine gf_X0_30 ho X hW dX0_slots_6 ?_
      refine lv_icmp_ge (tgt := 27) hx hb dX0_slots_9 (by decide) (fun hc => ?_) (fun hc => ?_)
      · replace hf := ifp hc hf
        refine lv_iload_n hx hb dX0_slots_27 rfl (lv_at hl 1 rfl) ?_
        exact g_iret X hr hlk hQ hW dX0_slots_28 (rd_some hf)
      · replace hf := ifn hc hf
        refine lv_iload_n hx hb dX0_slots_12 rfl (lv_at hl 1 rfl) ?_
        refine lv_aload_n hx hb dX0_slots_13 rfl (lv_at hl 0 rfl) ?_
        refine gf_X0_15 ho X hW dX0_slots_14 ?_
        refine lv_iload_n hx hb dX0_slots_17 rfl (lv_at hl 2 rfl) ?_
        obtain ⟨hi18, hf⟩ := grd_some hf
        refine g_iald X hW (iA_st2 ho) hi18 dX0_slots_18 ?_
        refine lv_iadd hx hb dX0_slots_19 ?_
        refine lv_istore_n (lv' := [(1, .int (v1_L4 + (M.1 (o + 2) (ix v2_L4)))), (0, .ref (ad o)), (2, .int v2_L4)]) hx hb dX0_slots_20 rfl hl (by decide) rfl (fun ls hl => ?_)
        refine lv_iinc (v := (v2_L4 + 1)) (lv' := [(2, .int (v2_L4 + 1)), (1, .int (v1_L4 + (M.1 (o + 2) (ix v2_L4)))), (0, .ref (ad o))]) hx hb dX0_slots_21 hl (k := 2) rfl rfl (by decide) rfl (fun ls hl => ?_)
        refine lv_goto (tgt := 4) hx hb dX0_slots_24 (by decide) ?_
        exact ih (v1_L4 + (M.1 (o + 2) (ix v2_L4))) (v2_L4 + 1) H locs ls hf hW (lv_sub hl [2, 1, 0] rfl)
  obtain ⟨H, hH⟩ : ∃ H, H = s.heap := ⟨_, rfl⟩
  obtain ⟨locs, hlo⟩ : ∃ q : List Loc, q = [] := ⟨_, rfl⟩
  have hW : Wd D 43 ad (CC ad cy) A s.heap M H locs := by rw [hH, hlo]; exact hW
  suffices hh : W p l e (rmD 0) s m ([.ref (ad o)] : List Value).toArray below meth c H locs 0 0 Q (F0 m 0 ls []) by rw [hH, hlo] at hh; exact hh
  unfold f_X0_slots at hf
  refine lv_iconst (v := 0) hx hb dX0_slots_0 (by decide) ?_
  refine lv_istore_n (lv' := [(1, .int 0), (0, .ref (ad o))]) hx hb dX0_slots_1 rfl hl (by decide) rfl (fun ls hl => ?_)
  refine lv_iconst (v := 0) hx hb dX0_slots_2 (by decide) ?_
  refine lv_istore_n (lv' := [(2, .int 0), (1, .int 0), (0, .ref (ad o))]) hx hb dX0_slots_3 rfl hl (by decide) rfl (fun ls hl => ?_)
  exact hL4  FU 0 0 H locs ls hf hW (lv_sub hl [2, 1, 0] rfl)

def f_X0_manyOf_L4 (o : Nat) (v1_L4 : Int32) (M : Mem) : Nat → Int32 → Int32 → Option Int32
  | 0, _, _ => none
  | n + 1, v2_L4, v3_L4 => (if (M.1 o 6) ≤ v3_L4 then (some v2_L4) else (bR (f_X0_isOf o v3_L4 v1_L4 M) (fun r15 => (jn (fun (k24 : Int32 → Option Int32) => (if r15 = 0 then (k24 v2_L4) else (k24 (v2_L4 + 1)))) (fun (v2_24j : Int32) => (f_X0_manyOf_L4 o v1_L4 M n v2_24j (v3_L4 + 1)))))))
def f_X0_manyOf (o : Nat) (v1 : Int32) (M : Mem) : Option Int32 :=
  (f_X0_manyOf_L4 o v1 M FU 0 0)
set_option maxHeartbeats 4000000 in
set_option maxRecDepth 100000 in
theorem c_X0_manyOf (l : Launch) (D : va_G) (cy : Nat → ClassId) (ad : Nat → Nat) {o : Nat} (ho : isSt o) {v1 : Int32} {M : Mem} {r : Int32} (hf : f_X0_manyOf o v1 M = some r) : MetX l 43 (CC ad cy) D cy ad yX0_manyOf cX0_manyOf 4 (some .int) 1 [.ref (ad o), .int v1] M (fun A => QI r M 43 (CC ad cy) D cy ad A) := by
  refine MetX.of (own := RX0) (by decide) rfl (Nat.le_of_ble_eq_true rfl) ?_
  intro p e s m below meth c A Q ls X hr hlk hZ hA hQ hW hl
  have hl : lv_has ls 4 [(0, .ref (ad o)), (1, .int v1)] := hl
  have hx := X.1
  have hb := X.2.1
  have hL4 : ∀ (v1_L4 : Int32)  (n : Nat) (v2_L4 : Int32) (v3_L4 : Int32) (H : Heap) (locs : List Loc) (ls : Array Slot), f_X0_manyOf_L4 o v1_L4 M n v2_L4 v3_L4 = some r → Wd D 43 ad (CC ad cy) A s.heap M H locs → lv_has ls 4 [(0, .ref (ad o)), (1, .int v1_L4), (2, .int v2_L4), (3, .int v3_L4)] → W p l e (rmD 1) s m ([.ref (ad o), .int v1] : List Value).toArray below meth c H locs 0 0 Q (F0 m 4 ls []) := by
    intro v1_L4 n
    induction n with
    | zero =>
      intro v2_L4 v3_L4 H locs ls hf
      cases (show (none : Option Int32) = some r from hf)
    | succ n ih =>
      intro v2_L4 v3_L4 H locs ls hf hW hl
      rw [f_X0_manyOf_L4] at hf
      refine lv_iload_n hx hb dX0_manyOf_4 rfl (lv_at hl 3 rfl) ?_
      refine lv_aload_n hx hb dX0_manyOf_5 rfl (lv_at hl 0 rfl) ?_
      refine gf_X0_30 ho X hW dX0_manyOf_6 ?_
      refine lv_icmp_ge (tgt := 30) hx hb dX0_manyOf_9 (by decide) (fun hc => ?_) (fun hc => ?_)
      · replace hf := ifp hc hf
        refine lv_iload_n hx hb dX0_manyOf_30 rfl (lv_at hl 2 rfl) ?_
        exact g_iret X hr hlk hQ hW dX0_manyOf_31 (rd_some hf)
      · replace hf := ifn hc hf
        refine lv_aload_n hx hb dX0_manyOf_12 rfl (lv_at hl 0 rfl) ?_
        refine lv_iload_n hx hb dX0_manyOf_13 rfl (lv_at hl 3 rfl) ?_
        refine lv_iload_n hx hb dX0_manyOf_14 rfl (lv_at hl 1 rfl) ?_
        obtain ⟨r15, h15, hf⟩ := bR_some hf
        refine g_calliV X hl.1 hZ hA hW (c_X0_isOf l D cy ad ho h15) cw_X0_isOf ql_X0_83 (iO_st ho) rfl (by decide) rfl (Nat.le_of_ble_eq_true rfl) dX0_manyOf_15 (fun H locs hW => ?_)
        obtain ⟨k24, hk24, hf⟩ := jn_some1 hf
        have hJ24 : ∀ (v2_24j : Int32) (H : Heap) (locs : List Loc) (ls : Array Slot), k24 v2_24j = some r → Wd D 43 ad (CC ad cy) A s.heap M H locs → lv_has ls 4 [(0, .ref (ad o)), (1, .int v1_L4), (2, .int v2_24j), (3, .int v3_L4)] → W p l e (rmD 1) s m ([.ref (ad o), .int v1] : List Value).toArray below meth c H locs 0 0 Q (F0 m 24 ls []) := by
          intro v2_24j H locs ls hf hW hl
          rw [hk24] at hf
          refine lv_iinc (v := (v3_L4 + 1)) (lv' := [(3, .int (v3_L4 + 1)), (0, .ref (ad o)), (1, .int v1_L4), (2, .int v2_24j)]) hx hb dX0_manyOf_24 hl (k := 3) rfl rfl (by decide) rfl (fun ls hl => ?_)
          refine lv_goto (tgt := 4) hx hb dX0_manyOf_27 (by decide) ?_
          exact ih v2_24j (v3_L4 + 1) H locs ls hf hW (lv_sub hl [1, 2, 3, 0] rfl)
        refine lv_if_eq (tgt := 24) hx hb dX0_manyOf_18 (by decide) (fun hc => ?_) (fun hc => ?_)
        · replace hf := ifp hc hf
          exact hJ24 v2_L4 H locs ls hf hW (lv_sub hl [0, 1, 2, 3] rfl)
        · replace hf := ifn hc hf
          refine lv_iinc (v := (v2_L4 + 1)) (lv' := [(2, .int (v2_L4 + 1)), (0, .ref (ad o)), (1, .int v1_L4), (3, .int v3_L4)]) hx hb dX0_manyOf_21 hl (k := 2) rfl rfl (by decide) rfl (fun ls hl => ?_)
          exact hJ24 (v2_L4 + 1) H locs ls hf hW (lv_sub hl [1, 2, 0, 3] rfl)
  obtain ⟨H, hH⟩ : ∃ H, H = s.heap := ⟨_, rfl⟩
  obtain ⟨locs, hlo⟩ : ∃ q : List Loc, q = [] := ⟨_, rfl⟩
  have hW : Wd D 43 ad (CC ad cy) A s.heap M H locs := by rw [hH, hlo]; exact hW
  suffices hh : W p l e (rmD 1) s m ([.ref (ad o), .int v1] : List Value).toArray below meth c H locs 0 0 Q (F0 m 0 ls []) by rw [hH, hlo] at hh; exact hh
  unfold f_X0_manyOf at hf
  refine lv_iconst (v := 0) hx hb dX0_manyOf_0 (by decide) ?_
  refine lv_istore_n (lv' := [(2, .int 0), (0, .ref (ad o)), (1, .int v1)]) hx hb dX0_manyOf_1 rfl hl (by decide) rfl (fun ls hl => ?_)
  refine lv_iconst (v := 0) hx hb dX0_manyOf_2 (by decide) ?_
  refine lv_istore_n (lv' := [(3, .int 0), (2, .int 0), (0, .ref (ad o)), (1, .int v1)]) hx hb dX0_manyOf_3 rfl hl (by decide) rfl (fun ls hl => ?_)
  exact hL4 v1 FU 0 0 H locs ls hf hW (lv_sub hl [2, 3, 1, 0] rfl)
