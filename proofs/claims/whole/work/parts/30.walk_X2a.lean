/-! walks, by program out of the listing: 30.walk_X2a -/
def f_X2_in (v0 : Int32) (v1 : Int32) (v2 : Int32) (M : Mem) : Option Int32 :=
  (if v0 < v1 then (some 0) else (if v2 < v0 then (some 0) else (some 1)))
set_option maxHeartbeats 4000000 in
set_option maxRecDepth 100000 in
theorem c_X2_in (l : Launch) (D : va_G) (cy : Nat → ClassId) (ad : Nat → Nat)   {v0 : Int32} {v1 : Int32} {v2 : Int32} {M : Mem} {r : Int32} (hf : f_X2_in v0 v1 v2 M = some r) : MetX l 20 (CM ad cy) D cy ad yX2_in cX2_in 3 (some .boolean) 0 [.int v0, .int v1, .int v2] M (fun A => QI r M 20 (CM ad cy) D cy ad A) := by
  refine MetX.of (own := RX2) (by decide) rfl (Nat.le_of_ble_eq_true rfl) ?_
  intro p e s m below meth c A Q ls X hr hlk hZ hA hQ hW hl
  have hl : lv_has ls 3 [(0, .int v0), (1, .int v1), (2, .int v2)] := hl
  have hx := X.1
  have hb := X.2.1
  obtain ⟨H, hH⟩ : ∃ H, H = s.heap := ⟨_, rfl⟩
  obtain ⟨locs, hlo⟩ : ∃ q : List Loc, q = [] := ⟨_, rfl⟩
  have hW : Wd D 20 ad (CM ad cy) A s.heap M H locs := by rw [hH, hlo]; exact hW
  suffices hh : W p l e (rmD 0) s m ([.int v0, .int v1, .int v2] : List Value).toArray below meth c H locs 0 0 Q (F0 m 0 ls []) by rw [hH, hlo] at hh; exact hh
  unfold f_X2_in at hf
  refine lv_iload_n hx hb dX2_in_0 rfl (lv_at hl 0 rfl) ?_
  refine lv_iload_n hx hb dX2_in_1 rfl (lv_at hl 1 rfl) ?_
  refine lv_icmp_lt (tgt := 14) hx hb dX2_in_2 (by decide) (fun hc => ?_) (fun hc => ?_)
  · replace hf := ifp hc hf
    refine lv_iconst (v := 0) hx hb dX2_in_14 (by decide) ?_
    exact g_zret X hr hlk hQ hW dX2_in_15 (by decide) (rd_some hf)
  · replace hf := ifn hc hf
    refine lv_iload_n hx hb dX2_in_5 rfl (lv_at hl 0 rfl) ?_
    refine lv_iload_n hx hb dX2_in_6 rfl (lv_at hl 2 rfl) ?_
    refine lv_icmp_gt (tgt := 14) hx hb dX2_in_7 (by decide) (fun hc => ?_) (fun hc => ?_)
    · replace hf := ifp hc hf
      refine lv_iconst (v := 0) hx hb dX2_in_14 (by decide) ?_
      exact g_zret X hr hlk hQ hW dX2_in_15 (by decide) (rd_some hf)
    · replace hf := ifn hc hf
      refine lv_iconst (v := 1) hx hb dX2_in_10 (by decide) ?_
      refine lv_goto (tgt := 15) hx hb dX2_in_11 (by decide) ?_
      exact g_zret X hr hlk hQ hW dX2_in_15 (by decide) (rd_some hf)

def f_X2_bits_L4 (M : Mem) : Nat → Int32 → Int32 → Option Int32
  | 0, _, _ => none
  | n + 1, v1_L4, v2_L4 => (if v2_L4 = 0 then (some v1_L4) else (f_X2_bits_L4 M n (v1_L4 + 1) (v2_L4 &&& (v2_L4 - 1))))
def f_X2_bits (v0 : Int32) (M : Mem) : Option Int32 :=
  (f_X2_bits_L4 M FU 0 v0)
set_option maxHeartbeats 4000000 in
set_option maxRecDepth 100000 in
theorem c_X2_bits (l : Launch) (D : va_G) (cy : Nat → ClassId) (ad : Nat → Nat)   {v0 : Int32} {M : Mem} {r : Int32} (hf : f_X2_bits v0 M = some r) : MetX l 20 (CM ad cy) D cy ad yX2_bits cX2_bits 3 (some .int) 0 [.int v0] M (fun A => QI r M 20 (CM ad cy) D cy ad A) := by
  refine MetX.of (own := RX2) (by decide) rfl (Nat.le_of_ble_eq_true rfl) ?_
  intro p e s m below meth c A Q ls X hr hlk hZ hA hQ hW hl
  have hl : lv_has ls 3 [(0, .int v0)] := hl
  have hx := X.1
  have hb := X.2.1
  have hL4 : ∀   (n : Nat) (v1_L4 : Int32) (v2_L4 : Int32) (H : Heap) (locs : List Loc) (ls : Array Slot), f_X2_bits_L4 M n v1_L4 v2_L4 = some r → Wd D 20 ad (CM ad cy) A s.heap M H locs → lv_has ls 3 [(1, .int v1_L4), (2, .int v2_L4)] → W p l e (rmD 0) s m ([.int v0] : List Value).toArray below meth c H locs 0 0 Q (F0 m 4 ls []) := by
    intro  n
    induction n with
    | zero =>
      intro v1_L4 v2_L4 H locs ls hf
      cases (show (none : Option Int32) = some r from hf)
    | succ n ih =>
      intro v1_L4 v2_L4 H locs ls hf hW hl
      rw [f_X2_bits_L4] at hf
      refine lv_iload_n hx hb dX2_bits_4 rfl (lv_at hl 1 rfl) ?_
      refine lv_if_eq (tgt := 20) hx hb dX2_bits_5 (by decide) (fun hc => ?_) (fun hc => ?_)
      · replace hf := ifp hc hf
        refine lv_iload_n hx hb dX2_bits_20 rfl (lv_at hl 0 rfl) ?_
        exact g_iret X hr hlk hQ hW dX2_bits_21 (rd_some hf)
      · replace hf := ifn hc hf
        refine lv_iinc (v := (v1_L4 + 1)) (lv' := [(1, .int (v1_L4 + 1)), (2, .int v2_L4)]) hx hb dX2_bits_8 hl (k := 0) rfl rfl (by decide) rfl (fun ls hl => ?_)
        refine lv_iload_n hx hb dX2_bits_11 rfl (lv_at hl 1 rfl) ?_
        refine lv_iload_n hx hb dX2_bits_12 rfl (lv_at hl 1 rfl) ?_
        refine lv_iconst (v := 1) hx hb dX2_bits_13 (by decide) ?_
        refine lv_isub hx hb dX2_bits_14 ?_
        refine lv_iand hx hb dX2_bits_15 ?_
        refine lv_istore_n (lv' := [(2, .int (v2_L4 &&& (v2_L4 - 1))), (1, .int (v1_L4 + 1))]) hx hb dX2_bits_16 rfl hl (by decide) rfl (fun ls hl => ?_)
        refine lv_goto (tgt := 4) hx hb dX2_bits_17 (by decide) ?_
        exact ih (v1_L4 + 1) (v2_L4 &&& (v2_L4 - 1)) H locs ls hf hW (lv_sub hl [1, 0] rfl)
  obtain ⟨H, hH⟩ : ∃ H, H = s.heap := ⟨_, rfl⟩
  obtain ⟨locs, hlo⟩ : ∃ q : List Loc, q = [] := ⟨_, rfl⟩
  have hW : Wd D 20 ad (CM ad cy) A s.heap M H locs := by rw [hH, hlo]; exact hW
  suffices hh : W p l e (rmD 0) s m ([.int v0] : List Value).toArray below meth c H locs 0 0 Q (F0 m 0 ls []) by rw [hH, hlo] at hh; exact hh
  unfold f_X2_bits at hf
  refine lv_iconst (v := 0) hx hb dX2_bits_0 (by decide) ?_
  refine lv_istore_n (lv' := [(1, .int 0), (0, .int v0)]) hx hb dX2_bits_1 rfl hl (by decide) rfl (fun ls hl => ?_)
  refine lv_iload_n hx hb dX2_bits_2 rfl (lv_at hl 1 rfl) ?_
  refine lv_istore_n (lv' := [(2, .int v0), (1, .int 0), (0, .int v0)]) hx hb dX2_bits_3 rfl hl (by decide) rfl (fun ls hl => ?_)
  exact hL4  FU 0 v0 H locs ls hf hW (lv_sub hl [1, 0] rfl)

def f_X2_bring_L3 (k0 : Nat) (n0 : Nat) (k2 : Nat) (n2 : Nat) (v1_L3 : Int32) (v3_L3 : Int32) (v4_L3 : Int32) : Nat → Int32 → Mem → Option Mem
  | 0, _, _ => none
  | n + 1, v5_L3, M_L3 => (if v4_L3 ≤ v5_L3 then (some M_L3) else (grd (inb (v1_L3 + v5_L3) n0) (grd (inb (v3_L3 + v5_L3) n2) (lt (sI M_L3 k2 (ix (v3_L3 + v5_L3)) (M_L3.1 k0 (ix (v1_L3 + v5_L3)))) (fun M21 => (f_X2_bring_L3 k0 n0 k2 n2 v1_L3 v3_L3 v4_L3 n (v5_L3 + 1) M21))))))
def f_X2_bring (k0 : Nat) (n0 : Nat) (k2 : Nat) (n2 : Nat) (v1 : Int32) (v3 : Int32) (v4 : Int32) (M : Mem) : Option Mem :=
  (f_X2_bring_L3 k0 n0 k2 n2 v1 v3 v4 FU 0 M)
set_option maxHeartbeats 4000000 in
set_option maxRecDepth 100000 in
theorem c_X2_bring (l : Launch) (D : va_G) (cy : Nat → ClassId) (ad : Nat → Nat) {k0 : Nat} {n0 : Nat} {k2 : Nat} {n2 : Nat} (hA0 : isA (CM ad cy) 20 k0 (cy 0) n0) (hA2 : isA (CM ad cy) 20 k2 (cy 0) n2) {v1 : Int32} {v3 : Int32} {v4 : Int32} {M M' : Mem} (hf : f_X2_bring k0 n0 k2 n2 v1 v3 v4 M = some M') : MetX l 20 (CM ad cy) D cy ad yX2_bring cX2_bring 6 none 0 [.ref (ad k0), .int v1, .ref (ad k2), .int v3, .int v4] M (fun A => QV M' 20 (CM ad cy) D cy ad A) := by
  refine MetX.of (own := RX2) (by decide) rfl (Nat.le_of_ble_eq_true rfl) ?_
  intro p e s m below meth c A Q ls X hr hlk hZ hA hQ hW hl
  have hl : lv_has ls 6 [(0, .ref (ad k0)), (1, .int v1), (2, .ref (ad k2)), (3, .int v3), (4, .int v4)] := hl
  have hx := X.1
  have hb := X.2.1
  have hL3 : ∀ (v1_L3 : Int32) (v3_L3 : Int32) (v4_L3 : Int32)  (n : Nat) (v5_L3 : Int32) (M_L3 : Mem) (H : Heap) (locs : List Loc) (ls : Array Slot), f_X2_bring_L3 k0 n0 k2 n2 v1_L3 v3_L3 v4_L3 n v5_L3 M_L3 = some M' → Wd D 20 ad (CM ad cy) A s.heap M_L3 H locs → lv_has ls 6 [(0, .ref (ad k0)), (1, .int v1_L3), (2, .ref (ad k2)), (3, .int v3_L3), (4, .int v4_L3), (5, .int v5_L3)] → W p l e (rmD 0) s m ([.ref (ad k0), .int v1, .ref (ad k2), .int v3, .int v4] : List Value).toArray below meth c H locs 0 0 Q (F0 m 3 ls []) := by
    intro v1_L3 v3_L3 v4_L3 n
    induction n with
    | zero =>
      intro v5_L3 M_L3 H locs ls hf
      cases (show (none : Option Mem) = some M' from hf)
    | succ n ih =>
      intro v5_L3 M_L3 H locs ls hf hW hl
      rw [f_X2_bring_L3] at hf
      refine lv_iload hx hb dX2_bring_3 (lv_at hl 5 rfl) ?_
      refine lv_iload hx hb dX2_bring_5 (lv_at hl 4 rfl) ?_
      refine lv_icmp_ge (tgt := 28) hx hb dX2_bring_7 (by decide) (fun hc => ?_) (fun hc => ?_)
      · replace hf := ifp hc hf
        exact g_vret X hr hlk hQ hW dX2_bring_28 hf
      · replace hf := ifn hc hf
        refine lv_aload_n hx hb dX2_bring_10 rfl (lv_at hl 2 rfl) ?_
        refine lv_iload_n hx hb dX2_bring_11 rfl (lv_at hl 3 rfl) ?_
        refine lv_iload hx hb dX2_bring_12 (lv_at hl 5 rfl) ?_
        refine lv_iadd hx hb dX2_bring_14 ?_
        refine lv_aload_n hx hb dX2_bring_15 rfl (lv_at hl 0 rfl) ?_
        refine lv_iload_n hx hb dX2_bring_16 rfl (lv_at hl 1 rfl) ?_
        refine lv_iload hx hb dX2_bring_17 (lv_at hl 5 rfl) ?_
        refine lv_iadd hx hb dX2_bring_19 ?_
        obtain ⟨hi20, hf⟩ := grd_some hf
        refine g_iald X hW hA0 hi20 dX2_bring_20 ?_
        obtain ⟨hi21, hf⟩ := grd_some hf
        refine g_iast X hW hA2 hi21 dX2_bring_21 (fun H locs hW => ?_)
        obtain ⟨M21, e21, hf⟩ := lt_some hf
        have hW : Wd D 20 ad (CM ad cy) A s.heap M21 H locs := by rw [e21]; exact hW
        refine lv_iinc (v := (v5_L3 + 1)) (lv' := [(5, .int (v5_L3 + 1)), (0, .ref (ad k0)), (1, .int v1_L3), (2, .ref (ad k2)), (3, .int v3_L3), (4, .int v4_L3)]) hx hb dX2_bring_22 hl (k := 5) rfl rfl (by decide) rfl (fun ls hl => ?_)
        refine lv_goto (tgt := 3) hx hb dX2_bring_25 (by decide) ?_
        exact ih (v5_L3 + 1) M21 H locs ls hf hW (lv_sub hl [1, 2, 3, 4, 5, 0] rfl)
  obtain ⟨H, hH⟩ : ∃ H, H = s.heap := ⟨_, rfl⟩
  obtain ⟨locs, hlo⟩ : ∃ q : List Loc, q = [] := ⟨_, rfl⟩
  have hW : Wd D 20 ad (CM ad cy) A s.heap M H locs := by rw [hH, hlo]; exact hW
  suffices hh : W p l e (rmD 0) s m ([.ref (ad k0), .int v1, .ref (ad k2), .int v3, .int v4] : List Value).toArray below meth c H locs 0 0 Q (F0 m 0 ls []) by rw [hH, hlo] at hh; exact hh
  unfold f_X2_bring at hf
  refine lv_iconst (v := 0) hx hb dX2_bring_0 (by decide) ?_
  refine lv_istore (lv' := [(5, .int 0), (0, .ref (ad k0)), (1, .int v1), (2, .ref (ad k2)), (3, .int v3), (4, .int v4)]) hx hb dX2_bring_1 hl (by decide) rfl (fun ls hl => ?_)
  exact hL3 v1 v3 v4 FU 0 M H locs ls hf hW (lv_sub hl [1, 2, 3, 4, 5, 0] rfl)

def f_X2_found (v1 : Int32) (M : Mem) : Option (Int32 × Mem) :=
  (lt (sI M 0 17 v1) (fun M2 => (grd (inb v1 6) (grd (inb v1 6) (lt (sI M2 13 (ix v1) ((M2.1 13 (ix v1)) + 1)) (fun M14 => (some ((-3), M14))))))))
set_option maxHeartbeats 4000000 in
set_option maxRecDepth 100000 in
theorem c_X2_found (l : Launch) (D : va_G) (cy : Nat → ClassId) (ad : Nat → Nat)   {v1 : Int32} {M M' : Mem} {r : Int32} (hf : f_X2_found v1 M = some (r, M')) : MetX l 20 (CM ad cy) D cy ad yX2_found cX2_found 2 (some .int) 0 [.ref (ad 0), .int v1] M (fun A => QI r M' 20 (CM ad cy) D cy ad A) := by
  refine MetX.of (own := RX2) (by decide) rfl (Nat.le_of_ble_eq_true rfl) ?_
  intro p e s m below meth c A Q ls X hr hlk hZ hA hQ hW hl
  have hl : lv_has ls 2 [(0, .ref (ad 0)), (1, .int v1)] := hl
  have hx := X.1
  have hb := X.2.1
  obtain ⟨H, hH⟩ : ∃ H, H = s.heap := ⟨_, rfl⟩
  obtain ⟨locs, hlo⟩ : ∃ q : List Loc, q = [] := ⟨_, rfl⟩
  have hW : Wd D 20 ad (CM ad cy) A s.heap M H locs := by rw [hH, hlo]; exact hW
  suffices hh : W p l e (rmD 0) s m ([.ref (ad 0), .int v1] : List Value).toArray below meth c H locs 0 0 Q (F0 m 0 ls []) by rw [hH, hlo] at hh; exact hh
  unfold f_X2_found at hf
  refine lv_aload_n hx hb dX2_found_0 rfl (lv_at hl 0 rfl) ?_
  refine lv_iload_n hx hb dX2_found_1 rfl (lv_at hl 1 rfl) ?_
  refine gp_X2_72 X hW dX2_found_2 (fun H locs hW => ?_)
  obtain ⟨M2, e2, hf⟩ := lt_some hf
  have hW : Wd D 20 ad (CM ad cy) A s.heap M2 H locs := by rw [e2]; exact hW
  refine lv_aload_n hx hb dX2_found_5 rfl (lv_at hl 0 rfl) ?_
  refine gf_X2_51 X hW dX2_found_6 ?_
  refine lv_iload_n hx hb dX2_found_9 rfl (lv_at hl 1 rfl) ?_
  refine lv_dup2_11 hx hb dX2_found_10 rfl rfl ?_
  obtain ⟨hi11, hf⟩ := grd_some hf
  refine g_iald X hW iM_findings hi11 dX2_found_11 ?_
  refine lv_iconst (v := 1) hx hb dX2_found_12 (by decide) ?_
  refine lv_iadd hx hb dX2_found_13 ?_
  obtain ⟨hi14, hf⟩ := grd_some hf
  refine g_iast X hW iM_findings hi14 dX2_found_14 (fun H locs hW => ?_)
  obtain ⟨M14, e14, hf⟩ := lt_some hf
  have hW : Wd D 20 ad (CM ad cy) A s.heap M14 H locs := by rw [e14]; exact hW
  refine lv_bipush (v := (-3)) hx hb dX2_found_15 (by decide) ?_
  exact g_iret X hr hlk hQ hW dX2_found_17 hf

def f_X2_tells (v1 : Int32) (v2 : Int32) (M : Mem) : Option (Int32 × Mem) :=
  (lt (sI M 0 14 v1) (fun M2 => (some (v2, M2))))
set_option maxHeartbeats 4000000 in
set_option maxRecDepth 100000 in
theorem c_X2_tells (l : Launch) (D : va_G) (cy : Nat → ClassId) (ad : Nat → Nat)   {v1 : Int32} {v2 : Int32} {M M' : Mem} {r : Int32} (hf : f_X2_tells v1 v2 M = some (r, M')) : MetX l 20 (CM ad cy) D cy ad yX2_tells cX2_tells 3 (some .int) 0 [.ref (ad 0), .int v1, .int v2] M (fun A => QI r M' 20 (CM ad cy) D cy ad A) := by
  refine MetX.of (own := RX2) (by decide) rfl (Nat.le_of_ble_eq_true rfl) ?_
  intro p e s m below meth c A Q ls X hr hlk hZ hA hQ hW hl
  have hl : lv_has ls 3 [(0, .ref (ad 0)), (1, .int v1), (2, .int v2)] := hl
  have hx := X.1
  have hb := X.2.1
  obtain ⟨H, hH⟩ : ∃ H, H = s.heap := ⟨_, rfl⟩
  obtain ⟨locs, hlo⟩ : ∃ q : List Loc, q = [] := ⟨_, rfl⟩
  have hW : Wd D 20 ad (CM ad cy) A s.heap M H locs := by rw [hH, hlo]; exact hW
  suffices hh : W p l e (rmD 0) s m ([.ref (ad 0), .int v1, .int v2] : List Value).toArray below meth c H locs 0 0 Q (F0 m 0 ls []) by rw [hH, hlo] at hh; exact hh
  unfold f_X2_tells at hf
  refine lv_aload_n hx hb dX2_tells_0 rfl (lv_at hl 0 rfl) ?_
  refine lv_iload_n hx hb dX2_tells_1 rfl (lv_at hl 1 rfl) ?_
  refine gp_X2_76 X hW dX2_tells_2 (fun H locs hW => ?_)
  obtain ⟨M2, e2, hf⟩ := lt_some hf
  have hW : Wd D 20 ad (CM ad cy) A s.heap M2 H locs := by rw [e2]; exact hW
  refine lv_iload_n hx hb dX2_tells_5 rfl (lv_at hl 2 rfl) ?_
  exact g_iret X hr hlk hQ hW dX2_tells_6 hf

def f_X2_isTube (v1 : Int32) (M : Mem) : Option Int32 :=
  (bR (f_X2_in v1 0 ((M.1 0 4) - 1) M) (fun r8 => (grd (isB r8) (some r8))))
set_option maxHeartbeats 4000000 in
set_option maxRecDepth 100000 in
theorem c_X2_isTube (l : Launch) (D : va_G) (cy : Nat → ClassId) (ad : Nat → Nat)   {v1 : Int32} {M : Mem} {r : Int32} (hf : f_X2_isTube v1 M = some r) : MetX l 20 (CM ad cy) D cy ad yX2_isTube cX2_isTube 2 (some .boolean) 1 [.ref (ad 0), .int v1] M (fun A => QI r M 20 (CM ad cy) D cy ad A) := by
  refine MetX.of (own := RX2) (by decide) rfl (Nat.le_of_ble_eq_true rfl) ?_
  intro p e s m below meth c A Q ls X hr hlk hZ hA hQ hW hl
  have hl : lv_has ls 2 [(0, .ref (ad 0)), (1, .int v1)] := hl
  have hx := X.1
  have hb := X.2.1
  obtain ⟨H, hH⟩ : ∃ H, H = s.heap := ⟨_, rfl⟩
  obtain ⟨locs, hlo⟩ : ∃ q : List Loc, q = [] := ⟨_, rfl⟩
  have hW : Wd D 20 ad (CM ad cy) A s.heap M H locs := by rw [hH, hlo]; exact hW
  suffices hh : W p l e (rmD 1) s m ([.ref (ad 0), .int v1] : List Value).toArray below meth c H locs 0 0 Q (F0 m 0 ls []) by rw [hH, hlo] at hh; exact hh
  unfold f_X2_isTube at hf
  refine lv_iload_n hx hb dX2_isTube_0 rfl (lv_at hl 1 rfl) ?_
  refine lv_iconst (v := 0) hx hb dX2_isTube_1 (by decide) ?_
  refine lv_aload_n hx hb dX2_isTube_2 rfl (lv_at hl 0 rfl) ?_
  refine gf_X2_79 X hW dX2_isTube_3 ?_
  refine lv_iconst (v := 1) hx hb dX2_isTube_6 (by decide) ?_
  refine lv_isub hx hb dX2_isTube_7 ?_
  obtain ⟨r8, h8, hf⟩ := bR_some hf
  refine g_calliS X hl.1 hZ hA hW (c_X2_in l D cy ad h8) cs_X2_in ql_X2_82 rfl (by decide) rfl (Nat.le_of_ble_eq_true rfl) dX2_isTube_8 (fun H locs hW => ?_)
  obtain ⟨hzb, hf⟩ := grd_some hf
  exact g_zret X hr hlk hQ hW dX2_isTube_11 hzb (rd_some hf)

def f_X2_isRow (v0 : Int32) (M : Mem) : Option Int32 :=
  (bR (f_X2_in v0 0 5 M) (fun r3 => (grd (isB r3) (some r3))))
set_option maxHeartbeats 4000000 in
set_option maxRecDepth 100000 in
theorem c_X2_isRow (l : Launch) (D : va_G) (cy : Nat → ClassId) (ad : Nat → Nat)   {v0 : Int32} {M : Mem} {r : Int32} (hf : f_X2_isRow v0 M = some r) : MetX l 20 (CM ad cy) D cy ad yX2_isRow cX2_isRow 1 (some .boolean) 1 [.int v0] M (fun A => QI r M 20 (CM ad cy) D cy ad A) := by
  refine MetX.of (own := RX2) (by decide) rfl (Nat.le_of_ble_eq_true rfl) ?_
  intro p e s m below meth c A Q ls X hr hlk hZ hA hQ hW hl
  have hl : lv_has ls 1 [(0, .int v0)] := hl
  have hx := X.1
  have hb := X.2.1
  obtain ⟨H, hH⟩ : ∃ H, H = s.heap := ⟨_, rfl⟩
  obtain ⟨locs, hlo⟩ : ∃ q : List Loc, q = [] := ⟨_, rfl⟩
  have hW : Wd D 20 ad (CM ad cy) A s.heap M H locs := by rw [hH, hlo]; exact hW
  suffices hh : W p l e (rmD 1) s m ([.int v0] : List Value).toArray below meth c H locs 0 0 Q (F0 m 0 ls []) by rw [hH, hlo] at hh; exact hh
  unfold f_X2_isRow at hf
  refine lv_iload_n hx hb dX2_isRow_0 rfl (lv_at hl 0 rfl) ?_
  refine lv_iconst (v := 0) hx hb dX2_isRow_1 (by decide) ?_
  refine lv_iconst (v := 5) hx hb dX2_isRow_2 (by decide) ?_
  obtain ⟨r3, h3, hf⟩ := bR_some hf
  refine g_calliS X hl.1 hZ hA hW (c_X2_in l D cy ad h3) cs_X2_in ql_X2_82 rfl (by decide) rfl (Nat.le_of_ble_eq_true rfl) dX2_isRow_3 (fun H locs hW => ?_)
  obtain ⟨hzb, hf⟩ := grd_some hf
  exact g_zret X hr hlk hQ hW dX2_isRow_6 hzb (rd_some hf)

def f_X2_isText (v0 : Int32) (M : Mem) : Option Int32 :=
  (bR (f_X2_in v0 0 3 M) (fun r3 => (grd (isB r3) (some r3))))
set_option maxHeartbeats 4000000 in
set_option maxRecDepth 100000 in
theorem c_X2_isText (l : Launch) (D : va_G) (cy : Nat → ClassId) (ad : Nat → Nat)   {v0 : Int32} {M : Mem} {r : Int32} (hf : f_X2_isText v0 M = some r) : MetX l 20 (CM ad cy) D cy ad yX2_isText cX2_isText 1 (some .boolean) 1 [.int v0] M (fun A => QI r M 20 (CM ad cy) D cy ad A) := by
  refine MetX.of (own := RX2) (by decide) rfl (Nat.le_of_ble_eq_true rfl) ?_
  intro p e s m below meth c A Q ls X hr hlk hZ hA hQ hW hl
  have hl : lv_has ls 1 [(0, .int v0)] := hl
  have hx := X.1
  have hb := X.2.1
  obtain ⟨H, hH⟩ : ∃ H, H = s.heap := ⟨_, rfl⟩
  obtain ⟨locs, hlo⟩ : ∃ q : List Loc, q = [] := ⟨_, rfl⟩
  have hW : Wd D 20 ad (CM ad cy) A s.heap M H locs := by rw [hH, hlo]; exact hW
  suffices hh : W p l e (rmD 1) s m ([.int v0] : List Value).toArray below meth c H locs 0 0 Q (F0 m 0 ls []) by rw [hH, hlo] at hh; exact hh
  unfold f_X2_isText at hf
  refine lv_iload_n hx hb dX2_isText_0 rfl (lv_at hl 0 rfl) ?_
  refine lv_iconst (v := 0) hx hb dX2_isText_1 (by decide) ?_
  refine lv_iconst (v := 3) hx hb dX2_isText_2 (by decide) ?_
  obtain ⟨r3, h3, hf⟩ := bR_some hf
  refine g_calliS X hl.1 hZ hA hW (c_X2_in l D cy ad h3) cs_X2_in ql_X2_82 rfl (by decide) rfl (Nat.le_of_ble_eq_true rfl) dX2_isText_3 (fun H locs hW => ?_)
  obtain ⟨hzb, hf⟩ := grd_some hf
  exact g_zret X hr hlk hQ hW dX2_isText_6 hzb (rd_some hf)

def f_X2_makesRow_L9 (v1_L9 : Int32) (v2_L9 : Int32) : Nat → Int32 → Mem → Option Mem
  | 0, _, _ => none
  | n + 1, v3_L9, M_L9 => (if v2_L9 ≤ v3_L9 then (some M_L9) else (grd (inb ((40 * v1_L9) + v3_L9) 240) (lt (sI M_L9 2 (ix ((40 * v1_L9) + v3_L9)) 0) (fun M25 => (f_X2_makesRow_L9 v1_L9 v2_L9 n (v3_L9 + 1) M25)))))
def f_X2_makesRow (v1 : Int32) (v2 : Int32) (M : Mem) : Option Mem :=
  (grd (inb v1 6) (lt (sI M 1 (ix v1) v2) (fun M6 => (f_X2_makesRow_L9 v1 v2 FU 0 M6))))
set_option maxHeartbeats 4000000 in
set_option maxRecDepth 100000 in
theorem c_X2_makesRow (l : Launch) (D : va_G) (cy : Nat → ClassId) (ad : Nat → Nat)   {v1 : Int32} {v2 : Int32} {M M' : Mem} (hf : f_X2_makesRow v1 v2 M = some M') : MetX l 20 (CM ad cy) D cy ad yX2_makesRow cX2_makesRow 4 none 0 [.ref (ad 0), .int v1, .int v2] M (fun A => QV M' 20 (CM ad cy) D cy ad A) := by
  refine MetX.of (own := RX2) (by decide) rfl (Nat.le_of_ble_eq_true rfl) ?_
  intro p e s m below meth c A Q ls X hr hlk hZ hA hQ hW hl
  have hl : lv_has ls 4 [(0, .ref (ad 0)), (1, .int v1), (2, .int v2)] := hl
  have hx := X.1
  have hb := X.2.1
  have hL9 : ∀ (v1_L9 : Int32) (v2_L9 : Int32)  (n : Nat) (v3_L9 : Int32) (M_L9 : Mem) (H : Heap) (locs : List Loc) (ls : Array Slot), f_X2_makesRow_L9 v1_L9 v2_L9 n v3_L9 M_L9 = some M' → Wd D 20 ad (CM ad cy) A s.heap M_L9 H locs → lv_has ls 4 [(0, .ref (ad 0)), (1, .int v1_L9), (2, .int v2_L9), (3, .int v3_L9)] → W p l e (rmD 0) s m ([.ref (ad 0), .int v1, .int v2] : List Value).toArray below meth c H locs 0 0 Q (F0 m 9 ls []) := by
    intro v1_L9 v2_L9 n
    induction n with
    | zero =>
      intro v3_L9 M_L9 H locs ls hf
      cases (show (none : Option Mem) = some M' from hf)
    | succ n ih =>
      intro v3_L9 M_L9 H locs ls hf hW hl
      rw [f_X2_makesRow_L9] at hf
      refine lv_iload_n hx hb dX2_makesRow_9 rfl (lv_at hl 3 rfl) ?_
      refine lv_iload_n hx hb dX2_makesRow_10 rfl (lv_at hl 2 rfl) ?_
      refine lv_icmp_ge (tgt := 32) hx hb dX2_makesRow_11 (by decide) (fun hc => ?_) (fun hc => ?_)
      · replace hf := ifp hc hf
        exact g_vret X hr hlk hQ hW dX2_makesRow_32 hf
      · replace hf := ifn hc hf
        refine lv_aload_n hx hb dX2_makesRow_14 rfl (lv_at hl 0 rfl) ?_
        refine gf_X2_13 X hW dX2_makesRow_15 ?_
        refine lv_bipush (v := 40) hx hb dX2_makesRow_18 (by decide) ?_
        refine lv_iload_n hx hb dX2_makesRow_20 rfl (lv_at hl 1 rfl) ?_
        refine lv_imul hx hb dX2_makesRow_21 ?_
        refine lv_iload_n hx hb dX2_makesRow_22 rfl (lv_at hl 3 rfl) ?_
        refine lv_iadd hx hb dX2_makesRow_23 ?_
        refine lv_iconst (v := 0) hx hb dX2_makesRow_24 (by decide) ?_
        obtain ⟨hi25, hf⟩ := grd_some hf
        refine g_iast X hW iM_rows hi25 dX2_makesRow_25 (fun H locs hW => ?_)
        obtain ⟨M25, e25, hf⟩ := lt_some hf
        have hW : Wd D 20 ad (CM ad cy) A s.heap M25 H locs := by rw [e25]; exact hW
        refine lv_iinc (v := (v3_L9 + 1)) (lv' := [(3, .int (v3_L9 + 1)), (0, .ref (ad 0)), (1, .int v1_L9), (2, .int v2_L9)]) hx hb dX2_makesRow_26 hl (k := 3) rfl rfl (by decide) rfl (fun ls hl => ?_)
        refine lv_goto (tgt := 9) hx hb dX2_makesRow_29 (by decide) ?_
        exact ih (v3_L9 + 1) M25 H locs ls hf hW (lv_sub hl [1, 2, 3, 0] rfl)
  obtain ⟨H, hH⟩ : ∃ H, H = s.heap := ⟨_, rfl⟩
  obtain ⟨locs, hlo⟩ : ∃ q : List Loc, q = [] := ⟨_, rfl⟩
  have hW : Wd D 20 ad (CM ad cy) A s.heap M H locs := by rw [hH, hlo]; exact hW
  suffices hh : W p l e (rmD 0) s m ([.ref (ad 0), .int v1, .int v2] : List Value).toArray below meth c H locs 0 0 Q (F0 m 0 ls []) by rw [hH, hlo] at hh; exact hh
  unfold f_X2_makesRow at hf
  refine lv_aload_n hx hb dX2_makesRow_0 rfl (lv_at hl 0 rfl) ?_
  refine gf_X2_7 X hW dX2_makesRow_1 ?_
  refine lv_iload_n hx hb dX2_makesRow_4 rfl (lv_at hl 1 rfl) ?_
  refine lv_iload_n hx hb dX2_makesRow_5 rfl (lv_at hl 2 rfl) ?_
  obtain ⟨hi6, hf⟩ := grd_some hf
  refine g_iast X hW iM_rowSize hi6 dX2_makesRow_6 (fun H locs hW => ?_)
  obtain ⟨M6, e6, hf⟩ := lt_some hf
  have hW : Wd D 20 ad (CM ad cy) A s.heap M6 H locs := by rw [e6]; exact hW
  refine lv_iconst (v := 0) hx hb dX2_makesRow_7 (by decide) ?_
  refine lv_istore_n (lv' := [(3, .int 0), (0, .ref (ad 0)), (1, .int v1), (2, .int v2)]) hx hb dX2_makesRow_8 rfl hl (by decide) rfl (fun ls hl => ?_)
  exact hL9 v1 v2 FU 0 M6 H locs ls hf hW (lv_sub hl [1, 2, 3, 0] rfl)

def f_X2_row (v1 : Int32) (v2 : Int32) (M : Mem) : Option (Int32 × Mem) :=
  (bR (f_X2_isRow v1 M) (fun r1 => (if r1 = 0 then (some ((-1), M)) else (if v2 ≤ 40 then (if 0 ≤ v2 then (bR (f_X2_makesRow v1 v2 M) (fun M28 => (some (v2, M28)))) else (bI (f_X2_found 5 M) (fun r21 M21 => (some (r21, M21))))) else (some ((-1), M))))))
set_option maxHeartbeats 4000000 in
set_option maxRecDepth 100000 in
theorem c_X2_row (l : Launch) (D : va_G) (cy : Nat → ClassId) (ad : Nat → Nat)   {v1 : Int32} {v2 : Int32} {M M' : Mem} {r : Int32} (hf : f_X2_row v1 v2 M = some (r, M')) : MetX l 20 (CM ad cy) D cy ad yX2_row cX2_row 3 (some .int) 2 [.ref (ad 0), .int v1, .int v2] M (fun A => QI r M' 20 (CM ad cy) D cy ad A) := by
  refine MetX.of (own := RX2) (by decide) rfl (Nat.le_of_ble_eq_true rfl) ?_
  intro p e s m below meth c A Q ls X hr hlk hZ hA hQ hW hl
  have hl : lv_has ls 3 [(0, .ref (ad 0)), (1, .int v1), (2, .int v2)] := hl
  have hx := X.1
  have hb := X.2.1
  obtain ⟨H, hH⟩ : ∃ H, H = s.heap := ⟨_, rfl⟩
  obtain ⟨locs, hlo⟩ : ∃ q : List Loc, q = [] := ⟨_, rfl⟩
  have hW : Wd D 20 ad (CM ad cy) A s.heap M H locs := by rw [hH, hlo]; exact hW
  suffices hh : W p l e (rmD 2) s m ([.ref (ad 0), .int v1, .int v2] : List Value).toArray below meth c H locs 0 0 Q (F0 m 0 ls []) by rw [hH, hlo] at hh; exact hh
  unfold f_X2_row at hf
  refine lv_iload_n hx hb dX2_row_0 rfl (lv_at hl 1 rfl) ?_
  obtain ⟨r1, h1, hf⟩ := bR_some hf
  refine g_calliS X hl.1 hZ hA hW (c_X2_isRow l D cy ad h1) cs_X2_isRow ql_X2_86 rfl (by decide) rfl (Nat.le_of_ble_eq_true rfl) dX2_row_1 (fun H locs hW => ?_)
  refine lv_if_eq (tgt := 13) hx hb dX2_row_4 (by decide) (fun hc => ?_) (fun hc => ?_)
  · replace hf := ifp hc hf
    refine lv_iconst (v := (-1)) hx hb dX2_row_13 (by decide) ?_
    exact g_iret X hr hlk hQ hW dX2_row_14 hf
  · replace hf := ifn hc hf
    refine lv_iload_n hx hb dX2_row_7 rfl (lv_at hl 2 rfl) ?_
    refine lv_bipush (v := 40) hx hb dX2_row_8 (by decide) ?_
    refine lv_icmp_le (tgt := 15) hx hb dX2_row_10 (by decide) (fun hc => ?_) (fun hc => ?_)
    · replace hf := ifp hc hf
      refine lv_iload_n hx hb dX2_row_15 rfl (lv_at hl 2 rfl) ?_
      refine lv_if_ge (tgt := 25) hx hb dX2_row_16 (by decide) (fun hc => ?_) (fun hc => ?_)
      · replace hf := ifp hc hf
        refine lv_aload_n hx hb dX2_row_25 rfl (lv_at hl 0 rfl) ?_
        refine lv_iload_n hx hb dX2_row_26 rfl (lv_at hl 1 rfl) ?_
        refine lv_iload_n hx hb dX2_row_27 rfl (lv_at hl 2 rfl) ?_
        obtain ⟨M28, h28, hf⟩ := bR_some hf
        refine g_callvV X hl.1 hZ hA hW (c_X2_makesRow l D cy ad h28) cw_X2_makesRow ql_X2_94 iO_X2 rfl (by decide) rfl (Nat.le_of_ble_eq_true rfl) dX2_row_28 (fun H locs hW => ?_)
        refine lv_iload_n hx hb dX2_row_31 rfl (lv_at hl 2 rfl) ?_
        exact g_iret X hr hlk hQ hW dX2_row_32 hf
      · replace hf := ifn hc hf
        refine lv_aload_n hx hb dX2_row_19 rfl (lv_at hl 0 rfl) ?_
        refine lv_iconst (v := 5) hx hb dX2_row_20 (by decide) ?_
        obtain ⟨r21, M21, h21, hf⟩ := bI_some hf
        refine g_calliV X hl.1 hZ hA hW (c_X2_found l D cy ad h21) cw_X2_found ql_X2_90 iO_X2 rfl (by decide) rfl (Nat.le_of_ble_eq_true rfl) dX2_row_21 (fun H locs hW => ?_)
        exact g_iret X hr hlk hQ hW dX2_row_24 hf
    · replace hf := ifn hc hf
      refine lv_iconst (v := (-1)) hx hb dX2_row_13 (by decide) ?_
      exact g_iret X hr hlk hQ hW dX2_row_14 hf

def f_X2_placeOf (v1 : Int32) (v2 : Int32) (M : Mem) : Option Int32 :=
  (grd (inb v1 6) (if 0 ≤ (M.1 1 (ix v1)) then (grd (inb v1 6) (bR (f_X2_in v2 0 ((M.1 1 (ix v1)) - 1) M) (fun r23 => (if r23 = 0 then (some 2) else (some 0))))) else (some 1)))
set_option maxHeartbeats 4000000 in
set_option maxRecDepth 100000 in
theorem c_X2_placeOf (l : Launch) (D : va_G) (cy : Nat → ClassId) (ad : Nat → Nat)   {v1 : Int32} {v2 : Int32} {M : Mem} {r : Int32} (hf : f_X2_placeOf v1 v2 M = some r) : MetX l 20 (CM ad cy) D cy ad yX2_placeOf cX2_placeOf 3 (some .int) 1 [.ref (ad 0), .int v1, .int v2] M (fun A => QI r M 20 (CM ad cy) D cy ad A) := by
  refine MetX.of (own := RX2) (by decide) rfl (Nat.le_of_ble_eq_true rfl) ?_
  intro p e s m below meth c A Q ls X hr hlk hZ hA hQ hW hl
  have hl : lv_has ls 3 [(0, .ref (ad 0)), (1, .int v1), (2, .int v2)] := hl
  have hx := X.1
  have hb := X.2.1
  obtain ⟨H, hH⟩ : ∃ H, H = s.heap := ⟨_, rfl⟩
  obtain ⟨locs, hlo⟩ : ∃ q : List Loc, q = [] := ⟨_, rfl⟩
  have hW : Wd D 20 ad (CM ad cy) A s.heap M H locs := by rw [hH, hlo]; exact hW
  suffices hh : W p l e (rmD 1) s m ([.ref (ad 0), .int v1, .int v2] : List Value).toArray below meth c H locs 0 0 Q (F0 m 0 ls []) by rw [hH, hlo] at hh; exact hh
  unfold f_X2_placeOf at hf
  refine lv_aload_n hx hb dX2_placeOf_0 rfl (lv_at hl 0 rfl) ?_
  refine gf_X2_7 X hW dX2_placeOf_1 ?_
  refine lv_iload_n hx hb dX2_placeOf_4 rfl (lv_at hl 1 rfl) ?_
  obtain ⟨hi5, hf⟩ := grd_some hf
  refine g_iald X hW iM_rowSize hi5 dX2_placeOf_5 ?_
  refine lv_if_ge (tgt := 13) hx hb dX2_placeOf_6 (by decide) (fun hc => ?_) (fun hc => ?_)
  · replace hf := ifp hc hf
    refine lv_iload_n hx hb dX2_placeOf_13 rfl (lv_at hl 2 rfl) ?_
    refine lv_iconst (v := 0) hx hb dX2_placeOf_14 (by decide) ?_
    refine lv_aload_n hx hb dX2_placeOf_15 rfl (lv_at hl 0 rfl) ?_
    refine gf_X2_7 X hW dX2_placeOf_16 ?_
    refine lv_iload_n hx hb dX2_placeOf_19 rfl (lv_at hl 1 rfl) ?_
    obtain ⟨hi20, hf⟩ := grd_some hf
    refine g_iald X hW iM_rowSize hi20 dX2_placeOf_20 ?_
    refine lv_iconst (v := 1) hx hb dX2_placeOf_21 (by decide) ?_
    refine lv_isub hx hb dX2_placeOf_22 ?_
    obtain ⟨r23, h23, hf⟩ := bR_some hf
    refine g_calliS X hl.1 hZ hA hW (c_X2_in l D cy ad h23) cs_X2_in ql_X2_82 rfl (by decide) rfl (Nat.le_of_ble_eq_true rfl) dX2_placeOf_23 (fun H locs hW => ?_)
    refine lv_if_eq (tgt := 33) hx hb dX2_placeOf_26 (by decide) (fun hc => ?_) (fun hc => ?_)
    · replace hf := ifp hc hf
      refine lv_iconst (v := 2) hx hb dX2_placeOf_33 (by decide) ?_
      exact g_iret X hr hlk hQ hW dX2_placeOf_34 (rd_some hf)
    · replace hf := ifn hc hf
      refine lv_iconst (v := 0) hx hb dX2_placeOf_29 (by decide) ?_
      refine lv_goto (tgt := 34) hx hb dX2_placeOf_30 (by decide) ?_
      exact g_iret X hr hlk hQ hW dX2_placeOf_34 (rd_some hf)
  · replace hf := ifn hc hf
    refine lv_iconst (v := 1) hx hb dX2_placeOf_9 (by decide) ?_
    refine lv_goto (tgt := 34) hx hb dX2_placeOf_10 (by decide) ?_
    exact g_iret X hr hlk hQ hW dX2_placeOf_34 (rd_some hf)

def f_X2_lay (v1 : Int32) (v2 : Int32) (v3 : Int32) (M : Mem) : Option (Int32 × Mem) :=
  (bR (f_X2_isRow v1 M) (fun r1 => (if r1 = 0 then (some ((-1), M)) else (bR (f_X2_placeOf v1 v2 M) (fun r12 => (if r12 = 0 then (grd (inb ((40 * v1) + v2) 240) (grd (inb ((40 * v1) + v2) 240) (lt (sI M 2 (ix ((40 * v1) + v2)) v3) (fun M53 => (bI (f_X2_tells (M.1 2 (ix ((40 * v1) + v2))) 1 M53) (fun r58 M58 => (some (r58, M58)))))))) else (bI (f_X2_found r12 M) (fun r25 M25 => (some (r25, M25))))))))))
set_option maxHeartbeats 4000000 in
set_option maxRecDepth 100000 in
theorem c_X2_lay (l : Launch) (D : va_G) (cy : Nat → ClassId) (ad : Nat → Nat)   {v1 : Int32} {v2 : Int32} {v3 : Int32} {M M' : Mem} {r : Int32} (hf : f_X2_lay v1 v2 v3 M = some (r, M')) : MetX l 20 (CM ad cy) D cy ad yX2_lay cX2_lay 6 (some .int) 2 [.ref (ad 0), .int v1, .int v2, .int v3] M (fun A => QI r M' 20 (CM ad cy) D cy ad A) := by
  refine MetX.of (own := RX2) (by decide) rfl (Nat.le_of_ble_eq_true rfl) ?_
  intro p e s m below meth c A Q ls X hr hlk hZ hA hQ hW hl
  have hl : lv_has ls 6 [(0, .ref (ad 0)), (1, .int v1), (2, .int v2), (3, .int v3)] := hl
  have hx := X.1
  have hb := X.2.1
  obtain ⟨H, hH⟩ : ∃ H, H = s.heap := ⟨_, rfl⟩
  obtain ⟨locs, hlo⟩ : ∃ q : List Loc, q = [] := ⟨_, rfl⟩
  have hW : Wd D 20 ad (CM ad cy) A s.heap M H locs := by rw [hH, hlo]; exact hW
  suffices hh : W p l e (rmD 2) s m ([.ref (ad 0), .int v1, .int v2, .int v3] : List Value).toArray below meth c H locs 0 0 Q (F0 m 0 ls []) by rw [hH, hlo] at hh; exact hh
  unfold f_X2_lay at hf
  refine lv_iload_n hx hb dX2_lay_0 rfl (lv_at hl 1 rfl) ?_
  obtain ⟨r1, h1, hf⟩ := bR_some hf
  refine g_calliS X hl.1 hZ hA hW (c_X2_isRow l D cy ad h1) cs_X2_isRow ql_X2_86 rfl (by decide) rfl (Nat.le_of_ble_eq_true rfl) dX2_lay_1 (fun H locs hW => ?_)
  refine lv_if_ne (tgt := 9) hx hb dX2_lay_4 (by decide) (fun hc => ?_) (fun hc => ?_)
  · replace hf := ifn hc hf
    refine lv_aload_n hx hb dX2_lay_9 rfl (lv_at hl 0 rfl) ?_
    refine lv_iload_n hx hb dX2_lay_10 rfl (lv_at hl 1 rfl) ?_
    refine lv_iload_n hx hb dX2_lay_11 rfl (lv_at hl 2 rfl) ?_
    obtain ⟨r12, h12, hf⟩ := bR_some hf
    refine g_calliV X hl.1 hZ hA hW (c_X2_placeOf l D cy ad h12) cw_X2_placeOf ql_X2_98 iO_X2 rfl (by decide) rfl (Nat.le_of_ble_eq_true rfl) dX2_lay_12 (fun H locs hW => ?_)
    refine lv_istore (lv' := [(4, .int r12), (0, .ref (ad 0)), (1, .int v1), (2, .int v2), (3, .int v3)]) hx hb dX2_lay_15 hl (by decide) rfl (fun ls hl => ?_)
    refine lv_iload hx hb dX2_lay_17 (lv_at hl 0 rfl) ?_
    refine lv_if_eq (tgt := 29) hx hb dX2_lay_19 (by decide) (fun hc => ?_) (fun hc => ?_)
    · replace hf := ifp hc hf
      refine lv_aload_n hx hb dX2_lay_29 rfl (lv_at hl 1 rfl) ?_
      refine gf_X2_13 X hW dX2_lay_30 ?_
      refine lv_bipush (v := 40) hx hb dX2_lay_33 (by decide) ?_
      refine lv_iload_n hx hb dX2_lay_35 rfl (lv_at hl 2 rfl) ?_
      refine lv_imul hx hb dX2_lay_36 ?_
      refine lv_iload_n hx hb dX2_lay_37 rfl (lv_at hl 3 rfl) ?_
      refine lv_iadd hx hb dX2_lay_38 ?_
      obtain ⟨hi39, hf⟩ := grd_some hf
      refine g_iald X hW iM_rows hi39 dX2_lay_39 ?_
      refine lv_istore (lv' := [(5, .int (M.1 2 (ix ((40 * v1) + v2)))), (4, .int r12), (0, .ref (ad 0)), (1, .int v1), (2, .int v2), (3, .int v3)]) hx hb dX2_lay_40 hl (by decide) rfl (fun ls hl => ?_)
      refine lv_aload_n hx hb dX2_lay_42 rfl (lv_at hl 2 rfl) ?_
      refine gf_X2_13 X hW dX2_lay_43 ?_
      refine lv_bipush (v := 40) hx hb dX2_lay_46 (by decide) ?_
      refine lv_iload_n hx hb dX2_lay_48 rfl (lv_at hl 3 rfl) ?_
      refine lv_imul hx hb dX2_lay_49 ?_
      refine lv_iload_n hx hb dX2_lay_50 rfl (lv_at hl 4 rfl) ?_
      refine lv_iadd hx hb dX2_lay_51 ?_
      refine lv_iload_n hx hb dX2_lay_52 rfl (lv_at hl 5 rfl) ?_
      obtain ⟨hi53, hf⟩ := grd_some hf
      refine g_iast X hW iM_rows hi53 dX2_lay_53 (fun H locs hW => ?_)
      obtain ⟨M53, e53, hf⟩ := lt_some hf
      have hW : Wd D 20 ad (CM ad cy) A s.heap M53 H locs := by rw [e53]; exact hW
      refine lv_aload_n hx hb dX2_lay_54 rfl (lv_at hl 2 rfl) ?_
      refine lv_iload hx hb dX2_lay_55 (lv_at hl 0 rfl) ?_
      refine lv_iconst (v := 1) hx hb dX2_lay_57 (by decide) ?_
      obtain ⟨r58, M58, h58, hf⟩ := bI_some hf
      refine g_calliV X hl.1 hZ hA hW (c_X2_tells l D cy ad h58) cw_X2_tells ql_X2_102 iO_X2 rfl (by decide) rfl (Nat.le_of_ble_eq_true rfl) dX2_lay_58 (fun H locs hW => ?_)
      exact g_iret X hr hlk hQ hW dX2_lay_61 hf
    · replace hf := ifn hc hf
      refine lv_aload_n hx hb dX2_lay_22 rfl (lv_at hl 1 rfl) ?_
      refine lv_iload hx hb dX2_lay_23 (lv_at hl 0 rfl) ?_
      obtain ⟨r25, M25, h25, hf⟩ := bI_some hf
      refine g_calliV X hl.1 hZ hA hW (c_X2_found l D cy ad h25) cw_X2_found ql_X2_90 iO_X2 rfl (by decide) rfl (Nat.le_of_ble_eq_true rfl) dX2_lay_25 (fun H locs hW => ?_)
      exact g_iret X hr hlk hQ hW dX2_lay_28 hf
  · replace hf := ifp hc hf
    refine lv_iconst (v := (-1)) hx hb dX2_lay_7 (by decide) ?_
    exact g_iret X hr hlk hQ hW dX2_lay_8 hf

def f_X2_at (v1 : Int32) (v2 : Int32) (M : Mem) : Option (Int32 × Mem) :=
  (bR (f_X2_isRow v1 M) (fun r1 => (if r1 = 0 then (some ((-1), M)) else (bR (f_X2_placeOf v1 v2 M) (fun r12 => (if r12 = 0 then (grd (inb ((40 * v1) + v2) 240) (bI (f_X2_tells (M.1 2 (ix ((40 * v1) + v2))) 1 M) (fun r41 M41 => (some (r41, M41))))) else (bI (f_X2_found r12 M) (fun r22 M22 => (some (r22, M22))))))))))
set_option maxHeartbeats 4000000 in
set_option maxRecDepth 100000 in
theorem c_X2_at (l : Launch) (D : va_G) (cy : Nat → ClassId) (ad : Nat → Nat)   {v1 : Int32} {v2 : Int32} {M M' : Mem} {r : Int32} (hf : f_X2_at v1 v2 M = some (r, M')) : MetX l 20 (CM ad cy) D cy ad yX2_at cX2_at 4 (some .int) 2 [.ref (ad 0), .int v1, .int v2] M (fun A => QI r M' 20 (CM ad cy) D cy ad A) := by
  refine MetX.of (own := RX2) (by decide) rfl (Nat.le_of_ble_eq_true rfl) ?_
  intro p e s m below meth c A Q ls X hr hlk hZ hA hQ hW hl
  have hl : lv_has ls 4 [(0, .ref (ad 0)), (1, .int v1), (2, .int v2)] := hl
  have hx := X.1
  have hb := X.2.1
  obtain ⟨H, hH⟩ : ∃ H, H = s.heap := ⟨_, rfl⟩
  obtain ⟨locs, hlo⟩ : ∃ q : List Loc, q = [] := ⟨_, rfl⟩
  have hW : Wd D 20 ad (CM ad cy) A s.heap M H locs := by rw [hH, hlo]; exact hW
  suffices hh : W p l e (rmD 2) s m ([.ref (ad 0), .int v1, .int v2] : List Value).toArray below meth c H locs 0 0 Q (F0 m 0 ls []) by rw [hH, hlo] at hh; exact hh
  unfold f_X2_at at hf
  refine lv_iload_n hx hb dX2_at_0 rfl (lv_at hl 1 rfl) ?_
  obtain ⟨r1, h1, hf⟩ := bR_some hf
  refine g_calliS X hl.1 hZ hA hW (c_X2_isRow l D cy ad h1) cs_X2_isRow ql_X2_86 rfl (by decide) rfl (Nat.le_of_ble_eq_true rfl) dX2_at_1 (fun H locs hW => ?_)
  refine lv_if_ne (tgt := 9) hx hb dX2_at_4 (by decide) (fun hc => ?_) (fun hc => ?_)
  · replace hf := ifn hc hf
    refine lv_aload_n hx hb dX2_at_9 rfl (lv_at hl 0 rfl) ?_
    refine lv_iload_n hx hb dX2_at_10 rfl (lv_at hl 1 rfl) ?_
    refine lv_iload_n hx hb dX2_at_11 rfl (lv_at hl 2 rfl) ?_
    obtain ⟨r12, h12, hf⟩ := bR_some hf
    refine g_calliV X hl.1 hZ hA hW (c_X2_placeOf l D cy ad h12) cw_X2_placeOf ql_X2_98 iO_X2 rfl (by decide) rfl (Nat.le_of_ble_eq_true rfl) dX2_at_12 (fun H locs hW => ?_)
    refine lv_istore_n (lv' := [(3, .int r12), (0, .ref (ad 0)), (1, .int v1), (2, .int v2)]) hx hb dX2_at_15 rfl hl (by decide) rfl (fun ls hl => ?_)
    refine lv_iload_n hx hb dX2_at_16 rfl (lv_at hl 0 rfl) ?_
    refine lv_if_eq (tgt := 28) hx hb dX2_at_17 (by decide) (fun hc => ?_) (fun hc => ?_)
    · replace hf := ifp hc hf
      refine lv_aload_n hx hb dX2_at_28 rfl (lv_at hl 1 rfl) ?_
      refine lv_aload_n hx hb dX2_at_29 rfl (lv_at hl 1 rfl) ?_
      refine gf_X2_13 X hW dX2_at_30 ?_
      refine lv_bipush (v := 40) hx hb dX2_at_33 (by decide) ?_
      refine lv_iload_n hx hb dX2_at_35 rfl (lv_at hl 2 rfl) ?_
      refine lv_imul hx hb dX2_at_36 ?_
      refine lv_iload_n hx hb dX2_at_37 rfl (lv_at hl 3 rfl) ?_
      refine lv_iadd hx hb dX2_at_38 ?_
      obtain ⟨hi39, hf⟩ := grd_some hf
      refine g_iald X hW iM_rows hi39 dX2_at_39 ?_
      refine lv_iconst (v := 1) hx hb dX2_at_40 (by decide) ?_
      obtain ⟨r41, M41, h41, hf⟩ := bI_some hf
      refine g_calliV X hl.1 hZ hA hW (c_X2_tells l D cy ad h41) cw_X2_tells ql_X2_102 iO_X2 rfl (by decide) rfl (Nat.le_of_ble_eq_true rfl) dX2_at_41 (fun H locs hW => ?_)
      exact g_iret X hr hlk hQ hW dX2_at_44 hf
    · replace hf := ifn hc hf
      refine lv_aload_n hx hb dX2_at_20 rfl (lv_at hl 1 rfl) ?_
      refine lv_iload_n hx hb dX2_at_21 rfl (lv_at hl 0 rfl) ?_
      obtain ⟨r22, M22, h22, hf⟩ := bI_some hf
      refine g_calliV X hl.1 hZ hA hW (c_X2_found l D cy ad h22) cw_X2_found ql_X2_90 iO_X2 rfl (by decide) rfl (Nat.le_of_ble_eq_true rfl) dX2_at_22 (fun H locs hW => ?_)
      refine lv_goto (tgt := 44) hx hb dX2_at_25 (by decide) ?_
      exact g_iret X hr hlk hQ hW dX2_at_44 hf
  · replace hf := ifp hc hf
    refine lv_iconst (v := (-1)) hx hb dX2_at_7 (by decide) ?_
    exact g_iret X hr hlk hQ hW dX2_at_8 hf

def f_X2_tear (v1 : Int32) (M : Mem) : Option (Int32 × Mem) :=
  (bR (f_X2_isRow v1 M) (fun r1 => (if r1 = 0 then (some ((-1), M)) else (grd (inb v1 6) (if 0 ≤ (M.1 1 (ix v1)) then (grd (inb v1 6) (lt (sI M 1 (ix v1) (-1)) (fun M30 => (some (1, M30))))) else (bI (f_X2_found 1 M) (fun r20 M20 => (some (r20, M20)))))))))
set_option maxHeartbeats 4000000 in
set_option maxRecDepth 100000 in
theorem c_X2_tear (l : Launch) (D : va_G) (cy : Nat → ClassId) (ad : Nat → Nat)   {v1 : Int32} {M M' : Mem} {r : Int32} (hf : f_X2_tear v1 M = some (r, M')) : MetX l 20 (CM ad cy) D cy ad yX2_tear cX2_tear 2 (some .int) 2 [.ref (ad 0), .int v1] M (fun A => QI r M' 20 (CM ad cy) D cy ad A) := by
  refine MetX.of (own := RX2) (by decide) rfl (Nat.le_of_ble_eq_true rfl) ?_
  intro p e s m below meth c A Q ls X hr hlk hZ hA hQ hW hl
  have hl : lv_has ls 2 [(0, .ref (ad 0)), (1, .int v1)] := hl
  have hx := X.1
  have hb := X.2.1
  obtain ⟨H, hH⟩ : ∃ H, H = s.heap := ⟨_, rfl⟩
  obtain ⟨locs, hlo⟩ : ∃ q : List Loc, q = [] := ⟨_, rfl⟩
  have hW : Wd D 20 ad (CM ad cy) A s.heap M H locs := by rw [hH, hlo]; exact hW
  suffices hh : W p l e (rmD 2) s m ([.ref (ad 0), .int v1] : List Value).toArray below meth c H locs 0 0 Q (F0 m 0 ls []) by rw [hH, hlo] at hh; exact hh
  unfold f_X2_tear at hf
  refine lv_iload_n hx hb dX2_tear_0 rfl (lv_at hl 1 rfl) ?_
  obtain ⟨r1, h1, hf⟩ := bR_some hf
  refine g_calliS X hl.1 hZ hA hW (c_X2_isRow l D cy ad h1) cs_X2_isRow ql_X2_86 rfl (by decide) rfl (Nat.le_of_ble_eq_true rfl) dX2_tear_1 (fun H locs hW => ?_)
  refine lv_if_ne (tgt := 9) hx hb dX2_tear_4 (by decide) (fun hc => ?_) (fun hc => ?_)
  · replace hf := ifn hc hf
    refine lv_aload_n hx hb dX2_tear_9 rfl (lv_at hl 0 rfl) ?_
    refine gf_X2_7 X hW dX2_tear_10 ?_
    refine lv_iload_n hx hb dX2_tear_13 rfl (lv_at hl 1 rfl) ?_
    obtain ⟨hi14, hf⟩ := grd_some hf
    refine g_iald X hW iM_rowSize hi14 dX2_tear_14 ?_
    refine lv_if_ge (tgt := 24) hx hb dX2_tear_15 (by decide) (fun hc => ?_) (fun hc => ?_)
    · replace hf := ifp hc hf
      refine lv_aload_n hx hb dX2_tear_24 rfl (lv_at hl 0 rfl) ?_
      refine gf_X2_7 X hW dX2_tear_25 ?_
      refine lv_iload_n hx hb dX2_tear_28 rfl (lv_at hl 1 rfl) ?_
      refine lv_iconst (v := (-1)) hx hb dX2_tear_29 (by decide) ?_
      obtain ⟨hi30, hf⟩ := grd_some hf
      refine g_iast X hW iM_rowSize hi30 dX2_tear_30 (fun H locs hW => ?_)
      obtain ⟨M30, e30, hf⟩ := lt_some hf
      have hW : Wd D 20 ad (CM ad cy) A s.heap M30 H locs := by rw [e30]; exact hW
      refine lv_iconst (v := 1) hx hb dX2_tear_31 (by decide) ?_
      exact g_iret X hr hlk hQ hW dX2_tear_32 hf
    · replace hf := ifn hc hf
      refine lv_aload_n hx hb dX2_tear_18 rfl (lv_at hl 0 rfl) ?_
      refine lv_iconst (v := 1) hx hb dX2_tear_19 (by decide) ?_
      obtain ⟨r20, M20, h20, hf⟩ := bI_some hf
      refine g_calliV X hl.1 hZ hA hW (c_X2_found l D cy ad h20) cw_X2_found ql_X2_90 iO_X2 rfl (by decide) rfl (Nat.le_of_ble_eq_true rfl) dX2_tear_20 (fun H locs hW => ?_)
      exact g_iret X hr hlk hQ hW dX2_tear_23 hf
  · replace hf := ifp hc hf
    refine lv_iconst (v := (-1)) hx hb dX2_tear_7 (by decide) ?_
    exact g_iret X hr hlk hQ hW dX2_tear_8 hf

def f_X2_copy_L116 (v1_L116 : Int32) (v2_L116 : Int32) (v3_L116 : Int32) (v4_L116 : Int32) (v5_L116 : Int32) (v6_L116 : Int32) : Nat → Int32 → Mem → Option (Int32 × Mem)
  | 0, _, _ => none
  | n + 1, v7_L116, M_L116 => (if v5_L116 ≤ v7_L116 then (some (1, M_L116)) else (jn (fun (k140 : Int32 → Option (Int32 × Mem)) => (if v6_L116 = 0 then (k140 v7_L116) else (k140 ((v5_L116 - 1) - v7_L116)))) (fun (t0_140j : Int32) => (grd (inb (((40 * v1_L116) + v2_L116) + t0_140j) 240) (grd (inb (((40 * v3_L116) + v4_L116) + t0_140j) 240) (lt (sI M_L116 2 (ix (((40 * v3_L116) + v4_L116) + t0_140j)) (M_L116.1 2 (ix (((40 * v1_L116) + v2_L116) + t0_140j)))) (fun M170 => (f_X2_copy_L116 v1_L116 v2_L116 v3_L116 v4_L116 v5_L116 v6_L116 n (v7_L116 + 1) M170))))))))
def f_X2_copy (v1 : Int32) (v2 : Int32) (v3 : Int32) (v4 : Int32) (v5 : Int32) (M : Mem) : Option (Int32 × Mem) :=
  (bR (f_X2_isRow v1 M) (fun r1 => (if r1 = 0 then (some ((-1), M)) else (bR (f_X2_isRow v3 M) (fun r8 => (if r8 = 0 then (some ((-1), M)) else (if 0 ≤ v5 then (grd (inb v1 6) (jn (fun (k45 : Option (Int32 × Mem)) => (if (M.1 1 (ix v1)) < 0 then k45 else (grd (inb v3 6) (if 0 ≤ (M.1 1 (ix v3)) then (jn (fun (k94 : Option (Int32 × Mem)) => (if v2 < 0 then k94 else (if v4 < 0 then k94 else (if 40 < v5 then k94 else (grd (inb v1 6) (if ((M.1 1 (ix v1)) - v5) < v2 then k94 else (grd (inb v3 6) (if v4 ≤ ((M.1 1 (ix v3)) - v5) then (jn (fun (k111 : Int32 → Option (Int32 × Mem)) => (if v4 ≤ v2 then (k111 0) else (k111 1))) (fun (t0_111j : Int32) => (f_X2_copy_L116 v1 v2 v3 v4 v5 t0_111j FU 0 M))) else k94)))))))) ((bI (f_X2_found 2 M) (fun r96 M96 => (some (r96, M96)))))) else k45)))) ((bI (f_X2_found 1 M) (fun r47 M47 => (some (r47, M47))))))) else (bI (f_X2_found 5 M) (fun r23 M23 => (some (r23, M23)))))))))))
set_option maxHeartbeats 4000000 in
set_option maxRecDepth 100000 in
theorem c_X2_copy (l : Launch) (D : va_G) (cy : Nat → ClassId) (ad : Nat → Nat)   {v1 : Int32} {v2 : Int32} {v3 : Int32} {v4 : Int32} {v5 : Int32} {M M' : Mem} {r : Int32} (hf : f_X2_copy v1 v2 v3 v4 v5 M = some (r, M')) : MetX l 20 (CM ad cy) D cy ad yX2_copy cX2_copy 9 (some .int) 2 [.ref (ad 0), .int v1, .int v2, .int v3, .int v4, .int v5] M (fun A => QI r M' 20 (CM ad cy) D cy ad A) := by
  refine MetX.of (own := RX2) (by decide) rfl (Nat.le_of_ble_eq_true rfl) ?_
  intro p e s m below meth c A Q ls X hr hlk hZ hA hQ hW hl
  have hl : lv_has ls 9 [(0, .ref (ad 0)), (1, .int v1), (2, .int v2), (3, .int v3), (4, .int v4), (5, .int v5)] := hl
  have hx := X.1
  have hb := X.2.1
  have hL116 : ∀ (v1_L116 : Int32) (v2_L116 : Int32) (v3_L116 : Int32) (v4_L116 : Int32) (v5_L116 : Int32) (v6_L116 : Int32)  (n : Nat) (v7_L116 : Int32) (M_L116 : Mem) (H : Heap) (locs : List Loc) (ls : Array Slot), f_X2_copy_L116 v1_L116 v2_L116 v3_L116 v4_L116 v5_L116 v6_L116 n v7_L116 M_L116 = some (r, M') → Wd D 20 ad (CM ad cy) A s.heap M_L116 H locs → lv_has ls 9 [(0, .ref (ad 0)), (1, .int v1_L116), (2, .int v2_L116), (3, .int v3_L116), (4, .int v4_L116), (5, .int v5_L116), (6, .int v6_L116), (7, .int v7_L116)] → W p l e (rmD 2) s m ([.ref (ad 0), .int v1, .int v2, .int v3, .int v4, .int v5] : List Value).toArray below meth c H locs 0 0 Q (F0 m 116 ls []) := by
    intro v1_L116 v2_L116 v3_L116 v4_L116 v5_L116 v6_L116 n
    induction n with
    | zero =>
      intro v7_L116 M_L116 H locs ls hf
      cases (show (none : Option (Int32 × Mem)) = some (r, M') from hf)
    | succ n ih =>
      intro v7_L116 M_L116 H locs ls hf hW hl
      rw [f_X2_copy_L116] at hf
      refine lv_iload hx hb dX2_copy_116 (lv_at hl 7 rfl) ?_
      refine lv_iload hx hb dX2_copy_118 (lv_at hl 5 rfl) ?_
      refine lv_icmp_ge (tgt := 177) hx hb dX2_copy_120 (by decide) (fun hc => ?_) (fun hc => ?_)
      · replace hf := ifp hc hf
        refine lv_iconst (v := 1) hx hb dX2_copy_177 (by decide) ?_
        exact g_iret X hr hlk hQ hW dX2_copy_178 hf
      · replace hf := ifn hc hf
        refine lv_iload hx hb dX2_copy_123 (lv_at hl 6 rfl) ?_
        obtain ⟨k140, hk140, hf⟩ := jn_some1 hf
        have hJ140 : ∀ (t0_140j : Int32) (H : Heap) (locs : List Loc) (ls : Array Slot), k140 t0_140j = some (r, M') → Wd D 20 ad (CM ad cy) A s.heap M_L116 H locs → lv_has ls 9 [(0, .ref (ad 0)), (1, .int v1_L116), (2, .int v2_L116), (3, .int v3_L116), (4, .int v4_L116), (5, .int v5_L116), (6, .int v6_L116), (7, .int v7_L116)] → W p l e (rmD 2) s m ([.ref (ad 0), .int v1, .int v2, .int v3, .int v4, .int v5] : List Value).toArray below meth c H locs 0 0 Q (F0 m 140 ls [.int t0_140j]) := by
          intro t0_140j H locs ls hf hW hl
          rw [hk140] at hf
          refine lv_istore (lv' := [(8, .int t0_140j), (0, .ref (ad 0)), (1, .int v1_L116), (2, .int v2_L116), (3, .int v3_L116), (4, .int v4_L116), (5, .int v5_L116), (6, .int v6_L116), (7, .int v7_L116)]) hx hb dX2_copy_140 hl (by decide) rfl (fun ls hl => ?_)
          refine lv_aload_n hx hb dX2_copy_142 rfl (lv_at hl 1 rfl) ?_
          refine gf_X2_13 X hW dX2_copy_143 ?_
          refine lv_bipush (v := 40) hx hb dX2_copy_146 (by decide) ?_
          refine lv_iload_n hx hb dX2_copy_148 rfl (lv_at hl 4 rfl) ?_
          refine lv_imul hx hb dX2_copy_149 ?_
          refine lv_iload hx hb dX2_copy_150 (lv_at hl 5 rfl) ?_
          refine lv_iadd hx hb dX2_copy_152 ?_
          refine lv_iload hx hb dX2_copy_153 (lv_at hl 0 rfl) ?_
          refine lv_iadd hx hb dX2_copy_155 ?_
          refine lv_aload_n hx hb dX2_copy_156 rfl (lv_at hl 1 rfl) ?_
          refine gf_X2_13 X hW dX2_copy_157 ?_
          refine lv_bipush (v := 40) hx hb dX2_copy_160 (by decide) ?_
          refine lv_iload_n hx hb dX2_copy_162 rfl (lv_at hl 2 rfl) ?_
          refine lv_imul hx hb dX2_copy_163 ?_
          refine lv_iload_n hx hb dX2_copy_164 rfl (lv_at hl 3 rfl) ?_
          refine lv_iadd hx hb dX2_copy_165 ?_
          refine lv_iload hx hb dX2_copy_166 (lv_at hl 0 rfl) ?_
          refine lv_iadd hx hb dX2_copy_168 ?_
          obtain ⟨hi169, hf⟩ := grd_some hf
          refine g_iald X hW iM_rows hi169 dX2_copy_169 ?_
          obtain ⟨hi170, hf⟩ := grd_some hf
          refine g_iast X hW iM_rows hi170 dX2_copy_170 (fun H locs hW => ?_)
          obtain ⟨M170, e170, hf⟩ := lt_some hf
          have hW : Wd D 20 ad (CM ad cy) A s.heap M170 H locs := by rw [e170]; exact hW
          refine lv_iinc (v := (v7_L116 + 1)) (lv' := [(7, .int (v7_L116 + 1)), (8, .int t0_140j), (0, .ref (ad 0)), (1, .int v1_L116), (2, .int v2_L116), (3, .int v3_L116), (4, .int v4_L116), (5, .int v5_L116), (6, .int v6_L116)]) hx hb dX2_copy_171 hl (k := 8) rfl rfl (by decide) rfl (fun ls hl => ?_)
          refine lv_goto (tgt := 116) hx hb dX2_copy_174 (by decide) ?_
          exact ih (v7_L116 + 1) M170 H locs ls hf hW (lv_sub hl [2, 3, 4, 5, 6, 7, 8, 0] rfl)
        refine lv_if_eq (tgt := 138) hx hb dX2_copy_125 (by decide) (fun hc => ?_) (fun hc => ?_)
        · replace hf := ifp hc hf
          refine lv_iload hx hb dX2_copy_138 (lv_at hl 7 rfl) ?_
          exact hJ140 v7_L116 H locs ls hf hW (lv_sub hl [0, 1, 2, 3, 4, 5, 6, 7] rfl)
        · replace hf := ifn hc hf
          refine lv_iload hx hb dX2_copy_128 (lv_at hl 5 rfl) ?_
          refine lv_iconst (v := 1) hx hb dX2_copy_130 (by decide) ?_
          refine lv_isub hx hb dX2_copy_131 ?_
          refine lv_iload hx hb dX2_copy_132 (lv_at hl 7 rfl) ?_
          refine lv_isub hx hb dX2_copy_134 ?_
          refine lv_goto (tgt := 140) hx hb dX2_copy_135 (by decide) ?_
          exact hJ140 ((v5_L116 - 1) - v7_L116) H locs ls hf hW (lv_sub hl [0, 1, 2, 3, 4, 5, 6, 7] rfl)
  obtain ⟨H, hH⟩ : ∃ H, H = s.heap := ⟨_, rfl⟩
  obtain ⟨locs, hlo⟩ : ∃ q : List Loc, q = [] := ⟨_, rfl⟩
  have hW : Wd D 20 ad (CM ad cy) A s.heap M H locs := by rw [hH, hlo]; exact hW
  suffices hh : W p l e (rmD 2) s m ([.ref (ad 0), .int v1, .int v2, .int v3, .int v4, .int v5] : List Value).toArray below meth c H locs 0 0 Q (F0 m 0 ls []) by rw [hH, hlo] at hh; exact hh
  unfold f_X2_copy at hf
  refine lv_iload_n hx hb dX2_copy_0 rfl (lv_at hl 1 rfl) ?_
  obtain ⟨r1, h1, hf⟩ := bR_some hf
  refine g_calliS X hl.1 hZ hA hW (c_X2_isRow l D cy ad h1) cs_X2_isRow ql_X2_86 rfl (by decide) rfl (Nat.le_of_ble_eq_true rfl) dX2_copy_1 (fun H locs hW => ?_)
  refine lv_if_eq (tgt := 14) hx hb dX2_copy_4 (by decide) (fun hc => ?_) (fun hc => ?_)
  · replace hf := ifp hc hf
    refine lv_iconst (v := (-1)) hx hb dX2_copy_14 (by decide) ?_
    exact g_iret X hr hlk hQ hW dX2_copy_15 hf
  · replace hf := ifn hc hf
    refine lv_iload_n hx hb dX2_copy_7 rfl (lv_at hl 3 rfl) ?_
    obtain ⟨r8, h8, hf⟩ := bR_some hf
    refine g_calliS X hl.1 hZ hA hW (c_X2_isRow l D cy ad h8) cs_X2_isRow ql_X2_86 rfl (by decide) rfl (Nat.le_of_ble_eq_true rfl) dX2_copy_8 (fun H locs hW => ?_)
    refine lv_if_ne (tgt := 16) hx hb dX2_copy_11 (by decide) (fun hc => ?_) (fun hc => ?_)
    · replace hf := ifn hc hf
      refine lv_iload hx hb dX2_copy_16 (lv_at hl 5 rfl) ?_
      refine lv_if_ge (tgt := 27) hx hb dX2_copy_18 (by decide) (fun hc => ?_) (fun hc => ?_)
      · replace hf := ifp hc hf
        refine lv_aload_n hx hb dX2_copy_27 rfl (lv_at hl 0 rfl) ?_
        refine gf_X2_7 X hW dX2_copy_28 ?_
        refine lv_iload_n hx hb dX2_copy_31 rfl (lv_at hl 1 rfl) ?_
        obtain ⟨hi32, hf⟩ := grd_some hf
        refine g_iald X hW iM_rowSize hi32 dX2_copy_32 ?_
        obtain ⟨k45, hk45, hf⟩ := jn_some0 hf
        have hJ45 : ∀  (H : Heap) (locs : List Loc) (ls : Array Slot), k45 = some (r, M') → Wd D 20 ad (CM ad cy) A s.heap M H locs → lv_has ls 9 [(0, .ref (ad 0))] → W p l e (rmD 2) s m ([.ref (ad 0), .int v1, .int v2, .int v3, .int v4, .int v5] : List Value).toArray below meth c H locs 0 0 Q (F0 m 45 ls []) := by
          intro  H locs ls hf hW hl
          rw [hk45] at hf
          refine lv_aload_n hx hb dX2_copy_45 rfl (lv_at hl 0 rfl) ?_
          refine lv_iconst (v := 1) hx hb dX2_copy_46 (by decide) ?_
          obtain ⟨r47, M47, h47, hf⟩ := bI_some hf
          refine g_calliV X hl.1 hZ hA hW (c_X2_found l D cy ad h47) cw_X2_found ql_X2_90 iO_X2 rfl (by decide) rfl (Nat.le_of_ble_eq_true rfl) dX2_copy_47 (fun H locs hW => ?_)
          exact g_iret X hr hlk hQ hW dX2_copy_50 hf
        refine lv_if_lt (tgt := 45) hx hb dX2_copy_33 (by decide) (fun hc => ?_) (fun hc => ?_)
        · replace hf := ifp hc hf
          exact hJ45  H locs ls hf hW (lv_sub hl [0] rfl)
        · replace hf := ifn hc hf
          refine lv_aload_n hx hb dX2_copy_36 rfl (lv_at hl 0 rfl) ?_
          refine gf_X2_7 X hW dX2_copy_37 ?_
          refine lv_iload_n hx hb dX2_copy_40 rfl (lv_at hl 3 rfl) ?_
          obtain ⟨hi41, hf⟩ := grd_some hf
          refine g_iald X hW iM_rowSize hi41 dX2_copy_41 ?_
          refine lv_if_ge (tgt := 51) hx hb dX2_copy_42 (by decide) (fun hc => ?_) (fun hc => ?_)
          · replace hf := ifp hc hf
            refine lv_iload_n hx hb dX2_copy_51 rfl (lv_at hl 2 rfl) ?_
            obtain ⟨k94, hk94, hf⟩ := jn_some0 hf
            have hJ94 : ∀  (H : Heap) (locs : List Loc) (ls : Array Slot), k94 = some (r, M') → Wd D 20 ad (CM ad cy) A s.heap M H locs → lv_has ls 9 [(0, .ref (ad 0))] → W p l e (rmD 2) s m ([.ref (ad 0), .int v1, .int v2, .int v3, .int v4, .int v5] : List Value).toArray below meth c H locs 0 0 Q (F0 m 94 ls []) := by
              intro  H locs ls hf hW hl
              rw [hk94] at hf
              refine lv_aload_n hx hb dX2_copy_94 rfl (lv_at hl 0 rfl) ?_
              refine lv_iconst (v := 2) hx hb dX2_copy_95 (by decide) ?_
              obtain ⟨r96, M96, h96, hf⟩ := bI_some hf
              refine g_calliV X hl.1 hZ hA hW (c_X2_found l D cy ad h96) cw_X2_found ql_X2_90 iO_X2 rfl (by decide) rfl (Nat.le_of_ble_eq_true rfl) dX2_copy_96 (fun H locs hW => ?_)
              exact g_iret X hr hlk hQ hW dX2_copy_99 hf
            refine lv_if_lt (tgt := 94) hx hb dX2_copy_52 (by decide) (fun hc => ?_) (fun hc => ?_)
            · replace hf := ifp hc hf
              exact hJ94  H locs ls hf hW (lv_sub hl [0] rfl)
            · replace hf := ifn hc hf
              refine lv_iload hx hb dX2_copy_55 (lv_at hl 4 rfl) ?_
              refine lv_if_lt (tgt := 94) hx hb dX2_copy_57 (by decide) (fun hc => ?_) (fun hc => ?_)
              · replace hf := ifp hc hf
                exact hJ94  H locs ls hf hW (lv_sub hl [0] rfl)
              · replace hf := ifn hc hf
                refine lv_iload hx hb dX2_copy_60 (lv_at hl 5 rfl) ?_
                refine lv_bipush (v := 40) hx hb dX2_copy_62 (by decide) ?_
                refine lv_icmp_gt (tgt := 94) hx hb dX2_copy_64 (by decide) (fun hc => ?_) (fun hc => ?_)
                · replace hf := ifp hc hf
                  exact hJ94  H locs ls hf hW (lv_sub hl [0] rfl)
                · replace hf := ifn hc hf
                  refine lv_iload_n hx hb dX2_copy_67 rfl (lv_at hl 2 rfl) ?_
                  refine lv_aload_n hx hb dX2_copy_68 rfl (lv_at hl 0 rfl) ?_
                  refine gf_X2_7 X hW dX2_copy_69 ?_
                  refine lv_iload_n hx hb dX2_copy_72 rfl (lv_at hl 1 rfl) ?_
                  obtain ⟨hi73, hf⟩ := grd_some hf
                  refine g_iald X hW iM_rowSize hi73 dX2_copy_73 ?_
                  refine lv_iload hx hb dX2_copy_74 (lv_at hl 5 rfl) ?_
                  refine lv_isub hx hb dX2_copy_76 ?_
                  refine lv_icmp_gt (tgt := 94) hx hb dX2_copy_77 (by decide) (fun hc => ?_) (fun hc => ?_)
                  · replace hf := ifp hc hf
                    exact hJ94  H locs ls hf hW (lv_sub hl [0] rfl)
                  · replace hf := ifn hc hf
                    refine lv_iload hx hb dX2_copy_80 (lv_at hl 4 rfl) ?_
                    refine lv_aload_n hx hb dX2_copy_82 rfl (lv_at hl 0 rfl) ?_
                    refine gf_X2_7 X hW dX2_copy_83 ?_
                    refine lv_iload_n hx hb dX2_copy_86 rfl (lv_at hl 3 rfl) ?_
                    obtain ⟨hi87, hf⟩ := grd_some hf
                    refine g_iald X hW iM_rowSize hi87 dX2_copy_87 ?_
                    refine lv_iload hx hb dX2_copy_88 (lv_at hl 5 rfl) ?_
                    refine lv_isub hx hb dX2_copy_90 ?_
                    refine lv_icmp_le (tgt := 100) hx hb dX2_copy_91 (by decide) (fun hc => ?_) (fun hc => ?_)
                    · replace hf := ifp hc hf
                      refine lv_iload hx hb dX2_copy_100 (lv_at hl 4 rfl) ?_
                      refine lv_iload_n hx hb dX2_copy_102 rfl (lv_at hl 2 rfl) ?_
                      obtain ⟨k111, hk111, hf⟩ := jn_some1 hf
                      have hJ111 : ∀ (t0_111j : Int32) (H : Heap) (locs : List Loc) (ls : Array Slot), k111 t0_111j = some (r, M') → Wd D 20 ad (CM ad cy) A s.heap M H locs → lv_has ls 9 [(0, .ref (ad 0)), (1, .int v1), (2, .int v2), (3, .int v3), (4, .int v4), (5, .int v5)] → W p l e (rmD 2) s m ([.ref (ad 0), .int v1, .int v2, .int v3, .int v4, .int v5] : List Value).toArray below meth c H locs 0 0 Q (F0 m 111 ls [.int t0_111j]) := by
                        intro t0_111j H locs ls hf hW hl
                        rw [hk111] at hf
                        refine lv_istore (lv' := [(6, .int t0_111j), (0, .ref (ad 0)), (1, .int v1), (2, .int v2), (3, .int v3), (4, .int v4), (5, .int v5)]) hx hb dX2_copy_111 hl (by decide) rfl (fun ls hl => ?_)
                        refine lv_iconst (v := 0) hx hb dX2_copy_113 (by decide) ?_
                        refine lv_istore (lv' := [(7, .int 0), (6, .int t0_111j), (0, .ref (ad 0)), (1, .int v1), (2, .int v2), (3, .int v3), (4, .int v4), (5, .int v5)]) hx hb dX2_copy_114 hl (by decide) rfl (fun ls hl => ?_)
                        exact hL116 v1 v2 v3 v4 v5 t0_111j FU 0 M H locs ls hf hW (lv_sub hl [2, 3, 4, 5, 6, 7, 1, 0] rfl)
                      refine lv_icmp_le (tgt := 110) hx hb dX2_copy_103 (by decide) (fun hc => ?_) (fun hc => ?_)
                      · replace hf := ifp hc hf
                        refine lv_iconst (v := 0) hx hb dX2_copy_110 (by decide) ?_
                        exact hJ111 0 H locs ls hf hW (lv_sub hl [0, 1, 2, 3, 4, 5] rfl)
                      · replace hf := ifn hc hf
                        refine lv_iconst (v := 1) hx hb dX2_copy_106 (by decide) ?_
                        refine lv_goto (tgt := 111) hx hb dX2_copy_107 (by decide) ?_
                        exact hJ111 1 H locs ls hf hW (lv_sub hl [0, 1, 2, 3, 4, 5] rfl)
                    · replace hf := ifn hc hf
                      exact hJ94  H locs ls hf hW (lv_sub hl [0] rfl)
          · replace hf := ifn hc hf
            exact hJ45  H locs ls hf hW (lv_sub hl [0] rfl)
      · replace hf := ifn hc hf
        refine lv_aload_n hx hb dX2_copy_21 rfl (lv_at hl 0 rfl) ?_
        refine lv_iconst (v := 5) hx hb dX2_copy_22 (by decide) ?_
        obtain ⟨r23, M23, h23, hf⟩ := bI_some hf
        refine g_calliV X hl.1 hZ hA hW (c_X2_found l D cy ad h23) cw_X2_found ql_X2_90 iO_X2 rfl (by decide) rfl (Nat.le_of_ble_eq_true rfl) dX2_copy_23 (fun H locs hW => ?_)
        exact g_iret X hr hlk hQ hW dX2_copy_26 hf
    · replace hf := ifp hc hf
      refine lv_iconst (v := (-1)) hx hb dX2_copy_14 (by decide) ?_
      exact g_iret X hr hlk hQ hW dX2_copy_15 hf

def f_X2_mean_L44 (v1_L44 : Int32) (M_L44 : Mem) (k77 : Int64 → Option (Int32 × Mem)) : Nat → Int64 → Int32 → Option (Int32 × Mem)
  | 0, _, _ => none
  | n + 1, v2_L44, v4_L44 => (grd (inb v1_L44 6) (if (M_L44.1 1 (ix v1_L44)) ≤ v4_L44 then (k77 v2_L44) else (grd (inb ((40 * v1_L44) + v4_L44) 240) (f_X2_mean_L44 v1_L44 M_L44 k77 n (v2_L44 + ((M_L44.1 2 (ix ((40 * v1_L44) + v4_L44)))).toInt64) (v4_L44 + 1)))))
def f_X2_mean (v1 : Int32) (M : Mem) : Option (Int32 × Mem) :=
  (bR (f_X2_isRow v1 M) (fun r1 => (if r1 = 0 then (some ((-1), M)) else (grd (inb v1 6) (if 0 ≤ (M.1 1 (ix v1)) then (grd (inb v1 6) (if (M.1 1 (ix v1)) = 0 then (bI (f_X2_found 4 M) (fun r35 M35 => (some (r35, M35)))) else (jn (fun (k77 : Int64 → Option (Int32 × Mem)) => (f_X2_mean_L44 v1 M k77 FU 0 0)) (fun (v2_77x : Int64) => (grd (inb v1 6) (grd (nzL ((M.1 1 (ix v1))).toInt64) (bI (f_X2_tells ((v2_77x / ((M.1 1 (ix v1))).toInt64)).toInt32 1 M) (fun r89 M89 => (some (r89, M89)))))))))) else (bI (f_X2_found 1 M) (fun r20 M20 => (some (r20, M20)))))))))
set_option maxHeartbeats 4000000 in
set_option maxRecDepth 100000 in
theorem c_X2_mean (l : Launch) (D : va_G) (cy : Nat → ClassId) (ad : Nat → Nat)   {v1 : Int32} {M M' : Mem} {r : Int32} (hf : f_X2_mean v1 M = some (r, M')) : MetX l 20 (CM ad cy) D cy ad yX2_mean cX2_mean 5 (some .int) 2 [.ref (ad 0), .int v1] M (fun A => QI r M' 20 (CM ad cy) D cy ad A) := by
  refine MetX.of (own := RX2) (by decide) rfl (Nat.le_of_ble_eq_true rfl) ?_
  intro p e s m below meth c A Q ls X hr hlk hZ hA hQ hW hl
  have hl : lv_has ls 5 [(0, .ref (ad 0)), (1, .int v1)] := hl
  have hx := X.1
  have hb := X.2.1
  have hL44 : ∀ (v1_L44 : Int32) (M_L44 : Mem) (k77 : Int64 → Option (Int32 × Mem)) (hJ77 : ∀ (v2_77x : Int64) (H : Heap) (locs : List Loc) (ls : Array Slot), k77 v2_77x = some (r, M') → Wd D 20 ad (CM ad cy) A s.heap M_L44 H locs → lv_has ls 5 [(0, .ref (ad 0)), (1, .int v1_L44), (2, .long v2_77x)] → W p l e (rmD 2) s m ([.ref (ad 0), .int v1] : List Value).toArray below meth c H locs 0 0 Q (F0 m 77 ls [])) (n : Nat) (v2_L44 : Int64) (v4_L44 : Int32) (H : Heap) (locs : List Loc) (ls : Array Slot), f_X2_mean_L44 v1_L44 M_L44 k77 n v2_L44 v4_L44 = some (r, M') → Wd D 20 ad (CM ad cy) A s.heap M_L44 H locs → lv_has ls 5 [(0, .ref (ad 0)), (1, .int v1_L44), (2, .long v2_L44), (4, .int v4_L44)] → W p l e (rmD 2) s m ([.ref (ad 0), .int v1] : List Value).toArray below meth c H locs 0 0 Q (F0 m 44 ls []) := by
    intro v1_L44 M_L44 k77 hJ77 n
    induction n with
    | zero =>
      intro v2_L44 v4_L44 H locs ls hf
      cases (show (none : Option (Int32 × Mem)) = some (r, M') from hf)
    | succ n ih =>
      intro v2_L44 v4_L44 H locs ls hf hW hl
      rw [f_X2_mean_L44] at hf
      refine lv_iload hx hb dX2_mean_44 (lv_at hl 3 rfl) ?_
      refine lv_aload_n hx hb dX2_mean_46 rfl (lv_at hl 0 rfl) ?_
      refine gf_X2_7 X hW dX2_mean_47 ?_
      refine lv_iload_n hx hb dX2_mean_50 rfl (lv_at hl 1 rfl) ?_
      obtain ⟨hi51, hf⟩ := grd_some hf
      refine g_iald X hW iM_rowSize hi51 dX2_mean_51 ?_
      refine lv_icmp_ge (tgt := 77) hx hb dX2_mean_52 (by decide) (fun hc => ?_) (fun hc => ?_)
      · replace hf := ifp hc hf
        exact hJ77 v2_L44 H locs ls hf hW (lv_sub hl [0, 1, 2] rfl)
      · replace hf := ifn hc hf
        refine lv_lload_n hx hb dX2_mean_55 rfl (lv_at hl 2 rfl) ?_
        refine lv_aload_n hx hb dX2_mean_56 rfl (lv_at hl 0 rfl) ?_
        refine gf_X2_13 X hW dX2_mean_57 ?_
        refine lv_bipush (v := 40) hx hb dX2_mean_60 (by decide) ?_
        refine lv_iload_n hx hb dX2_mean_62 rfl (lv_at hl 1 rfl) ?_
        refine lv_imul hx hb dX2_mean_63 ?_
        refine lv_iload hx hb dX2_mean_64 (lv_at hl 3 rfl) ?_
        refine lv_iadd hx hb dX2_mean_66 ?_
        obtain ⟨hi67, hf⟩ := grd_some hf
        refine g_iald X hW iM_rows hi67 dX2_mean_67 ?_
        refine lv_i2l (v := ((M_L44.1 2 (ix ((40 * v1_L44) + v4_L44)))).toInt64) hx hb dX2_mean_68 rfl ?_
        refine lv_ladd hx hb dX2_mean_69 ?_
        refine lv_lstore_n (lv' := [(2, .long (v2_L44 + ((M_L44.1 2 (ix ((40 * v1_L44) + v4_L44)))).toInt64)), (0, .ref (ad 0)), (1, .int v1_L44), (4, .int v4_L44)]) hx hb dX2_mean_70 rfl hl (by decide) rfl (fun ls hl => ?_)
        refine lv_iinc (v := (v4_L44 + 1)) (lv' := [(4, .int (v4_L44 + 1)), (2, .long (v2_L44 + ((M_L44.1 2 (ix ((40 * v1_L44) + v4_L44)))).toInt64)), (0, .ref (ad 0)), (1, .int v1_L44)]) hx hb dX2_mean_71 hl (k := 3) rfl rfl (by decide) rfl (fun ls hl => ?_)
        refine lv_goto (tgt := 44) hx hb dX2_mean_74 (by decide) ?_
        exact ih (v2_L44 + ((M_L44.1 2 (ix ((40 * v1_L44) + v4_L44)))).toInt64) (v4_L44 + 1) H locs ls hf hW (lv_sub hl [2, 3, 1, 0] rfl)
  obtain ⟨H, hH⟩ : ∃ H, H = s.heap := ⟨_, rfl⟩
  obtain ⟨locs, hlo⟩ : ∃ q : List Loc, q = [] := ⟨_, rfl⟩
  have hW : Wd D 20 ad (CM ad cy) A s.heap M H locs := by rw [hH, hlo]; exact hW
  suffices hh : W p l e (rmD 2) s m ([.ref (ad 0), .int v1] : List Value).toArray below meth c H locs 0 0 Q (F0 m 0 ls []) by rw [hH, hlo] at hh; exact hh
  unfold f_X2_mean at hf
  refine lv_iload_n hx hb dX2_mean_0 rfl (lv_at hl 1 rfl) ?_
  obtain ⟨r1, h1, hf⟩ := bR_some hf
  refine g_calliS X hl.1 hZ hA hW (c_X2_isRow l D cy ad h1) cs_X2_isRow ql_X2_86 rfl (by decide) rfl (Nat.le_of_ble_eq_true rfl) dX2_mean_1 (fun H locs hW => ?_)
  refine lv_if_ne (tgt := 9) hx hb dX2_mean_4 (by decide) (fun hc => ?_) (fun hc => ?_)
  · replace hf := ifn hc hf
    refine lv_aload_n hx hb dX2_mean_9 rfl (lv_at hl 0 rfl) ?_
    refine gf_X2_7 X hW dX2_mean_10 ?_
    refine lv_iload_n hx hb dX2_mean_13 rfl (lv_at hl 1 rfl) ?_
    obtain ⟨hi14, hf⟩ := grd_some hf
    refine g_iald X hW iM_rowSize hi14 dX2_mean_14 ?_
    refine lv_if_ge (tgt := 24) hx hb dX2_mean_15 (by decide) (fun hc => ?_) (fun hc => ?_)
    · replace hf := ifp hc hf
      refine lv_aload_n hx hb dX2_mean_24 rfl (lv_at hl 0 rfl) ?_
      refine gf_X2_7 X hW dX2_mean_25 ?_
      refine lv_iload_n hx hb dX2_mean_28 rfl (lv_at hl 1 rfl) ?_
      obtain ⟨hi29, hf⟩ := grd_some hf
      refine g_iald X hW iM_rowSize hi29 dX2_mean_29 ?_
      refine lv_if_ne (tgt := 39) hx hb dX2_mean_30 (by decide) (fun hc => ?_) (fun hc => ?_)
      · replace hf := ifn hc hf
        refine lv_lconst (v := 0) hx hb dX2_mean_39 (by decide) ?_
        refine lv_lstore_n (lv' := [(2, .long 0), (0, .ref (ad 0)), (1, .int v1)]) hx hb dX2_mean_40 rfl hl (by decide) rfl (fun ls hl => ?_)
        refine lv_iconst (v := 0) hx hb dX2_mean_41 (by decide) ?_
        refine lv_istore (lv' := [(4, .int 0), (2, .long 0), (0, .ref (ad 0)), (1, .int v1)]) hx hb dX2_mean_42 hl (by decide) rfl (fun ls hl => ?_)
        obtain ⟨k77, hk77, hf⟩ := jn_some1 hf
        have hJ77 : ∀ (v2_77x : Int64) (H : Heap) (locs : List Loc) (ls : Array Slot), k77 v2_77x = some (r, M') → Wd D 20 ad (CM ad cy) A s.heap M H locs → lv_has ls 5 [(0, .ref (ad 0)), (1, .int v1), (2, .long v2_77x)] → W p l e (rmD 2) s m ([.ref (ad 0), .int v1] : List Value).toArray below meth c H locs 0 0 Q (F0 m 77 ls []) := by
          intro v2_77x H locs ls hf hW hl
          rw [hk77] at hf
          refine lv_aload_n hx hb dX2_mean_77 rfl (lv_at hl 0 rfl) ?_
          refine lv_lload_n hx hb dX2_mean_78 rfl (lv_at hl 2 rfl) ?_
          refine lv_aload_n hx hb dX2_mean_79 rfl (lv_at hl 0 rfl) ?_
          refine gf_X2_7 X hW dX2_mean_80 ?_
          refine lv_iload_n hx hb dX2_mean_83 rfl (lv_at hl 1 rfl) ?_
          obtain ⟨hi84, hf⟩ := grd_some hf
          refine g_iald X hW iM_rowSize hi84 dX2_mean_84 ?_
          refine lv_i2l (v := ((M.1 1 (ix v1))).toInt64) hx hb dX2_mean_85 rfl ?_
          obtain ⟨hz86, hf⟩ := grd_some hf
          refine lv_ldiv hx hb dX2_mean_86 (nzL_ne hz86) ?_
          refine lv_l2i (v := ((v2_77x / ((M.1 1 (ix v1))).toInt64)).toInt32) hx hb dX2_mean_87 rfl ?_
          refine lv_iconst (v := 1) hx hb dX2_mean_88 (by decide) ?_
          obtain ⟨r89, M89, h89, hf⟩ := bI_some hf
          refine g_calliV X hl.1 hZ hA hW (c_X2_tells l D cy ad h89) cw_X2_tells ql_X2_102 iO_X2 rfl (by decide) rfl (Nat.le_of_ble_eq_true rfl) dX2_mean_89 (fun H locs hW => ?_)
          exact g_iret X hr hlk hQ hW dX2_mean_92 hf
        exact hL44 v1 M k77 hJ77 FU 0 0 H locs ls hf hW (lv_sub hl [2, 3, 1, 0] rfl)
      · replace hf := ifp hc hf
        refine lv_aload_n hx hb dX2_mean_33 rfl (lv_at hl 0 rfl) ?_
        refine lv_iconst (v := 4) hx hb dX2_mean_34 (by decide) ?_
        obtain ⟨r35, M35, h35, hf⟩ := bI_some hf
        refine g_calliV X hl.1 hZ hA hW (c_X2_found l D cy ad h35) cw_X2_found ql_X2_90 iO_X2 rfl (by decide) rfl (Nat.le_of_ble_eq_true rfl) dX2_mean_35 (fun H locs hW => ?_)
        exact g_iret X hr hlk hQ hW dX2_mean_38 hf
    · replace hf := ifn hc hf
      refine lv_aload_n hx hb dX2_mean_18 rfl (lv_at hl 0 rfl) ?_
      refine lv_iconst (v := 1) hx hb dX2_mean_19 (by decide) ?_
      obtain ⟨r20, M20, h20, hf⟩ := bI_some hf
      refine g_calliV X hl.1 hZ hA hW (c_X2_found l D cy ad h20) cw_X2_found ql_X2_90 iO_X2 rfl (by decide) rfl (Nat.le_of_ble_eq_true rfl) dX2_mean_20 (fun H locs hW => ?_)
      exact g_iret X hr hlk hQ hW dX2_mean_23 hf
  · replace hf := ifp hc hf
    refine lv_iconst (v := (-1)) hx hb dX2_mean_7 (by decide) ?_
    exact g_iret X hr hlk hQ hW dX2_mean_8 hf

def f_X2_text_L34 (v1_L34 : Int32) (v2_L34 : Int32) : Nat → Int32 → Mem → Option (Int32 × Mem)
  | 0, _, _ => none
  | n + 1, v3_L34, M_L34 => (if v2_L34 ≤ v3_L34 then (some (v2_L34, M_L34)) else (grd (inb ((60 * v1_L34) + v3_L34) 240) (lt (sI M_L34 4 (ix ((60 * v1_L34) + v3_L34)) 32) (fun M51 => (f_X2_text_L34 v1_L34 v2_L34 n (v3_L34 + 1) M51)))))
def f_X2_text (v1 : Int32) (v2 : Int32) (M : Mem) : Option (Int32 × Mem) :=
  (bR (f_X2_isText v1 M) (fun r1 => (if r1 = 0 then (some ((-1), M)) else (if v2 ≤ 60 then (if 0 ≤ v2 then (grd (inb v1 4) (lt (sI M 3 (ix v1) v2) (fun M31 => (f_X2_text_L34 v1 v2 FU 0 M31)))) else (bI (f_X2_found 5 M) (fun r21 M21 => (some (r21, M21))))) else (some ((-1), M))))))
set_option maxHeartbeats 4000000 in
set_option maxRecDepth 100000 in
theorem c_X2_text (l : Launch) (D : va_G) (cy : Nat → ClassId) (ad : Nat → Nat)   {v1 : Int32} {v2 : Int32} {M M' : Mem} {r : Int32} (hf : f_X2_text v1 v2 M = some (r, M')) : MetX l 20 (CM ad cy) D cy ad yX2_text cX2_text 4 (some .int) 2 [.ref (ad 0), .int v1, .int v2] M (fun A => QI r M' 20 (CM ad cy) D cy ad A) := by
  refine MetX.of (own := RX2) (by decide) rfl (Nat.le_of_ble_eq_true rfl) ?_
  intro p e s m below meth c A Q ls X hr hlk hZ hA hQ hW hl
  have hl : lv_has ls 4 [(0, .ref (ad 0)), (1, .int v1), (2, .int v2)] := hl
  have hx := X.1
  have hb := X.2.1
  have hL34 : ∀ (v1_L34 : Int32) (v2_L34 : Int32)  (n : Nat) (v3_L34 : Int32) (M_L34 : Mem) (H : Heap) (locs : List Loc) (ls : Array Slot), f_X2_text_L34 v1_L34 v2_L34 n v3_L34 M_L34 = some (r, M') → Wd D 20 ad (CM ad cy) A s.heap M_L34 H locs → lv_has ls 4 [(0, .ref (ad 0)), (1, .int v1_L34), (2, .int v2_L34), (3, .int v3_L34)] → W p l e (rmD 2) s m ([.ref (ad 0), .int v1, .int v2] : List Value).toArray below meth c H locs 0 0 Q (F0 m 34 ls []) := by
    intro v1_L34 v2_L34 n
    induction n with
    | zero =>
      intro v3_L34 M_L34 H locs ls hf
      cases (show (none : Option (Int32 × Mem)) = some (r, M') from hf)
    | succ n ih =>
      intro v3_L34 M_L34 H locs ls hf hW hl
      rw [f_X2_text_L34] at hf
      refine lv_iload_n hx hb dX2_text_34 rfl (lv_at hl 3 rfl) ?_
      refine lv_iload_n hx hb dX2_text_35 rfl (lv_at hl 2 rfl) ?_
      refine lv_icmp_ge (tgt := 58) hx hb dX2_text_36 (by decide) (fun hc => ?_) (fun hc => ?_)
      · replace hf := ifp hc hf
        refine lv_iload_n hx hb dX2_text_58 rfl (lv_at hl 2 rfl) ?_
        exact g_iret X hr hlk hQ hW dX2_text_59 hf
      · replace hf := ifn hc hf
        refine lv_aload_n hx hb dX2_text_39 rfl (lv_at hl 0 rfl) ?_
        refine gf_X2_19 X hW dX2_text_40 ?_
        refine lv_bipush (v := 60) hx hb dX2_text_43 (by decide) ?_
        refine lv_iload_n hx hb dX2_text_45 rfl (lv_at hl 1 rfl) ?_
        refine lv_imul hx hb dX2_text_46 ?_
        refine lv_iload_n hx hb dX2_text_47 rfl (lv_at hl 3 rfl) ?_
        refine lv_iadd hx hb dX2_text_48 ?_
        refine lv_bipush (v := 32) hx hb dX2_text_49 (by decide) ?_
        obtain ⟨hi51, hf⟩ := grd_some hf
        refine g_iast X hW iM_texts hi51 dX2_text_51 (fun H locs hW => ?_)
        obtain ⟨M51, e51, hf⟩ := lt_some hf
        have hW : Wd D 20 ad (CM ad cy) A s.heap M51 H locs := by rw [e51]; exact hW
        refine lv_iinc (v := (v3_L34 + 1)) (lv' := [(3, .int (v3_L34 + 1)), (0, .ref (ad 0)), (1, .int v1_L34), (2, .int v2_L34)]) hx hb dX2_text_52 hl (k := 3) rfl rfl (by decide) rfl (fun ls hl => ?_)
        refine lv_goto (tgt := 34) hx hb dX2_text_55 (by decide) ?_
        exact ih (v3_L34 + 1) M51 H locs ls hf hW (lv_sub hl [1, 2, 3, 0] rfl)
  obtain ⟨H, hH⟩ : ∃ H, H = s.heap := ⟨_, rfl⟩
  obtain ⟨locs, hlo⟩ : ∃ q : List Loc, q = [] := ⟨_, rfl⟩
  have hW : Wd D 20 ad (CM ad cy) A s.heap M H locs := by rw [hH, hlo]; exact hW
  suffices hh : W p l e (rmD 2) s m ([.ref (ad 0), .int v1, .int v2] : List Value).toArray below meth c H locs 0 0 Q (F0 m 0 ls []) by rw [hH, hlo] at hh; exact hh
  unfold f_X2_text at hf
  refine lv_iload_n hx hb dX2_text_0 rfl (lv_at hl 1 rfl) ?_
  obtain ⟨r1, h1, hf⟩ := bR_some hf
  refine g_calliS X hl.1 hZ hA hW (c_X2_isText l D cy ad h1) cs_X2_isText ql_X2_105 rfl (by decide) rfl (Nat.le_of_ble_eq_true rfl) dX2_text_1 (fun H locs hW => ?_)
  refine lv_if_eq (tgt := 13) hx hb dX2_text_4 (by decide) (fun hc => ?_) (fun hc => ?_)
  · replace hf := ifp hc hf
    refine lv_iconst (v := (-1)) hx hb dX2_text_13 (by decide) ?_
    exact g_iret X hr hlk hQ hW dX2_text_14 hf
  · replace hf := ifn hc hf
    refine lv_iload_n hx hb dX2_text_7 rfl (lv_at hl 2 rfl) ?_
    refine lv_bipush (v := 60) hx hb dX2_text_8 (by decide) ?_
    refine lv_icmp_le (tgt := 15) hx hb dX2_text_10 (by decide) (fun hc => ?_) (fun hc => ?_)
    · replace hf := ifp hc hf
      refine lv_iload_n hx hb dX2_text_15 rfl (lv_at hl 2 rfl) ?_
      refine lv_if_ge (tgt := 25) hx hb dX2_text_16 (by decide) (fun hc => ?_) (fun hc => ?_)
      · replace hf := ifp hc hf
        refine lv_aload_n hx hb dX2_text_25 rfl (lv_at hl 0 rfl) ?_
        refine gf_X2_16 X hW dX2_text_26 ?_
        refine lv_iload_n hx hb dX2_text_29 rfl (lv_at hl 1 rfl) ?_
        refine lv_iload_n hx hb dX2_text_30 rfl (lv_at hl 2 rfl) ?_
        obtain ⟨hi31, hf⟩ := grd_some hf
        refine g_iast X hW iM_textSize hi31 dX2_text_31 (fun H locs hW => ?_)
        obtain ⟨M31, e31, hf⟩ := lt_some hf
        have hW : Wd D 20 ad (CM ad cy) A s.heap M31 H locs := by rw [e31]; exact hW
        refine lv_iconst (v := 0) hx hb dX2_text_32 (by decide) ?_
        refine lv_istore_n (lv' := [(3, .int 0), (0, .ref (ad 0)), (1, .int v1), (2, .int v2)]) hx hb dX2_text_33 rfl hl (by decide) rfl (fun ls hl => ?_)
        exact hL34 v1 v2 FU 0 M31 H locs ls hf hW (lv_sub hl [1, 2, 3, 0] rfl)
      · replace hf := ifn hc hf
        refine lv_aload_n hx hb dX2_text_19 rfl (lv_at hl 0 rfl) ?_
        refine lv_iconst (v := 5) hx hb dX2_text_20 (by decide) ?_
        obtain ⟨r21, M21, h21, hf⟩ := bI_some hf
        refine g_calliV X hl.1 hZ hA hW (c_X2_found l D cy ad h21) cw_X2_found ql_X2_90 iO_X2 rfl (by decide) rfl (Nat.le_of_ble_eq_true rfl) dX2_text_21 (fun H locs hW => ?_)
        exact g_iret X hr hlk hQ hW dX2_text_24 hf
    · replace hf := ifn hc hf
      refine lv_iconst (v := (-1)) hx hb dX2_text_13 (by decide) ?_
      exact g_iret X hr hlk hQ hW dX2_text_14 hf
