/-! walks, by program out of the listing: 33.walk_X2d -/
def f_X2_againBy_L15 (v1_L15 : Int32) (v2_L15 : Int32) : Nat → Int32 → Mem → Option (Int32 × Mem)
  | 0, _, _ => none
  | n + 1, v3_L15, M_L15 => (if 60 < v3_L15 then (some (61, M_L15)) else (bR (f_X2_goes 1 M_L15) (fun M23 => (grd (inb (1 + v1_L15) 15) (if (M23.1 9 (ix (1 + v1_L15))) = v2_L15 then (some (v3_L15, M23)) else (f_X2_againBy_L15 v1_L15 v2_L15 n (v3_L15 + 1) M23))))))
def f_X2_againBy (v1 : Int32) (v2 : Int32) (M : Mem) : Option (Int32 × Mem) :=
  (bR (f_X2_asItIs M) (fun M1 => (grd (inb (1 + v1) 15) (lt (sI M1 9 (ix (1 + v1)) v2) (fun M12 => (f_X2_againBy_L15 v1 v2 FU 1 M12))))))
set_option maxHeartbeats 4000000 in
set_option maxRecDepth 100000 in
theorem c_X2_againBy (l : Launch) (D : va_G) (cy : Nat → ClassId) (ad : Nat → Nat)   {v1 : Int32} {v2 : Int32} {M M' : Mem} {r : Int32} (hf : f_X2_againBy v1 v2 M = some (r, M')) : MetX l 20 (CM ad cy) D cy ad yX2_againBy cX2_againBy 4 (some .int) 4 [.ref (ad 0), .int v1, .int v2] M (fun A => QI r M' 20 (CM ad cy) D cy ad A) := by
  refine MetX.of (own := RX2) (by decide) rfl (Nat.le_of_ble_eq_true rfl) ?_
  intro p e s m below meth c A Q ls X hr hlk hZ hA hQ hW hl
  have hl : lv_has ls 4 [(0, .ref (ad 0)), (1, .int v1), (2, .int v2)] := hl
  have hx := X.1
  have hb := X.2.1
  have hL15 : ∀ (v1_L15 : Int32) (v2_L15 : Int32)  (n : Nat) (v3_L15 : Int32) (M_L15 : Mem) (H : Heap) (locs : List Loc) (ls : Array Slot), f_X2_againBy_L15 v1_L15 v2_L15 n v3_L15 M_L15 = some (r, M') → Wd D 20 ad (CM ad cy) A s.heap M_L15 H locs → lv_has ls 4 [(0, .ref (ad 0)), (1, .int v1_L15), (2, .int v2_L15), (3, .int v3_L15)] → W p l e (rmD 4) s m ([.ref (ad 0), .int v1, .int v2] : List Value).toArray below meth c H locs 0 0 Q (F0 m 15 ls []) := by
    intro v1_L15 v2_L15 n
    induction n with
    | zero =>
      intro v3_L15 M_L15 H locs ls hf
      cases (show (none : Option (Int32 × Mem)) = some (r, M') from hf)
    | succ n ih =>
      intro v3_L15 M_L15 H locs ls hf hW hl
      rw [f_X2_againBy_L15] at hf
      refine lv_iload_n hx hb dX2_againBy_15 rfl (lv_at hl 3 rfl) ?_
      refine lv_bipush (v := 60) hx hb dX2_againBy_16 (by decide) ?_
      refine lv_icmp_gt (tgt := 46) hx hb dX2_againBy_18 (by decide) (fun hc => ?_) (fun hc => ?_)
      · replace hf := ifp hc hf
        refine lv_bipush (v := 61) hx hb dX2_againBy_46 (by decide) ?_
        exact g_iret X hr hlk hQ hW dX2_againBy_48 hf
      · replace hf := ifn hc hf
        refine lv_aload_n hx hb dX2_againBy_21 rfl (lv_at hl 0 rfl) ?_
        refine lv_iconst (v := 1) hx hb dX2_againBy_22 (by decide) ?_
        obtain ⟨M23, h23, hf⟩ := bR_some hf
        refine g_callvV X hl.1 hZ hA hW (c_X2_goes l D cy ad h23) cw_X2_goes ql_X2_176 iO_X2 rfl (by decide) rfl (Nat.le_of_ble_eq_true rfl) dX2_againBy_23 (fun H locs hW => ?_)
        refine lv_aload_n hx hb dX2_againBy_26 rfl (lv_at hl 0 rfl) ?_
        refine gf_X2_34 X hW dX2_againBy_27 ?_
        refine lv_iconst (v := 1) hx hb dX2_againBy_30 (by decide) ?_
        refine lv_iload_n hx hb dX2_againBy_31 rfl (lv_at hl 1 rfl) ?_
        refine lv_iadd hx hb dX2_againBy_32 ?_
        obtain ⟨hi33, hf⟩ := grd_some hf
        refine g_iald X hW iM_now hi33 dX2_againBy_33 ?_
        refine lv_iload_n hx hb dX2_againBy_34 rfl (lv_at hl 2 rfl) ?_
        refine lv_icmp_ne (tgt := 40) hx hb dX2_againBy_35 (by decide) (fun hc => ?_) (fun hc => ?_)
        · replace hf := ifn hc hf
          refine lv_iinc (v := (v3_L15 + 1)) (lv' := [(3, .int (v3_L15 + 1)), (0, .ref (ad 0)), (1, .int v1_L15), (2, .int v2_L15)]) hx hb dX2_againBy_40 hl (k := 3) rfl rfl (by decide) rfl (fun ls hl => ?_)
          refine lv_goto (tgt := 15) hx hb dX2_againBy_43 (by decide) ?_
          exact ih (v3_L15 + 1) M23 H locs ls hf hW (lv_sub hl [1, 2, 3, 0] rfl)
        · replace hf := ifp hc hf
          refine lv_iload_n hx hb dX2_againBy_38 rfl (lv_at hl 3 rfl) ?_
          exact g_iret X hr hlk hQ hW dX2_againBy_39 hf
  obtain ⟨H, hH⟩ : ∃ H, H = s.heap := ⟨_, rfl⟩
  obtain ⟨locs, hlo⟩ : ∃ q : List Loc, q = [] := ⟨_, rfl⟩
  have hW : Wd D 20 ad (CM ad cy) A s.heap M H locs := by rw [hH, hlo]; exact hW
  suffices hh : W p l e (rmD 4) s m ([.ref (ad 0), .int v1, .int v2] : List Value).toArray below meth c H locs 0 0 Q (F0 m 0 ls []) by rw [hH, hlo] at hh; exact hh
  unfold f_X2_againBy at hf
  refine lv_aload_n hx hb dX2_againBy_0 rfl (lv_at hl 0 rfl) ?_
  obtain ⟨M1, h1, hf⟩ := bR_some hf
  refine g_callvV X hl.1 hZ hA hW (c_X2_asItIs l D cy ad h1) cw_X2_asItIs ql_X2_173 iO_X2 rfl (by decide) rfl (Nat.le_of_ble_eq_true rfl) dX2_againBy_1 (fun H locs hW => ?_)
  refine lv_aload_n hx hb dX2_againBy_4 rfl (lv_at hl 0 rfl) ?_
  refine gf_X2_34 X hW dX2_againBy_5 ?_
  refine lv_iconst (v := 1) hx hb dX2_againBy_8 (by decide) ?_
  refine lv_iload_n hx hb dX2_againBy_9 rfl (lv_at hl 1 rfl) ?_
  refine lv_iadd hx hb dX2_againBy_10 ?_
  refine lv_iload_n hx hb dX2_againBy_11 rfl (lv_at hl 2 rfl) ?_
  obtain ⟨hi12, hf⟩ := grd_some hf
  refine g_iast X hW iM_now hi12 dX2_againBy_12 (fun H locs hW => ?_)
  obtain ⟨M12, e12, hf⟩ := lt_some hf
  have hW : Wd D 20 ad (CM ad cy) A s.heap M12 H locs := by rw [e12]; exact hW
  refine lv_iconst (v := 1) hx hb dX2_againBy_13 (by decide) ?_
  refine lv_istore_n (lv' := [(3, .int 1), (0, .ref (ad 0)), (1, .int v1), (2, .int v2)]) hx hb dX2_againBy_14 rfl hl (by decide) rfl (fun ls hl => ?_)
  exact hL15 v1 v2 FU 1 M12 H locs ls hf hW (lv_sub hl [1, 2, 3, 0] rfl)

def f_X2_safest_L32 (v1_L32 : Int32) (k97 : Int32 → Int32 → Mem → Option (Int32 × Mem)) : Nat → Int32 → Int32 → Int32 → Mem → Option (Int32 × Mem)
  | 0, _, _, _, _ => none
  | n + 1, v2_L32, v3_L32, v4_L32, M_L32 => (if (M_L32.1 0 4) ≤ v4_L32 then (k97 v2_L32 v3_L32 M_L32) else (bR (f_X2_isWord v4_L32 v1_L32 M_L32) (fun r45 => (jn (fun (k63 : Int32 → Mem → Option (Int32 × Mem)) => (if r45 = 0 then (k63 61 M_L32) else (bI (f_X2_againBy v4_L32 v1_L32 M_L32) (fun r55 M55 => (k63 r55 M55))))) (fun (t0_63j : Int32) (M_63j : Mem) => (jn (fun (k77 : Int32 → Option (Int32 × Mem)) => (if v3_L32 ≤ t0_63j then (k77 v2_L32) else (k77 v4_L32))) (fun (t0_77j : Int32) => (jn (fun (k90 : Int32 → Option (Int32 × Mem)) => (if v3_L32 ≤ t0_63j then (k90 v3_L32) else (k90 t0_63j))) (fun (t0_90j : Int32) => (f_X2_safest_L32 v1_L32 k97 n t0_77j t0_90j (v4_L32 + 1) M_63j))))))))))
def f_X2_safest (v1 : Int32) (M : Mem) : Option (Int32 × Mem) :=
  (bR (f_X2_in v1 0 511 M) (fun r5 => (if r5 = 0 then (some ((-1), M)) else (if (M.1 0 4) = 0 then (some ((-4), M)) else (jn (fun (k97 : Int32 → Int32 → Mem → Option (Int32 × Mem)) => (f_X2_safest_L32 v1 k97 FU (-9) 61 0 M)) (fun (v2_97x : Int32) (v3_97x : Int32) (M_97x : Mem) => (if v2_97x = (-9) then (some ((-9), M_97x)) else (bI (f_X2_tells v3_97x v2_97x M_97x) (fun r111 M111 => (some (r111, M111)))))))))))
set_option maxHeartbeats 4000000 in
set_option maxRecDepth 100000 in
theorem c_X2_safest (l : Launch) (D : va_G) (cy : Nat → ClassId) (ad : Nat → Nat)   {v1 : Int32} {M M' : Mem} {r : Int32} (hf : f_X2_safest v1 M = some (r, M')) : MetX l 20 (CM ad cy) D cy ad yX2_safest cX2_safest 6 (some .int) 5 [.ref (ad 0), .int v1] M (fun A => QI r M' 20 (CM ad cy) D cy ad A) := by
  refine MetX.of (own := RX2) (by decide) rfl (Nat.le_of_ble_eq_true rfl) ?_
  intro p e s m below meth c A Q ls X hr hlk hZ hA hQ hW hl
  have hl : lv_has ls 6 [(0, .ref (ad 0)), (1, .int v1)] := hl
  have hx := X.1
  have hb := X.2.1
  have hL32 : ∀ (v1_L32 : Int32) (k97 : Int32 → Int32 → Mem → Option (Int32 × Mem)) (hJ97 : ∀ (v2_97x : Int32) (v3_97x : Int32) (M_97x : Mem) (H : Heap) (locs : List Loc) (ls : Array Slot), k97 v2_97x v3_97x M_97x = some (r, M') → Wd D 20 ad (CM ad cy) A s.heap M_97x H locs → lv_has ls 6 [(0, .ref (ad 0)), (2, .int v2_97x), (3, .int v3_97x)] → W p l e (rmD 5) s m ([.ref (ad 0), .int v1] : List Value).toArray below meth c H locs 0 0 Q (F0 m 97 ls [])) (n : Nat) (v2_L32 : Int32) (v3_L32 : Int32) (v4_L32 : Int32) (M_L32 : Mem) (H : Heap) (locs : List Loc) (ls : Array Slot), f_X2_safest_L32 v1_L32 k97 n v2_L32 v3_L32 v4_L32 M_L32 = some (r, M') → Wd D 20 ad (CM ad cy) A s.heap M_L32 H locs → lv_has ls 6 [(0, .ref (ad 0)), (1, .int v1_L32), (2, .int v2_L32), (3, .int v3_L32), (4, .int v4_L32)] → W p l e (rmD 5) s m ([.ref (ad 0), .int v1] : List Value).toArray below meth c H locs 0 0 Q (F0 m 32 ls []) := by
    intro v1_L32 k97 hJ97 n
    induction n with
    | zero =>
      intro v2_L32 v3_L32 v4_L32 M_L32 H locs ls hf
      cases (show (none : Option (Int32 × Mem)) = some (r, M') from hf)
    | succ n ih =>
      intro v2_L32 v3_L32 v4_L32 M_L32 H locs ls hf hW hl
      rw [f_X2_safest_L32] at hf
      refine lv_iload hx hb dX2_safest_32 (lv_at hl 4 rfl) ?_
      refine lv_aload_n hx hb dX2_safest_34 rfl (lv_at hl 0 rfl) ?_
      refine gf_X2_79 X hW dX2_safest_35 ?_
      refine lv_icmp_ge (tgt := 97) hx hb dX2_safest_38 (by decide) (fun hc => ?_) (fun hc => ?_)
      · replace hf := ifp hc hf
        exact hJ97 v2_L32 v3_L32 M_L32 H locs ls hf hW (lv_sub hl [0, 2, 3] rfl)
      · replace hf := ifn hc hf
        refine lv_aload_n hx hb dX2_safest_41 rfl (lv_at hl 0 rfl) ?_
        refine lv_iload hx hb dX2_safest_42 (lv_at hl 4 rfl) ?_
        refine lv_iload_n hx hb dX2_safest_44 rfl (lv_at hl 1 rfl) ?_
        obtain ⟨r45, h45, hf⟩ := bR_some hf
        refine g_calliV X hl.1 hZ hA hW (c_X2_isWord l D cy ad h45) cw_X2_isWord ql_X2_170 iO_X2 rfl (by decide) rfl (Nat.le_of_ble_eq_true rfl) dX2_safest_45 (fun H locs hW => ?_)
        obtain ⟨k63, hk63, hf⟩ := jn_some2 hf
        have hJ63 : ∀ (t0_63j : Int32) (M_63j : Mem) (H : Heap) (locs : List Loc) (ls : Array Slot), k63 t0_63j M_63j = some (r, M') → Wd D 20 ad (CM ad cy) A s.heap M_63j H locs → lv_has ls 6 [(0, .ref (ad 0)), (1, .int v1_L32), (2, .int v2_L32), (3, .int v3_L32), (4, .int v4_L32)] → W p l e (rmD 5) s m ([.ref (ad 0), .int v1] : List Value).toArray below meth c H locs 0 0 Q (F0 m 63 ls [.int t0_63j]) := by
          intro t0_63j M_63j H locs ls hf hW hl
          rw [hk63] at hf
          refine lv_istore (lv' := [(5, .int t0_63j), (0, .ref (ad 0)), (1, .int v1_L32), (2, .int v2_L32), (3, .int v3_L32), (4, .int v4_L32)]) hx hb dX2_safest_63 hl (by decide) rfl (fun ls hl => ?_)
          refine lv_iload hx hb dX2_safest_65 (lv_at hl 0 rfl) ?_
          refine lv_iload_n hx hb dX2_safest_67 rfl (lv_at hl 4 rfl) ?_
          obtain ⟨k77, hk77, hf⟩ := jn_some1 hf
          have hJ77 : ∀ (t0_77j : Int32) (H : Heap) (locs : List Loc) (ls : Array Slot), k77 t0_77j = some (r, M') → Wd D 20 ad (CM ad cy) A s.heap M_63j H locs → lv_has ls 6 [(0, .ref (ad 0)), (1, .int v1_L32), (3, .int v3_L32), (4, .int v4_L32), (5, .int t0_63j)] → W p l e (rmD 5) s m ([.ref (ad 0), .int v1] : List Value).toArray below meth c H locs 0 0 Q (F0 m 77 ls [.int t0_77j]) := by
            intro t0_77j H locs ls hf hW hl
            rw [hk77] at hf
            refine lv_istore_n (lv' := [(2, .int t0_77j), (0, .ref (ad 0)), (1, .int v1_L32), (3, .int v3_L32), (4, .int v4_L32), (5, .int t0_63j)]) hx hb dX2_safest_77 rfl hl (by decide) rfl (fun ls hl => ?_)
            refine lv_iload hx hb dX2_safest_78 (lv_at hl 5 rfl) ?_
            refine lv_iload_n hx hb dX2_safest_80 rfl (lv_at hl 3 rfl) ?_
            obtain ⟨k90, hk90, hf⟩ := jn_some1 hf
            have hJ90 : ∀ (t0_90j : Int32) (H : Heap) (locs : List Loc) (ls : Array Slot), k90 t0_90j = some (r, M') → Wd D 20 ad (CM ad cy) A s.heap M_63j H locs → lv_has ls 6 [(0, .ref (ad 0)), (1, .int v1_L32), (2, .int t0_77j), (4, .int v4_L32)] → W p l e (rmD 5) s m ([.ref (ad 0), .int v1] : List Value).toArray below meth c H locs 0 0 Q (F0 m 90 ls [.int t0_90j]) := by
              intro t0_90j H locs ls hf hW hl
              rw [hk90] at hf
              refine lv_istore_n (lv' := [(3, .int t0_90j), (0, .ref (ad 0)), (1, .int v1_L32), (2, .int t0_77j), (4, .int v4_L32)]) hx hb dX2_safest_90 rfl hl (by decide) rfl (fun ls hl => ?_)
              refine lv_iinc (v := (v4_L32 + 1)) (lv' := [(4, .int (v4_L32 + 1)), (3, .int t0_90j), (0, .ref (ad 0)), (1, .int v1_L32), (2, .int t0_77j)]) hx hb dX2_safest_91 hl (k := 4) rfl rfl (by decide) rfl (fun ls hl => ?_)
              refine lv_goto (tgt := 32) hx hb dX2_safest_94 (by decide) ?_
              exact ih t0_77j t0_90j (v4_L32 + 1) M_63j H locs ls hf hW (lv_sub hl [2, 3, 4, 1, 0] rfl)
            refine lv_icmp_ge (tgt := 89) hx hb dX2_safest_81 (by decide) (fun hc => ?_) (fun hc => ?_)
            · replace hf := ifp hc hf
              refine lv_iload_n hx hb dX2_safest_89 rfl (lv_at hl 3 rfl) ?_
              exact hJ90 v3_L32 H locs ls hf hW (lv_sub hl [1, 2, 0, 4] rfl)
            · replace hf := ifn hc hf
              refine lv_iload hx hb dX2_safest_84 (lv_at hl 5 rfl) ?_
              refine lv_goto (tgt := 90) hx hb dX2_safest_86 (by decide) ?_
              exact hJ90 t0_63j H locs ls hf hW (lv_sub hl [1, 2, 0, 4] rfl)
          refine lv_icmp_ge (tgt := 76) hx hb dX2_safest_68 (by decide) (fun hc => ?_) (fun hc => ?_)
          · replace hf := ifp hc hf
            refine lv_iload_n hx hb dX2_safest_76 rfl (lv_at hl 3 rfl) ?_
            exact hJ77 v2_L32 H locs ls hf hW (lv_sub hl [1, 2, 4, 5, 0] rfl)
          · replace hf := ifn hc hf
            refine lv_iload hx hb dX2_safest_71 (lv_at hl 5 rfl) ?_
            refine lv_goto (tgt := 77) hx hb dX2_safest_73 (by decide) ?_
            exact hJ77 v4_L32 H locs ls hf hW (lv_sub hl [1, 2, 4, 5, 0] rfl)
        refine lv_if_eq (tgt := 61) hx hb dX2_safest_48 (by decide) (fun hc => ?_) (fun hc => ?_)
        · replace hf := ifp hc hf
          refine lv_bipush (v := 61) hx hb dX2_safest_61 (by decide) ?_
          exact hJ63 61 M_L32 H locs ls hf hW (lv_sub hl [0, 1, 2, 3, 4] rfl)
        · replace hf := ifn hc hf
          refine lv_aload_n hx hb dX2_safest_51 rfl (lv_at hl 0 rfl) ?_
          refine lv_iload hx hb dX2_safest_52 (lv_at hl 4 rfl) ?_
          refine lv_iload_n hx hb dX2_safest_54 rfl (lv_at hl 1 rfl) ?_
          obtain ⟨r55, M55, h55, hf⟩ := bI_some hf
          refine g_calliV X hl.1 hZ hA hW (c_X2_againBy l D cy ad h55) cw_X2_againBy ql_X2_180 iO_X2 rfl (by decide) rfl (Nat.le_of_ble_eq_true rfl) dX2_safest_55 (fun H locs hW => ?_)
          refine lv_goto (tgt := 63) hx hb dX2_safest_58 (by decide) ?_
          exact hJ63 r55 M55 H locs ls hf hW (lv_sub hl [0, 1, 2, 3, 4] rfl)
  obtain ⟨H, hH⟩ : ∃ H, H = s.heap := ⟨_, rfl⟩
  obtain ⟨locs, hlo⟩ : ∃ q : List Loc, q = [] := ⟨_, rfl⟩
  have hW : Wd D 20 ad (CM ad cy) A s.heap M H locs := by rw [hH, hlo]; exact hW
  suffices hh : W p l e (rmD 5) s m ([.ref (ad 0), .int v1] : List Value).toArray below meth c H locs 0 0 Q (F0 m 0 ls []) by rw [hH, hlo] at hh; exact hh
  unfold f_X2_safest at hf
  refine lv_iload_n hx hb dX2_safest_0 rfl (lv_at hl 1 rfl) ?_
  refine lv_iconst (v := 0) hx hb dX2_safest_1 (by decide) ?_
  refine lv_sipush (v := 511) hx hb dX2_safest_2 (by decide) ?_
  obtain ⟨r5, h5, hf⟩ := bR_some hf
  refine g_calliS X hl.1 hZ hA hW (c_X2_in l D cy ad h5) cs_X2_in ql_X2_82 rfl (by decide) rfl (Nat.le_of_ble_eq_true rfl) dX2_safest_5 (fun H locs hW => ?_)
  refine lv_if_ne (tgt := 13) hx hb dX2_safest_8 (by decide) (fun hc => ?_) (fun hc => ?_)
  · replace hf := ifn hc hf
    refine lv_aload_n hx hb dX2_safest_13 rfl (lv_at hl 0 rfl) ?_
    refine gf_X2_79 X hW dX2_safest_14 ?_
    refine lv_if_ne (tgt := 23) hx hb dX2_safest_17 (by decide) (fun hc => ?_) (fun hc => ?_)
    · replace hf := ifn hc hf
      refine lv_bipush (v := (-9)) hx hb dX2_safest_23 (by decide) ?_
      refine lv_istore_n (lv' := [(2, .int (-9)), (0, .ref (ad 0)), (1, .int v1)]) hx hb dX2_safest_25 rfl hl (by decide) rfl (fun ls hl => ?_)
      refine lv_bipush (v := 61) hx hb dX2_safest_26 (by decide) ?_
      refine lv_istore_n (lv' := [(3, .int 61), (2, .int (-9)), (0, .ref (ad 0)), (1, .int v1)]) hx hb dX2_safest_28 rfl hl (by decide) rfl (fun ls hl => ?_)
      refine lv_iconst (v := 0) hx hb dX2_safest_29 (by decide) ?_
      refine lv_istore (lv' := [(4, .int 0), (3, .int 61), (2, .int (-9)), (0, .ref (ad 0)), (1, .int v1)]) hx hb dX2_safest_30 hl (by decide) rfl (fun ls hl => ?_)
      obtain ⟨k97, hk97, hf⟩ := jn_some3 hf
      have hJ97 : ∀ (v2_97x : Int32) (v3_97x : Int32) (M_97x : Mem) (H : Heap) (locs : List Loc) (ls : Array Slot), k97 v2_97x v3_97x M_97x = some (r, M') → Wd D 20 ad (CM ad cy) A s.heap M_97x H locs → lv_has ls 6 [(0, .ref (ad 0)), (2, .int v2_97x), (3, .int v3_97x)] → W p l e (rmD 5) s m ([.ref (ad 0), .int v1] : List Value).toArray below meth c H locs 0 0 Q (F0 m 97 ls []) := by
        intro v2_97x v3_97x M_97x H locs ls hf hW hl
        rw [hk97] at hf
        refine lv_iload_n hx hb dX2_safest_97 rfl (lv_at hl 1 rfl) ?_
        refine lv_bipush (v := (-9)) hx hb dX2_safest_98 (by decide) ?_
        refine lv_icmp_ne (tgt := 108) hx hb dX2_safest_100 (by decide) (fun hc => ?_) (fun hc => ?_)
        · replace hf := ifn hc hf
          refine lv_aload_n hx hb dX2_safest_108 rfl (lv_at hl 0 rfl) ?_
          refine lv_iload_n hx hb dX2_safest_109 rfl (lv_at hl 2 rfl) ?_
          refine lv_iload_n hx hb dX2_safest_110 rfl (lv_at hl 1 rfl) ?_
          obtain ⟨r111, M111, h111, hf⟩ := bI_some hf
          refine g_calliV X hl.1 hZ hA hW (c_X2_tells l D cy ad h111) cw_X2_tells ql_X2_102 iO_X2 rfl (by decide) rfl (Nat.le_of_ble_eq_true rfl) dX2_safest_111 (fun H locs hW => ?_)
          exact g_iret X hr hlk hQ hW dX2_safest_114 hf
        · replace hf := ifp hc hf
          refine lv_bipush (v := (-9)) hx hb dX2_safest_103 (by decide) ?_
          refine lv_goto (tgt := 114) hx hb dX2_safest_105 (by decide) ?_
          exact g_iret X hr hlk hQ hW dX2_safest_114 hf
      exact hL32 v1 k97 hJ97 FU (-9) 61 0 M H locs ls hf hW (lv_sub hl [3, 4, 2, 1, 0] rfl)
    · replace hf := ifp hc hf
      refine lv_bipush (v := (-4)) hx hb dX2_safest_20 (by decide) ?_
      exact g_iret X hr hlk hQ hW dX2_safest_22 hf
  · replace hf := ifp hc hf
    refine lv_iconst (v := (-1)) hx hb dX2_safest_11 (by decide) ?_
    exact g_iret X hr hlk hQ hW dX2_safest_12 hf

def f_X2_heardOf_L32 (v1_L32 : Int32) (M : Mem) (k77 : Int32 → Option Int32) : Nat → Int32 → Int32 → Option Int32
  | 0, _, _ => none
  | n + 1, v2_L32, v3_L32 => (grd (inb v1_L32 6) (if (M.1 1 (ix v1_L32)) ≤ v3_L32 then (k77 v2_L32) else (jn (fun (k69 : Option Int32) => (jn (fun (k70 : Int32 → Option Int32) => (if v2_L32 = 0 then k69 else (grd (inb ((40 * v1_L32) + v3_L32) 240) (bR (f_X2_in (M.1 2 (ix ((40 * v1_L32) + v3_L32))) 0 1 M) (fun r59 => (if r59 = 0 then k69 else (k70 1))))))) (fun (t0_70j : Int32) => (f_X2_heardOf_L32 v1_L32 M k77 n t0_70j (v3_L32 + 1))))) ((f_X2_heardOf_L32 v1_L32 M k77 n 0 (v3_L32 + 1))))))
def f_X2_heardOf (v1 : Int32) (M : Mem) : Option Int32 :=
  (grd (inb v1 6) (if 0 ≤ (M.1 1 (ix v1)) then (grd (inb v1 6) (bR (f_X2_in (M.1 1 (ix v1)) 1 20 M) (fun r20 => (if r20 = 0 then (some 5) else (jn (fun (k77 : Int32 → Option Int32) => (f_X2_heardOf_L32 v1 M k77 FU 1 0)) (fun (v2_77x : Int32) => (if v2_77x = 0 then (some 3) else (some 0)))))))) else (some 1)))
set_option maxHeartbeats 4000000 in
set_option maxRecDepth 100000 in
theorem c_X2_heardOf (l : Launch) (D : va_G) (cy : Nat → ClassId) (ad : Nat → Nat)   {v1 : Int32} {M : Mem} {r : Int32} (hf : f_X2_heardOf v1 M = some r) : MetX l 20 (CM ad cy) D cy ad yX2_heardOf cX2_heardOf 4 (some .int) 1 [.ref (ad 0), .int v1] M (fun A => QI r M 20 (CM ad cy) D cy ad A) := by
  refine MetX.of (own := RX2) (by decide) rfl (Nat.le_of_ble_eq_true rfl) ?_
  intro p e s m below meth c A Q ls X hr hlk hZ hA hQ hW hl
  have hl : lv_has ls 4 [(0, .ref (ad 0)), (1, .int v1)] := hl
  have hx := X.1
  have hb := X.2.1
  have hL32 : ∀ (v1_L32 : Int32) (k77 : Int32 → Option Int32) (hJ77 : ∀ (v2_77x : Int32) (H : Heap) (locs : List Loc) (ls : Array Slot), k77 v2_77x = some r → Wd D 20 ad (CM ad cy) A s.heap M H locs → lv_has ls 4 [(2, .int v2_77x)] → W p l e (rmD 1) s m ([.ref (ad 0), .int v1] : List Value).toArray below meth c H locs 0 0 Q (F0 m 77 ls [])) (n : Nat) (v2_L32 : Int32) (v3_L32 : Int32) (H : Heap) (locs : List Loc) (ls : Array Slot), f_X2_heardOf_L32 v1_L32 M k77 n v2_L32 v3_L32 = some r → Wd D 20 ad (CM ad cy) A s.heap M H locs → lv_has ls 4 [(0, .ref (ad 0)), (1, .int v1_L32), (2, .int v2_L32), (3, .int v3_L32)] → W p l e (rmD 1) s m ([.ref (ad 0), .int v1] : List Value).toArray below meth c H locs 0 0 Q (F0 m 32 ls []) := by
    intro v1_L32 k77 hJ77 n
    induction n with
    | zero =>
      intro v2_L32 v3_L32 H locs ls hf
      cases (show (none : Option Int32) = some r from hf)
    | succ n ih =>
      intro v2_L32 v3_L32 H locs ls hf hW hl
      rw [f_X2_heardOf_L32] at hf
      refine lv_iload_n hx hb dX2_heardOf_32 rfl (lv_at hl 3 rfl) ?_
      refine lv_aload_n hx hb dX2_heardOf_33 rfl (lv_at hl 0 rfl) ?_
      refine gf_X2_7 X hW dX2_heardOf_34 ?_
      refine lv_iload_n hx hb dX2_heardOf_37 rfl (lv_at hl 1 rfl) ?_
      obtain ⟨hi38, hf⟩ := grd_some hf
      refine g_iald X hW iM_rowSize hi38 dX2_heardOf_38 ?_
      refine lv_icmp_ge (tgt := 77) hx hb dX2_heardOf_39 (by decide) (fun hc => ?_) (fun hc => ?_)
      · replace hf := ifp hc hf
        exact hJ77 v2_L32 H locs ls hf hW (lv_sub hl [2] rfl)
      · replace hf := ifn hc hf
        refine lv_iload_n hx hb dX2_heardOf_42 rfl (lv_at hl 2 rfl) ?_
        obtain ⟨k69, hk69, hf⟩ := jn_some0 hf
        have hJ69 : ∀  (H : Heap) (locs : List Loc) (ls : Array Slot), k69 = some r → Wd D 20 ad (CM ad cy) A s.heap M H locs → lv_has ls 4 [(0, .ref (ad 0)), (1, .int v1_L32), (3, .int v3_L32)] → W p l e (rmD 1) s m ([.ref (ad 0), .int v1] : List Value).toArray below meth c H locs 0 0 Q (F0 m 69 ls []) := by
          intro  H locs ls hf hW hl
          rw [hk69] at hf
          refine lv_iconst (v := 0) hx hb dX2_heardOf_69 (by decide) ?_
          refine lv_istore_n (lv' := [(2, .int 0), (0, .ref (ad 0)), (1, .int v1_L32), (3, .int v3_L32)]) hx hb dX2_heardOf_70 rfl hl (by decide) rfl (fun ls hl => ?_)
          refine lv_iinc (v := (v3_L32 + 1)) (lv' := [(3, .int (v3_L32 + 1)), (2, .int 0), (0, .ref (ad 0)), (1, .int v1_L32)]) hx hb dX2_heardOf_71 hl (k := 3) rfl rfl (by decide) rfl (fun ls hl => ?_)
          refine lv_goto (tgt := 32) hx hb dX2_heardOf_74 (by decide) ?_
          exact ih 0 (v3_L32 + 1) H locs ls hf hW (lv_sub hl [2, 3, 1, 0] rfl)
        obtain ⟨k70, hk70, hf⟩ := jn_some1 hf
        have hJ70 : ∀ (t0_70j : Int32) (H : Heap) (locs : List Loc) (ls : Array Slot), k70 t0_70j = some r → Wd D 20 ad (CM ad cy) A s.heap M H locs → lv_has ls 4 [(0, .ref (ad 0)), (1, .int v1_L32), (3, .int v3_L32)] → W p l e (rmD 1) s m ([.ref (ad 0), .int v1] : List Value).toArray below meth c H locs 0 0 Q (F0 m 70 ls [.int t0_70j]) := by
          intro t0_70j H locs ls hf hW hl
          rw [hk70] at hf
          refine lv_istore_n (lv' := [(2, .int t0_70j), (0, .ref (ad 0)), (1, .int v1_L32), (3, .int v3_L32)]) hx hb dX2_heardOf_70 rfl hl (by decide) rfl (fun ls hl => ?_)
          refine lv_iinc (v := (v3_L32 + 1)) (lv' := [(3, .int (v3_L32 + 1)), (2, .int t0_70j), (0, .ref (ad 0)), (1, .int v1_L32)]) hx hb dX2_heardOf_71 hl (k := 3) rfl rfl (by decide) rfl (fun ls hl => ?_)
          refine lv_goto (tgt := 32) hx hb dX2_heardOf_74 (by decide) ?_
          exact ih t0_70j (v3_L32 + 1) H locs ls hf hW (lv_sub hl [2, 3, 1, 0] rfl)
        refine lv_if_eq (tgt := 69) hx hb dX2_heardOf_43 (by decide) (fun hc => ?_) (fun hc => ?_)
        · replace hf := ifp hc hf
          exact hJ69  H locs ls hf hW (lv_sub hl [0, 1, 3] rfl)
        · replace hf := ifn hc hf
          refine lv_aload_n hx hb dX2_heardOf_46 rfl (lv_at hl 0 rfl) ?_
          refine gf_X2_13 X hW dX2_heardOf_47 ?_
          refine lv_bipush (v := 40) hx hb dX2_heardOf_50 (by decide) ?_
          refine lv_iload_n hx hb dX2_heardOf_52 rfl (lv_at hl 1 rfl) ?_
          refine lv_imul hx hb dX2_heardOf_53 ?_
          refine lv_iload_n hx hb dX2_heardOf_54 rfl (lv_at hl 3 rfl) ?_
          refine lv_iadd hx hb dX2_heardOf_55 ?_
          obtain ⟨hi56, hf⟩ := grd_some hf
          refine g_iald X hW iM_rows hi56 dX2_heardOf_56 ?_
          refine lv_iconst (v := 0) hx hb dX2_heardOf_57 (by decide) ?_
          refine lv_iconst (v := 1) hx hb dX2_heardOf_58 (by decide) ?_
          obtain ⟨r59, h59, hf⟩ := bR_some hf
          refine g_calliS X hl.1 hZ hA hW (c_X2_in l D cy ad h59) cs_X2_in ql_X2_82 rfl (by decide) rfl (Nat.le_of_ble_eq_true rfl) dX2_heardOf_59 (fun H locs hW => ?_)
          refine lv_if_eq (tgt := 69) hx hb dX2_heardOf_62 (by decide) (fun hc => ?_) (fun hc => ?_)
          · replace hf := ifp hc hf
            exact hJ69  H locs ls hf hW (lv_sub hl [0, 1, 3] rfl)
          · replace hf := ifn hc hf
            refine lv_iconst (v := 1) hx hb dX2_heardOf_65 (by decide) ?_
            refine lv_goto (tgt := 70) hx hb dX2_heardOf_66 (by decide) ?_
            exact hJ70 1 H locs ls hf hW (lv_sub hl [0, 1, 3] rfl)
  obtain ⟨H, hH⟩ : ∃ H, H = s.heap := ⟨_, rfl⟩
  obtain ⟨locs, hlo⟩ : ∃ q : List Loc, q = [] := ⟨_, rfl⟩
  have hW : Wd D 20 ad (CM ad cy) A s.heap M H locs := by rw [hH, hlo]; exact hW
  suffices hh : W p l e (rmD 1) s m ([.ref (ad 0), .int v1] : List Value).toArray below meth c H locs 0 0 Q (F0 m 0 ls []) by rw [hH, hlo] at hh; exact hh
  unfold f_X2_heardOf at hf
  refine lv_aload_n hx hb dX2_heardOf_0 rfl (lv_at hl 0 rfl) ?_
  refine gf_X2_7 X hW dX2_heardOf_1 ?_
  refine lv_iload_n hx hb dX2_heardOf_4 rfl (lv_at hl 1 rfl) ?_
  obtain ⟨hi5, hf⟩ := grd_some hf
  refine g_iald X hW iM_rowSize hi5 dX2_heardOf_5 ?_
  refine lv_if_ge (tgt := 11) hx hb dX2_heardOf_6 (by decide) (fun hc => ?_) (fun hc => ?_)
  · replace hf := ifp hc hf
    refine lv_aload_n hx hb dX2_heardOf_11 rfl (lv_at hl 0 rfl) ?_
    refine gf_X2_7 X hW dX2_heardOf_12 ?_
    refine lv_iload_n hx hb dX2_heardOf_15 rfl (lv_at hl 1 rfl) ?_
    obtain ⟨hi16, hf⟩ := grd_some hf
    refine g_iald X hW iM_rowSize hi16 dX2_heardOf_16 ?_
    refine lv_iconst (v := 1) hx hb dX2_heardOf_17 (by decide) ?_
    refine lv_bipush (v := 20) hx hb dX2_heardOf_18 (by decide) ?_
    obtain ⟨r20, h20, hf⟩ := bR_some hf
    refine g_calliS X hl.1 hZ hA hW (c_X2_in l D cy ad h20) cs_X2_in ql_X2_82 rfl (by decide) rfl (Nat.le_of_ble_eq_true rfl) dX2_heardOf_20 (fun H locs hW => ?_)
    refine lv_if_ne (tgt := 28) hx hb dX2_heardOf_23 (by decide) (fun hc => ?_) (fun hc => ?_)
    · replace hf := ifn hc hf
      refine lv_iconst (v := 1) hx hb dX2_heardOf_28 (by decide) ?_
      refine lv_istore_n (lv' := [(2, .int 1), (0, .ref (ad 0)), (1, .int v1)]) hx hb dX2_heardOf_29 rfl hl (by decide) rfl (fun ls hl => ?_)
      refine lv_iconst (v := 0) hx hb dX2_heardOf_30 (by decide) ?_
      refine lv_istore_n (lv' := [(3, .int 0), (2, .int 1), (0, .ref (ad 0)), (1, .int v1)]) hx hb dX2_heardOf_31 rfl hl (by decide) rfl (fun ls hl => ?_)
      obtain ⟨k77, hk77, hf⟩ := jn_some1 hf
      have hJ77 : ∀ (v2_77x : Int32) (H : Heap) (locs : List Loc) (ls : Array Slot), k77 v2_77x = some r → Wd D 20 ad (CM ad cy) A s.heap M H locs → lv_has ls 4 [(2, .int v2_77x)] → W p l e (rmD 1) s m ([.ref (ad 0), .int v1] : List Value).toArray below meth c H locs 0 0 Q (F0 m 77 ls []) := by
        intro v2_77x H locs ls hf hW hl
        rw [hk77] at hf
        refine lv_iload_n hx hb dX2_heardOf_77 rfl (lv_at hl 0 rfl) ?_
        refine lv_if_eq (tgt := 85) hx hb dX2_heardOf_78 (by decide) (fun hc => ?_) (fun hc => ?_)
        · replace hf := ifp hc hf
          refine lv_iconst (v := 3) hx hb dX2_heardOf_85 (by decide) ?_
          exact g_iret X hr hlk hQ hW dX2_heardOf_86 (rd_some hf)
        · replace hf := ifn hc hf
          refine lv_iconst (v := 0) hx hb dX2_heardOf_81 (by decide) ?_
          refine lv_goto (tgt := 86) hx hb dX2_heardOf_82 (by decide) ?_
          exact g_iret X hr hlk hQ hW dX2_heardOf_86 (rd_some hf)
      exact hL32 v1 k77 hJ77 FU 1 0 H locs ls hf hW (lv_sub hl [2, 3, 1, 0] rfl)
    · replace hf := ifp hc hf
      refine lv_iconst (v := 5) hx hb dX2_heardOf_26 (by decide) ?_
      exact g_iret X hr hlk hQ hW dX2_heardOf_27 (rd_some hf)
  · replace hf := ifn hc hf
    refine lv_iconst (v := 1) hx hb dX2_heardOf_9 (by decide) ?_
    exact g_iret X hr hlk hQ hW dX2_heardOf_10 (rd_some hf)

def f_X2_isHeard_L8 (v1_L8 : Int32) (v2_L8 : Int32) (k87 : Int32 → Int32 → Mem → Option (Int32 × Mem)) : Nat → Int32 → Int32 → Int32 → Mem → Option (Int32 × Mem)
  | 0, _, _, _, _ => none
  | n + 1, v3_L8, v4_L8, v5_L8, M_L8 => (if 60 ≤ v5_L8 then (k87 v3_L8 v4_L8 M_L8) else (if v4_L8 = 0 then (k87 v3_L8 v4_L8 M_L8) else (grd (inb v2_L8 6) (if (M_L8.1 1 (ix v2_L8)) ≤ v3_L8 then (k87 v3_L8 v4_L8 M_L8) else (bR (f_X2_isReady 9 15 v1_L8 M_L8) (fun r36 => (jn (fun (k76 : Int32 → Int32 → Option (Int32 × Mem)) => (if r36 = 0 then (k76 v3_L8 v4_L8) else (grd (inb (1 + v1_L8) 15) (grd (inb ((40 * v2_L8) + v3_L8) 240) (jn (fun (k71 : Int32 → Option (Int32 × Mem)) => (if ((M_L8.1 9 (ix (1 + v1_L8))) &&& 1) = (M_L8.1 2 (ix ((40 * v2_L8) + v3_L8))) then (k71 1) else (k71 0))) (fun (t0_71j : Int32) => (k76 (v3_L8 + 1) t0_71j))))))) (fun (v3_76j : Int32) (v4_76j : Int32) => (bR (f_X2_goes 1 M_L8) (fun M78 => (f_X2_isHeard_L8 v1_L8 v2_L8 k87 n v3_76j v4_76j (v5_L8 + 1) M78)))))))))))
def f_X2_isHeard (v1 : Int32) (v2 : Int32) (M : Mem) : Option (Int32 × Mem) :=
  (jn (fun (k87 : Int32 → Int32 → Mem → Option (Int32 × Mem)) => (f_X2_isHeard_L8 v1 v2 k87 FU 0 1 0 M)) (fun (v3_87x : Int32) (v4_87x : Int32) (M_87x : Mem) => (if v4_87x = 0 then (some (0, M_87x)) else (grd (inb v2 6) (if v3_87x = (M_87x.1 1 (ix v2)) then (some (1, M_87x)) else (some (0, M_87x)))))))
set_option maxHeartbeats 4000000 in
set_option maxRecDepth 100000 in
theorem c_X2_isHeard (l : Launch) (D : va_G) (cy : Nat → ClassId) (ad : Nat → Nat)   {v1 : Int32} {v2 : Int32} {M M' : Mem} {r : Int32} (hf : f_X2_isHeard v1 v2 M = some (r, M')) : MetX l 20 (CM ad cy) D cy ad yX2_isHeard cX2_isHeard 6 (some .boolean) 4 [.ref (ad 0), .int v1, .int v2] M (fun A => QI r M' 20 (CM ad cy) D cy ad A) := by
  refine MetX.of (own := RX2) (by decide) rfl (Nat.le_of_ble_eq_true rfl) ?_
  intro p e s m below meth c A Q ls X hr hlk hZ hA hQ hW hl
  have hl : lv_has ls 6 [(0, .ref (ad 0)), (1, .int v1), (2, .int v2)] := hl
  have hx := X.1
  have hb := X.2.1
  have hL8 : ∀ (v1_L8 : Int32) (v2_L8 : Int32) (k87 : Int32 → Int32 → Mem → Option (Int32 × Mem)) (hJ87 : ∀ (v3_87x : Int32) (v4_87x : Int32) (M_87x : Mem) (H : Heap) (locs : List Loc) (ls : Array Slot), k87 v3_87x v4_87x M_87x = some (r, M') → Wd D 20 ad (CM ad cy) A s.heap M_87x H locs → lv_has ls 6 [(0, .ref (ad 0)), (2, .int v2_L8), (3, .int v3_87x), (4, .int v4_87x)] → W p l e (rmD 4) s m ([.ref (ad 0), .int v1, .int v2] : List Value).toArray below meth c H locs 0 0 Q (F0 m 87 ls [])) (n : Nat) (v3_L8 : Int32) (v4_L8 : Int32) (v5_L8 : Int32) (M_L8 : Mem) (H : Heap) (locs : List Loc) (ls : Array Slot), f_X2_isHeard_L8 v1_L8 v2_L8 k87 n v3_L8 v4_L8 v5_L8 M_L8 = some (r, M') → Wd D 20 ad (CM ad cy) A s.heap M_L8 H locs → lv_has ls 6 [(0, .ref (ad 0)), (1, .int v1_L8), (2, .int v2_L8), (3, .int v3_L8), (4, .int v4_L8), (5, .int v5_L8)] → W p l e (rmD 4) s m ([.ref (ad 0), .int v1, .int v2] : List Value).toArray below meth c H locs 0 0 Q (F0 m 8 ls []) := by
    intro v1_L8 v2_L8 k87 hJ87 n
    induction n with
    | zero =>
      intro v3_L8 v4_L8 v5_L8 M_L8 H locs ls hf
      cases (show (none : Option (Int32 × Mem)) = some (r, M') from hf)
    | succ n ih =>
      intro v3_L8 v4_L8 v5_L8 M_L8 H locs ls hf hW hl
      rw [f_X2_isHeard_L8] at hf
      refine lv_iload hx hb dX2_isHeard_8 (lv_at hl 5 rfl) ?_
      refine lv_bipush (v := 60) hx hb dX2_isHeard_10 (by decide) ?_
      refine lv_icmp_ge (tgt := 87) hx hb dX2_isHeard_12 (by decide) (fun hc => ?_) (fun hc => ?_)
      · replace hf := ifp hc hf
        exact hJ87 v3_L8 v4_L8 M_L8 H locs ls hf hW (lv_sub hl [0, 2, 3, 4] rfl)
      · replace hf := ifn hc hf
        refine lv_iload hx hb dX2_isHeard_15 (lv_at hl 4 rfl) ?_
        refine lv_if_eq (tgt := 87) hx hb dX2_isHeard_17 (by decide) (fun hc => ?_) (fun hc => ?_)
        · replace hf := ifp hc hf
          exact hJ87 v3_L8 v4_L8 M_L8 H locs ls hf hW (lv_sub hl [0, 2, 3, 4] rfl)
        · replace hf := ifn hc hf
          refine lv_iload_n hx hb dX2_isHeard_20 rfl (lv_at hl 3 rfl) ?_
          refine lv_aload_n hx hb dX2_isHeard_21 rfl (lv_at hl 0 rfl) ?_
          refine gf_X2_7 X hW dX2_isHeard_22 ?_
          refine lv_iload_n hx hb dX2_isHeard_25 rfl (lv_at hl 2 rfl) ?_
          obtain ⟨hi26, hf⟩ := grd_some hf
          refine g_iald X hW iM_rowSize hi26 dX2_isHeard_26 ?_
          refine lv_icmp_ge (tgt := 87) hx hb dX2_isHeard_27 (by decide) (fun hc => ?_) (fun hc => ?_)
          · replace hf := ifp hc hf
            exact hJ87 v3_L8 v4_L8 M_L8 H locs ls hf hW (lv_sub hl [0, 2, 3, 4] rfl)
          · replace hf := ifn hc hf
            refine lv_aload_n hx hb dX2_isHeard_30 rfl (lv_at hl 0 rfl) ?_
            refine lv_aload_n hx hb dX2_isHeard_31 rfl (lv_at hl 0 rfl) ?_
            refine gf_X2_34 X hW dX2_isHeard_32 ?_
            refine lv_iload_n hx hb dX2_isHeard_35 rfl (lv_at hl 1 rfl) ?_
            obtain ⟨r36, h36, hf⟩ := bR_some hf
            refine g_calliV X hl.1 hZ hA hW (c_X2_isReady l D cy ad iM_now h36) cw_X2_isReady ql_X2_128 iO_X2 rfl (by decide) rfl (Nat.le_of_ble_eq_true rfl) dX2_isHeard_36 (fun H locs hW => ?_)
            obtain ⟨k76, hk76, hf⟩ := jn_some2 hf
            have hJ76 : ∀ (v3_76j : Int32) (v4_76j : Int32) (H : Heap) (locs : List Loc) (ls : Array Slot), k76 v3_76j v4_76j = some (r, M') → Wd D 20 ad (CM ad cy) A s.heap M_L8 H locs → lv_has ls 6 [(0, .ref (ad 0)), (1, .int v1_L8), (2, .int v2_L8), (3, .int v3_76j), (4, .int v4_76j), (5, .int v5_L8)] → W p l e (rmD 4) s m ([.ref (ad 0), .int v1, .int v2] : List Value).toArray below meth c H locs 0 0 Q (F0 m 76 ls []) := by
              intro v3_76j v4_76j H locs ls hf hW hl
              rw [hk76] at hf
              refine lv_aload_n hx hb dX2_isHeard_76 rfl (lv_at hl 0 rfl) ?_
              refine lv_iconst (v := 1) hx hb dX2_isHeard_77 (by decide) ?_
              obtain ⟨M78, h78, hf⟩ := bR_some hf
              refine g_callvV X hl.1 hZ hA hW (c_X2_goes l D cy ad h78) cw_X2_goes ql_X2_176 iO_X2 rfl (by decide) rfl (Nat.le_of_ble_eq_true rfl) dX2_isHeard_78 (fun H locs hW => ?_)
              refine lv_iinc (v := (v5_L8 + 1)) (lv' := [(5, .int (v5_L8 + 1)), (0, .ref (ad 0)), (1, .int v1_L8), (2, .int v2_L8), (3, .int v3_76j), (4, .int v4_76j)]) hx hb dX2_isHeard_81 hl (k := 5) rfl rfl (by decide) rfl (fun ls hl => ?_)
              refine lv_goto (tgt := 8) hx hb dX2_isHeard_84 (by decide) ?_
              exact ih v3_76j v4_76j (v5_L8 + 1) M78 H locs ls hf hW (lv_sub hl [1, 2, 3, 4, 5, 0] rfl)
            refine lv_if_eq (tgt := 76) hx hb dX2_isHeard_39 (by decide) (fun hc => ?_) (fun hc => ?_)
            · replace hf := ifp hc hf
              exact hJ76 v3_L8 v4_L8 H locs ls hf hW (lv_sub hl [0, 1, 2, 3, 4, 5] rfl)
            · replace hf := ifn hc hf
              refine lv_aload_n hx hb dX2_isHeard_42 rfl (lv_at hl 0 rfl) ?_
              refine gf_X2_34 X hW dX2_isHeard_43 ?_
              refine lv_iconst (v := 1) hx hb dX2_isHeard_46 (by decide) ?_
              refine lv_iload_n hx hb dX2_isHeard_47 rfl (lv_at hl 1 rfl) ?_
              refine lv_iadd hx hb dX2_isHeard_48 ?_
              obtain ⟨hi49, hf⟩ := grd_some hf
              refine g_iald X hW iM_now hi49 dX2_isHeard_49 ?_
              refine lv_iconst (v := 1) hx hb dX2_isHeard_50 (by decide) ?_
              refine lv_iand hx hb dX2_isHeard_51 ?_
              refine lv_aload_n hx hb dX2_isHeard_52 rfl (lv_at hl 0 rfl) ?_
              refine gf_X2_13 X hW dX2_isHeard_53 ?_
              refine lv_bipush (v := 40) hx hb dX2_isHeard_56 (by decide) ?_
              refine lv_iload_n hx hb dX2_isHeard_58 rfl (lv_at hl 2 rfl) ?_
              refine lv_imul hx hb dX2_isHeard_59 ?_
              refine lv_iload_n hx hb dX2_isHeard_60 rfl (lv_at hl 3 rfl) ?_
              refine lv_iadd hx hb dX2_isHeard_61 ?_
              obtain ⟨hi62, hf⟩ := grd_some hf
              refine g_iald X hW iM_rows hi62 dX2_isHeard_62 ?_
              obtain ⟨k71, hk71, hf⟩ := jn_some1 hf
              have hJ71 : ∀ (t0_71j : Int32) (H : Heap) (locs : List Loc) (ls : Array Slot), k71 t0_71j = some (r, M') → Wd D 20 ad (CM ad cy) A s.heap M_L8 H locs → lv_has ls 6 [(0, .ref (ad 0)), (1, .int v1_L8), (2, .int v2_L8), (3, .int v3_L8), (5, .int v5_L8)] → W p l e (rmD 4) s m ([.ref (ad 0), .int v1, .int v2] : List Value).toArray below meth c H locs 0 0 Q (F0 m 71 ls [.int t0_71j]) := by
                intro t0_71j H locs ls hf hW hl
                rw [hk71] at hf
                refine lv_istore (lv' := [(4, .int t0_71j), (0, .ref (ad 0)), (1, .int v1_L8), (2, .int v2_L8), (3, .int v3_L8), (5, .int v5_L8)]) hx hb dX2_isHeard_71 hl (by decide) rfl (fun ls hl => ?_)
                refine lv_iinc (v := (v3_L8 + 1)) (lv' := [(3, .int (v3_L8 + 1)), (4, .int t0_71j), (0, .ref (ad 0)), (1, .int v1_L8), (2, .int v2_L8), (5, .int v5_L8)]) hx hb dX2_isHeard_73 hl (k := 4) rfl rfl (by decide) rfl (fun ls hl => ?_)
                exact hJ76 (v3_L8 + 1) t0_71j H locs ls hf hW (lv_sub hl [2, 3, 4, 0, 1, 5] rfl)
              refine lv_icmp_ne (tgt := 70) hx hb dX2_isHeard_63 (by decide) (fun hc => ?_) (fun hc => ?_)
              · replace hf := ifn hc hf
                refine lv_iconst (v := 0) hx hb dX2_isHeard_70 (by decide) ?_
                exact hJ71 0 H locs ls hf hW (lv_sub hl [0, 1, 2, 3, 5] rfl)
              · replace hf := ifp hc hf
                refine lv_iconst (v := 1) hx hb dX2_isHeard_66 (by decide) ?_
                refine lv_goto (tgt := 71) hx hb dX2_isHeard_67 (by decide) ?_
                exact hJ71 1 H locs ls hf hW (lv_sub hl [0, 1, 2, 3, 5] rfl)
  obtain ⟨H, hH⟩ : ∃ H, H = s.heap := ⟨_, rfl⟩
  obtain ⟨locs, hlo⟩ : ∃ q : List Loc, q = [] := ⟨_, rfl⟩
  have hW : Wd D 20 ad (CM ad cy) A s.heap M H locs := by rw [hH, hlo]; exact hW
  suffices hh : W p l e (rmD 4) s m ([.ref (ad 0), .int v1, .int v2] : List Value).toArray below meth c H locs 0 0 Q (F0 m 0 ls []) by rw [hH, hlo] at hh; exact hh
  unfold f_X2_isHeard at hf
  refine lv_iconst (v := 0) hx hb dX2_isHeard_0 (by decide) ?_
  refine lv_istore_n (lv' := [(3, .int 0), (0, .ref (ad 0)), (1, .int v1), (2, .int v2)]) hx hb dX2_isHeard_1 rfl hl (by decide) rfl (fun ls hl => ?_)
  refine lv_iconst (v := 1) hx hb dX2_isHeard_2 (by decide) ?_
  refine lv_istore (lv' := [(4, .int 1), (3, .int 0), (0, .ref (ad 0)), (1, .int v1), (2, .int v2)]) hx hb dX2_isHeard_3 hl (by decide) rfl (fun ls hl => ?_)
  refine lv_iconst (v := 0) hx hb dX2_isHeard_5 (by decide) ?_
  refine lv_istore (lv' := [(5, .int 0), (4, .int 1), (3, .int 0), (0, .ref (ad 0)), (1, .int v1), (2, .int v2)]) hx hb dX2_isHeard_6 hl (by decide) rfl (fun ls hl => ?_)
  obtain ⟨k87, hk87, hf⟩ := jn_some3 hf
  have hJ87 : ∀ (v3_87x : Int32) (v4_87x : Int32) (M_87x : Mem) (H : Heap) (locs : List Loc) (ls : Array Slot), k87 v3_87x v4_87x M_87x = some (r, M') → Wd D 20 ad (CM ad cy) A s.heap M_87x H locs → lv_has ls 6 [(0, .ref (ad 0)), (2, .int v2), (3, .int v3_87x), (4, .int v4_87x)] → W p l e (rmD 4) s m ([.ref (ad 0), .int v1, .int v2] : List Value).toArray below meth c H locs 0 0 Q (F0 m 87 ls []) := by
    intro v3_87x v4_87x M_87x H locs ls hf hW hl
    rw [hk87] at hf
    refine lv_iload hx hb dX2_isHeard_87 (lv_at hl 3 rfl) ?_
    refine lv_if_eq (tgt := 106) hx hb dX2_isHeard_89 (by decide) (fun hc => ?_) (fun hc => ?_)
    · replace hf := ifp hc hf
      refine lv_iconst (v := 0) hx hb dX2_isHeard_106 (by decide) ?_
      exact g_zret X hr hlk hQ hW dX2_isHeard_107 (by decide) hf
    · replace hf := ifn hc hf
      refine lv_iload_n hx hb dX2_isHeard_92 rfl (lv_at hl 2 rfl) ?_
      refine lv_aload_n hx hb dX2_isHeard_93 rfl (lv_at hl 0 rfl) ?_
      refine gf_X2_7 X hW dX2_isHeard_94 ?_
      refine lv_iload_n hx hb dX2_isHeard_97 rfl (lv_at hl 1 rfl) ?_
      obtain ⟨hi98, hf⟩ := grd_some hf
      refine g_iald X hW iM_rowSize hi98 dX2_isHeard_98 ?_
      refine lv_icmp_ne (tgt := 106) hx hb dX2_isHeard_99 (by decide) (fun hc => ?_) (fun hc => ?_)
      · replace hf := ifn hc hf
        refine lv_iconst (v := 0) hx hb dX2_isHeard_106 (by decide) ?_
        exact g_zret X hr hlk hQ hW dX2_isHeard_107 (by decide) hf
      · replace hf := ifp hc hf
        refine lv_iconst (v := 1) hx hb dX2_isHeard_102 (by decide) ?_
        refine lv_goto (tgt := 107) hx hb dX2_isHeard_103 (by decide) ?_
        exact g_zret X hr hlk hQ hW dX2_isHeard_107 (by decide) hf
  exact hL8 v1 v2 k87 hJ87 FU 0 1 0 M H locs ls hf hW (lv_sub hl [3, 4, 5, 2, 1, 0] rfl)

def f_X2_kindsOf_L13 (v1_L13 : Int32) (v2_L13 : Int32) (v3_L13 : Int32) (k60 : Int32 → Mem → Option (Int32 × Mem)) : Nat → Int32 → Int32 → Mem → Option (Int32 × Mem)
  | 0, _, _, _ => none
  | n + 1, v4_L13, v5_L13, M_L13 => (if 6 ≤ v5_L13 then (k60 v4_L13 M_L13) else (grd (inb v1_L13 7) (lt (sI M_L13 5 (ix v1_L13) v5_L13) (fun M27 => (bR (f_X2_asItIs M27) (fun M29 => (bI (f_X2_isHeard v1_L13 v2_L13 M29) (fun r37 M37 => (jn (fun (k51 : Int32 → Option (Int32 × Mem)) => (if r37 = 0 then (k51 0) else (k51 (shl 1 v5_L13)))) (fun (t0_51j : Int32) => (f_X2_kindsOf_L13 v1_L13 v2_L13 v3_L13 k60 n (v4_L13 ||| t0_51j) (v5_L13 + 1) M37)))))))))))
def f_X2_kindsOf (v1 : Int32) (v2 : Int32) (M : Mem) : Option (Int32 × Mem) :=
  (grd (inb v1 7) (jn (fun (k60 : Int32 → Mem → Option (Int32 × Mem)) => (f_X2_kindsOf_L13 v1 v2 (M.1 5 (ix v1)) k60 FU 0 0 M)) (fun (v4_60x : Int32) (M_60x : Mem) => (grd (inb v1 7) (lt (sI M_60x 5 (ix v1) (M.1 5 (ix v1))) (fun M66 => (some (v4_60x, M66))))))))
set_option maxHeartbeats 4000000 in
set_option maxRecDepth 100000 in
theorem c_X2_kindsOf (l : Launch) (D : va_G) (cy : Nat → ClassId) (ad : Nat → Nat)   {v1 : Int32} {v2 : Int32} {M M' : Mem} {r : Int32} (hf : f_X2_kindsOf v1 v2 M = some (r, M')) : MetX l 20 (CM ad cy) D cy ad yX2_kindsOf cX2_kindsOf 6 (some .int) 5 [.ref (ad 0), .int v1, .int v2] M (fun A => QI r M' 20 (CM ad cy) D cy ad A) := by
  refine MetX.of (own := RX2) (by decide) rfl (Nat.le_of_ble_eq_true rfl) ?_
  intro p e s m below meth c A Q ls X hr hlk hZ hA hQ hW hl
  have hl : lv_has ls 6 [(0, .ref (ad 0)), (1, .int v1), (2, .int v2)] := hl
  have hx := X.1
  have hb := X.2.1
  have hL13 : ∀ (v1_L13 : Int32) (v2_L13 : Int32) (v3_L13 : Int32) (k60 : Int32 → Mem → Option (Int32 × Mem)) (hJ60 : ∀ (v4_60x : Int32) (M_60x : Mem) (H : Heap) (locs : List Loc) (ls : Array Slot), k60 v4_60x M_60x = some (r, M') → Wd D 20 ad (CM ad cy) A s.heap M_60x H locs → lv_has ls 6 [(0, .ref (ad 0)), (1, .int v1_L13), (3, .int v3_L13), (4, .int v4_60x)] → W p l e (rmD 5) s m ([.ref (ad 0), .int v1, .int v2] : List Value).toArray below meth c H locs 0 0 Q (F0 m 60 ls [])) (n : Nat) (v4_L13 : Int32) (v5_L13 : Int32) (M_L13 : Mem) (H : Heap) (locs : List Loc) (ls : Array Slot), f_X2_kindsOf_L13 v1_L13 v2_L13 v3_L13 k60 n v4_L13 v5_L13 M_L13 = some (r, M') → Wd D 20 ad (CM ad cy) A s.heap M_L13 H locs → lv_has ls 6 [(0, .ref (ad 0)), (1, .int v1_L13), (2, .int v2_L13), (3, .int v3_L13), (4, .int v4_L13), (5, .int v5_L13)] → W p l e (rmD 5) s m ([.ref (ad 0), .int v1, .int v2] : List Value).toArray below meth c H locs 0 0 Q (F0 m 13 ls []) := by
    intro v1_L13 v2_L13 v3_L13 k60 hJ60 n
    induction n with
    | zero =>
      intro v4_L13 v5_L13 M_L13 H locs ls hf
      cases (show (none : Option (Int32 × Mem)) = some (r, M') from hf)
    | succ n ih =>
      intro v4_L13 v5_L13 M_L13 H locs ls hf hW hl
      rw [f_X2_kindsOf_L13] at hf
      refine lv_iload hx hb dX2_kindsOf_13 (lv_at hl 5 rfl) ?_
      refine lv_bipush (v := 6) hx hb dX2_kindsOf_15 (by decide) ?_
      refine lv_icmp_ge (tgt := 60) hx hb dX2_kindsOf_17 (by decide) (fun hc => ?_) (fun hc => ?_)
      · replace hf := ifp hc hf
        exact hJ60 v4_L13 M_L13 H locs ls hf hW (lv_sub hl [0, 1, 3, 4] rfl)
      · replace hf := ifn hc hf
        refine lv_aload_n hx hb dX2_kindsOf_20 rfl (lv_at hl 0 rfl) ?_
        refine gf_X2_22 X hW dX2_kindsOf_21 ?_
        refine lv_iload_n hx hb dX2_kindsOf_24 rfl (lv_at hl 1 rfl) ?_
        refine lv_iload hx hb dX2_kindsOf_25 (lv_at hl 5 rfl) ?_
        obtain ⟨hi27, hf⟩ := grd_some hf
        refine g_iast X hW iM_kind hi27 dX2_kindsOf_27 (fun H locs hW => ?_)
        obtain ⟨M27, e27, hf⟩ := lt_some hf
        have hW : Wd D 20 ad (CM ad cy) A s.heap M27 H locs := by rw [e27]; exact hW
        refine lv_aload_n hx hb dX2_kindsOf_28 rfl (lv_at hl 0 rfl) ?_
        obtain ⟨M29, h29, hf⟩ := bR_some hf
        refine g_callvV X hl.1 hZ hA hW (c_X2_asItIs l D cy ad h29) cw_X2_asItIs ql_X2_173 iO_X2 rfl (by decide) rfl (Nat.le_of_ble_eq_true rfl) dX2_kindsOf_29 (fun H locs hW => ?_)
        refine lv_iload hx hb dX2_kindsOf_32 (lv_at hl 4 rfl) ?_
        refine lv_aload_n hx hb dX2_kindsOf_34 rfl (lv_at hl 0 rfl) ?_
        refine lv_iload_n hx hb dX2_kindsOf_35 rfl (lv_at hl 1 rfl) ?_
        refine lv_iload_n hx hb dX2_kindsOf_36 rfl (lv_at hl 2 rfl) ?_
        obtain ⟨r37, M37, h37, hf⟩ := bI_some hf
        refine g_calliV X hl.1 hZ hA hW (c_X2_isHeard l D cy ad h37) cw_X2_isHeard ql_X2_183 iO_X2 rfl (by decide) rfl (Nat.le_of_ble_eq_true rfl) dX2_kindsOf_37 (fun H locs hW => ?_)
        obtain ⟨k51, hk51, hf⟩ := jn_some1 hf
        have hJ51 : ∀ (t0_51j : Int32) (H : Heap) (locs : List Loc) (ls : Array Slot), k51 t0_51j = some (r, M') → Wd D 20 ad (CM ad cy) A s.heap M37 H locs → lv_has ls 6 [(0, .ref (ad 0)), (1, .int v1_L13), (2, .int v2_L13), (3, .int v3_L13), (5, .int v5_L13)] → W p l e (rmD 5) s m ([.ref (ad 0), .int v1, .int v2] : List Value).toArray below meth c H locs 0 0 Q (F0 m 51 ls [.int t0_51j, .int v4_L13]) := by
          intro t0_51j H locs ls hf hW hl
          rw [hk51] at hf
          refine lv_ior hx hb dX2_kindsOf_51 ?_
          refine lv_istore (lv' := [(4, .int (v4_L13 ||| t0_51j)), (0, .ref (ad 0)), (1, .int v1_L13), (2, .int v2_L13), (3, .int v3_L13), (5, .int v5_L13)]) hx hb dX2_kindsOf_52 hl (by decide) rfl (fun ls hl => ?_)
          refine lv_iinc (v := (v5_L13 + 1)) (lv' := [(5, .int (v5_L13 + 1)), (4, .int (v4_L13 ||| t0_51j)), (0, .ref (ad 0)), (1, .int v1_L13), (2, .int v2_L13), (3, .int v3_L13)]) hx hb dX2_kindsOf_54 hl (k := 5) rfl rfl (by decide) rfl (fun ls hl => ?_)
          refine lv_goto (tgt := 13) hx hb dX2_kindsOf_57 (by decide) ?_
          exact ih (v4_L13 ||| t0_51j) (v5_L13 + 1) M37 H locs ls hf hW (lv_sub hl [2, 3, 4, 5, 1, 0] rfl)
        refine lv_if_eq (tgt := 50) hx hb dX2_kindsOf_40 (by decide) (fun hc => ?_) (fun hc => ?_)
        · replace hf := ifp hc hf
          refine lv_iconst (v := 0) hx hb dX2_kindsOf_50 (by decide) ?_
          exact hJ51 0 H locs ls hf hW (lv_sub hl [0, 1, 2, 3, 5] rfl)
        · replace hf := ifn hc hf
          refine lv_iconst (v := 1) hx hb dX2_kindsOf_43 (by decide) ?_
          refine lv_iload hx hb dX2_kindsOf_44 (lv_at hl 5 rfl) ?_
          refine r_ishl hx hb dX2_kindsOf_46 ?_
          refine lv_goto (tgt := 51) hx hb dX2_kindsOf_47 (by decide) ?_
          exact hJ51 (shl 1 v5_L13) H locs ls hf hW (lv_sub hl [0, 1, 2, 3, 5] rfl)
  obtain ⟨H, hH⟩ : ∃ H, H = s.heap := ⟨_, rfl⟩
  obtain ⟨locs, hlo⟩ : ∃ q : List Loc, q = [] := ⟨_, rfl⟩
  have hW : Wd D 20 ad (CM ad cy) A s.heap M H locs := by rw [hH, hlo]; exact hW
  suffices hh : W p l e (rmD 5) s m ([.ref (ad 0), .int v1, .int v2] : List Value).toArray below meth c H locs 0 0 Q (F0 m 0 ls []) by rw [hH, hlo] at hh; exact hh
  unfold f_X2_kindsOf at hf
  refine lv_aload_n hx hb dX2_kindsOf_0 rfl (lv_at hl 0 rfl) ?_
  refine gf_X2_22 X hW dX2_kindsOf_1 ?_
  refine lv_iload_n hx hb dX2_kindsOf_4 rfl (lv_at hl 1 rfl) ?_
  obtain ⟨hi5, hf⟩ := grd_some hf
  refine g_iald X hW iM_kind hi5 dX2_kindsOf_5 ?_
  refine lv_istore_n (lv' := [(3, .int (M.1 5 (ix v1))), (0, .ref (ad 0)), (1, .int v1), (2, .int v2)]) hx hb dX2_kindsOf_6 rfl hl (by decide) rfl (fun ls hl => ?_)
  refine lv_iconst (v := 0) hx hb dX2_kindsOf_7 (by decide) ?_
  refine lv_istore (lv' := [(4, .int 0), (3, .int (M.1 5 (ix v1))), (0, .ref (ad 0)), (1, .int v1), (2, .int v2)]) hx hb dX2_kindsOf_8 hl (by decide) rfl (fun ls hl => ?_)
  refine lv_iconst (v := 0) hx hb dX2_kindsOf_10 (by decide) ?_
  refine lv_istore (lv' := [(5, .int 0), (4, .int 0), (3, .int (M.1 5 (ix v1))), (0, .ref (ad 0)), (1, .int v1), (2, .int v2)]) hx hb dX2_kindsOf_11 hl (by decide) rfl (fun ls hl => ?_)
  obtain ⟨k60, hk60, hf⟩ := jn_some2 hf
  have hJ60 : ∀ (v4_60x : Int32) (M_60x : Mem) (H : Heap) (locs : List Loc) (ls : Array Slot), k60 v4_60x M_60x = some (r, M') → Wd D 20 ad (CM ad cy) A s.heap M_60x H locs → lv_has ls 6 [(0, .ref (ad 0)), (1, .int v1), (3, .int (M.1 5 (ix v1))), (4, .int v4_60x)] → W p l e (rmD 5) s m ([.ref (ad 0), .int v1, .int v2] : List Value).toArray below meth c H locs 0 0 Q (F0 m 60 ls []) := by
    intro v4_60x M_60x H locs ls hf hW hl
    rw [hk60] at hf
    refine lv_aload_n hx hb dX2_kindsOf_60 rfl (lv_at hl 0 rfl) ?_
    refine gf_X2_22 X hW dX2_kindsOf_61 ?_
    refine lv_iload_n hx hb dX2_kindsOf_64 rfl (lv_at hl 1 rfl) ?_
    refine lv_iload_n hx hb dX2_kindsOf_65 rfl (lv_at hl 2 rfl) ?_
    obtain ⟨hi66, hf⟩ := grd_some hf
    refine g_iast X hW iM_kind hi66 dX2_kindsOf_66 (fun H locs hW => ?_)
    obtain ⟨M66, e66, hf⟩ := lt_some hf
    have hW : Wd D 20 ad (CM ad cy) A s.heap M66 H locs := by rw [e66]; exact hW
    refine lv_iload hx hb dX2_kindsOf_67 (lv_at hl 3 rfl) ?_
    exact g_iret X hr hlk hQ hW dX2_kindsOf_69 hf
  exact hL13 v1 v2 (M.1 5 (ix v1)) k60 hJ60 FU 0 0 M H locs ls hf hW (lv_sub hl [3, 4, 5, 2, 1, 0] rfl)

def f_X2_kinds (v1 : Int32) (v2 : Int32) (M : Mem) : Option (Int32 × Mem) :=
  (bR (f_X2_isTube v1 M) (fun r2 => (if r2 = 0 then (some ((-1), M)) else (bR (f_X2_isRow v2 M) (fun r9 => (if r9 = 0 then (some ((-1), M)) else (bR (f_X2_heardOf v2 M) (fun r19 => (if r19 = 0 then (bI (f_X2_kindsOf v1 v2 M) (fun r38 M38 => (some (r38, M38)))) else (bI (f_X2_found r19 M) (fun r29 M29 => (some (r29, M29)))))))))))))
set_option maxHeartbeats 4000000 in
set_option maxRecDepth 100000 in
theorem c_X2_kinds (l : Launch) (D : va_G) (cy : Nat → ClassId) (ad : Nat → Nat)   {v1 : Int32} {v2 : Int32} {M M' : Mem} {r : Int32} (hf : f_X2_kinds v1 v2 M = some (r, M')) : MetX l 20 (CM ad cy) D cy ad yX2_kinds cX2_kinds 4 (some .int) 6 [.ref (ad 0), .int v1, .int v2] M (fun A => QI r M' 20 (CM ad cy) D cy ad A) := by
  refine MetX.of (own := RX2) (by decide) rfl (Nat.le_of_ble_eq_true rfl) ?_
  intro p e s m below meth c A Q ls X hr hlk hZ hA hQ hW hl
  have hl : lv_has ls 4 [(0, .ref (ad 0)), (1, .int v1), (2, .int v2)] := hl
  have hx := X.1
  have hb := X.2.1
  obtain ⟨H, hH⟩ : ∃ H, H = s.heap := ⟨_, rfl⟩
  obtain ⟨locs, hlo⟩ : ∃ q : List Loc, q = [] := ⟨_, rfl⟩
  have hW : Wd D 20 ad (CM ad cy) A s.heap M H locs := by rw [hH, hlo]; exact hW
  suffices hh : W p l e (rmD 6) s m ([.ref (ad 0), .int v1, .int v2] : List Value).toArray below meth c H locs 0 0 Q (F0 m 0 ls []) by rw [hH, hlo] at hh; exact hh
  unfold f_X2_kinds at hf
  refine lv_aload_n hx hb dX2_kinds_0 rfl (lv_at hl 0 rfl) ?_
  refine lv_iload_n hx hb dX2_kinds_1 rfl (lv_at hl 1 rfl) ?_
  obtain ⟨r2, h2, hf⟩ := bR_some hf
  refine g_calliV X hl.1 hZ hA hW (c_X2_isTube l D cy ad h2) cw_X2_isTube ql_X2_145 iO_X2 rfl (by decide) rfl (Nat.le_of_ble_eq_true rfl) dX2_kinds_2 (fun H locs hW => ?_)
  refine lv_if_eq (tgt := 15) hx hb dX2_kinds_5 (by decide) (fun hc => ?_) (fun hc => ?_)
  · replace hf := ifp hc hf
    refine lv_iconst (v := (-1)) hx hb dX2_kinds_15 (by decide) ?_
    exact g_iret X hr hlk hQ hW dX2_kinds_16 hf
  · replace hf := ifn hc hf
    refine lv_iload_n hx hb dX2_kinds_8 rfl (lv_at hl 2 rfl) ?_
    obtain ⟨r9, h9, hf⟩ := bR_some hf
    refine g_calliS X hl.1 hZ hA hW (c_X2_isRow l D cy ad h9) cs_X2_isRow ql_X2_86 rfl (by decide) rfl (Nat.le_of_ble_eq_true rfl) dX2_kinds_9 (fun H locs hW => ?_)
    refine lv_if_ne (tgt := 17) hx hb dX2_kinds_12 (by decide) (fun hc => ?_) (fun hc => ?_)
    · replace hf := ifn hc hf
      refine lv_aload_n hx hb dX2_kinds_17 rfl (lv_at hl 0 rfl) ?_
      refine lv_iload_n hx hb dX2_kinds_18 rfl (lv_at hl 2 rfl) ?_
      obtain ⟨r19, h19, hf⟩ := bR_some hf
      refine g_calliV X hl.1 hZ hA hW (c_X2_heardOf l D cy ad h19) cw_X2_heardOf ql_X2_186 iO_X2 rfl (by decide) rfl (Nat.le_of_ble_eq_true rfl) dX2_kinds_19 (fun H locs hW => ?_)
      refine lv_istore_n (lv' := [(3, .int r19), (0, .ref (ad 0)), (1, .int v1), (2, .int v2)]) hx hb dX2_kinds_22 rfl hl (by decide) rfl (fun ls hl => ?_)
      refine lv_iload_n hx hb dX2_kinds_23 rfl (lv_at hl 0 rfl) ?_
      refine lv_if_eq (tgt := 35) hx hb dX2_kinds_24 (by decide) (fun hc => ?_) (fun hc => ?_)
      · replace hf := ifp hc hf
        refine lv_aload_n hx hb dX2_kinds_35 rfl (lv_at hl 1 rfl) ?_
        refine lv_iload_n hx hb dX2_kinds_36 rfl (lv_at hl 2 rfl) ?_
        refine lv_iload_n hx hb dX2_kinds_37 rfl (lv_at hl 3 rfl) ?_
        obtain ⟨r38, M38, h38, hf⟩ := bI_some hf
        refine g_calliV X hl.1 hZ hA hW (c_X2_kindsOf l D cy ad h38) cw_X2_kindsOf ql_X2_189 iO_X2 rfl (by decide) rfl (Nat.le_of_ble_eq_true rfl) dX2_kinds_38 (fun H locs hW => ?_)
        exact g_iret X hr hlk hQ hW dX2_kinds_41 hf
      · replace hf := ifn hc hf
        refine lv_aload_n hx hb dX2_kinds_27 rfl (lv_at hl 1 rfl) ?_
        refine lv_iload_n hx hb dX2_kinds_28 rfl (lv_at hl 0 rfl) ?_
        obtain ⟨r29, M29, h29, hf⟩ := bI_some hf
        refine g_calliV X hl.1 hZ hA hW (c_X2_found l D cy ad h29) cw_X2_found ql_X2_90 iO_X2 rfl (by decide) rfl (Nat.le_of_ble_eq_true rfl) dX2_kinds_29 (fun H locs hW => ?_)
        refine lv_goto (tgt := 41) hx hb dX2_kinds_32 (by decide) ?_
        exact g_iret X hr hlk hQ hW dX2_kinds_41 hf
    · replace hf := ifp hc hf
      refine lv_iconst (v := (-1)) hx hb dX2_kinds_15 (by decide) ?_
      exact g_iret X hr hlk hQ hW dX2_kinds_16 hf

def f_X2_words_L51 (v1_L51 : Int32) (v2_L51 : Int32) (k92 : Int32 → Int32 → Mem → Option (Int32 × Mem)) : Nat → Int32 → Int32 → Int32 → Mem → Option (Int32 × Mem)
  | 0, _, _, _, _ => none
  | n + 1, v4_L51, v5_L51, v6_L51, M_L51 => (if v6_L51 < 0 then (k92 v4_L51 v5_L51 M_L51) else (bR (f_X2_asItIs M_L51) (fun M57 => (grd (inb (1 + v1_L51) 15) (lt (sI M57 9 (ix (1 + v1_L51)) v6_L51) (fun M69 => (bI (f_X2_isHeard v1_L51 v2_L51 M69) (fun r73 M73 => (jn (fun (k86 : Int32 → Int32 → Option (Int32 × Mem)) => (if r73 = 0 then (k86 v4_L51 v5_L51) else (k86 (v4_L51 + 1) v6_L51))) (fun (v4_86j : Int32) (v5_86j : Int32) => (f_X2_words_L51 v1_L51 v2_L51 k92 n v4_86j v5_86j (v6_L51 + (-1)) M73)))))))))))
def f_X2_words (v1 : Int32) (v2 : Int32) (M : Mem) : Option (Int32 × Mem) :=
  (bR (f_X2_isTube v1 M) (fun r2 => (if r2 = 0 then (some ((-1), M)) else (bR (f_X2_isRow v2 M) (fun r9 => (if r9 = 0 then (some ((-1), M)) else (bR (f_X2_heardOf v2 M) (fun r19 => (if r19 = 0 then (grd (inb v1 7) (jn (fun (k92 : Int32 → Int32 → Mem → Option (Int32 × Mem)) => (f_X2_words_L51 v1 v2 k92 FU 0 0 ((shl 1 (M.1 6 (ix v1))) - 1) M)) (fun (v4_92x : Int32) (v5_92x : Int32) (M_92x : Mem) => (if v4_92x = 0 then (some ((-9), M_92x)) else (bI (f_X2_tells v5_92x v4_92x M_92x) (fun r107 M107 => (some (r107, M107)))))))) else (bI (f_X2_found r19 M) (fun r29 M29 => (some (r29, M29)))))))))))))
set_option maxHeartbeats 4000000 in
set_option maxRecDepth 100000 in
theorem c_X2_words (l : Launch) (D : va_G) (cy : Nat → ClassId) (ad : Nat → Nat)   {v1 : Int32} {v2 : Int32} {M M' : Mem} {r : Int32} (hf : f_X2_words v1 v2 M = some (r, M')) : MetX l 20 (CM ad cy) D cy ad yX2_words cX2_words 7 (some .int) 5 [.ref (ad 0), .int v1, .int v2] M (fun A => QI r M' 20 (CM ad cy) D cy ad A) := by
  refine MetX.of (own := RX2) (by decide) rfl (Nat.le_of_ble_eq_true rfl) ?_
  intro p e s m below meth c A Q ls X hr hlk hZ hA hQ hW hl
  have hl : lv_has ls 7 [(0, .ref (ad 0)), (1, .int v1), (2, .int v2)] := hl
  have hx := X.1
  have hb := X.2.1
  have hL51 : ∀ (v1_L51 : Int32) (v2_L51 : Int32) (k92 : Int32 → Int32 → Mem → Option (Int32 × Mem)) (hJ92 : ∀ (v4_92x : Int32) (v5_92x : Int32) (M_92x : Mem) (H : Heap) (locs : List Loc) (ls : Array Slot), k92 v4_92x v5_92x M_92x = some (r, M') → Wd D 20 ad (CM ad cy) A s.heap M_92x H locs → lv_has ls 7 [(0, .ref (ad 0)), (4, .int v4_92x), (5, .int v5_92x)] → W p l e (rmD 5) s m ([.ref (ad 0), .int v1, .int v2] : List Value).toArray below meth c H locs 0 0 Q (F0 m 92 ls [])) (n : Nat) (v4_L51 : Int32) (v5_L51 : Int32) (v6_L51 : Int32) (M_L51 : Mem) (H : Heap) (locs : List Loc) (ls : Array Slot), f_X2_words_L51 v1_L51 v2_L51 k92 n v4_L51 v5_L51 v6_L51 M_L51 = some (r, M') → Wd D 20 ad (CM ad cy) A s.heap M_L51 H locs → lv_has ls 7 [(0, .ref (ad 0)), (1, .int v1_L51), (2, .int v2_L51), (4, .int v4_L51), (5, .int v5_L51), (6, .int v6_L51)] → W p l e (rmD 5) s m ([.ref (ad 0), .int v1, .int v2] : List Value).toArray below meth c H locs 0 0 Q (F0 m 51 ls []) := by
    intro v1_L51 v2_L51 k92 hJ92 n
    induction n with
    | zero =>
      intro v4_L51 v5_L51 v6_L51 M_L51 H locs ls hf
      cases (show (none : Option (Int32 × Mem)) = some (r, M') from hf)
    | succ n ih =>
      intro v4_L51 v5_L51 v6_L51 M_L51 H locs ls hf hW hl
      rw [f_X2_words_L51] at hf
      refine lv_iload hx hb dX2_words_51 (lv_at hl 5 rfl) ?_
      refine lv_if_lt (tgt := 92) hx hb dX2_words_53 (by decide) (fun hc => ?_) (fun hc => ?_)
      · replace hf := ifp hc hf
        exact hJ92 v4_L51 v5_L51 M_L51 H locs ls hf hW (lv_sub hl [0, 3, 4] rfl)
      · replace hf := ifn hc hf
        refine lv_aload_n hx hb dX2_words_56 rfl (lv_at hl 0 rfl) ?_
        obtain ⟨M57, h57, hf⟩ := bR_some hf
        refine g_callvV X hl.1 hZ hA hW (c_X2_asItIs l D cy ad h57) cw_X2_asItIs ql_X2_173 iO_X2 rfl (by decide) rfl (Nat.le_of_ble_eq_true rfl) dX2_words_57 (fun H locs hW => ?_)
        refine lv_aload_n hx hb dX2_words_60 rfl (lv_at hl 0 rfl) ?_
        refine gf_X2_34 X hW dX2_words_61 ?_
        refine lv_iconst (v := 1) hx hb dX2_words_64 (by decide) ?_
        refine lv_iload_n hx hb dX2_words_65 rfl (lv_at hl 1 rfl) ?_
        refine lv_iadd hx hb dX2_words_66 ?_
        refine lv_iload hx hb dX2_words_67 (lv_at hl 5 rfl) ?_
        obtain ⟨hi69, hf⟩ := grd_some hf
        refine g_iast X hW iM_now hi69 dX2_words_69 (fun H locs hW => ?_)
        obtain ⟨M69, e69, hf⟩ := lt_some hf
        have hW : Wd D 20 ad (CM ad cy) A s.heap M69 H locs := by rw [e69]; exact hW
        refine lv_aload_n hx hb dX2_words_70 rfl (lv_at hl 0 rfl) ?_
        refine lv_iload_n hx hb dX2_words_71 rfl (lv_at hl 1 rfl) ?_
        refine lv_iload_n hx hb dX2_words_72 rfl (lv_at hl 2 rfl) ?_
        obtain ⟨r73, M73, h73, hf⟩ := bI_some hf
        refine g_calliV X hl.1 hZ hA hW (c_X2_isHeard l D cy ad h73) cw_X2_isHeard ql_X2_183 iO_X2 rfl (by decide) rfl (Nat.le_of_ble_eq_true rfl) dX2_words_73 (fun H locs hW => ?_)
        obtain ⟨k86, hk86, hf⟩ := jn_some2 hf
        have hJ86 : ∀ (v4_86j : Int32) (v5_86j : Int32) (H : Heap) (locs : List Loc) (ls : Array Slot), k86 v4_86j v5_86j = some (r, M') → Wd D 20 ad (CM ad cy) A s.heap M73 H locs → lv_has ls 7 [(0, .ref (ad 0)), (1, .int v1_L51), (2, .int v2_L51), (4, .int v4_86j), (5, .int v5_86j), (6, .int v6_L51)] → W p l e (rmD 5) s m ([.ref (ad 0), .int v1, .int v2] : List Value).toArray below meth c H locs 0 0 Q (F0 m 86 ls []) := by
          intro v4_86j v5_86j H locs ls hf hW hl
          rw [hk86] at hf
          refine lv_iinc (v := (v6_L51 + (-1))) (lv' := [(6, .int (v6_L51 + (-1))), (0, .ref (ad 0)), (1, .int v1_L51), (2, .int v2_L51), (4, .int v4_86j), (5, .int v5_86j)]) hx hb dX2_words_86 hl (k := 5) rfl rfl (by decide) rfl (fun ls hl => ?_)
          refine lv_goto (tgt := 51) hx hb dX2_words_89 (by decide) ?_
          exact ih v4_86j v5_86j (v6_L51 + (-1)) M73 H locs ls hf hW (lv_sub hl [1, 2, 3, 4, 5, 0] rfl)
        refine lv_if_eq (tgt := 86) hx hb dX2_words_76 (by decide) (fun hc => ?_) (fun hc => ?_)
        · replace hf := ifp hc hf
          exact hJ86 v4_L51 v5_L51 H locs ls hf hW (lv_sub hl [0, 1, 2, 3, 4, 5] rfl)
        · replace hf := ifn hc hf
          refine lv_iinc (v := (v4_L51 + 1)) (lv' := [(4, .int (v4_L51 + 1)), (0, .ref (ad 0)), (1, .int v1_L51), (2, .int v2_L51), (5, .int v5_L51), (6, .int v6_L51)]) hx hb dX2_words_79 hl (k := 3) rfl rfl (by decide) rfl (fun ls hl => ?_)
          refine lv_iload hx hb dX2_words_82 (lv_at hl 5 rfl) ?_
          refine lv_istore (lv' := [(5, .int v6_L51), (4, .int (v4_L51 + 1)), (0, .ref (ad 0)), (1, .int v1_L51), (2, .int v2_L51), (6, .int v6_L51)]) hx hb dX2_words_84 hl (by decide) rfl (fun ls hl => ?_)
          exact hJ86 (v4_L51 + 1) v6_L51 H locs ls hf hW (lv_sub hl [2, 3, 4, 1, 0, 5] rfl)
  obtain ⟨H, hH⟩ : ∃ H, H = s.heap := ⟨_, rfl⟩
  obtain ⟨locs, hlo⟩ : ∃ q : List Loc, q = [] := ⟨_, rfl⟩
  have hW : Wd D 20 ad (CM ad cy) A s.heap M H locs := by rw [hH, hlo]; exact hW
  suffices hh : W p l e (rmD 5) s m ([.ref (ad 0), .int v1, .int v2] : List Value).toArray below meth c H locs 0 0 Q (F0 m 0 ls []) by rw [hH, hlo] at hh; exact hh
  unfold f_X2_words at hf
  refine lv_aload_n hx hb dX2_words_0 rfl (lv_at hl 0 rfl) ?_
  refine lv_iload_n hx hb dX2_words_1 rfl (lv_at hl 1 rfl) ?_
  obtain ⟨r2, h2, hf⟩ := bR_some hf
  refine g_calliV X hl.1 hZ hA hW (c_X2_isTube l D cy ad h2) cw_X2_isTube ql_X2_145 iO_X2 rfl (by decide) rfl (Nat.le_of_ble_eq_true rfl) dX2_words_2 (fun H locs hW => ?_)
  refine lv_if_eq (tgt := 15) hx hb dX2_words_5 (by decide) (fun hc => ?_) (fun hc => ?_)
  · replace hf := ifp hc hf
    refine lv_iconst (v := (-1)) hx hb dX2_words_15 (by decide) ?_
    exact g_iret X hr hlk hQ hW dX2_words_16 hf
  · replace hf := ifn hc hf
    refine lv_iload_n hx hb dX2_words_8 rfl (lv_at hl 2 rfl) ?_
    obtain ⟨r9, h9, hf⟩ := bR_some hf
    refine g_calliS X hl.1 hZ hA hW (c_X2_isRow l D cy ad h9) cs_X2_isRow ql_X2_86 rfl (by decide) rfl (Nat.le_of_ble_eq_true rfl) dX2_words_9 (fun H locs hW => ?_)
    refine lv_if_ne (tgt := 17) hx hb dX2_words_12 (by decide) (fun hc => ?_) (fun hc => ?_)
    · replace hf := ifn hc hf
      refine lv_aload_n hx hb dX2_words_17 rfl (lv_at hl 0 rfl) ?_
      refine lv_iload_n hx hb dX2_words_18 rfl (lv_at hl 2 rfl) ?_
      obtain ⟨r19, h19, hf⟩ := bR_some hf
      refine g_calliV X hl.1 hZ hA hW (c_X2_heardOf l D cy ad h19) cw_X2_heardOf ql_X2_186 iO_X2 rfl (by decide) rfl (Nat.le_of_ble_eq_true rfl) dX2_words_19 (fun H locs hW => ?_)
      refine lv_istore_n (lv' := [(3, .int r19), (0, .ref (ad 0)), (1, .int v1), (2, .int v2)]) hx hb dX2_words_22 rfl hl (by decide) rfl (fun ls hl => ?_)
      refine lv_iload_n hx hb dX2_words_23 rfl (lv_at hl 0 rfl) ?_
      refine lv_if_eq (tgt := 33) hx hb dX2_words_24 (by decide) (fun hc => ?_) (fun hc => ?_)
      · replace hf := ifp hc hf
        refine lv_iconst (v := 0) hx hb dX2_words_33 (by decide) ?_
        refine lv_istore (lv' := [(4, .int 0), (3, .int r19), (0, .ref (ad 0)), (1, .int v1), (2, .int v2)]) hx hb dX2_words_34 hl (by decide) rfl (fun ls hl => ?_)
        refine lv_iconst (v := 0) hx hb dX2_words_36 (by decide) ?_
        refine lv_istore (lv' := [(5, .int 0), (4, .int 0), (3, .int r19), (0, .ref (ad 0)), (1, .int v1), (2, .int v2)]) hx hb dX2_words_37 hl (by decide) rfl (fun ls hl => ?_)
        refine lv_iconst (v := 1) hx hb dX2_words_39 (by decide) ?_
        refine lv_aload_n hx hb dX2_words_40 rfl (lv_at hl 3 rfl) ?_
        refine gf_X2_25 X hW dX2_words_41 ?_
        refine lv_iload_n hx hb dX2_words_44 rfl (lv_at hl 4 rfl) ?_
        obtain ⟨hi45, hf⟩ := grd_some hf
        refine g_iald X hW iM_size hi45 dX2_words_45 ?_
        refine r_ishl hx hb dX2_words_46 ?_
        refine lv_iconst (v := 1) hx hb dX2_words_47 (by decide) ?_
        refine lv_isub hx hb dX2_words_48 ?_
        refine lv_istore (lv' := [(6, .int ((shl 1 (M.1 6 (ix v1))) - 1)), (5, .int 0), (4, .int 0), (3, .int r19), (0, .ref (ad 0)), (1, .int v1), (2, .int v2)]) hx hb dX2_words_49 hl (by decide) rfl (fun ls hl => ?_)
        obtain ⟨k92, hk92, hf⟩ := jn_some3 hf
        have hJ92 : ∀ (v4_92x : Int32) (v5_92x : Int32) (M_92x : Mem) (H : Heap) (locs : List Loc) (ls : Array Slot), k92 v4_92x v5_92x M_92x = some (r, M') → Wd D 20 ad (CM ad cy) A s.heap M_92x H locs → lv_has ls 7 [(0, .ref (ad 0)), (4, .int v4_92x), (5, .int v5_92x)] → W p l e (rmD 5) s m ([.ref (ad 0), .int v1, .int v2] : List Value).toArray below meth c H locs 0 0 Q (F0 m 92 ls []) := by
          intro v4_92x v5_92x M_92x H locs ls hf hW hl
          rw [hk92] at hf
          refine lv_iload hx hb dX2_words_92 (lv_at hl 1 rfl) ?_
          refine lv_if_ne (tgt := 102) hx hb dX2_words_94 (by decide) (fun hc => ?_) (fun hc => ?_)
          · replace hf := ifn hc hf
            refine lv_aload_n hx hb dX2_words_102 rfl (lv_at hl 0 rfl) ?_
            refine lv_iload hx hb dX2_words_103 (lv_at hl 2 rfl) ?_
            refine lv_iload hx hb dX2_words_105 (lv_at hl 1 rfl) ?_
            obtain ⟨r107, M107, h107, hf⟩ := bI_some hf
            refine g_calliV X hl.1 hZ hA hW (c_X2_tells l D cy ad h107) cw_X2_tells ql_X2_102 iO_X2 rfl (by decide) rfl (Nat.le_of_ble_eq_true rfl) dX2_words_107 (fun H locs hW => ?_)
            exact g_iret X hr hlk hQ hW dX2_words_110 hf
          · replace hf := ifp hc hf
            refine lv_bipush (v := (-9)) hx hb dX2_words_97 (by decide) ?_
            refine lv_goto (tgt := 110) hx hb dX2_words_99 (by decide) ?_
            exact g_iret X hr hlk hQ hW dX2_words_110 hf
        exact hL51 v1 v2 k92 hJ92 FU 0 0 ((shl 1 (M.1 6 (ix v1))) - 1) M H locs ls hf hW (lv_sub hl [4, 5, 6, 2, 1, 0] rfl)
      · replace hf := ifn hc hf
        refine lv_aload_n hx hb dX2_words_27 rfl (lv_at hl 1 rfl) ?_
        refine lv_iload_n hx hb dX2_words_28 rfl (lv_at hl 0 rfl) ?_
        obtain ⟨r29, M29, h29, hf⟩ := bI_some hf
        refine g_calliV X hl.1 hZ hA hW (c_X2_found l D cy ad h29) cw_X2_found ql_X2_90 iO_X2 rfl (by decide) rfl (Nat.le_of_ble_eq_true rfl) dX2_words_29 (fun H locs hW => ?_)
        exact g_iret X hr hlk hQ hW dX2_words_32 hf
    · replace hf := ifp hc hf
      refine lv_iconst (v := (-1)) hx hb dX2_words_15 (by decide) ?_
      exact g_iret X hr hlk hQ hW dX2_words_16 hf

def f_X2_greatest_L83 (v2_L83 : Int32) (v5_L83 : Int32) (v6_L83 : Int32) (M_L83 : Mem) (k143 : Int32 → Option (Int32 × Mem)) : Nat → Int32 → Int32 → Option (Int32 × Mem)
  | 0, _, _ => none
  | n + 1, v7_L83, v8_L83 => (if 6 ≤ v8_L83 then (k143 v7_L83) else (jn (fun (k133 : Option (Int32 × Mem)) => (jn (fun (k134 : Int32 → Option (Int32 × Mem)) => (if ((shr v2_L83 v6_L83) &&& 1) = 1 then (if ((shr v2_L83 v8_L83) &&& 1) = 1 then (grd (inb v6_L83 6) (grd (inb v8_L83 6) (if (M_L83.1 18 (ix v6_L83)) = (M_L83.1 18 (ix v8_L83)) then (k134 1) else k133))) else k133) else k133)) (fun (t0_134j : Int32) => (f_X2_greatest_L83 v2_L83 v5_L83 v6_L83 M_L83 k143 n (v7_L83 + t0_134j) (v8_L83 + 1))))) ((f_X2_greatest_L83 v2_L83 v5_L83 v6_L83 M_L83 k143 n (v7_L83 + 0) (v8_L83 + 1)))))
def f_X2_greatest_L70 (v2_L70 : Int32) (M_L70 : Mem) : Nat → Int32 → Int32 → Option (Int32 × Mem)
  | 0, _, _ => none
  | n + 1, v5_L70, v6_L70 => (if 6 ≤ v6_L70 then (some (v5_L70, M_L70)) else (jn (fun (k143 : Int32 → Option (Int32 × Mem)) => (f_X2_greatest_L83 v2_L70 v5_L70 v6_L70 M_L70 k143 FU 0 0)) (fun (v7_143x : Int32) => (jn (fun (k157 : Int32 → Option (Int32 × Mem)) => (if v7_143x ≤ v5_L70 then (k157 v5_L70) else (k157 v7_143x))) (fun (t0_157j : Int32) => (f_X2_greatest_L70 v2_L70 M_L70 n t0_157j (v6_L70 + 1)))))))
def f_X2_greatest_L11 (v1_L11 : Int32) (v2_L11 : Int32) (v3_L11 : Int32) (v4_L11 : Int32) (k56 : Mem → Option (Int32 × Mem)) : Nat → Int32 → Mem → Option (Int32 × Mem)
  | 0, _, _ => none
  | n + 1, v5_L11, M_L11 => (if 6 ≤ v5_L11 then (k56 M_L11) else (grd (inb v1_L11 7) (lt (sI M_L11 5 (ix v1_L11) v5_L11) (fun M25 => (bR (f_X2_asItIs M25) (fun M27 => (bR (f_X2_goes v3_L11 M27) (fun M32 => (grd (inb (1 + v1_L11) 15) (grd (inb v5_L11 6) (lt (sI M32 18 (ix v5_L11) (M32.1 9 (ix (1 + v1_L11)))) (fun M49 => (f_X2_greatest_L11 v1_L11 v2_L11 v3_L11 v4_L11 k56 n (v5_L11 + 1) M49)))))))))))))
def f_X2_greatest (v1 : Int32) (v2 : Int32) (v3 : Int32) (M : Mem) : Option (Int32 × Mem) :=
  (grd (inb v1 7) (jn (fun (k56 : Mem → Option (Int32 × Mem)) => (f_X2_greatest_L11 v1 v2 v3 (M.1 5 (ix v1)) k56 FU 0 M)) (fun  (M_56x : Mem) => (grd (inb v1 7) (lt (sI M_56x 5 (ix v1) (M.1 5 (ix v1))) (fun M63 => (f_X2_greatest_L70 v2 M63 FU 0 0)))))))
set_option maxHeartbeats 4000000 in
set_option maxRecDepth 100000 in
theorem c_X2_greatest (l : Launch) (D : va_G) (cy : Nat → ClassId) (ad : Nat → Nat)   {v1 : Int32} {v2 : Int32} {v3 : Int32} {M M' : Mem} {r : Int32} (hf : f_X2_greatest v1 v2 v3 M = some (r, M')) : MetX l 20 (CM ad cy) D cy ad yX2_greatest cX2_greatest 9 (some .int) 4 [.ref (ad 0), .int v1, .int v2, .int v3] M (fun A => QI r M' 20 (CM ad cy) D cy ad A) := by
  refine MetX.of (own := RX2) (by decide) rfl (Nat.le_of_ble_eq_true rfl) ?_
  intro p e s m below meth c A Q ls X hr hlk hZ hA hQ hW hl
  have hl : lv_has ls 9 [(0, .ref (ad 0)), (1, .int v1), (2, .int v2), (3, .int v3)] := hl
  have hx := X.1
  have hb := X.2.1
  have hL83 : ∀ (v2_L83 : Int32) (v5_L83 : Int32) (v6_L83 : Int32) (M_L83 : Mem) (k143 : Int32 → Option (Int32 × Mem)) (hJ143 : ∀ (v7_143x : Int32) (H : Heap) (locs : List Loc) (ls : Array Slot), k143 v7_143x = some (r, M') → Wd D 20 ad (CM ad cy) A s.heap M_L83 H locs → lv_has ls 9 [(0, .ref (ad 0)), (2, .int v2_L83), (5, .int v5_L83), (6, .int v6_L83), (7, .int v7_143x)] → W p l e (rmD 4) s m ([.ref (ad 0), .int v1, .int v2, .int v3] : List Value).toArray below meth c H locs 0 0 Q (F0 m 143 ls [])) (n : Nat) (v7_L83 : Int32) (v8_L83 : Int32) (H : Heap) (locs : List Loc) (ls : Array Slot), f_X2_greatest_L83 v2_L83 v5_L83 v6_L83 M_L83 k143 n v7_L83 v8_L83 = some (r, M') → Wd D 20 ad (CM ad cy) A s.heap M_L83 H locs → lv_has ls 9 [(0, .ref (ad 0)), (2, .int v2_L83), (5, .int v5_L83), (6, .int v6_L83), (7, .int v7_L83), (8, .int v8_L83)] → W p l e (rmD 4) s m ([.ref (ad 0), .int v1, .int v2, .int v3] : List Value).toArray below meth c H locs 0 0 Q (F0 m 83 ls []) := by
    intro v2_L83 v5_L83 v6_L83 M_L83 k143 hJ143 n
    induction n with
    | zero =>
      intro v7_L83 v8_L83 H locs ls hf
      cases (show (none : Option (Int32 × Mem)) = some (r, M') from hf)
    | succ n ih =>
      intro v7_L83 v8_L83 H locs ls hf hW hl
      rw [f_X2_greatest_L83] at hf
      refine lv_iload hx hb dX2_greatest_83 (lv_at hl 5 rfl) ?_
      refine lv_bipush (v := 6) hx hb dX2_greatest_85 (by decide) ?_
      refine lv_icmp_ge (tgt := 143) hx hb dX2_greatest_87 (by decide) (fun hc => ?_) (fun hc => ?_)
      · replace hf := ifp hc hf
        exact hJ143 v7_L83 H locs ls hf hW (lv_sub hl [0, 1, 2, 3, 4] rfl)
      · replace hf := ifn hc hf
        refine lv_iload hx hb dX2_greatest_90 (lv_at hl 4 rfl) ?_
        refine lv_iload_n hx hb dX2_greatest_92 rfl (lv_at hl 1 rfl) ?_
        refine lv_iload hx hb dX2_greatest_93 (lv_at hl 3 rfl) ?_
        refine r_ishr hx hb dX2_greatest_95 ?_
        refine lv_iconst (v := 1) hx hb dX2_greatest_96 (by decide) ?_
        refine lv_iand hx hb dX2_greatest_97 ?_
        refine lv_iconst (v := 1) hx hb dX2_greatest_98 (by decide) ?_
        obtain ⟨k133, hk133, hf⟩ := jn_some0 hf
        have hJ133 : ∀  (H : Heap) (locs : List Loc) (ls : Array Slot), k133 = some (r, M') → Wd D 20 ad (CM ad cy) A s.heap M_L83 H locs → lv_has ls 9 [(0, .ref (ad 0)), (2, .int v2_L83), (5, .int v5_L83), (6, .int v6_L83), (8, .int v8_L83)] → W p l e (rmD 4) s m ([.ref (ad 0), .int v1, .int v2, .int v3] : List Value).toArray below meth c H locs 0 0 Q (F0 m 133 ls [.int v7_L83]) := by
          intro  H locs ls hf hW hl
          rw [hk133] at hf
          refine lv_iconst (v := 0) hx hb dX2_greatest_133 (by decide) ?_
          refine lv_iadd hx hb dX2_greatest_134 ?_
          refine lv_istore (lv' := [(7, .int (v7_L83 + 0)), (0, .ref (ad 0)), (2, .int v2_L83), (5, .int v5_L83), (6, .int v6_L83), (8, .int v8_L83)]) hx hb dX2_greatest_135 hl (by decide) rfl (fun ls hl => ?_)
          refine lv_iinc (v := (v8_L83 + 1)) (lv' := [(8, .int (v8_L83 + 1)), (7, .int (v7_L83 + 0)), (0, .ref (ad 0)), (2, .int v2_L83), (5, .int v5_L83), (6, .int v6_L83)]) hx hb dX2_greatest_137 hl (k := 5) rfl rfl (by decide) rfl (fun ls hl => ?_)
          refine lv_goto (tgt := 83) hx hb dX2_greatest_140 (by decide) ?_
          exact ih (v7_L83 + 0) (v8_L83 + 1) H locs ls hf hW (lv_sub hl [2, 3, 4, 5, 1, 0] rfl)
        obtain ⟨k134, hk134, hf⟩ := jn_some1 hf
        have hJ134 : ∀ (t0_134j : Int32) (H : Heap) (locs : List Loc) (ls : Array Slot), k134 t0_134j = some (r, M') → Wd D 20 ad (CM ad cy) A s.heap M_L83 H locs → lv_has ls 9 [(0, .ref (ad 0)), (2, .int v2_L83), (5, .int v5_L83), (6, .int v6_L83), (8, .int v8_L83)] → W p l e (rmD 4) s m ([.ref (ad 0), .int v1, .int v2, .int v3] : List Value).toArray below meth c H locs 0 0 Q (F0 m 134 ls [.int t0_134j, .int v7_L83]) := by
          intro t0_134j H locs ls hf hW hl
          rw [hk134] at hf
          refine lv_iadd hx hb dX2_greatest_134 ?_
          refine lv_istore (lv' := [(7, .int (v7_L83 + t0_134j)), (0, .ref (ad 0)), (2, .int v2_L83), (5, .int v5_L83), (6, .int v6_L83), (8, .int v8_L83)]) hx hb dX2_greatest_135 hl (by decide) rfl (fun ls hl => ?_)
          refine lv_iinc (v := (v8_L83 + 1)) (lv' := [(8, .int (v8_L83 + 1)), (7, .int (v7_L83 + t0_134j)), (0, .ref (ad 0)), (2, .int v2_L83), (5, .int v5_L83), (6, .int v6_L83)]) hx hb dX2_greatest_137 hl (k := 5) rfl rfl (by decide) rfl (fun ls hl => ?_)
          refine lv_goto (tgt := 83) hx hb dX2_greatest_140 (by decide) ?_
          exact ih (v7_L83 + t0_134j) (v8_L83 + 1) H locs ls hf hW (lv_sub hl [2, 3, 4, 5, 1, 0] rfl)
        refine lv_icmp_ne (tgt := 133) hx hb dX2_greatest_99 (by decide) (fun hc => ?_) (fun hc => ?_)
        · replace hf := ifn hc hf
          exact hJ133  H locs ls hf hW (lv_sub hl [0, 1, 2, 3, 5] rfl)
        · replace hf := ifp hc hf
          refine lv_iload_n hx hb dX2_greatest_102 rfl (lv_at hl 1 rfl) ?_
          refine lv_iload hx hb dX2_greatest_103 (lv_at hl 5 rfl) ?_
          refine r_ishr hx hb dX2_greatest_105 ?_
          refine lv_iconst (v := 1) hx hb dX2_greatest_106 (by decide) ?_
          refine lv_iand hx hb dX2_greatest_107 ?_
          refine lv_iconst (v := 1) hx hb dX2_greatest_108 (by decide) ?_
          refine lv_icmp_ne (tgt := 133) hx hb dX2_greatest_109 (by decide) (fun hc => ?_) (fun hc => ?_)
          · replace hf := ifn hc hf
            exact hJ133  H locs ls hf hW (lv_sub hl [0, 1, 2, 3, 5] rfl)
          · replace hf := ifp hc hf
            refine lv_aload_n hx hb dX2_greatest_112 rfl (lv_at hl 0 rfl) ?_
            refine gf_X2_66 X hW dX2_greatest_113 ?_
            refine lv_iload hx hb dX2_greatest_116 (lv_at hl 3 rfl) ?_
            obtain ⟨hi118, hf⟩ := grd_some hf
            refine g_iald X hW iM_looks hi118 dX2_greatest_118 ?_
            refine lv_aload_n hx hb dX2_greatest_119 rfl (lv_at hl 0 rfl) ?_
            refine gf_X2_66 X hW dX2_greatest_120 ?_
            refine lv_iload hx hb dX2_greatest_123 (lv_at hl 5 rfl) ?_
            obtain ⟨hi125, hf⟩ := grd_some hf
            refine g_iald X hW iM_looks hi125 dX2_greatest_125 ?_
            refine lv_icmp_ne (tgt := 133) hx hb dX2_greatest_126 (by decide) (fun hc => ?_) (fun hc => ?_)
            · replace hf := ifn hc hf
              exact hJ133  H locs ls hf hW (lv_sub hl [0, 1, 2, 3, 5] rfl)
            · replace hf := ifp hc hf
              refine lv_iconst (v := 1) hx hb dX2_greatest_129 (by decide) ?_
              refine lv_goto (tgt := 134) hx hb dX2_greatest_130 (by decide) ?_
              exact hJ134 1 H locs ls hf hW (lv_sub hl [0, 1, 2, 3, 5] rfl)
  have hL70 : ∀ (v2_L70 : Int32) (M_L70 : Mem)  (n : Nat) (v5_L70 : Int32) (v6_L70 : Int32) (H : Heap) (locs : List Loc) (ls : Array Slot), f_X2_greatest_L70 v2_L70 M_L70 n v5_L70 v6_L70 = some (r, M') → Wd D 20 ad (CM ad cy) A s.heap M_L70 H locs → lv_has ls 9 [(0, .ref (ad 0)), (2, .int v2_L70), (5, .int v5_L70), (6, .int v6_L70)] → W p l e (rmD 4) s m ([.ref (ad 0), .int v1, .int v2, .int v3] : List Value).toArray below meth c H locs 0 0 Q (F0 m 70 ls []) := by
    intro v2_L70 M_L70 n
    induction n with
    | zero =>
      intro v5_L70 v6_L70 H locs ls hf
      cases (show (none : Option (Int32 × Mem)) = some (r, M') from hf)
    | succ n ih =>
      intro v5_L70 v6_L70 H locs ls hf hW hl
      rw [f_X2_greatest_L70] at hf
      refine lv_iload hx hb dX2_greatest_70 (lv_at hl 3 rfl) ?_
      refine lv_bipush (v := 6) hx hb dX2_greatest_72 (by decide) ?_
      refine lv_icmp_ge (tgt := 165) hx hb dX2_greatest_74 (by decide) (fun hc => ?_) (fun hc => ?_)
      · replace hf := ifp hc hf
        refine lv_iload hx hb dX2_greatest_165 (lv_at hl 2 rfl) ?_
        exact g_iret X hr hlk hQ hW dX2_greatest_167 hf
      · replace hf := ifn hc hf
        refine lv_iconst (v := 0) hx hb dX2_greatest_77 (by decide) ?_
        refine lv_istore (lv' := [(7, .int 0), (0, .ref (ad 0)), (2, .int v2_L70), (5, .int v5_L70), (6, .int v6_L70)]) hx hb dX2_greatest_78 hl (by decide) rfl (fun ls hl => ?_)
        refine lv_iconst (v := 0) hx hb dX2_greatest_80 (by decide) ?_
        refine lv_istore (lv' := [(8, .int 0), (7, .int 0), (0, .ref (ad 0)), (2, .int v2_L70), (5, .int v5_L70), (6, .int v6_L70)]) hx hb dX2_greatest_81 hl (by decide) rfl (fun ls hl => ?_)
        obtain ⟨k143, hk143, hf⟩ := jn_some1 hf
        have hJ143 : ∀ (v7_143x : Int32) (H : Heap) (locs : List Loc) (ls : Array Slot), k143 v7_143x = some (r, M') → Wd D 20 ad (CM ad cy) A s.heap M_L70 H locs → lv_has ls 9 [(0, .ref (ad 0)), (2, .int v2_L70), (5, .int v5_L70), (6, .int v6_L70), (7, .int v7_143x)] → W p l e (rmD 4) s m ([.ref (ad 0), .int v1, .int v2, .int v3] : List Value).toArray below meth c H locs 0 0 Q (F0 m 143 ls []) := by
          intro v7_143x H locs ls hf hW hl
          rw [hk143] at hf
          refine lv_iload hx hb dX2_greatest_143 (lv_at hl 4 rfl) ?_
          refine lv_iload hx hb dX2_greatest_145 (lv_at hl 2 rfl) ?_
          obtain ⟨k157, hk157, hf⟩ := jn_some1 hf
          have hJ157 : ∀ (t0_157j : Int32) (H : Heap) (locs : List Loc) (ls : Array Slot), k157 t0_157j = some (r, M') → Wd D 20 ad (CM ad cy) A s.heap M_L70 H locs → lv_has ls 9 [(0, .ref (ad 0)), (2, .int v2_L70), (6, .int v6_L70)] → W p l e (rmD 4) s m ([.ref (ad 0), .int v1, .int v2, .int v3] : List Value).toArray below meth c H locs 0 0 Q (F0 m 157 ls [.int t0_157j]) := by
            intro t0_157j H locs ls hf hW hl
            rw [hk157] at hf
            refine lv_istore (lv' := [(5, .int t0_157j), (0, .ref (ad 0)), (2, .int v2_L70), (6, .int v6_L70)]) hx hb dX2_greatest_157 hl (by decide) rfl (fun ls hl => ?_)
            refine lv_iinc (v := (v6_L70 + 1)) (lv' := [(6, .int (v6_L70 + 1)), (5, .int t0_157j), (0, .ref (ad 0)), (2, .int v2_L70)]) hx hb dX2_greatest_159 hl (k := 3) rfl rfl (by decide) rfl (fun ls hl => ?_)
            refine lv_goto (tgt := 70) hx hb dX2_greatest_162 (by decide) ?_
            exact ih t0_157j (v6_L70 + 1) H locs ls hf hW (lv_sub hl [2, 3, 1, 0] rfl)
          refine lv_icmp_le (tgt := 155) hx hb dX2_greatest_147 (by decide) (fun hc => ?_) (fun hc => ?_)
          · replace hf := ifp hc hf
            refine lv_iload hx hb dX2_greatest_155 (lv_at hl 2 rfl) ?_
            exact hJ157 v5_L70 H locs ls hf hW (lv_sub hl [0, 1, 3] rfl)
          · replace hf := ifn hc hf
            refine lv_iload hx hb dX2_greatest_150 (lv_at hl 4 rfl) ?_
            refine lv_goto (tgt := 157) hx hb dX2_greatest_152 (by decide) ?_
            exact hJ157 v7_143x H locs ls hf hW (lv_sub hl [0, 1, 3] rfl)
        exact hL83 v2_L70 v5_L70 v6_L70 M_L70 k143 hJ143 FU 0 0 H locs ls hf hW (lv_sub hl [2, 3, 4, 5, 1, 0] rfl)
  have hL11 : ∀ (v1_L11 : Int32) (v2_L11 : Int32) (v3_L11 : Int32) (v4_L11 : Int32) (k56 : Mem → Option (Int32 × Mem)) (hJ56 : ∀  (M_56x : Mem) (H : Heap) (locs : List Loc) (ls : Array Slot), k56 M_56x = some (r, M') → Wd D 20 ad (CM ad cy) A s.heap M_56x H locs → lv_has ls 9 [(0, .ref (ad 0)), (1, .int v1_L11), (2, .int v2_L11), (4, .int v4_L11)] → W p l e (rmD 4) s m ([.ref (ad 0), .int v1, .int v2, .int v3] : List Value).toArray below meth c H locs 0 0 Q (F0 m 56 ls [])) (n : Nat) (v5_L11 : Int32) (M_L11 : Mem) (H : Heap) (locs : List Loc) (ls : Array Slot), f_X2_greatest_L11 v1_L11 v2_L11 v3_L11 v4_L11 k56 n v5_L11 M_L11 = some (r, M') → Wd D 20 ad (CM ad cy) A s.heap M_L11 H locs → lv_has ls 9 [(0, .ref (ad 0)), (1, .int v1_L11), (2, .int v2_L11), (3, .int v3_L11), (4, .int v4_L11), (5, .int v5_L11)] → W p l e (rmD 4) s m ([.ref (ad 0), .int v1, .int v2, .int v3] : List Value).toArray below meth c H locs 0 0 Q (F0 m 11 ls []) := by
    intro v1_L11 v2_L11 v3_L11 v4_L11 k56 hJ56 n
    induction n with
    | zero =>
      intro v5_L11 M_L11 H locs ls hf
      cases (show (none : Option (Int32 × Mem)) = some (r, M') from hf)
    | succ n ih =>
      intro v5_L11 M_L11 H locs ls hf hW hl
      rw [f_X2_greatest_L11] at hf
      refine lv_iload hx hb dX2_greatest_11 (lv_at hl 5 rfl) ?_
      refine lv_bipush (v := 6) hx hb dX2_greatest_13 (by decide) ?_
      refine lv_icmp_ge (tgt := 56) hx hb dX2_greatest_15 (by decide) (fun hc => ?_) (fun hc => ?_)
      · replace hf := ifp hc hf
        exact hJ56 M_L11 H locs ls hf hW (lv_sub hl [0, 1, 2, 4] rfl)
      · replace hf := ifn hc hf
        refine lv_aload_n hx hb dX2_greatest_18 rfl (lv_at hl 0 rfl) ?_
        refine gf_X2_22 X hW dX2_greatest_19 ?_
        refine lv_iload_n hx hb dX2_greatest_22 rfl (lv_at hl 1 rfl) ?_
        refine lv_iload hx hb dX2_greatest_23 (lv_at hl 5 rfl) ?_
        obtain ⟨hi25, hf⟩ := grd_some hf
        refine g_iast X hW iM_kind hi25 dX2_greatest_25 (fun H locs hW => ?_)
        obtain ⟨M25, e25, hf⟩ := lt_some hf
        have hW : Wd D 20 ad (CM ad cy) A s.heap M25 H locs := by rw [e25]; exact hW
        refine lv_aload_n hx hb dX2_greatest_26 rfl (lv_at hl 0 rfl) ?_
        obtain ⟨M27, h27, hf⟩ := bR_some hf
        refine g_callvV X hl.1 hZ hA hW (c_X2_asItIs l D cy ad h27) cw_X2_asItIs ql_X2_173 iO_X2 rfl (by decide) rfl (Nat.le_of_ble_eq_true rfl) dX2_greatest_27 (fun H locs hW => ?_)
        refine lv_aload_n hx hb dX2_greatest_30 rfl (lv_at hl 0 rfl) ?_
        refine lv_iload_n hx hb dX2_greatest_31 rfl (lv_at hl 3 rfl) ?_
        obtain ⟨M32, h32, hf⟩ := bR_some hf
        refine g_callvV X hl.1 hZ hA hW (c_X2_goes l D cy ad h32) cw_X2_goes ql_X2_176 iO_X2 rfl (by decide) rfl (Nat.le_of_ble_eq_true rfl) dX2_greatest_32 (fun H locs hW => ?_)
        refine lv_aload_n hx hb dX2_greatest_35 rfl (lv_at hl 0 rfl) ?_
        refine gf_X2_66 X hW dX2_greatest_36 ?_
        refine lv_iload hx hb dX2_greatest_39 (lv_at hl 5 rfl) ?_
        refine lv_aload_n hx hb dX2_greatest_41 rfl (lv_at hl 0 rfl) ?_
        refine gf_X2_34 X hW dX2_greatest_42 ?_
        refine lv_iconst (v := 1) hx hb dX2_greatest_45 (by decide) ?_
        refine lv_iload_n hx hb dX2_greatest_46 rfl (lv_at hl 1 rfl) ?_
        refine lv_iadd hx hb dX2_greatest_47 ?_
        obtain ⟨hi48, hf⟩ := grd_some hf
        refine g_iald X hW iM_now hi48 dX2_greatest_48 ?_
        obtain ⟨hi49, hf⟩ := grd_some hf
        refine g_iast X hW iM_looks hi49 dX2_greatest_49 (fun H locs hW => ?_)
        obtain ⟨M49, e49, hf⟩ := lt_some hf
        have hW : Wd D 20 ad (CM ad cy) A s.heap M49 H locs := by rw [e49]; exact hW
        refine lv_iinc (v := (v5_L11 + 1)) (lv' := [(5, .int (v5_L11 + 1)), (0, .ref (ad 0)), (1, .int v1_L11), (2, .int v2_L11), (3, .int v3_L11), (4, .int v4_L11)]) hx hb dX2_greatest_50 hl (k := 5) rfl rfl (by decide) rfl (fun ls hl => ?_)
        refine lv_goto (tgt := 11) hx hb dX2_greatest_53 (by decide) ?_
        exact ih (v5_L11 + 1) M49 H locs ls hf hW (lv_sub hl [1, 2, 3, 4, 5, 0] rfl)
  obtain ⟨H, hH⟩ : ∃ H, H = s.heap := ⟨_, rfl⟩
  obtain ⟨locs, hlo⟩ : ∃ q : List Loc, q = [] := ⟨_, rfl⟩
  have hW : Wd D 20 ad (CM ad cy) A s.heap M H locs := by rw [hH, hlo]; exact hW
  suffices hh : W p l e (rmD 4) s m ([.ref (ad 0), .int v1, .int v2, .int v3] : List Value).toArray below meth c H locs 0 0 Q (F0 m 0 ls []) by rw [hH, hlo] at hh; exact hh
  unfold f_X2_greatest at hf
  refine lv_aload_n hx hb dX2_greatest_0 rfl (lv_at hl 0 rfl) ?_
  refine gf_X2_22 X hW dX2_greatest_1 ?_
  refine lv_iload_n hx hb dX2_greatest_4 rfl (lv_at hl 1 rfl) ?_
  obtain ⟨hi5, hf⟩ := grd_some hf
  refine g_iald X hW iM_kind hi5 dX2_greatest_5 ?_
  refine lv_istore (lv' := [(4, .int (M.1 5 (ix v1))), (0, .ref (ad 0)), (1, .int v1), (2, .int v2), (3, .int v3)]) hx hb dX2_greatest_6 hl (by decide) rfl (fun ls hl => ?_)
  refine lv_iconst (v := 0) hx hb dX2_greatest_8 (by decide) ?_
  refine lv_istore (lv' := [(5, .int 0), (4, .int (M.1 5 (ix v1))), (0, .ref (ad 0)), (1, .int v1), (2, .int v2), (3, .int v3)]) hx hb dX2_greatest_9 hl (by decide) rfl (fun ls hl => ?_)
  obtain ⟨k56, hk56, hf⟩ := jn_some1 hf
  have hJ56 : ∀  (M_56x : Mem) (H : Heap) (locs : List Loc) (ls : Array Slot), k56 M_56x = some (r, M') → Wd D 20 ad (CM ad cy) A s.heap M_56x H locs → lv_has ls 9 [(0, .ref (ad 0)), (1, .int v1), (2, .int v2), (4, .int (M.1 5 (ix v1)))] → W p l e (rmD 4) s m ([.ref (ad 0), .int v1, .int v2, .int v3] : List Value).toArray below meth c H locs 0 0 Q (F0 m 56 ls []) := by
    intro M_56x H locs ls hf hW hl
    rw [hk56] at hf
    refine lv_aload_n hx hb dX2_greatest_56 rfl (lv_at hl 0 rfl) ?_
    refine gf_X2_22 X hW dX2_greatest_57 ?_
    refine lv_iload_n hx hb dX2_greatest_60 rfl (lv_at hl 1 rfl) ?_
    refine lv_iload hx hb dX2_greatest_61 (lv_at hl 3 rfl) ?_
    obtain ⟨hi63, hf⟩ := grd_some hf
    refine g_iast X hW iM_kind hi63 dX2_greatest_63 (fun H locs hW => ?_)
    obtain ⟨M63, e63, hf⟩ := lt_some hf
    have hW : Wd D 20 ad (CM ad cy) A s.heap M63 H locs := by rw [e63]; exact hW
    refine lv_iconst (v := 0) hx hb dX2_greatest_64 (by decide) ?_
    refine lv_istore (lv' := [(5, .int 0), (0, .ref (ad 0)), (1, .int v1), (2, .int v2), (4, .int (M.1 5 (ix v1)))]) hx hb dX2_greatest_65 hl (by decide) rfl (fun ls hl => ?_)
    refine lv_iconst (v := 0) hx hb dX2_greatest_67 (by decide) ?_
    refine lv_istore (lv' := [(6, .int 0), (5, .int 0), (0, .ref (ad 0)), (1, .int v1), (2, .int v2), (4, .int (M.1 5 (ix v1)))]) hx hb dX2_greatest_68 hl (by decide) rfl (fun ls hl => ?_)
    exact hL70 v2 M63 FU 0 0 H locs ls hf hW (lv_sub hl [2, 4, 1, 0] rfl)
  exact hL11 v1 v2 v3 (M.1 5 (ix v1)) k56 hJ56 FU 0 M H locs ls hf hW (lv_sub hl [2, 3, 4, 5, 1, 0] rfl)

def f_X2_test_L59 (v1_L59 : Int32) (v4_L59 : Int32) (k115 : Int32 → Int32 → Mem → Option (Int32 × Mem)) : Nat → Int32 → Int32 → Int32 → Mem → Option (Int32 × Mem)
  | 0, _, _, _, _ => none
  | n + 1, v5_L59, v6_L59, v7_L59, M_L59 => (if 20 < v7_L59 then (k115 v5_L59 v6_L59 M_L59) else (bI (f_X2_greatest v1_L59 v4_L59 v7_L59 M_L59) (fun r72 M72 => (jn (fun (k91 : Int32 → Option (Int32 × Mem)) => (if v6_L59 ≤ r72 then (k91 v5_L59) else (k91 v7_L59))) (fun (t0_91j : Int32) => (jn (fun (k107 : Int32 → Option (Int32 × Mem)) => (if v6_L59 ≤ r72 then (k107 v6_L59) else (k107 r72))) (fun (t0_107j : Int32) => (f_X2_test_L59 v1_L59 v4_L59 k115 n t0_91j t0_107j (v7_L59 + 1) M72))))))))
def f_X2_test (v1 : Int32) (v2 : Int32) (M : Mem) : Option (Int32 × Mem) :=
  (bR (f_X2_isTube v1 M) (fun r2 => (if r2 = 0 then (some ((-1), M)) else (bR (f_X2_isRow v2 M) (fun r9 => (if r9 = 0 then (some ((-1), M)) else (bR (f_X2_heardOf v2 M) (fun r19 => (if r19 = 0 then (bI (f_X2_kindsOf v1 v2 M) (fun r36 M36 => (if r36 = 0 then (some ((-9), M36)) else (jn (fun (k115 : Int32 → Int32 → Mem → Option (Int32 × Mem)) => (f_X2_test_L59 v1 r36 k115 FU 0 7 1 M36)) (fun (v5_115x : Int32) (v6_115x : Int32) (M_115x : Mem) => (bI (f_X2_tells v6_115x v5_115x M_115x) (fun r120 M120 => (some (r120, M120))))))))) else (bI (f_X2_found r19 M) (fun r29 M29 => (some (r29, M29)))))))))))))
set_option maxHeartbeats 4000000 in
set_option maxRecDepth 100000 in
theorem c_X2_test (l : Launch) (D : va_G) (cy : Nat → ClassId) (ad : Nat → Nat)   {v1 : Int32} {v2 : Int32} {M M' : Mem} {r : Int32} (hf : f_X2_test v1 v2 M = some (r, M')) : MetX l 20 (CM ad cy) D cy ad yX2_test cX2_test 9 (some .int) 6 [.ref (ad 0), .int v1, .int v2] M (fun A => QI r M' 20 (CM ad cy) D cy ad A) := by
  refine MetX.of (own := RX2) (by decide) rfl (Nat.le_of_ble_eq_true rfl) ?_
  intro p e s m below meth c A Q ls X hr hlk hZ hA hQ hW hl
  have hl : lv_has ls 9 [(0, .ref (ad 0)), (1, .int v1), (2, .int v2)] := hl
  have hx := X.1
  have hb := X.2.1
  have hL59 : ∀ (v1_L59 : Int32) (v4_L59 : Int32) (k115 : Int32 → Int32 → Mem → Option (Int32 × Mem)) (hJ115 : ∀ (v5_115x : Int32) (v6_115x : Int32) (M_115x : Mem) (H : Heap) (locs : List Loc) (ls : Array Slot), k115 v5_115x v6_115x M_115x = some (r, M') → Wd D 20 ad (CM ad cy) A s.heap M_115x H locs → lv_has ls 9 [(0, .ref (ad 0)), (5, .int v5_115x), (6, .int v6_115x)] → W p l e (rmD 6) s m ([.ref (ad 0), .int v1, .int v2] : List Value).toArray below meth c H locs 0 0 Q (F0 m 115 ls [])) (n : Nat) (v5_L59 : Int32) (v6_L59 : Int32) (v7_L59 : Int32) (M_L59 : Mem) (H : Heap) (locs : List Loc) (ls : Array Slot), f_X2_test_L59 v1_L59 v4_L59 k115 n v5_L59 v6_L59 v7_L59 M_L59 = some (r, M') → Wd D 20 ad (CM ad cy) A s.heap M_L59 H locs → lv_has ls 9 [(0, .ref (ad 0)), (1, .int v1_L59), (4, .int v4_L59), (5, .int v5_L59), (6, .int v6_L59), (7, .int v7_L59)] → W p l e (rmD 6) s m ([.ref (ad 0), .int v1, .int v2] : List Value).toArray below meth c H locs 0 0 Q (F0 m 59 ls []) := by
    intro v1_L59 v4_L59 k115 hJ115 n
    induction n with
    | zero =>
      intro v5_L59 v6_L59 v7_L59 M_L59 H locs ls hf
      cases (show (none : Option (Int32 × Mem)) = some (r, M') from hf)
    | succ n ih =>
      intro v5_L59 v6_L59 v7_L59 M_L59 H locs ls hf hW hl
      rw [f_X2_test_L59] at hf
      refine lv_iload hx hb dX2_test_59 (lv_at hl 5 rfl) ?_
      refine lv_bipush (v := 20) hx hb dX2_test_61 (by decide) ?_
      refine lv_icmp_gt (tgt := 115) hx hb dX2_test_63 (by decide) (fun hc => ?_) (fun hc => ?_)
      · replace hf := ifp hc hf
        exact hJ115 v5_L59 v6_L59 M_L59 H locs ls hf hW (lv_sub hl [0, 3, 4] rfl)
      · replace hf := ifn hc hf
        refine lv_aload_n hx hb dX2_test_66 rfl (lv_at hl 0 rfl) ?_
        refine lv_iload_n hx hb dX2_test_67 rfl (lv_at hl 1 rfl) ?_
        refine lv_iload hx hb dX2_test_68 (lv_at hl 2 rfl) ?_
        refine lv_iload hx hb dX2_test_70 (lv_at hl 5 rfl) ?_
        obtain ⟨r72, M72, h72, hf⟩ := bI_some hf
        refine g_calliV X hl.1 hZ hA hW (c_X2_greatest l D cy ad h72) cw_X2_greatest ql_X2_192 iO_X2 rfl (by decide) rfl (Nat.le_of_ble_eq_true rfl) dX2_test_72 (fun H locs hW => ?_)
        refine lv_istore (lv' := [(8, .int r72), (0, .ref (ad 0)), (1, .int v1_L59), (4, .int v4_L59), (5, .int v5_L59), (6, .int v6_L59), (7, .int v7_L59)]) hx hb dX2_test_75 hl (by decide) rfl (fun ls hl => ?_)
        refine lv_iload hx hb dX2_test_77 (lv_at hl 0 rfl) ?_
        refine lv_iload hx hb dX2_test_79 (lv_at hl 5 rfl) ?_
        obtain ⟨k91, hk91, hf⟩ := jn_some1 hf
        have hJ91 : ∀ (t0_91j : Int32) (H : Heap) (locs : List Loc) (ls : Array Slot), k91 t0_91j = some (r, M') → Wd D 20 ad (CM ad cy) A s.heap M72 H locs → lv_has ls 9 [(0, .ref (ad 0)), (1, .int v1_L59), (4, .int v4_L59), (6, .int v6_L59), (7, .int v7_L59), (8, .int r72)] → W p l e (rmD 6) s m ([.ref (ad 0), .int v1, .int v2] : List Value).toArray below meth c H locs 0 0 Q (F0 m 91 ls [.int t0_91j]) := by
          intro t0_91j H locs ls hf hW hl
          rw [hk91] at hf
          refine lv_istore (lv' := [(5, .int t0_91j), (0, .ref (ad 0)), (1, .int v1_L59), (4, .int v4_L59), (6, .int v6_L59), (7, .int v7_L59), (8, .int r72)]) hx hb dX2_test_91 hl (by decide) rfl (fun ls hl => ?_)
          refine lv_iload hx hb dX2_test_93 (lv_at hl 6 rfl) ?_
          refine lv_iload hx hb dX2_test_95 (lv_at hl 4 rfl) ?_
          obtain ⟨k107, hk107, hf⟩ := jn_some1 hf
          have hJ107 : ∀ (t0_107j : Int32) (H : Heap) (locs : List Loc) (ls : Array Slot), k107 t0_107j = some (r, M') → Wd D 20 ad (CM ad cy) A s.heap M72 H locs → lv_has ls 9 [(0, .ref (ad 0)), (1, .int v1_L59), (4, .int v4_L59), (5, .int t0_91j), (7, .int v7_L59)] → W p l e (rmD 6) s m ([.ref (ad 0), .int v1, .int v2] : List Value).toArray below meth c H locs 0 0 Q (F0 m 107 ls [.int t0_107j]) := by
            intro t0_107j H locs ls hf hW hl
            rw [hk107] at hf
            refine lv_istore (lv' := [(6, .int t0_107j), (0, .ref (ad 0)), (1, .int v1_L59), (4, .int v4_L59), (5, .int t0_91j), (7, .int v7_L59)]) hx hb dX2_test_107 hl (by decide) rfl (fun ls hl => ?_)
            refine lv_iinc (v := (v7_L59 + 1)) (lv' := [(7, .int (v7_L59 + 1)), (6, .int t0_107j), (0, .ref (ad 0)), (1, .int v1_L59), (4, .int v4_L59), (5, .int t0_91j)]) hx hb dX2_test_109 hl (k := 5) rfl rfl (by decide) rfl (fun ls hl => ?_)
            refine lv_goto (tgt := 59) hx hb dX2_test_112 (by decide) ?_
            exact ih t0_91j t0_107j (v7_L59 + 1) M72 H locs ls hf hW (lv_sub hl [2, 3, 4, 5, 1, 0] rfl)
          refine lv_icmp_ge (tgt := 105) hx hb dX2_test_97 (by decide) (fun hc => ?_) (fun hc => ?_)
          · replace hf := ifp hc hf
            refine lv_iload hx hb dX2_test_105 (lv_at hl 4 rfl) ?_
            exact hJ107 v6_L59 H locs ls hf hW (lv_sub hl [1, 2, 3, 0, 5] rfl)
          · replace hf := ifn hc hf
            refine lv_iload hx hb dX2_test_100 (lv_at hl 6 rfl) ?_
            refine lv_goto (tgt := 107) hx hb dX2_test_102 (by decide) ?_
            exact hJ107 r72 H locs ls hf hW (lv_sub hl [1, 2, 3, 0, 5] rfl)
        refine lv_icmp_ge (tgt := 89) hx hb dX2_test_81 (by decide) (fun hc => ?_) (fun hc => ?_)
        · replace hf := ifp hc hf
          refine lv_iload hx hb dX2_test_89 (lv_at hl 4 rfl) ?_
          exact hJ91 v5_L59 H locs ls hf hW (lv_sub hl [1, 2, 3, 5, 6, 0] rfl)
        · replace hf := ifn hc hf
          refine lv_iload hx hb dX2_test_84 (lv_at hl 6 rfl) ?_
          refine lv_goto (tgt := 91) hx hb dX2_test_86 (by decide) ?_
          exact hJ91 v7_L59 H locs ls hf hW (lv_sub hl [1, 2, 3, 5, 6, 0] rfl)
  obtain ⟨H, hH⟩ : ∃ H, H = s.heap := ⟨_, rfl⟩
  obtain ⟨locs, hlo⟩ : ∃ q : List Loc, q = [] := ⟨_, rfl⟩
  have hW : Wd D 20 ad (CM ad cy) A s.heap M H locs := by rw [hH, hlo]; exact hW
  suffices hh : W p l e (rmD 6) s m ([.ref (ad 0), .int v1, .int v2] : List Value).toArray below meth c H locs 0 0 Q (F0 m 0 ls []) by rw [hH, hlo] at hh; exact hh
  unfold f_X2_test at hf
  refine lv_aload_n hx hb dX2_test_0 rfl (lv_at hl 0 rfl) ?_
  refine lv_iload_n hx hb dX2_test_1 rfl (lv_at hl 1 rfl) ?_
  obtain ⟨r2, h2, hf⟩ := bR_some hf
  refine g_calliV X hl.1 hZ hA hW (c_X2_isTube l D cy ad h2) cw_X2_isTube ql_X2_145 iO_X2 rfl (by decide) rfl (Nat.le_of_ble_eq_true rfl) dX2_test_2 (fun H locs hW => ?_)
  refine lv_if_eq (tgt := 15) hx hb dX2_test_5 (by decide) (fun hc => ?_) (fun hc => ?_)
  · replace hf := ifp hc hf
    refine lv_iconst (v := (-1)) hx hb dX2_test_15 (by decide) ?_
    exact g_iret X hr hlk hQ hW dX2_test_16 hf
  · replace hf := ifn hc hf
    refine lv_iload_n hx hb dX2_test_8 rfl (lv_at hl 2 rfl) ?_
    obtain ⟨r9, h9, hf⟩ := bR_some hf
    refine g_calliS X hl.1 hZ hA hW (c_X2_isRow l D cy ad h9) cs_X2_isRow ql_X2_86 rfl (by decide) rfl (Nat.le_of_ble_eq_true rfl) dX2_test_9 (fun H locs hW => ?_)
    refine lv_if_ne (tgt := 17) hx hb dX2_test_12 (by decide) (fun hc => ?_) (fun hc => ?_)
    · replace hf := ifn hc hf
      refine lv_aload_n hx hb dX2_test_17 rfl (lv_at hl 0 rfl) ?_
      refine lv_iload_n hx hb dX2_test_18 rfl (lv_at hl 2 rfl) ?_
      obtain ⟨r19, h19, hf⟩ := bR_some hf
      refine g_calliV X hl.1 hZ hA hW (c_X2_heardOf l D cy ad h19) cw_X2_heardOf ql_X2_186 iO_X2 rfl (by decide) rfl (Nat.le_of_ble_eq_true rfl) dX2_test_19 (fun H locs hW => ?_)
      refine lv_istore_n (lv' := [(3, .int r19), (0, .ref (ad 0)), (1, .int v1), (2, .int v2)]) hx hb dX2_test_22 rfl hl (by decide) rfl (fun ls hl => ?_)
      refine lv_iload_n hx hb dX2_test_23 rfl (lv_at hl 0 rfl) ?_
      refine lv_if_eq (tgt := 33) hx hb dX2_test_24 (by decide) (fun hc => ?_) (fun hc => ?_)
      · replace hf := ifp hc hf
        refine lv_aload_n hx hb dX2_test_33 rfl (lv_at hl 1 rfl) ?_
        refine lv_iload_n hx hb dX2_test_34 rfl (lv_at hl 2 rfl) ?_
        refine lv_iload_n hx hb dX2_test_35 rfl (lv_at hl 3 rfl) ?_
        obtain ⟨r36, M36, h36, hf⟩ := bI_some hf
        refine g_calliV X hl.1 hZ hA hW (c_X2_kindsOf l D cy ad h36) cw_X2_kindsOf ql_X2_189 iO_X2 rfl (by decide) rfl (Nat.le_of_ble_eq_true rfl) dX2_test_36 (fun H locs hW => ?_)
        refine lv_istore (lv' := [(4, .int r36), (3, .int r19), (0, .ref (ad 0)), (1, .int v1), (2, .int v2)]) hx hb dX2_test_39 hl (by decide) rfl (fun ls hl => ?_)
        refine lv_iload hx hb dX2_test_41 (lv_at hl 0 rfl) ?_
        refine lv_if_ne (tgt := 49) hx hb dX2_test_43 (by decide) (fun hc => ?_) (fun hc => ?_)
        · replace hf := ifn hc hf
          refine lv_iconst (v := 0) hx hb dX2_test_49 (by decide) ?_
          refine lv_istore (lv' := [(5, .int 0), (4, .int r36), (3, .int r19), (0, .ref (ad 0)), (1, .int v1), (2, .int v2)]) hx hb dX2_test_50 hl (by decide) rfl (fun ls hl => ?_)
          refine lv_bipush (v := 7) hx hb dX2_test_52 (by decide) ?_
          refine lv_istore (lv' := [(6, .int 7), (5, .int 0), (4, .int r36), (3, .int r19), (0, .ref (ad 0)), (1, .int v1), (2, .int v2)]) hx hb dX2_test_54 hl (by decide) rfl (fun ls hl => ?_)
          refine lv_iconst (v := 1) hx hb dX2_test_56 (by decide) ?_
          refine lv_istore (lv' := [(7, .int 1), (6, .int 7), (5, .int 0), (4, .int r36), (3, .int r19), (0, .ref (ad 0)), (1, .int v1), (2, .int v2)]) hx hb dX2_test_57 hl (by decide) rfl (fun ls hl => ?_)
          obtain ⟨k115, hk115, hf⟩ := jn_some3 hf
          have hJ115 : ∀ (v5_115x : Int32) (v6_115x : Int32) (M_115x : Mem) (H : Heap) (locs : List Loc) (ls : Array Slot), k115 v5_115x v6_115x M_115x = some (r, M') → Wd D 20 ad (CM ad cy) A s.heap M_115x H locs → lv_has ls 9 [(0, .ref (ad 0)), (5, .int v5_115x), (6, .int v6_115x)] → W p l e (rmD 6) s m ([.ref (ad 0), .int v1, .int v2] : List Value).toArray below meth c H locs 0 0 Q (F0 m 115 ls []) := by
            intro v5_115x v6_115x M_115x H locs ls hf hW hl
            rw [hk115] at hf
            refine lv_aload_n hx hb dX2_test_115 rfl (lv_at hl 0 rfl) ?_
            refine lv_iload hx hb dX2_test_116 (lv_at hl 2 rfl) ?_
            refine lv_iload hx hb dX2_test_118 (lv_at hl 1 rfl) ?_
            obtain ⟨r120, M120, h120, hf⟩ := bI_some hf
            refine g_calliV X hl.1 hZ hA hW (c_X2_tells l D cy ad h120) cw_X2_tells ql_X2_102 iO_X2 rfl (by decide) rfl (Nat.le_of_ble_eq_true rfl) dX2_test_120 (fun H locs hW => ?_)
            exact g_iret X hr hlk hQ hW dX2_test_123 hf
          exact hL59 v1 r36 k115 hJ115 FU 0 7 1 M36 H locs ls hf hW (lv_sub hl [5, 6, 3, 2, 1, 0] rfl)
        · replace hf := ifp hc hf
          refine lv_bipush (v := (-9)) hx hb dX2_test_46 (by decide) ?_
          exact g_iret X hr hlk hQ hW dX2_test_48 hf
      · replace hf := ifn hc hf
        refine lv_aload_n hx hb dX2_test_27 rfl (lv_at hl 1 rfl) ?_
        refine lv_iload_n hx hb dX2_test_28 rfl (lv_at hl 0 rfl) ?_
        obtain ⟨r29, M29, h29, hf⟩ := bI_some hf
        refine g_calliV X hl.1 hZ hA hW (c_X2_found l D cy ad h29) cw_X2_found ql_X2_90 iO_X2 rfl (by decide) rfl (Nat.le_of_ble_eq_true rfl) dX2_test_29 (fun H locs hW => ?_)
        exact g_iret X hr hlk hQ hW dX2_test_32 hf
    · replace hf := ifp hc hf
      refine lv_iconst (v := (-1)) hx hb dX2_test_15 (by decide) ?_
      exact g_iret X hr hlk hQ hW dX2_test_16 hf

def f_X2_worthOf_L6 (v1_L6 : Int32) (v2_L6 : Int32) (k90 : Mem → Option (Int32 × Mem)) : Nat → Int32 → Mem → Option (Int32 × Mem)
  | 0, _, _ => none
  | n + 1, v3_L6, M_L6 => (if v2_L6 ≤ v3_L6 then (k90 M_L6) else (if (((shr v1_L6 (3 * ((v2_L6 - 1) - v3_L6))) &&& 7) - 1) < (M_L6.1 0 4) then (jn (fun (k84 : Mem → Option (Int32 × Mem)) => (if (((shr v1_L6 (3 * ((v2_L6 - 1) - v3_L6))) &&& 7) - 1) < 0 then (k84 M_L6) else (jn (fun (k83 : Int32 → Option (Int32 × Mem)) => (if (irm v3_L6 2) = 0 then (grd (inb (1 + (((shr v1_L6 (3 * ((v2_L6 - 1) - v3_L6))) &&& 7) - 1)) 15) (k83 ((M_L6.1 9 (ix (1 + (((shr v1_L6 (3 * ((v2_L6 - 1) - v3_L6))) &&& 7) - 1)))) ||| 1))) else (grd (inb (1 + (((shr v1_L6 (3 * ((v2_L6 - 1) - v3_L6))) &&& 7) - 1)) 15) (k83 ((M_L6.1 9 (ix (1 + (((shr v1_L6 (3 * ((v2_L6 - 1) - v3_L6))) &&& 7) - 1)))) &&& (-2)))))) (fun (t0_83j : Int32) => (grd (inb (1 + (((shr v1_L6 (3 * ((v2_L6 - 1) - v3_L6))) &&& 7) - 1)) 15) (lt (sI M_L6 9 (ix (1 + (((shr v1_L6 (3 * ((v2_L6 - 1) - v3_L6))) &&& 7) - 1))) t0_83j) (fun M83 => (k84 M83)))))))) (fun  (M_84j : Mem) => (f_X2_worthOf_L6 v1_L6 v2_L6 k90 n (v3_L6 + 1) M_84j))) else (some ((-1), M_L6))))
def f_X2_worthOf (v1 : Int32) (v2 : Int32) (M : Mem) : Option (Int32 × Mem) :=
  (bR (f_X2_asItIs M) (fun M1 => (jn (fun (k90 : Mem → Option (Int32 × Mem)) => (f_X2_worthOf_L6 v1 v2 k90 FU 0 M1)) (fun  (M_90x : Mem) => (bR (f_X2_goes 8 M_90x) (fun M93 => (bR (f_X2_pulses 9 15 M93) (fun r101 => (some (r101, M93))))))))))
set_option maxHeartbeats 4000000 in
set_option maxRecDepth 100000 in
theorem c_X2_worthOf (l : Launch) (D : va_G) (cy : Nat → ClassId) (ad : Nat → Nat)   {v1 : Int32} {v2 : Int32} {M M' : Mem} {r : Int32} (hf : f_X2_worthOf v1 v2 M = some (r, M')) : MetX l 20 (CM ad cy) D cy ad yX2_worthOf cX2_worthOf 5 (some .int) 4 [.ref (ad 0), .int v1, .int v2] M (fun A => QI r M' 20 (CM ad cy) D cy ad A) := by
  refine MetX.of (own := RX2) (by decide) rfl (Nat.le_of_ble_eq_true rfl) ?_
  intro p e s m below meth c A Q ls X hr hlk hZ hA hQ hW hl
  have hl : lv_has ls 5 [(0, .ref (ad 0)), (1, .int v1), (2, .int v2)] := hl
  have hx := X.1
  have hb := X.2.1
  have hL6 : ∀ (v1_L6 : Int32) (v2_L6 : Int32) (k90 : Mem → Option (Int32 × Mem)) (hJ90 : ∀  (M_90x : Mem) (H : Heap) (locs : List Loc) (ls : Array Slot), k90 M_90x = some (r, M') → Wd D 20 ad (CM ad cy) A s.heap M_90x H locs → lv_has ls 5 [(0, .ref (ad 0))] → W p l e (rmD 4) s m ([.ref (ad 0), .int v1, .int v2] : List Value).toArray below meth c H locs 0 0 Q (F0 m 90 ls [])) (n : Nat) (v3_L6 : Int32) (M_L6 : Mem) (H : Heap) (locs : List Loc) (ls : Array Slot), f_X2_worthOf_L6 v1_L6 v2_L6 k90 n v3_L6 M_L6 = some (r, M') → Wd D 20 ad (CM ad cy) A s.heap M_L6 H locs → lv_has ls 5 [(0, .ref (ad 0)), (1, .int v1_L6), (2, .int v2_L6), (3, .int v3_L6)] → W p l e (rmD 4) s m ([.ref (ad 0), .int v1, .int v2] : List Value).toArray below meth c H locs 0 0 Q (F0 m 6 ls []) := by
    intro v1_L6 v2_L6 k90 hJ90 n
    induction n with
    | zero =>
      intro v3_L6 M_L6 H locs ls hf
      cases (show (none : Option (Int32 × Mem)) = some (r, M') from hf)
    | succ n ih =>
      intro v3_L6 M_L6 H locs ls hf hW hl
      rw [f_X2_worthOf_L6] at hf
      refine lv_iload_n hx hb dX2_worthOf_6 rfl (lv_at hl 3 rfl) ?_
      refine lv_iload_n hx hb dX2_worthOf_7 rfl (lv_at hl 2 rfl) ?_
      refine lv_icmp_ge (tgt := 90) hx hb dX2_worthOf_8 (by decide) (fun hc => ?_) (fun hc => ?_)
      · replace hf := ifp hc hf
        exact hJ90 M_L6 H locs ls hf hW (lv_sub hl [0] rfl)
      · replace hf := ifn hc hf
        refine lv_iload_n hx hb dX2_worthOf_11 rfl (lv_at hl 1 rfl) ?_
        refine lv_iconst (v := 3) hx hb dX2_worthOf_12 (by decide) ?_
        refine lv_iload_n hx hb dX2_worthOf_13 rfl (lv_at hl 2 rfl) ?_
        refine lv_iconst (v := 1) hx hb dX2_worthOf_14 (by decide) ?_
        refine lv_isub hx hb dX2_worthOf_15 ?_
        refine lv_iload_n hx hb dX2_worthOf_16 rfl (lv_at hl 3 rfl) ?_
        refine lv_isub hx hb dX2_worthOf_17 ?_
        refine lv_imul hx hb dX2_worthOf_18 ?_
        refine r_ishr hx hb dX2_worthOf_19 ?_
        refine lv_bipush (v := 7) hx hb dX2_worthOf_20 (by decide) ?_
        refine lv_iand hx hb dX2_worthOf_22 ?_
        refine lv_iconst (v := 1) hx hb dX2_worthOf_23 (by decide) ?_
        refine lv_isub hx hb dX2_worthOf_24 ?_
        refine lv_istore (lv' := [(4, .int (((shr v1_L6 (3 * ((v2_L6 - 1) - v3_L6))) &&& 7) - 1)), (0, .ref (ad 0)), (1, .int v1_L6), (2, .int v2_L6), (3, .int v3_L6)]) hx hb dX2_worthOf_25 hl (by decide) rfl (fun ls hl => ?_)
        refine lv_iload hx hb dX2_worthOf_27 (lv_at hl 0 rfl) ?_
        refine lv_aload_n hx hb dX2_worthOf_29 rfl (lv_at hl 1 rfl) ?_
        refine gf_X2_79 X hW dX2_worthOf_30 ?_
        refine lv_icmp_lt (tgt := 38) hx hb dX2_worthOf_33 (by decide) (fun hc => ?_) (fun hc => ?_)
        · replace hf := ifp hc hf
          refine lv_iload hx hb dX2_worthOf_38 (lv_at hl 0 rfl) ?_
          obtain ⟨k84, hk84, hf⟩ := jn_some1 hf
          have hJ84 : ∀  (M_84j : Mem) (H : Heap) (locs : List Loc) (ls : Array Slot), k84 M_84j = some (r, M') → Wd D 20 ad (CM ad cy) A s.heap M_84j H locs → lv_has ls 5 [(0, .ref (ad 0)), (1, .int v1_L6), (2, .int v2_L6), (3, .int v3_L6)] → W p l e (rmD 4) s m ([.ref (ad 0), .int v1, .int v2] : List Value).toArray below meth c H locs 0 0 Q (F0 m 84 ls []) := by
            intro M_84j H locs ls hf hW hl
            rw [hk84] at hf
            refine lv_iinc (v := (v3_L6 + 1)) (lv' := [(3, .int (v3_L6 + 1)), (0, .ref (ad 0)), (1, .int v1_L6), (2, .int v2_L6)]) hx hb dX2_worthOf_84 hl (k := 3) rfl rfl (by decide) rfl (fun ls hl => ?_)
            refine lv_goto (tgt := 6) hx hb dX2_worthOf_87 (by decide) ?_
            exact ih (v3_L6 + 1) M_84j H locs ls hf hW (lv_sub hl [1, 2, 3, 0] rfl)
          refine lv_if_lt (tgt := 84) hx hb dX2_worthOf_40 (by decide) (fun hc => ?_) (fun hc => ?_)
          · replace hf := ifp hc hf
            exact hJ84 M_L6 H locs ls hf hW (lv_sub hl [1, 2, 3, 4] rfl)
          · replace hf := ifn hc hf
            refine lv_aload_n hx hb dX2_worthOf_43 rfl (lv_at hl 1 rfl) ?_
            refine gf_X2_34 X hW dX2_worthOf_44 ?_
            refine lv_iconst (v := 1) hx hb dX2_worthOf_47 (by decide) ?_
            refine lv_iload hx hb dX2_worthOf_48 (lv_at hl 0 rfl) ?_
            refine lv_iadd hx hb dX2_worthOf_50 ?_
            refine lv_iload_n hx hb dX2_worthOf_51 rfl (lv_at hl 4 rfl) ?_
            refine lv_iconst (v := 2) hx hb dX2_worthOf_52 (by decide) ?_
            refine r_irem hx hb dX2_worthOf_53 (by decide) ?_
            obtain ⟨k83, hk83, hf⟩ := jn_some1 hf
            have hJ83 : ∀ (t0_83j : Int32) (H : Heap) (locs : List Loc) (ls : Array Slot), k83 t0_83j = some (r, M') → Wd D 20 ad (CM ad cy) A s.heap M_L6 H locs → lv_has ls 5 [(0, .ref (ad 0)), (1, .int v1_L6), (2, .int v2_L6), (3, .int v3_L6)] → W p l e (rmD 4) s m ([.ref (ad 0), .int v1, .int v2] : List Value).toArray below meth c H locs 0 0 Q (F0 m 83 ls [.int t0_83j, .int (1 + (((shr v1_L6 (3 * ((v2_L6 - 1) - v3_L6))) &&& 7) - 1)), .ref (ad 9)]) := by
              intro t0_83j H locs ls hf hW hl
              rw [hk83] at hf
              obtain ⟨hi83, hf⟩ := grd_some hf
              refine g_iast X hW iM_now hi83 dX2_worthOf_83 (fun H locs hW => ?_)
              obtain ⟨M83, e83, hf⟩ := lt_some hf
              have hW : Wd D 20 ad (CM ad cy) A s.heap M83 H locs := by rw [e83]; exact hW
              exact hJ84 M83 H locs ls hf hW (lv_sub hl [0, 1, 2, 3] rfl)
            refine lv_if_ne (tgt := 71) hx hb dX2_worthOf_54 (by decide) (fun hc => ?_) (fun hc => ?_)
            · replace hf := ifn hc hf
              refine lv_aload_n hx hb dX2_worthOf_71 rfl (lv_at hl 1 rfl) ?_
              refine gf_X2_34 X hW dX2_worthOf_72 ?_
              refine lv_iconst (v := 1) hx hb dX2_worthOf_75 (by decide) ?_
              refine lv_iload hx hb dX2_worthOf_76 (lv_at hl 0 rfl) ?_
              refine lv_iadd hx hb dX2_worthOf_78 ?_
              obtain ⟨hi79, hf⟩ := grd_some hf
              refine g_iald X hW iM_now hi79 dX2_worthOf_79 ?_
              refine lv_bipush (v := (-2)) hx hb dX2_worthOf_80 (by decide) ?_
              refine lv_iand hx hb dX2_worthOf_82 ?_
              exact hJ83 ((M_L6.1 9 (ix (1 + (((shr v1_L6 (3 * ((v2_L6 - 1) - v3_L6))) &&& 7) - 1)))) &&& (-2)) H locs ls hf hW (lv_sub hl [1, 2, 3, 4] rfl)
            · replace hf := ifp hc hf
              refine lv_aload_n hx hb dX2_worthOf_57 rfl (lv_at hl 1 rfl) ?_
              refine gf_X2_34 X hW dX2_worthOf_58 ?_
              refine lv_iconst (v := 1) hx hb dX2_worthOf_61 (by decide) ?_
              refine lv_iload hx hb dX2_worthOf_62 (lv_at hl 0 rfl) ?_
              refine lv_iadd hx hb dX2_worthOf_64 ?_
              obtain ⟨hi65, hf⟩ := grd_some hf
              refine g_iald X hW iM_now hi65 dX2_worthOf_65 ?_
              refine lv_iconst (v := 1) hx hb dX2_worthOf_66 (by decide) ?_
              refine lv_ior hx hb dX2_worthOf_67 ?_
              refine lv_goto (tgt := 83) hx hb dX2_worthOf_68 (by decide) ?_
              exact hJ83 ((M_L6.1 9 (ix (1 + (((shr v1_L6 (3 * ((v2_L6 - 1) - v3_L6))) &&& 7) - 1)))) ||| 1) H locs ls hf hW (lv_sub hl [1, 2, 3, 4] rfl)
        · replace hf := ifn hc hf
          refine lv_iconst (v := (-1)) hx hb dX2_worthOf_36 (by decide) ?_
          exact g_iret X hr hlk hQ hW dX2_worthOf_37 hf
  obtain ⟨H, hH⟩ : ∃ H, H = s.heap := ⟨_, rfl⟩
  obtain ⟨locs, hlo⟩ : ∃ q : List Loc, q = [] := ⟨_, rfl⟩
  have hW : Wd D 20 ad (CM ad cy) A s.heap M H locs := by rw [hH, hlo]; exact hW
  suffices hh : W p l e (rmD 4) s m ([.ref (ad 0), .int v1, .int v2] : List Value).toArray below meth c H locs 0 0 Q (F0 m 0 ls []) by rw [hH, hlo] at hh; exact hh
  unfold f_X2_worthOf at hf
  refine lv_aload_n hx hb dX2_worthOf_0 rfl (lv_at hl 0 rfl) ?_
  obtain ⟨M1, h1, hf⟩ := bR_some hf
  refine g_callvV X hl.1 hZ hA hW (c_X2_asItIs l D cy ad h1) cw_X2_asItIs ql_X2_173 iO_X2 rfl (by decide) rfl (Nat.le_of_ble_eq_true rfl) dX2_worthOf_1 (fun H locs hW => ?_)
  refine lv_iconst (v := 0) hx hb dX2_worthOf_4 (by decide) ?_
  refine lv_istore_n (lv' := [(3, .int 0), (0, .ref (ad 0)), (1, .int v1), (2, .int v2)]) hx hb dX2_worthOf_5 rfl hl (by decide) rfl (fun ls hl => ?_)
  obtain ⟨k90, hk90, hf⟩ := jn_some1 hf
  have hJ90 : ∀  (M_90x : Mem) (H : Heap) (locs : List Loc) (ls : Array Slot), k90 M_90x = some (r, M') → Wd D 20 ad (CM ad cy) A s.heap M_90x H locs → lv_has ls 5 [(0, .ref (ad 0))] → W p l e (rmD 4) s m ([.ref (ad 0), .int v1, .int v2] : List Value).toArray below meth c H locs 0 0 Q (F0 m 90 ls []) := by
    intro M_90x H locs ls hf hW hl
    rw [hk90] at hf
    refine lv_aload_n hx hb dX2_worthOf_90 rfl (lv_at hl 0 rfl) ?_
    refine lv_bipush (v := 8) hx hb dX2_worthOf_91 (by decide) ?_
    obtain ⟨M93, h93, hf⟩ := bR_some hf
    refine g_callvV X hl.1 hZ hA hW (c_X2_goes l D cy ad h93) cw_X2_goes ql_X2_176 iO_X2 rfl (by decide) rfl (Nat.le_of_ble_eq_true rfl) dX2_worthOf_93 (fun H locs hW => ?_)
    refine lv_aload_n hx hb dX2_worthOf_96 rfl (lv_at hl 0 rfl) ?_
    refine lv_aload_n hx hb dX2_worthOf_97 rfl (lv_at hl 0 rfl) ?_
    refine gf_X2_34 X hW dX2_worthOf_98 ?_
    obtain ⟨r101, h101, hf⟩ := bR_some hf
    refine g_calliV X hl.1 hZ hA hW (c_X2_pulses l D cy ad iM_now h101) cw_X2_pulses ql_X2_162 iO_X2 rfl (by decide) rfl (Nat.le_of_ble_eq_true rfl) dX2_worthOf_101 (fun H locs hW => ?_)
    exact g_iret X hr hlk hQ hW dX2_worthOf_104 hf
  exact hL6 v1 v2 k90 hJ90 FU 0 M1 H locs ls hf hW (lv_sub hl [1, 2, 3, 0] rfl)

def f_X2_duel_L83 (v2_L83 : Int32) (v3_L83 : Int32) (M_L83 : Mem) (k147 : Int32 → Option (Int32 × Mem)) : Nat → Int32 → Int32 → Option (Int32 × Mem)
  | 0, _, _ => none
  | n + 1, v4_L83, v5_L83 => (if (M_L83.1 0 4) < v5_L83 then (k147 v4_L83) else (grd (inb ((8 * v3_L83) + v5_L83) 512) (jn (fun (k117 : Int32 → Option (Int32 × Mem)) => (if (irm v2_L83 2) = 0 then (k117 1) else (k117 0))) (fun (t0_117j : Int32) => (jn (fun (k129 : Int32 → Option (Int32 × Mem)) => (if (M_L83.1 19 (ix ((8 * v3_L83) + v5_L83))) ≤ v4_L83 then (k129 0) else (k129 1))) (fun (t0_129j : Int32) => (jn (fun (k139 : Int32 → Option (Int32 × Mem)) => (if t0_117j = t0_129j then (k139 (M_L83.1 19 (ix ((8 * v3_L83) + v5_L83)))) else (k139 v4_L83))) (fun (t0_139j : Int32) => (f_X2_duel_L83 v2_L83 v3_L83 M_L83 k147 n t0_139j (v5_L83 + 1))))))))))
def f_X2_duel_L60 (v2_L60 : Int32) (k161 : Mem → Option (Int32 × Mem)) : Nat → Int32 → Mem → Option (Int32 × Mem)
  | 0, _, _ => none
  | n + 1, v3_L60, M_L60 => (if (shl 1 (3 * v2_L60)) ≤ v3_L60 then (k161 M_L60) else (grd (inb (8 * v3_L60) 512) (jn (fun (k147 : Int32 → Option (Int32 × Mem)) => (f_X2_duel_L83 v2_L60 v3_L60 M_L60 k147 FU (M_L60.1 19 (ix (8 * v3_L60))) 1)) (fun (v4_147x : Int32) => (grd (inb v3_L60 512) (lt (sI M_L60 19 (ix v3_L60) v4_147x) (fun M154 => (f_X2_duel_L60 v2_L60 k161 n (v3_L60 + 1) M154))))))))
def f_X2_duel_L54 (k167 : Mem → Option (Int32 × Mem)) : Nat → Int32 → Mem → Option (Int32 × Mem)
  | 0, _, _ => none
  | n + 1, v2_L54, M_L54 => (if v2_L54 < 0 then (k167 M_L54) else (jn (fun (k161 : Mem → Option (Int32 × Mem)) => (f_X2_duel_L60 v2_L54 k161 FU 0 M_L54)) (fun  (M_161x : Mem) => (f_X2_duel_L54 k167 n (v2_L54 + (-1)) M_161x))))
def f_X2_duel_L23 (v1_L23 : Int32) (k50 : Mem → Option (Int32 × Mem)) : Nat → Int32 → Mem → Option (Int32 × Mem)
  | 0, _, _ => none
  | n + 1, v2_L23, M_L23 => (if (shl 1 (3 * v1_L23)) ≤ v2_L23 then (k50 M_L23) else (bI (f_X2_worthOf v2_L23 v1_L23 M_L23) (fun r40 M40 => (grd (inb v2_L23 512) (lt (sI M40 19 (ix v2_L23) r40) (fun M43 => (f_X2_duel_L23 v1_L23 k50 n (v2_L23 + 1) M43)))))))
def f_X2_duel (v1 : Int32) (M : Mem) : Option (Int32 × Mem) :=
  (bR (f_X2_in v1 0 3 M) (fun r3 => (if r3 = 0 then (some ((-1), M)) else (if (M.1 0 4) = 0 then (some ((-4), M)) else (jn (fun (k50 : Mem → Option (Int32 × Mem)) => (f_X2_duel_L23 v1 k50 FU 0 M)) (fun  (M_50x : Mem) => (jn (fun (k167 : Mem → Option (Int32 × Mem)) => (f_X2_duel_L54 k167 FU (v1 - 1) M_50x)) (fun  (M_167x : Mem) => (grd (inb 0 512) (some ((M_167x.1 19 (ix 0)), M_167x)))))))))))
set_option maxHeartbeats 4000000 in
set_option maxRecDepth 100000 in
theorem c_X2_duel (l : Launch) (D : va_G) (cy : Nat → ClassId) (ad : Nat → Nat)   {v1 : Int32} {M M' : Mem} {r : Int32} (hf : f_X2_duel v1 M = some (r, M')) : MetX l 20 (CM ad cy) D cy ad yX2_duel cX2_duel 7 (some .int) 5 [.ref (ad 0), .int v1] M (fun A => QI r M' 20 (CM ad cy) D cy ad A) := by
  refine MetX.of (own := RX2) (by decide) rfl (Nat.le_of_ble_eq_true rfl) ?_
  intro p e s m below meth c A Q ls X hr hlk hZ hA hQ hW hl
  have hl : lv_has ls 7 [(0, .ref (ad 0)), (1, .int v1)] := hl
  have hx := X.1
  have hb := X.2.1
  have hL83 : ∀ (v2_L83 : Int32) (v3_L83 : Int32) (M_L83 : Mem) (k147 : Int32 → Option (Int32 × Mem)) (hJ147 : ∀ (v4_147x : Int32) (H : Heap) (locs : List Loc) (ls : Array Slot), k147 v4_147x = some (r, M') → Wd D 20 ad (CM ad cy) A s.heap M_L83 H locs → lv_has ls 7 [(0, .ref (ad 0)), (2, .int v2_L83), (3, .int v3_L83), (4, .int v4_147x)] → W p l e (rmD 5) s m ([.ref (ad 0), .int v1] : List Value).toArray below meth c H locs 0 0 Q (F0 m 147 ls [])) (n : Nat) (v4_L83 : Int32) (v5_L83 : Int32) (H : Heap) (locs : List Loc) (ls : Array Slot), f_X2_duel_L83 v2_L83 v3_L83 M_L83 k147 n v4_L83 v5_L83 = some (r, M') → Wd D 20 ad (CM ad cy) A s.heap M_L83 H locs → lv_has ls 7 [(0, .ref (ad 0)), (2, .int v2_L83), (3, .int v3_L83), (4, .int v4_L83), (5, .int v5_L83)] → W p l e (rmD 5) s m ([.ref (ad 0), .int v1] : List Value).toArray below meth c H locs 0 0 Q (F0 m 83 ls []) := by
    intro v2_L83 v3_L83 M_L83 k147 hJ147 n
    induction n with
    | zero =>
      intro v4_L83 v5_L83 H locs ls hf
      cases (show (none : Option (Int32 × Mem)) = some (r, M') from hf)
    | succ n ih =>
      intro v4_L83 v5_L83 H locs ls hf hW hl
      rw [f_X2_duel_L83] at hf
      refine lv_iload hx hb dX2_duel_83 (lv_at hl 4 rfl) ?_
      refine lv_aload_n hx hb dX2_duel_85 rfl (lv_at hl 0 rfl) ?_
      refine gf_X2_79 X hW dX2_duel_86 ?_
      refine lv_icmp_gt (tgt := 147) hx hb dX2_duel_89 (by decide) (fun hc => ?_) (fun hc => ?_)
      · replace hf := ifp hc hf
        exact hJ147 v4_L83 H locs ls hf hW (lv_sub hl [0, 1, 2, 3] rfl)
      · replace hf := ifn hc hf
        refine lv_aload_n hx hb dX2_duel_92 rfl (lv_at hl 0 rfl) ?_
        refine gf_X2_69 X hW dX2_duel_93 ?_
        refine lv_bipush (v := 8) hx hb dX2_duel_96 (by decide) ?_
        refine lv_iload_n hx hb dX2_duel_98 rfl (lv_at hl 2 rfl) ?_
        refine lv_imul hx hb dX2_duel_99 ?_
        refine lv_iload hx hb dX2_duel_100 (lv_at hl 4 rfl) ?_
        refine lv_iadd hx hb dX2_duel_102 ?_
        obtain ⟨hi103, hf⟩ := grd_some hf
        refine g_iald X hW iM_worth hi103 dX2_duel_103 ?_
        refine lv_istore (lv' := [(6, .int (M_L83.1 19 (ix ((8 * v3_L83) + v5_L83)))), (0, .ref (ad 0)), (2, .int v2_L83), (3, .int v3_L83), (4, .int v4_L83), (5, .int v5_L83)]) hx hb dX2_duel_104 hl (by decide) rfl (fun ls hl => ?_)
        refine lv_iload_n hx hb dX2_duel_106 rfl (lv_at hl 2 rfl) ?_
        refine lv_iconst (v := 2) hx hb dX2_duel_107 (by decide) ?_
        refine r_irem hx hb dX2_duel_108 (by decide) ?_
        obtain ⟨k117, hk117, hf⟩ := jn_some1 hf
        have hJ117 : ∀ (t0_117j : Int32) (H : Heap) (locs : List Loc) (ls : Array Slot), k117 t0_117j = some (r, M') → Wd D 20 ad (CM ad cy) A s.heap M_L83 H locs → lv_has ls 7 [(0, .ref (ad 0)), (2, .int v2_L83), (3, .int v3_L83), (4, .int v4_L83), (5, .int v5_L83), (6, .int (M_L83.1 19 (ix ((8 * v3_L83) + v5_L83))))] → W p l e (rmD 5) s m ([.ref (ad 0), .int v1] : List Value).toArray below meth c H locs 0 0 Q (F0 m 117 ls [.int t0_117j]) := by
          intro t0_117j H locs ls hf hW hl
          rw [hk117] at hf
          refine lv_iload hx hb dX2_duel_117 (lv_at hl 5 rfl) ?_
          refine lv_iload hx hb dX2_duel_119 (lv_at hl 3 rfl) ?_
          obtain ⟨k129, hk129, hf⟩ := jn_some1 hf
          have hJ129 : ∀ (t0_129j : Int32) (H : Heap) (locs : List Loc) (ls : Array Slot), k129 t0_129j = some (r, M') → Wd D 20 ad (CM ad cy) A s.heap M_L83 H locs → lv_has ls 7 [(0, .ref (ad 0)), (2, .int v2_L83), (3, .int v3_L83), (4, .int v4_L83), (5, .int v5_L83), (6, .int (M_L83.1 19 (ix ((8 * v3_L83) + v5_L83))))] → W p l e (rmD 5) s m ([.ref (ad 0), .int v1] : List Value).toArray below meth c H locs 0 0 Q (F0 m 129 ls [.int t0_129j, .int t0_117j]) := by
            intro t0_129j H locs ls hf hW hl
            rw [hk129] at hf
            obtain ⟨k139, hk139, hf⟩ := jn_some1 hf
            have hJ139 : ∀ (t0_139j : Int32) (H : Heap) (locs : List Loc) (ls : Array Slot), k139 t0_139j = some (r, M') → Wd D 20 ad (CM ad cy) A s.heap M_L83 H locs → lv_has ls 7 [(0, .ref (ad 0)), (2, .int v2_L83), (3, .int v3_L83), (5, .int v5_L83)] → W p l e (rmD 5) s m ([.ref (ad 0), .int v1] : List Value).toArray below meth c H locs 0 0 Q (F0 m 139 ls [.int t0_139j]) := by
              intro t0_139j H locs ls hf hW hl
              rw [hk139] at hf
              refine lv_istore (lv' := [(4, .int t0_139j), (0, .ref (ad 0)), (2, .int v2_L83), (3, .int v3_L83), (5, .int v5_L83)]) hx hb dX2_duel_139 hl (by decide) rfl (fun ls hl => ?_)
              refine lv_iinc (v := (v5_L83 + 1)) (lv' := [(5, .int (v5_L83 + 1)), (4, .int t0_139j), (0, .ref (ad 0)), (2, .int v2_L83), (3, .int v3_L83)]) hx hb dX2_duel_141 hl (k := 4) rfl rfl (by decide) rfl (fun ls hl => ?_)
              refine lv_goto (tgt := 83) hx hb dX2_duel_144 (by decide) ?_
              exact ih t0_139j (v5_L83 + 1) H locs ls hf hW (lv_sub hl [2, 3, 4, 1, 0] rfl)
            refine lv_icmp_ne (tgt := 137) hx hb dX2_duel_129 (by decide) (fun hc => ?_) (fun hc => ?_)
            · replace hf := ifn hc hf
              refine lv_iload hx hb dX2_duel_137 (lv_at hl 3 rfl) ?_
              exact hJ139 v4_L83 H locs ls hf hW (lv_sub hl [0, 1, 2, 4] rfl)
            · replace hf := ifp hc hf
              refine lv_iload hx hb dX2_duel_132 (lv_at hl 5 rfl) ?_
              refine lv_goto (tgt := 139) hx hb dX2_duel_134 (by decide) ?_
              exact hJ139 (M_L83.1 19 (ix ((8 * v3_L83) + v5_L83))) H locs ls hf hW (lv_sub hl [0, 1, 2, 4] rfl)
          refine lv_icmp_le (tgt := 128) hx hb dX2_duel_121 (by decide) (fun hc => ?_) (fun hc => ?_)
          · replace hf := ifp hc hf
            refine lv_iconst (v := 0) hx hb dX2_duel_128 (by decide) ?_
            exact hJ129 0 H locs ls hf hW (lv_sub hl [0, 1, 2, 3, 4, 5] rfl)
          · replace hf := ifn hc hf
            refine lv_iconst (v := 1) hx hb dX2_duel_124 (by decide) ?_
            refine lv_goto (tgt := 129) hx hb dX2_duel_125 (by decide) ?_
            exact hJ129 1 H locs ls hf hW (lv_sub hl [0, 1, 2, 3, 4, 5] rfl)
        refine lv_if_ne (tgt := 116) hx hb dX2_duel_109 (by decide) (fun hc => ?_) (fun hc => ?_)
        · replace hf := ifn hc hf
          refine lv_iconst (v := 0) hx hb dX2_duel_116 (by decide) ?_
          exact hJ117 0 H locs ls hf hW (lv_sub hl [1, 2, 3, 4, 5, 0] rfl)
        · replace hf := ifp hc hf
          refine lv_iconst (v := 1) hx hb dX2_duel_112 (by decide) ?_
          refine lv_goto (tgt := 117) hx hb dX2_duel_113 (by decide) ?_
          exact hJ117 1 H locs ls hf hW (lv_sub hl [1, 2, 3, 4, 5, 0] rfl)
  have hL60 : ∀ (v2_L60 : Int32) (k161 : Mem → Option (Int32 × Mem)) (hJ161 : ∀  (M_161x : Mem) (H : Heap) (locs : List Loc) (ls : Array Slot), k161 M_161x = some (r, M') → Wd D 20 ad (CM ad cy) A s.heap M_161x H locs → lv_has ls 7 [(0, .ref (ad 0)), (2, .int v2_L60)] → W p l e (rmD 5) s m ([.ref (ad 0), .int v1] : List Value).toArray below meth c H locs 0 0 Q (F0 m 161 ls [])) (n : Nat) (v3_L60 : Int32) (M_L60 : Mem) (H : Heap) (locs : List Loc) (ls : Array Slot), f_X2_duel_L60 v2_L60 k161 n v3_L60 M_L60 = some (r, M') → Wd D 20 ad (CM ad cy) A s.heap M_L60 H locs → lv_has ls 7 [(0, .ref (ad 0)), (2, .int v2_L60), (3, .int v3_L60)] → W p l e (rmD 5) s m ([.ref (ad 0), .int v1] : List Value).toArray below meth c H locs 0 0 Q (F0 m 60 ls []) := by
    intro v2_L60 k161 hJ161 n
    induction n with
    | zero =>
      intro v3_L60 M_L60 H locs ls hf
      cases (show (none : Option (Int32 × Mem)) = some (r, M') from hf)
    | succ n ih =>
      intro v3_L60 M_L60 H locs ls hf hW hl
      rw [f_X2_duel_L60] at hf
      refine lv_iload_n hx hb dX2_duel_60 rfl (lv_at hl 2 rfl) ?_
      refine lv_iconst (v := 1) hx hb dX2_duel_61 (by decide) ?_
      refine lv_iconst (v := 3) hx hb dX2_duel_62 (by decide) ?_
      refine lv_iload_n hx hb dX2_duel_63 rfl (lv_at hl 1 rfl) ?_
      refine lv_imul hx hb dX2_duel_64 ?_
      refine r_ishl hx hb dX2_duel_65 ?_
      refine lv_icmp_ge (tgt := 161) hx hb dX2_duel_66 (by decide) (fun hc => ?_) (fun hc => ?_)
      · replace hf := ifp hc hf
        exact hJ161 M_L60 H locs ls hf hW (lv_sub hl [0, 1] rfl)
      · replace hf := ifn hc hf
        refine lv_aload_n hx hb dX2_duel_69 rfl (lv_at hl 0 rfl) ?_
        refine gf_X2_69 X hW dX2_duel_70 ?_
        refine lv_bipush (v := 8) hx hb dX2_duel_73 (by decide) ?_
        refine lv_iload_n hx hb dX2_duel_75 rfl (lv_at hl 2 rfl) ?_
        refine lv_imul hx hb dX2_duel_76 ?_
        obtain ⟨hi77, hf⟩ := grd_some hf
        refine g_iald X hW iM_worth hi77 dX2_duel_77 ?_
        refine lv_istore (lv' := [(4, .int (M_L60.1 19 (ix (8 * v3_L60)))), (0, .ref (ad 0)), (2, .int v2_L60), (3, .int v3_L60)]) hx hb dX2_duel_78 hl (by decide) rfl (fun ls hl => ?_)
        refine lv_iconst (v := 1) hx hb dX2_duel_80 (by decide) ?_
        refine lv_istore (lv' := [(5, .int 1), (4, .int (M_L60.1 19 (ix (8 * v3_L60)))), (0, .ref (ad 0)), (2, .int v2_L60), (3, .int v3_L60)]) hx hb dX2_duel_81 hl (by decide) rfl (fun ls hl => ?_)
        obtain ⟨k147, hk147, hf⟩ := jn_some1 hf
        have hJ147 : ∀ (v4_147x : Int32) (H : Heap) (locs : List Loc) (ls : Array Slot), k147 v4_147x = some (r, M') → Wd D 20 ad (CM ad cy) A s.heap M_L60 H locs → lv_has ls 7 [(0, .ref (ad 0)), (2, .int v2_L60), (3, .int v3_L60), (4, .int v4_147x)] → W p l e (rmD 5) s m ([.ref (ad 0), .int v1] : List Value).toArray below meth c H locs 0 0 Q (F0 m 147 ls []) := by
          intro v4_147x H locs ls hf hW hl
          rw [hk147] at hf
          refine lv_aload_n hx hb dX2_duel_147 rfl (lv_at hl 0 rfl) ?_
          refine gf_X2_69 X hW dX2_duel_148 ?_
          refine lv_iload_n hx hb dX2_duel_151 rfl (lv_at hl 2 rfl) ?_
          refine lv_iload hx hb dX2_duel_152 (lv_at hl 3 rfl) ?_
          obtain ⟨hi154, hf⟩ := grd_some hf
          refine g_iast X hW iM_worth hi154 dX2_duel_154 (fun H locs hW => ?_)
          obtain ⟨M154, e154, hf⟩ := lt_some hf
          have hW : Wd D 20 ad (CM ad cy) A s.heap M154 H locs := by rw [e154]; exact hW
          refine lv_iinc (v := (v3_L60 + 1)) (lv' := [(3, .int (v3_L60 + 1)), (0, .ref (ad 0)), (2, .int v2_L60), (4, .int v4_147x)]) hx hb dX2_duel_155 hl (k := 2) rfl rfl (by decide) rfl (fun ls hl => ?_)
          refine lv_goto (tgt := 60) hx hb dX2_duel_158 (by decide) ?_
          exact ih (v3_L60 + 1) M154 H locs ls hf hW (lv_sub hl [1, 2, 0] rfl)
        exact hL83 v2_L60 v3_L60 M_L60 k147 hJ147 FU (M_L60.1 19 (ix (8 * v3_L60))) 1 H locs ls hf hW (lv_sub hl [2, 3, 4, 1, 0] rfl)
  have hL54 : ∀  (k167 : Mem → Option (Int32 × Mem)) (hJ167 : ∀  (M_167x : Mem) (H : Heap) (locs : List Loc) (ls : Array Slot), k167 M_167x = some (r, M') → Wd D 20 ad (CM ad cy) A s.heap M_167x H locs → lv_has ls 7 [(0, .ref (ad 0))] → W p l e (rmD 5) s m ([.ref (ad 0), .int v1] : List Value).toArray below meth c H locs 0 0 Q (F0 m 167 ls [])) (n : Nat) (v2_L54 : Int32) (M_L54 : Mem) (H : Heap) (locs : List Loc) (ls : Array Slot), f_X2_duel_L54 k167 n v2_L54 M_L54 = some (r, M') → Wd D 20 ad (CM ad cy) A s.heap M_L54 H locs → lv_has ls 7 [(0, .ref (ad 0)), (2, .int v2_L54)] → W p l e (rmD 5) s m ([.ref (ad 0), .int v1] : List Value).toArray below meth c H locs 0 0 Q (F0 m 54 ls []) := by
    intro k167 hJ167 n
    induction n with
    | zero =>
      intro v2_L54 M_L54 H locs ls hf
      cases (show (none : Option (Int32 × Mem)) = some (r, M') from hf)
    | succ n ih =>
      intro v2_L54 M_L54 H locs ls hf hW hl
      rw [f_X2_duel_L54] at hf
      refine lv_iload_n hx hb dX2_duel_54 rfl (lv_at hl 1 rfl) ?_
      refine lv_if_lt (tgt := 167) hx hb dX2_duel_55 (by decide) (fun hc => ?_) (fun hc => ?_)
      · replace hf := ifp hc hf
        exact hJ167 M_L54 H locs ls hf hW (lv_sub hl [0] rfl)
      · replace hf := ifn hc hf
        refine lv_iconst (v := 0) hx hb dX2_duel_58 (by decide) ?_
        refine lv_istore_n (lv' := [(3, .int 0), (0, .ref (ad 0)), (2, .int v2_L54)]) hx hb dX2_duel_59 rfl hl (by decide) rfl (fun ls hl => ?_)
        obtain ⟨k161, hk161, hf⟩ := jn_some1 hf
        have hJ161 : ∀  (M_161x : Mem) (H : Heap) (locs : List Loc) (ls : Array Slot), k161 M_161x = some (r, M') → Wd D 20 ad (CM ad cy) A s.heap M_161x H locs → lv_has ls 7 [(0, .ref (ad 0)), (2, .int v2_L54)] → W p l e (rmD 5) s m ([.ref (ad 0), .int v1] : List Value).toArray below meth c H locs 0 0 Q (F0 m 161 ls []) := by
          intro M_161x H locs ls hf hW hl
          rw [hk161] at hf
          refine lv_iinc (v := (v2_L54 + (-1))) (lv' := [(2, .int (v2_L54 + (-1))), (0, .ref (ad 0))]) hx hb dX2_duel_161 hl (k := 1) rfl rfl (by decide) rfl (fun ls hl => ?_)
          refine lv_goto (tgt := 54) hx hb dX2_duel_164 (by decide) ?_
          exact ih (v2_L54 + (-1)) M_161x H locs ls hf hW (lv_sub hl [1, 0] rfl)
        exact hL60 v2_L54 k161 hJ161 FU 0 M_L54 H locs ls hf hW (lv_sub hl [1, 2, 0] rfl)
  have hL23 : ∀ (v1_L23 : Int32) (k50 : Mem → Option (Int32 × Mem)) (hJ50 : ∀  (M_50x : Mem) (H : Heap) (locs : List Loc) (ls : Array Slot), k50 M_50x = some (r, M') → Wd D 20 ad (CM ad cy) A s.heap M_50x H locs → lv_has ls 7 [(0, .ref (ad 0)), (1, .int v1_L23)] → W p l e (rmD 5) s m ([.ref (ad 0), .int v1] : List Value).toArray below meth c H locs 0 0 Q (F0 m 50 ls [])) (n : Nat) (v2_L23 : Int32) (M_L23 : Mem) (H : Heap) (locs : List Loc) (ls : Array Slot), f_X2_duel_L23 v1_L23 k50 n v2_L23 M_L23 = some (r, M') → Wd D 20 ad (CM ad cy) A s.heap M_L23 H locs → lv_has ls 7 [(0, .ref (ad 0)), (1, .int v1_L23), (2, .int v2_L23)] → W p l e (rmD 5) s m ([.ref (ad 0), .int v1] : List Value).toArray below meth c H locs 0 0 Q (F0 m 23 ls []) := by
    intro v1_L23 k50 hJ50 n
    induction n with
    | zero =>
      intro v2_L23 M_L23 H locs ls hf
      cases (show (none : Option (Int32 × Mem)) = some (r, M') from hf)
    | succ n ih =>
      intro v2_L23 M_L23 H locs ls hf hW hl
      rw [f_X2_duel_L23] at hf
      refine lv_iload_n hx hb dX2_duel_23 rfl (lv_at hl 2 rfl) ?_
      refine lv_iconst (v := 1) hx hb dX2_duel_24 (by decide) ?_
      refine lv_iconst (v := 3) hx hb dX2_duel_25 (by decide) ?_
      refine lv_iload_n hx hb dX2_duel_26 rfl (lv_at hl 1 rfl) ?_
      refine lv_imul hx hb dX2_duel_27 ?_
      refine r_ishl hx hb dX2_duel_28 ?_
      refine lv_icmp_ge (tgt := 50) hx hb dX2_duel_29 (by decide) (fun hc => ?_) (fun hc => ?_)
      · replace hf := ifp hc hf
        exact hJ50 M_L23 H locs ls hf hW (lv_sub hl [0, 1] rfl)
      · replace hf := ifn hc hf
        refine lv_aload_n hx hb dX2_duel_32 rfl (lv_at hl 0 rfl) ?_
        refine gf_X2_69 X hW dX2_duel_33 ?_
        refine lv_iload_n hx hb dX2_duel_36 rfl (lv_at hl 2 rfl) ?_
        refine lv_aload_n hx hb dX2_duel_37 rfl (lv_at hl 0 rfl) ?_
        refine lv_iload_n hx hb dX2_duel_38 rfl (lv_at hl 2 rfl) ?_
        refine lv_iload_n hx hb dX2_duel_39 rfl (lv_at hl 1 rfl) ?_
        obtain ⟨r40, M40, h40, hf⟩ := bI_some hf
        refine g_calliV X hl.1 hZ hA hW (c_X2_worthOf l D cy ad h40) cw_X2_worthOf ql_X2_196 iO_X2 rfl (by decide) rfl (Nat.le_of_ble_eq_true rfl) dX2_duel_40 (fun H locs hW => ?_)
        obtain ⟨hi43, hf⟩ := grd_some hf
        refine g_iast X hW iM_worth hi43 dX2_duel_43 (fun H locs hW => ?_)
        obtain ⟨M43, e43, hf⟩ := lt_some hf
        have hW : Wd D 20 ad (CM ad cy) A s.heap M43 H locs := by rw [e43]; exact hW
        refine lv_iinc (v := (v2_L23 + 1)) (lv' := [(2, .int (v2_L23 + 1)), (0, .ref (ad 0)), (1, .int v1_L23)]) hx hb dX2_duel_44 hl (k := 2) rfl rfl (by decide) rfl (fun ls hl => ?_)
        refine lv_goto (tgt := 23) hx hb dX2_duel_47 (by decide) ?_
        exact ih (v2_L23 + 1) M43 H locs ls hf hW (lv_sub hl [1, 2, 0] rfl)
  obtain ⟨H, hH⟩ : ∃ H, H = s.heap := ⟨_, rfl⟩
  obtain ⟨locs, hlo⟩ : ∃ q : List Loc, q = [] := ⟨_, rfl⟩
  have hW : Wd D 20 ad (CM ad cy) A s.heap M H locs := by rw [hH, hlo]; exact hW
  suffices hh : W p l e (rmD 5) s m ([.ref (ad 0), .int v1] : List Value).toArray below meth c H locs 0 0 Q (F0 m 0 ls []) by rw [hH, hlo] at hh; exact hh
  unfold f_X2_duel at hf
  refine lv_iload_n hx hb dX2_duel_0 rfl (lv_at hl 1 rfl) ?_
  refine lv_iconst (v := 0) hx hb dX2_duel_1 (by decide) ?_
  refine lv_iconst (v := 3) hx hb dX2_duel_2 (by decide) ?_
  obtain ⟨r3, h3, hf⟩ := bR_some hf
  refine g_calliS X hl.1 hZ hA hW (c_X2_in l D cy ad h3) cs_X2_in ql_X2_82 rfl (by decide) rfl (Nat.le_of_ble_eq_true rfl) dX2_duel_3 (fun H locs hW => ?_)
  refine lv_if_ne (tgt := 11) hx hb dX2_duel_6 (by decide) (fun hc => ?_) (fun hc => ?_)
  · replace hf := ifn hc hf
    refine lv_aload_n hx hb dX2_duel_11 rfl (lv_at hl 0 rfl) ?_
    refine gf_X2_79 X hW dX2_duel_12 ?_
    refine lv_if_ne (tgt := 21) hx hb dX2_duel_15 (by decide) (fun hc => ?_) (fun hc => ?_)
    · replace hf := ifn hc hf
      refine lv_iconst (v := 0) hx hb dX2_duel_21 (by decide) ?_
      refine lv_istore_n (lv' := [(2, .int 0), (0, .ref (ad 0)), (1, .int v1)]) hx hb dX2_duel_22 rfl hl (by decide) rfl (fun ls hl => ?_)
      obtain ⟨k50, hk50, hf⟩ := jn_some1 hf
      have hJ50 : ∀  (M_50x : Mem) (H : Heap) (locs : List Loc) (ls : Array Slot), k50 M_50x = some (r, M') → Wd D 20 ad (CM ad cy) A s.heap M_50x H locs → lv_has ls 7 [(0, .ref (ad 0)), (1, .int v1)] → W p l e (rmD 5) s m ([.ref (ad 0), .int v1] : List Value).toArray below meth c H locs 0 0 Q (F0 m 50 ls []) := by
        intro M_50x H locs ls hf hW hl
        rw [hk50] at hf
        refine lv_iload_n hx hb dX2_duel_50 rfl (lv_at hl 1 rfl) ?_
        refine lv_iconst (v := 1) hx hb dX2_duel_51 (by decide) ?_
        refine lv_isub hx hb dX2_duel_52 ?_
        refine lv_istore_n (lv' := [(2, .int (v1 - 1)), (0, .ref (ad 0)), (1, .int v1)]) hx hb dX2_duel_53 rfl hl (by decide) rfl (fun ls hl => ?_)
        obtain ⟨k167, hk167, hf⟩ := jn_some1 hf
        have hJ167 : ∀  (M_167x : Mem) (H : Heap) (locs : List Loc) (ls : Array Slot), k167 M_167x = some (r, M') → Wd D 20 ad (CM ad cy) A s.heap M_167x H locs → lv_has ls 7 [(0, .ref (ad 0))] → W p l e (rmD 5) s m ([.ref (ad 0), .int v1] : List Value).toArray below meth c H locs 0 0 Q (F0 m 167 ls []) := by
          intro M_167x H locs ls hf hW hl
          rw [hk167] at hf
          refine lv_aload_n hx hb dX2_duel_167 rfl (lv_at hl 0 rfl) ?_
          refine gf_X2_69 X hW dX2_duel_168 ?_
          refine lv_iconst (v := 0) hx hb dX2_duel_171 (by decide) ?_
          obtain ⟨hi172, hf⟩ := grd_some hf
          refine g_iald X hW iM_worth hi172 dX2_duel_172 ?_
          exact g_iret X hr hlk hQ hW dX2_duel_173 hf
        exact hL54 k167 hJ167 FU (v1 - 1) M_50x H locs ls hf hW (lv_sub hl [1, 0] rfl)
      exact hL23 v1 k50 hJ50 FU 0 M H locs ls hf hW (lv_sub hl [1, 2, 0] rfl)
    · replace hf := ifp hc hf
      refine lv_bipush (v := (-4)) hx hb dX2_duel_18 (by decide) ?_
      exact g_iret X hr hlk hQ hW dX2_duel_20 hf
  · replace hf := ifp hc hf
    refine lv_iconst (v := (-1)) hx hb dX2_duel_9 (by decide) ?_
    exact g_iret X hr hlk hQ hW dX2_duel_10 hf

def f_X2_common_L6 (M : Mem) : Nat → Int64 → Int64 → Option Int64
  | 0, _, _ => none
  | n + 1, v4_L6, v6_L6 => (if (lg_cmp v6_L6 0) = 0 then (some v4_L6) else (grd (nzL v6_L6) (f_X2_common_L6 M n v6_L6 (lrm v4_L6 v6_L6))))
def f_X2_common (v0 : Int64) (v2 : Int64) (M : Mem) : Option Int64 :=
  (f_X2_common_L6 M FU v0 v2)
set_option maxHeartbeats 4000000 in
set_option maxRecDepth 100000 in
theorem c_X2_common (l : Launch) (D : va_G) (cy : Nat → ClassId) (ad : Nat → Nat)   {v0 : Int64} {v2 : Int64} {M : Mem} {r : Int64} (hf : f_X2_common v0 v2 M = some r) : MetX l 20 (CM ad cy) D cy ad yX2_common cX2_common 10 (some .long) 0 [.long v0, .long v2] M (fun A => QL r M 20 (CM ad cy) D cy ad A) := by
  refine MetX.of (own := RX2) (by decide) rfl (Nat.le_of_ble_eq_true rfl) ?_
  intro p e s m below meth c A Q ls X hr hlk hZ hA hQ hW hl
  have hl : lv_has ls 10 [(0, .long v0), (2, .long v2)] := hl
  have hx := X.1
  have hb := X.2.1
  have hL6 : ∀   (n : Nat) (v4_L6 : Int64) (v6_L6 : Int64) (H : Heap) (locs : List Loc) (ls : Array Slot), f_X2_common_L6 M n v4_L6 v6_L6 = some r → Wd D 20 ad (CM ad cy) A s.heap M H locs → lv_has ls 10 [(4, .long v4_L6), (6, .long v6_L6)] → W p l e (rmD 0) s m ([.long v0, .long v2] : List Value).toArray below meth c H locs 0 0 Q (F0 m 6 ls []) := by
    intro  n
    induction n with
    | zero =>
      intro v4_L6 v6_L6 H locs ls hf
      cases (show (none : Option Int64) = some r from hf)
    | succ n ih =>
      intro v4_L6 v6_L6 H locs ls hf hW hl
      rw [f_X2_common_L6] at hf
      refine lv_lload hx hb dX2_common_6 (lv_at hl 1 rfl) ?_
      refine lv_lconst (v := 0) hx hb dX2_common_8 (by decide) ?_
      refine W.lcmp hx hb dX2_common_9 ?_
      refine lv_if_eq (tgt := 31) hx hb dX2_common_10 (by decide) (fun hc => ?_) (fun hc => ?_)
      · replace hf := ifp hc hf
        refine lv_lload hx hb dX2_common_31 (lv_at hl 0 rfl) ?_
        exact g_lret X hr hlk hQ hW dX2_common_33 (rd_some hf)
      · replace hf := ifn hc hf
        refine lv_lload hx hb dX2_common_13 (lv_at hl 0 rfl) ?_
        refine lv_lload hx hb dX2_common_15 (lv_at hl 1 rfl) ?_
        obtain ⟨hz17, hf⟩ := grd_some hf
        refine r_lrem hx hb dX2_common_17 (nzL_ne hz17) ?_
        refine lv_lstore (lv' := [(8, .long (lrm v4_L6 v6_L6)), (4, .long v4_L6), (6, .long v6_L6)]) hx hb dX2_common_18 hl (by decide) rfl (fun ls hl => ?_)
        refine lv_lload hx hb dX2_common_20 (lv_at hl 2 rfl) ?_
        refine lv_lstore (lv' := [(4, .long v6_L6), (8, .long (lrm v4_L6 v6_L6)), (6, .long v6_L6)]) hx hb dX2_common_22 hl (by decide) rfl (fun ls hl => ?_)
        refine lv_lload hx hb dX2_common_24 (lv_at hl 1 rfl) ?_
        refine lv_lstore (lv' := [(6, .long (lrm v4_L6 v6_L6)), (4, .long v6_L6), (8, .long (lrm v4_L6 v6_L6))]) hx hb dX2_common_26 hl (by decide) rfl (fun ls hl => ?_)
        refine lv_goto (tgt := 6) hx hb dX2_common_28 (by decide) ?_
        exact ih v6_L6 (lrm v4_L6 v6_L6) H locs ls hf hW (lv_sub hl [1, 0] rfl)
  obtain ⟨H, hH⟩ : ∃ H, H = s.heap := ⟨_, rfl⟩
  obtain ⟨locs, hlo⟩ : ∃ q : List Loc, q = [] := ⟨_, rfl⟩
  have hW : Wd D 20 ad (CM ad cy) A s.heap M H locs := by rw [hH, hlo]; exact hW
  suffices hh : W p l e (rmD 0) s m ([.long v0, .long v2] : List Value).toArray below meth c H locs 0 0 Q (F0 m 0 ls []) by rw [hH, hlo] at hh; exact hh
  unfold f_X2_common at hf
  refine lv_lload_n hx hb dX2_common_0 rfl (lv_at hl 0 rfl) ?_
  refine lv_lstore (lv' := [(4, .long v0), (0, .long v0), (2, .long v2)]) hx hb dX2_common_1 hl (by decide) rfl (fun ls hl => ?_)
  refine lv_lload_n hx hb dX2_common_3 rfl (lv_at hl 2 rfl) ?_
  refine lv_lstore (lv' := [(6, .long v2), (4, .long v0), (0, .long v0), (2, .long v2)]) hx hb dX2_common_4 hl (by decide) rfl (fun ls hl => ?_)
  exact hL6  FU v0 v2 H locs ls hf hW (lv_sub hl [1, 0] rfl)

def f_X2_tellsPart (v1 : Int64) (v3 : Int64) (M : Mem) : Option (Int32 × Mem) :=
  (bR (f_X2_common v1 v3 M) (fun r2 => (grd (nzL r2) (lt (sL M 0 15 (v1 / r2)) (fun M12 => (grd (nzL r2) (lt (sL M12 0 16 (v3 / r2)) (fun M20 => (some (1, M20))))))))))
set_option maxHeartbeats 4000000 in
set_option maxRecDepth 100000 in
theorem c_X2_tellsPart (l : Launch) (D : va_G) (cy : Nat → ClassId) (ad : Nat → Nat)   {v1 : Int64} {v3 : Int64} {M M' : Mem} {r : Int32} (hf : f_X2_tellsPart v1 v3 M = some (r, M')) : MetX l 20 (CM ad cy) D cy ad yX2_tellsPart cX2_tellsPart 7 (some .int) 1 [.ref (ad 0), .long v1, .long v3] M (fun A => QI r M' 20 (CM ad cy) D cy ad A) := by
  refine MetX.of (own := RX2) (by decide) rfl (Nat.le_of_ble_eq_true rfl) ?_
  intro p e s m below meth c A Q ls X hr hlk hZ hA hQ hW hl
  have hl : lv_has ls 7 [(0, .ref (ad 0)), (1, .long v1), (3, .long v3)] := hl
  have hx := X.1
  have hb := X.2.1
  obtain ⟨H, hH⟩ : ∃ H, H = s.heap := ⟨_, rfl⟩
  obtain ⟨locs, hlo⟩ : ∃ q : List Loc, q = [] := ⟨_, rfl⟩
  have hW : Wd D 20 ad (CM ad cy) A s.heap M H locs := by rw [hH, hlo]; exact hW
  suffices hh : W p l e (rmD 1) s m ([.ref (ad 0), .long v1, .long v3] : List Value).toArray below meth c H locs 0 0 Q (F0 m 0 ls []) by rw [hH, hlo] at hh; exact hh
  unfold f_X2_tellsPart at hf
  refine lv_lload_n hx hb dX2_tellsPart_0 rfl (lv_at hl 1 rfl) ?_
  refine lv_lload_n hx hb dX2_tellsPart_1 rfl (lv_at hl 2 rfl) ?_
  obtain ⟨r2, h2, hf⟩ := bR_some hf
  refine g_calllS X hl.1 hZ hA hW (c_X2_common l D cy ad h2) cs_X2_common ql_X2_199 rfl (by decide) rfl (Nat.le_of_ble_eq_true rfl) dX2_tellsPart_2 (fun H locs hW => ?_)
  refine lv_lstore (lv' := [(5, .long r2), (0, .ref (ad 0)), (1, .long v1), (3, .long v3)]) hx hb dX2_tellsPart_5 hl (by decide) rfl (fun ls hl => ?_)
  refine lv_aload_n hx hb dX2_tellsPart_7 rfl (lv_at hl 1 rfl) ?_
  refine lv_lload_n hx hb dX2_tellsPart_8 rfl (lv_at hl 2 rfl) ?_
  refine lv_lload hx hb dX2_tellsPart_9 (lv_at hl 0 rfl) ?_
  obtain ⟨hz11, hf⟩ := grd_some hf
  refine lv_ldiv hx hb dX2_tellsPart_11 (nzL_ne hz11) ?_
  refine gp_X2_203 X hW dX2_tellsPart_12 (fun H locs hW => ?_)
  obtain ⟨M12, e12, hf⟩ := lt_some hf
  have hW : Wd D 20 ad (CM ad cy) A s.heap M12 H locs := by rw [e12]; exact hW
  refine lv_aload_n hx hb dX2_tellsPart_15 rfl (lv_at hl 1 rfl) ?_
  refine lv_lload_n hx hb dX2_tellsPart_16 rfl (lv_at hl 3 rfl) ?_
  refine lv_lload hx hb dX2_tellsPart_17 (lv_at hl 0 rfl) ?_
  obtain ⟨hz19, hf⟩ := grd_some hf
  refine lv_ldiv hx hb dX2_tellsPart_19 (nzL_ne hz19) ?_
  refine gp_X2_47 X hW dX2_tellsPart_20 (fun H locs hW => ?_)
  obtain ⟨M20, e20, hf⟩ := lt_some hf
  have hW : Wd D 20 ad (CM ad cy) A s.heap M20 H locs := by rw [e20]; exact hW
  refine lv_iconst (v := 1) hx hb dX2_tellsPart_23 (by decide) ?_
  exact g_iret X hr hlk hQ hW dX2_tellsPart_24 hf

def f_X2_failing_L30 (v1_L30 : Int32) (v2_L30 : Int32) (v3_L30 : Int32) (v4_L30 : Int64) (v6_L30 : Int64) (v8_L30 : Int32) (k110 : Int64 → Mem → Option (Int32 × Mem)) : Nat → Int64 → Int32 → Mem → Option (Int32 × Mem)
  | 0, _, _, _ => none
  | n + 1, v9_L30, v11_L30, M_L30 => (if (M_L30.1 0 4) ≤ v11_L30 then (k110 v9_L30 M_L30) else (jn (fun (k55 : Int32 → Option (Int32 × Mem)) => (if ((shr v8_L30 v11_L30) &&& 1) = 1 then (k55 1) else (k55 0))) (fun (t0_55j : Int32) => (jn (fun (k74 : Int64 → Option (Int32 × Mem)) => (if t0_55j = 0 then (k74 ((12 - v3_L30)).toInt64) else (k74 v3_L30.toInt64))) (fun (t0_74j : Int64) => (jn (fun (k103 : Int32 → Option (Int32 × Mem)) => (if t0_55j = 0 then (grd (inb (1 + v11_L30) 15) (k103 (M_L30.1 9 (ix (1 + v11_L30))))) else (k103 0))) (fun (t0_103j : Int32) => (grd (inb (1 + v11_L30) 15) (lt (sI M_L30 9 (ix (1 + v11_L30)) t0_103j) (fun M103 => (f_X2_failing_L30 v1_L30 v2_L30 v3_L30 v4_L30 v6_L30 v8_L30 k110 n (v9_L30 * t0_74j) (v11_L30 + 1) M103)))))))))))
def f_X2_failing_L9 (v1_L9 : Int32) (v2_L9 : Int32) (v3_L9 : Int32) (k175 : Int64 → Int64 → Mem → Option (Int32 × Mem)) : Nat → Int64 → Int64 → Int32 → Mem → Option (Int32 × Mem)
  | 0, _, _, _, _ => none
  | n + 1, v4_L9, v6_L9, v8_L9, M_L9 => (if (shl 1 (M_L9.1 0 4)) ≤ v8_L9 then (k175 v4_L9 v6_L9 M_L9) else (bR (f_X2_asItIs M_L9) (fun M24 => (jn (fun (k110 : Int64 → Mem → Option (Int32 × Mem)) => (f_X2_failing_L30 v1_L9 v2_L9 v3_L9 v4_L9 v6_L9 v8_L9 k110 FU 1 0 M24)) (fun (v9_110x : Int64) (M_110x : Mem) => (jn (fun (k169 : Int64 → Mem → Option (Int32 × Mem)) => (if (lg_cmp v9_110x 0) ≤ 0 then (k169 v4_L9 M_110x) else (bR (f_X2_goes v2_L9 M_110x) (fun M126 => (bR (f_X2_pulses 9 15 M126) (fun r134 => (jn (fun (k166 : Int64 → Option (Int32 × Mem)) => (if 0 ≤ v1_L9 then (if r134 < v1_L9 then (k166 0) else (k166 v9_110x)) else (k166 (v9_110x * r134.toInt64)))) (fun (t0_166j : Int64) => (k169 (v4_L9 + t0_166j) M126))))))))) (fun (v4_169j : Int64) (M_169j : Mem) => (f_X2_failing_L9 v1_L9 v2_L9 v3_L9 k175 n v4_169j (v6_L9 + v9_110x) (v8_L9 + 1) M_169j))))))))
def f_X2_failing (v1 : Int32) (v2 : Int32) (v3 : Int32) (M : Mem) : Option (Int32 × Mem) :=
  (jn (fun (k175 : Int64 → Int64 → Mem → Option (Int32 × Mem)) => (f_X2_failing_L9 v1 v2 v3 k175 FU 0 0 0 M)) (fun (v4_175x : Int64) (v6_175x : Int64) (M_175x : Mem) => (bI (f_X2_tellsPart v4_175x v6_175x M_175x) (fun r180 M180 => (some (r180, M180))))))
set_option maxHeartbeats 4000000 in
set_option maxRecDepth 100000 in
theorem c_X2_failing (l : Launch) (D : va_G) (cy : Nat → ClassId) (ad : Nat → Nat)   {v1 : Int32} {v2 : Int32} {v3 : Int32} {M M' : Mem} {r : Int32} (hf : f_X2_failing v1 v2 v3 M = some (r, M')) : MetX l 20 (CM ad cy) D cy ad yX2_failing cX2_failing 13 (some .int) 4 [.ref (ad 0), .int v1, .int v2, .int v3] M (fun A => QI r M' 20 (CM ad cy) D cy ad A) := by
  refine MetX.of (own := RX2) (by decide) rfl (Nat.le_of_ble_eq_true rfl) ?_
  intro p e s m below meth c A Q ls X hr hlk hZ hA hQ hW hl
  have hl : lv_has ls 13 [(0, .ref (ad 0)), (1, .int v1), (2, .int v2), (3, .int v3)] := hl
  have hx := X.1
  have hb := X.2.1
  have hL30 : ∀ (v1_L30 : Int32) (v2_L30 : Int32) (v3_L30 : Int32) (v4_L30 : Int64) (v6_L30 : Int64) (v8_L30 : Int32) (k110 : Int64 → Mem → Option (Int32 × Mem)) (hJ110 : ∀ (v9_110x : Int64) (M_110x : Mem) (H : Heap) (locs : List Loc) (ls : Array Slot), k110 v9_110x M_110x = some (r, M') → Wd D 20 ad (CM ad cy) A s.heap M_110x H locs → lv_has ls 13 [(0, .ref (ad 0)), (1, .int v1_L30), (2, .int v2_L30), (3, .int v3_L30), (4, .long v4_L30), (6, .long v6_L30), (8, .int v8_L30), (9, .long v9_110x)] → W p l e (rmD 4) s m ([.ref (ad 0), .int v1, .int v2, .int v3] : List Value).toArray below meth c H locs 0 0 Q (F0 m 110 ls [])) (n : Nat) (v9_L30 : Int64) (v11_L30 : Int32) (M_L30 : Mem) (H : Heap) (locs : List Loc) (ls : Array Slot), f_X2_failing_L30 v1_L30 v2_L30 v3_L30 v4_L30 v6_L30 v8_L30 k110 n v9_L30 v11_L30 M_L30 = some (r, M') → Wd D 20 ad (CM ad cy) A s.heap M_L30 H locs → lv_has ls 13 [(0, .ref (ad 0)), (1, .int v1_L30), (2, .int v2_L30), (3, .int v3_L30), (4, .long v4_L30), (6, .long v6_L30), (8, .int v8_L30), (9, .long v9_L30), (11, .int v11_L30)] → W p l e (rmD 4) s m ([.ref (ad 0), .int v1, .int v2, .int v3] : List Value).toArray below meth c H locs 0 0 Q (F0 m 30 ls []) := by
    intro v1_L30 v2_L30 v3_L30 v4_L30 v6_L30 v8_L30 k110 hJ110 n
    induction n with
    | zero =>
      intro v9_L30 v11_L30 M_L30 H locs ls hf
      cases (show (none : Option (Int32 × Mem)) = some (r, M') from hf)
    | succ n ih =>
      intro v9_L30 v11_L30 M_L30 H locs ls hf hW hl
      rw [f_X2_failing_L30] at hf
      refine lv_iload hx hb dX2_failing_30 (lv_at hl 8 rfl) ?_
      refine lv_aload_n hx hb dX2_failing_32 rfl (lv_at hl 0 rfl) ?_
      refine gf_X2_79 X hW dX2_failing_33 ?_
      refine lv_icmp_ge (tgt := 110) hx hb dX2_failing_36 (by decide) (fun hc => ?_) (fun hc => ?_)
      · replace hf := ifp hc hf
        exact hJ110 v9_L30 M_L30 H locs ls hf hW (lv_sub hl [0, 1, 2, 3, 4, 5, 6, 7] rfl)
      · replace hf := ifn hc hf
        refine lv_iload hx hb dX2_failing_39 (lv_at hl 6 rfl) ?_
        refine lv_iload hx hb dX2_failing_41 (lv_at hl 8 rfl) ?_
        refine r_ishr hx hb dX2_failing_43 ?_
        refine lv_iconst (v := 1) hx hb dX2_failing_44 (by decide) ?_
        refine lv_iand hx hb dX2_failing_45 ?_
        refine lv_iconst (v := 1) hx hb dX2_failing_46 (by decide) ?_
        obtain ⟨k55, hk55, hf⟩ := jn_some1 hf
        have hJ55 : ∀ (t0_55j : Int32) (H : Heap) (locs : List Loc) (ls : Array Slot), k55 t0_55j = some (r, M') → Wd D 20 ad (CM ad cy) A s.heap M_L30 H locs → lv_has ls 13 [(0, .ref (ad 0)), (1, .int v1_L30), (2, .int v2_L30), (3, .int v3_L30), (4, .long v4_L30), (6, .long v6_L30), (8, .int v8_L30), (9, .long v9_L30), (11, .int v11_L30)] → W p l e (rmD 4) s m ([.ref (ad 0), .int v1, .int v2, .int v3] : List Value).toArray below meth c H locs 0 0 Q (F0 m 55 ls [.int t0_55j]) := by
          intro t0_55j H locs ls hf hW hl
          rw [hk55] at hf
          refine lv_istore (lv' := [(12, .int t0_55j), (0, .ref (ad 0)), (1, .int v1_L30), (2, .int v2_L30), (3, .int v3_L30), (4, .long v4_L30), (6, .long v6_L30), (8, .int v8_L30), (9, .long v9_L30), (11, .int v11_L30)]) hx hb dX2_failing_55 hl (by decide) rfl (fun ls hl => ?_)
          refine lv_lload hx hb dX2_failing_57 (lv_at hl 8 rfl) ?_
          refine lv_iload hx hb dX2_failing_59 (lv_at hl 0 rfl) ?_
          obtain ⟨k74, hk74, hf⟩ := jn_some1 hf
          have hJ74 : ∀ (t0_74j : Int64) (H : Heap) (locs : List Loc) (ls : Array Slot), k74 t0_74j = some (r, M') → Wd D 20 ad (CM ad cy) A s.heap M_L30 H locs → lv_has ls 13 [(0, .ref (ad 0)), (1, .int v1_L30), (2, .int v2_L30), (3, .int v3_L30), (4, .long v4_L30), (6, .long v6_L30), (8, .int v8_L30), (11, .int v11_L30), (12, .int t0_55j)] → W p l e (rmD 4) s m ([.ref (ad 0), .int v1, .int v2, .int v3] : List Value).toArray below meth c H locs 0 0 Q (F0 m 74 ls [.long t0_74j, .long v9_L30]) := by
            intro t0_74j H locs ls hf hW hl
            rw [hk74] at hf
            refine lv_lmul hx hb dX2_failing_74 ?_
            refine lv_lstore (lv' := [(9, .long (v9_L30 * t0_74j)), (0, .ref (ad 0)), (1, .int v1_L30), (2, .int v2_L30), (3, .int v3_L30), (4, .long v4_L30), (6, .long v6_L30), (8, .int v8_L30), (11, .int v11_L30), (12, .int t0_55j)]) hx hb dX2_failing_75 hl (by decide) rfl (fun ls hl => ?_)
            refine lv_aload_n hx hb dX2_failing_77 rfl (lv_at hl 1 rfl) ?_
            refine gf_X2_34 X hW dX2_failing_78 ?_
            refine lv_iconst (v := 1) hx hb dX2_failing_81 (by decide) ?_
            refine lv_iload hx hb dX2_failing_82 (lv_at hl 8 rfl) ?_
            refine lv_iadd hx hb dX2_failing_84 ?_
            refine lv_iload hx hb dX2_failing_85 (lv_at hl 9 rfl) ?_
            obtain ⟨k103, hk103, hf⟩ := jn_some1 hf
            have hJ103 : ∀ (t0_103j : Int32) (H : Heap) (locs : List Loc) (ls : Array Slot), k103 t0_103j = some (r, M') → Wd D 20 ad (CM ad cy) A s.heap M_L30 H locs → lv_has ls 13 [(0, .ref (ad 0)), (1, .int v1_L30), (2, .int v2_L30), (3, .int v3_L30), (4, .long v4_L30), (6, .long v6_L30), (8, .int v8_L30), (9, .long (v9_L30 * t0_74j)), (11, .int v11_L30)] → W p l e (rmD 4) s m ([.ref (ad 0), .int v1, .int v2, .int v3] : List Value).toArray below meth c H locs 0 0 Q (F0 m 103 ls [.int t0_103j, .int (1 + v11_L30), .ref (ad 9)]) := by
              intro t0_103j H locs ls hf hW hl
              rw [hk103] at hf
              obtain ⟨hi103, hf⟩ := grd_some hf
              refine g_iast X hW iM_now hi103 dX2_failing_103 (fun H locs hW => ?_)
              obtain ⟨M103, e103, hf⟩ := lt_some hf
              have hW : Wd D 20 ad (CM ad cy) A s.heap M103 H locs := by rw [e103]; exact hW
              refine lv_iinc (v := (v11_L30 + 1)) (lv' := [(11, .int (v11_L30 + 1)), (0, .ref (ad 0)), (1, .int v1_L30), (2, .int v2_L30), (3, .int v3_L30), (4, .long v4_L30), (6, .long v6_L30), (8, .int v8_L30), (9, .long (v9_L30 * t0_74j))]) hx hb dX2_failing_104 hl (k := 8) rfl rfl (by decide) rfl (fun ls hl => ?_)
              refine lv_goto (tgt := 30) hx hb dX2_failing_107 (by decide) ?_
              exact ih (v9_L30 * t0_74j) (v11_L30 + 1) M103 H locs ls hf hW (lv_sub hl [1, 2, 3, 4, 5, 6, 7, 8, 0] rfl)
            refine lv_if_eq (tgt := 94) hx hb dX2_failing_87 (by decide) (fun hc => ?_) (fun hc => ?_)
            · replace hf := ifp hc hf
              refine lv_aload_n hx hb dX2_failing_94 rfl (lv_at hl 1 rfl) ?_
              refine gf_X2_34 X hW dX2_failing_95 ?_
              refine lv_iconst (v := 1) hx hb dX2_failing_98 (by decide) ?_
              refine lv_iload hx hb dX2_failing_99 (lv_at hl 8 rfl) ?_
              refine lv_iadd hx hb dX2_failing_101 ?_
              obtain ⟨hi102, hf⟩ := grd_some hf
              refine g_iald X hW iM_now hi102 dX2_failing_102 ?_
              exact hJ103 (M_L30.1 9 (ix (1 + v11_L30))) H locs ls hf hW (lv_sub hl [1, 2, 3, 4, 5, 6, 7, 0, 8] rfl)
            · replace hf := ifn hc hf
              refine lv_iconst (v := 0) hx hb dX2_failing_90 (by decide) ?_
              refine lv_goto (tgt := 103) hx hb dX2_failing_91 (by decide) ?_
              exact hJ103 0 H locs ls hf hW (lv_sub hl [1, 2, 3, 4, 5, 6, 7, 0, 8] rfl)
          refine lv_if_eq (tgt := 69) hx hb dX2_failing_61 (by decide) (fun hc => ?_) (fun hc => ?_)
          · replace hf := ifp hc hf
            refine lv_bipush (v := 12) hx hb dX2_failing_69 (by decide) ?_
            refine lv_iload_n hx hb dX2_failing_71 rfl (lv_at hl 4 rfl) ?_
            refine lv_isub hx hb dX2_failing_72 ?_
            refine lv_i2l (v := ((12 - v3_L30)).toInt64) hx hb dX2_failing_73 rfl ?_
            exact hJ74 ((12 - v3_L30)).toInt64 H locs ls hf hW (lv_sub hl [1, 2, 3, 4, 5, 6, 7, 9, 0] rfl)
          · replace hf := ifn hc hf
            refine lv_iload_n hx hb dX2_failing_64 rfl (lv_at hl 4 rfl) ?_
            refine lv_i2l (v := v3_L30.toInt64) hx hb dX2_failing_65 rfl ?_
            refine lv_goto (tgt := 74) hx hb dX2_failing_66 (by decide) ?_
            exact hJ74 v3_L30.toInt64 H locs ls hf hW (lv_sub hl [1, 2, 3, 4, 5, 6, 7, 9, 0] rfl)
        refine lv_icmp_ne (tgt := 54) hx hb dX2_failing_47 (by decide) (fun hc => ?_) (fun hc => ?_)
        · replace hf := ifn hc hf
          refine lv_iconst (v := 0) hx hb dX2_failing_54 (by decide) ?_
          exact hJ55 0 H locs ls hf hW (lv_sub hl [0, 1, 2, 3, 4, 5, 6, 7, 8] rfl)
        · replace hf := ifp hc hf
          refine lv_iconst (v := 1) hx hb dX2_failing_50 (by decide) ?_
          refine lv_goto (tgt := 55) hx hb dX2_failing_51 (by decide) ?_
          exact hJ55 1 H locs ls hf hW (lv_sub hl [0, 1, 2, 3, 4, 5, 6, 7, 8] rfl)
  have hL9 : ∀ (v1_L9 : Int32) (v2_L9 : Int32) (v3_L9 : Int32) (k175 : Int64 → Int64 → Mem → Option (Int32 × Mem)) (hJ175 : ∀ (v4_175x : Int64) (v6_175x : Int64) (M_175x : Mem) (H : Heap) (locs : List Loc) (ls : Array Slot), k175 v4_175x v6_175x M_175x = some (r, M') → Wd D 20 ad (CM ad cy) A s.heap M_175x H locs → lv_has ls 13 [(0, .ref (ad 0)), (4, .long v4_175x), (6, .long v6_175x)] → W p l e (rmD 4) s m ([.ref (ad 0), .int v1, .int v2, .int v3] : List Value).toArray below meth c H locs 0 0 Q (F0 m 175 ls [])) (n : Nat) (v4_L9 : Int64) (v6_L9 : Int64) (v8_L9 : Int32) (M_L9 : Mem) (H : Heap) (locs : List Loc) (ls : Array Slot), f_X2_failing_L9 v1_L9 v2_L9 v3_L9 k175 n v4_L9 v6_L9 v8_L9 M_L9 = some (r, M') → Wd D 20 ad (CM ad cy) A s.heap M_L9 H locs → lv_has ls 13 [(0, .ref (ad 0)), (1, .int v1_L9), (2, .int v2_L9), (3, .int v3_L9), (4, .long v4_L9), (6, .long v6_L9), (8, .int v8_L9)] → W p l e (rmD 4) s m ([.ref (ad 0), .int v1, .int v2, .int v3] : List Value).toArray below meth c H locs 0 0 Q (F0 m 9 ls []) := by
    intro v1_L9 v2_L9 v3_L9 k175 hJ175 n
    induction n with
    | zero =>
      intro v4_L9 v6_L9 v8_L9 M_L9 H locs ls hf
      cases (show (none : Option (Int32 × Mem)) = some (r, M') from hf)
    | succ n ih =>
      intro v4_L9 v6_L9 v8_L9 M_L9 H locs ls hf hW hl
      rw [f_X2_failing_L9] at hf
      refine lv_iload hx hb dX2_failing_9 (lv_at hl 6 rfl) ?_
      refine lv_iconst (v := 1) hx hb dX2_failing_11 (by decide) ?_
      refine lv_aload_n hx hb dX2_failing_12 rfl (lv_at hl 0 rfl) ?_
      refine gf_X2_79 X hW dX2_failing_13 ?_
      refine r_ishl hx hb dX2_failing_16 ?_
      refine lv_icmp_ge (tgt := 175) hx hb dX2_failing_17 (by decide) (fun hc => ?_) (fun hc => ?_)
      · replace hf := ifp hc hf
        exact hJ175 v4_L9 v6_L9 M_L9 H locs ls hf hW (lv_sub hl [0, 4, 5] rfl)
      · replace hf := ifn hc hf
        refine lv_lconst (v := 1) hx hb dX2_failing_20 (by decide) ?_
        refine lv_lstore (lv' := [(9, .long 1), (0, .ref (ad 0)), (1, .int v1_L9), (2, .int v2_L9), (3, .int v3_L9), (4, .long v4_L9), (6, .long v6_L9), (8, .int v8_L9)]) hx hb dX2_failing_21 hl (by decide) rfl (fun ls hl => ?_)
        refine lv_aload_n hx hb dX2_failing_23 rfl (lv_at hl 1 rfl) ?_
        obtain ⟨M24, h24, hf⟩ := bR_some hf
        refine g_callvV X hl.1 hZ hA hW (c_X2_asItIs l D cy ad h24) cw_X2_asItIs ql_X2_173 iO_X2 rfl (by decide) rfl (Nat.le_of_ble_eq_true rfl) dX2_failing_24 (fun H locs hW => ?_)
        refine lv_iconst (v := 0) hx hb dX2_failing_27 (by decide) ?_
        refine lv_istore (lv' := [(11, .int 0), (9, .long 1), (0, .ref (ad 0)), (1, .int v1_L9), (2, .int v2_L9), (3, .int v3_L9), (4, .long v4_L9), (6, .long v6_L9), (8, .int v8_L9)]) hx hb dX2_failing_28 hl (by decide) rfl (fun ls hl => ?_)
        obtain ⟨k110, hk110, hf⟩ := jn_some2 hf
        have hJ110 : ∀ (v9_110x : Int64) (M_110x : Mem) (H : Heap) (locs : List Loc) (ls : Array Slot), k110 v9_110x M_110x = some (r, M') → Wd D 20 ad (CM ad cy) A s.heap M_110x H locs → lv_has ls 13 [(0, .ref (ad 0)), (1, .int v1_L9), (2, .int v2_L9), (3, .int v3_L9), (4, .long v4_L9), (6, .long v6_L9), (8, .int v8_L9), (9, .long v9_110x)] → W p l e (rmD 4) s m ([.ref (ad 0), .int v1, .int v2, .int v3] : List Value).toArray below meth c H locs 0 0 Q (F0 m 110 ls []) := by
          intro v9_110x M_110x H locs ls hf hW hl
          rw [hk110] at hf
          refine lv_lload hx hb dX2_failing_110 (lv_at hl 5 rfl) ?_
          refine lv_lload hx hb dX2_failing_112 (lv_at hl 7 rfl) ?_
          refine lv_ladd hx hb dX2_failing_114 ?_
          refine lv_lstore (lv' := [(6, .long (v6_L9 + v9_110x)), (0, .ref (ad 0)), (1, .int v1_L9), (2, .int v2_L9), (3, .int v3_L9), (4, .long v4_L9), (8, .int v8_L9), (9, .long v9_110x)]) hx hb dX2_failing_115 hl (by decide) rfl (fun ls hl => ?_)
          refine lv_lload hx hb dX2_failing_117 (lv_at hl 7 rfl) ?_
          refine lv_lconst (v := 0) hx hb dX2_failing_119 (by decide) ?_
          refine W.lcmp hx hb dX2_failing_120 ?_
          obtain ⟨k169, hk169, hf⟩ := jn_some2 hf
          have hJ169 : ∀ (v4_169j : Int64) (M_169j : Mem) (H : Heap) (locs : List Loc) (ls : Array Slot), k169 v4_169j M_169j = some (r, M') → Wd D 20 ad (CM ad cy) A s.heap M_169j H locs → lv_has ls 13 [(0, .ref (ad 0)), (1, .int v1_L9), (2, .int v2_L9), (3, .int v3_L9), (4, .long v4_169j), (6, .long (v6_L9 + v9_110x)), (8, .int v8_L9)] → W p l e (rmD 4) s m ([.ref (ad 0), .int v1, .int v2, .int v3] : List Value).toArray below meth c H locs 0 0 Q (F0 m 169 ls []) := by
            intro v4_169j M_169j H locs ls hf hW hl
            rw [hk169] at hf
            refine lv_iinc (v := (v8_L9 + 1)) (lv' := [(8, .int (v8_L9 + 1)), (0, .ref (ad 0)), (1, .int v1_L9), (2, .int v2_L9), (3, .int v3_L9), (4, .long v4_169j), (6, .long (v6_L9 + v9_110x))]) hx hb dX2_failing_169 hl (k := 6) rfl rfl (by decide) rfl (fun ls hl => ?_)
            refine lv_goto (tgt := 9) hx hb dX2_failing_172 (by decide) ?_
            exact ih v4_169j (v6_L9 + v9_110x) (v8_L9 + 1) M_169j H locs ls hf hW (lv_sub hl [1, 2, 3, 4, 5, 6, 0] rfl)
          refine lv_if_le (tgt := 169) hx hb dX2_failing_121 (by decide) (fun hc => ?_) (fun hc => ?_)
          · replace hf := ifp hc hf
            exact hJ169 v4_L9 M_110x H locs ls hf hW (lv_sub hl [1, 2, 3, 4, 5, 0, 6] rfl)
          · replace hf := ifn hc hf
            refine lv_aload_n hx hb dX2_failing_124 rfl (lv_at hl 1 rfl) ?_
            refine lv_iload_n hx hb dX2_failing_125 rfl (lv_at hl 3 rfl) ?_
            obtain ⟨M126, h126, hf⟩ := bR_some hf
            refine g_callvV X hl.1 hZ hA hW (c_X2_goes l D cy ad h126) cw_X2_goes ql_X2_176 iO_X2 rfl (by decide) rfl (Nat.le_of_ble_eq_true rfl) dX2_failing_126 (fun H locs hW => ?_)
            refine lv_aload_n hx hb dX2_failing_129 rfl (lv_at hl 1 rfl) ?_
            refine lv_aload_n hx hb dX2_failing_130 rfl (lv_at hl 1 rfl) ?_
            refine gf_X2_34 X hW dX2_failing_131 ?_
            obtain ⟨r134, h134, hf⟩ := bR_some hf
            refine g_calliV X hl.1 hZ hA hW (c_X2_pulses l D cy ad iM_now h134) cw_X2_pulses ql_X2_162 iO_X2 rfl (by decide) rfl (Nat.le_of_ble_eq_true rfl) dX2_failing_134 (fun H locs hW => ?_)
            refine lv_istore (lv' := [(11, .int r134), (6, .long (v6_L9 + v9_110x)), (0, .ref (ad 0)), (1, .int v1_L9), (2, .int v2_L9), (3, .int v3_L9), (4, .long v4_L9), (8, .int v8_L9), (9, .long v9_110x)]) hx hb dX2_failing_137 hl (by decide) rfl (fun ls hl => ?_)
            refine lv_lload hx hb dX2_failing_139 (lv_at hl 6 rfl) ?_
            refine lv_iload_n hx hb dX2_failing_141 rfl (lv_at hl 3 rfl) ?_
            obtain ⟨k166, hk166, hf⟩ := jn_some1 hf
            have hJ166 : ∀ (t0_166j : Int64) (H : Heap) (locs : List Loc) (ls : Array Slot), k166 t0_166j = some (r, M') → Wd D 20 ad (CM ad cy) A s.heap M126 H locs → lv_has ls 13 [(0, .ref (ad 0)), (1, .int v1_L9), (2, .int v2_L9), (3, .int v3_L9), (6, .long (v6_L9 + v9_110x)), (8, .int v8_L9)] → W p l e (rmD 4) s m ([.ref (ad 0), .int v1, .int v2, .int v3] : List Value).toArray below meth c H locs 0 0 Q (F0 m 166 ls [.long t0_166j, .long v4_L9]) := by
              intro t0_166j H locs ls hf hW hl
              rw [hk166] at hf
              refine lv_ladd hx hb dX2_failing_166 ?_
              refine lv_lstore (lv' := [(4, .long (v4_L9 + t0_166j)), (0, .ref (ad 0)), (1, .int v1_L9), (2, .int v2_L9), (3, .int v3_L9), (6, .long (v6_L9 + v9_110x)), (8, .int v8_L9)]) hx hb dX2_failing_167 hl (by decide) rfl (fun ls hl => ?_)
              exact hJ169 (v4_L9 + t0_166j) M126 H locs ls hf hW (lv_sub hl [1, 2, 3, 4, 0, 5, 6] rfl)
            refine lv_if_ge (tgt := 154) hx hb dX2_failing_142 (by decide) (fun hc => ?_) (fun hc => ?_)
            · replace hf := ifp hc hf
              refine lv_iload hx hb dX2_failing_154 (lv_at hl 0 rfl) ?_
              refine lv_iload_n hx hb dX2_failing_156 rfl (lv_at hl 3 rfl) ?_
              refine lv_icmp_lt (tgt := 165) hx hb dX2_failing_157 (by decide) (fun hc => ?_) (fun hc => ?_)
              · replace hf := ifp hc hf
                refine lv_lconst (v := 0) hx hb dX2_failing_165 (by decide) ?_
                exact hJ166 0 H locs ls hf hW (lv_sub hl [2, 3, 4, 5, 1, 7] rfl)
              · replace hf := ifn hc hf
                refine lv_lload hx hb dX2_failing_160 (lv_at hl 8 rfl) ?_
                refine lv_goto (tgt := 166) hx hb dX2_failing_162 (by decide) ?_
                exact hJ166 v9_110x H locs ls hf hW (lv_sub hl [2, 3, 4, 5, 1, 7] rfl)
            · replace hf := ifn hc hf
              refine lv_lload hx hb dX2_failing_145 (lv_at hl 8 rfl) ?_
              refine lv_iload hx hb dX2_failing_147 (lv_at hl 0 rfl) ?_
              refine lv_i2l (v := r134.toInt64) hx hb dX2_failing_149 rfl ?_
              refine lv_lmul hx hb dX2_failing_150 ?_
              refine lv_goto (tgt := 166) hx hb dX2_failing_151 (by decide) ?_
              exact hJ166 (v9_110x * r134.toInt64) H locs ls hf hW (lv_sub hl [2, 3, 4, 5, 1, 7] rfl)
        exact hL30 v1_L9 v2_L9 v3_L9 v4_L9 v6_L9 v8_L9 k110 hJ110 FU 1 0 M24 H locs ls hf hW (lv_sub hl [2, 3, 4, 5, 6, 7, 8, 1, 0] rfl)
  obtain ⟨H, hH⟩ : ∃ H, H = s.heap := ⟨_, rfl⟩
  obtain ⟨locs, hlo⟩ : ∃ q : List Loc, q = [] := ⟨_, rfl⟩
  have hW : Wd D 20 ad (CM ad cy) A s.heap M H locs := by rw [hH, hlo]; exact hW
  suffices hh : W p l e (rmD 4) s m ([.ref (ad 0), .int v1, .int v2, .int v3] : List Value).toArray below meth c H locs 0 0 Q (F0 m 0 ls []) by rw [hH, hlo] at hh; exact hh
  unfold f_X2_failing at hf
  refine lv_lconst (v := 0) hx hb dX2_failing_0 (by decide) ?_
  refine lv_lstore (lv' := [(4, .long 0), (0, .ref (ad 0)), (1, .int v1), (2, .int v2), (3, .int v3)]) hx hb dX2_failing_1 hl (by decide) rfl (fun ls hl => ?_)
  refine lv_lconst (v := 0) hx hb dX2_failing_3 (by decide) ?_
  refine lv_lstore (lv' := [(6, .long 0), (4, .long 0), (0, .ref (ad 0)), (1, .int v1), (2, .int v2), (3, .int v3)]) hx hb dX2_failing_4 hl (by decide) rfl (fun ls hl => ?_)
  refine lv_iconst (v := 0) hx hb dX2_failing_6 (by decide) ?_
  refine lv_istore (lv' := [(8, .int 0), (6, .long 0), (4, .long 0), (0, .ref (ad 0)), (1, .int v1), (2, .int v2), (3, .int v3)]) hx hb dX2_failing_7 hl (by decide) rfl (fun ls hl => ?_)
  obtain ⟨k175, hk175, hf⟩ := jn_some3 hf
  have hJ175 : ∀ (v4_175x : Int64) (v6_175x : Int64) (M_175x : Mem) (H : Heap) (locs : List Loc) (ls : Array Slot), k175 v4_175x v6_175x M_175x = some (r, M') → Wd D 20 ad (CM ad cy) A s.heap M_175x H locs → lv_has ls 13 [(0, .ref (ad 0)), (4, .long v4_175x), (6, .long v6_175x)] → W p l e (rmD 4) s m ([.ref (ad 0), .int v1, .int v2, .int v3] : List Value).toArray below meth c H locs 0 0 Q (F0 m 175 ls []) := by
    intro v4_175x v6_175x M_175x H locs ls hf hW hl
    rw [hk175] at hf
    refine lv_aload_n hx hb dX2_failing_175 rfl (lv_at hl 0 rfl) ?_
    refine lv_lload hx hb dX2_failing_176 (lv_at hl 1 rfl) ?_
    refine lv_lload hx hb dX2_failing_178 (lv_at hl 2 rfl) ?_
    obtain ⟨r180, M180, h180, hf⟩ := bI_some hf
    refine g_calliV X hl.1 hZ hA hW (c_X2_tellsPart l D cy ad h180) cw_X2_tellsPart ql_X2_206 iO_X2 rfl (by decide) rfl (Nat.le_of_ble_eq_true rfl) dX2_failing_180 (fun H locs hW => ?_)
    exact g_iret X hr hlk hQ hW dX2_failing_183 hf
  exact hL9 v1 v2 v3 k175 hJ175 FU 0 0 0 M H locs ls hf hW (lv_sub hl [3, 4, 5, 6, 2, 1, 0] rfl)

def f_X2_odds (v1 : Int32) (v2 : Int32) (v3 : Int32) (M : Mem) : Option (Int32 × Mem) :=
  (bR (f_X2_in v1 0 63 M) (fun r4 => (if r4 = 0 then (some ((-1), M)) else (bR (f_X2_in v2 0 20 M) (fun r14 => (if r14 = 0 then (some ((-1), M)) else (bR (f_X2_in v3 0 12 M) (fun r24 => (if r24 = 0 then (some ((-1), M)) else (if (M.1 0 4) = 0 then (some ((-4), M)) else (bI (f_X2_failing v1 v2 v3 M) (fun r48 M48 => (some (r48, M48))))))))))))))
set_option maxHeartbeats 4000000 in
set_option maxRecDepth 100000 in
theorem c_X2_odds (l : Launch) (D : va_G) (cy : Nat → ClassId) (ad : Nat → Nat)   {v1 : Int32} {v2 : Int32} {v3 : Int32} {M M' : Mem} {r : Int32} (hf : f_X2_odds v1 v2 v3 M = some (r, M')) : MetX l 20 (CM ad cy) D cy ad yX2_odds cX2_odds 4 (some .int) 5 [.ref (ad 0), .int v1, .int v2, .int v3] M (fun A => QI r M' 20 (CM ad cy) D cy ad A) := by
  refine MetX.of (own := RX2) (by decide) rfl (Nat.le_of_ble_eq_true rfl) ?_
  intro p e s m below meth c A Q ls X hr hlk hZ hA hQ hW hl
  have hl : lv_has ls 4 [(0, .ref (ad 0)), (1, .int v1), (2, .int v2), (3, .int v3)] := hl
  have hx := X.1
  have hb := X.2.1
  obtain ⟨H, hH⟩ : ∃ H, H = s.heap := ⟨_, rfl⟩
  obtain ⟨locs, hlo⟩ : ∃ q : List Loc, q = [] := ⟨_, rfl⟩
  have hW : Wd D 20 ad (CM ad cy) A s.heap M H locs := by rw [hH, hlo]; exact hW
  suffices hh : W p l e (rmD 5) s m ([.ref (ad 0), .int v1, .int v2, .int v3] : List Value).toArray below meth c H locs 0 0 Q (F0 m 0 ls []) by rw [hH, hlo] at hh; exact hh
  unfold f_X2_odds at hf
  refine lv_iload_n hx hb dX2_odds_0 rfl (lv_at hl 1 rfl) ?_
  refine lv_iconst (v := 0) hx hb dX2_odds_1 (by decide) ?_
  refine lv_bipush (v := 63) hx hb dX2_odds_2 (by decide) ?_
  obtain ⟨r4, h4, hf⟩ := bR_some hf
  refine g_calliS X hl.1 hZ hA hW (c_X2_in l D cy ad h4) cs_X2_in ql_X2_82 rfl (by decide) rfl (Nat.le_of_ble_eq_true rfl) dX2_odds_4 (fun H locs hW => ?_)
  refine lv_if_eq (tgt := 30) hx hb dX2_odds_7 (by decide) (fun hc => ?_) (fun hc => ?_)
  · replace hf := ifp hc hf
    refine lv_iconst (v := (-1)) hx hb dX2_odds_30 (by decide) ?_
    exact g_iret X hr hlk hQ hW dX2_odds_31 hf
  · replace hf := ifn hc hf
    refine lv_iload_n hx hb dX2_odds_10 rfl (lv_at hl 2 rfl) ?_
    refine lv_iconst (v := 0) hx hb dX2_odds_11 (by decide) ?_
    refine lv_bipush (v := 20) hx hb dX2_odds_12 (by decide) ?_
    obtain ⟨r14, h14, hf⟩ := bR_some hf
    refine g_calliS X hl.1 hZ hA hW (c_X2_in l D cy ad h14) cs_X2_in ql_X2_82 rfl (by decide) rfl (Nat.le_of_ble_eq_true rfl) dX2_odds_14 (fun H locs hW => ?_)
    refine lv_if_eq (tgt := 30) hx hb dX2_odds_17 (by decide) (fun hc => ?_) (fun hc => ?_)
    · replace hf := ifp hc hf
      refine lv_iconst (v := (-1)) hx hb dX2_odds_30 (by decide) ?_
      exact g_iret X hr hlk hQ hW dX2_odds_31 hf
    · replace hf := ifn hc hf
      refine lv_iload_n hx hb dX2_odds_20 rfl (lv_at hl 3 rfl) ?_
      refine lv_iconst (v := 0) hx hb dX2_odds_21 (by decide) ?_
      refine lv_bipush (v := 12) hx hb dX2_odds_22 (by decide) ?_
      obtain ⟨r24, h24, hf⟩ := bR_some hf
      refine g_calliS X hl.1 hZ hA hW (c_X2_in l D cy ad h24) cs_X2_in ql_X2_82 rfl (by decide) rfl (Nat.le_of_ble_eq_true rfl) dX2_odds_24 (fun H locs hW => ?_)
      refine lv_if_ne (tgt := 32) hx hb dX2_odds_27 (by decide) (fun hc => ?_) (fun hc => ?_)
      · replace hf := ifn hc hf
        refine lv_aload_n hx hb dX2_odds_32 rfl (lv_at hl 0 rfl) ?_
        refine gf_X2_79 X hW dX2_odds_33 ?_
        refine lv_if_ne (tgt := 44) hx hb dX2_odds_36 (by decide) (fun hc => ?_) (fun hc => ?_)
        · replace hf := ifn hc hf
          refine lv_aload_n hx hb dX2_odds_44 rfl (lv_at hl 0 rfl) ?_
          refine lv_iload_n hx hb dX2_odds_45 rfl (lv_at hl 1 rfl) ?_
          refine lv_iload_n hx hb dX2_odds_46 rfl (lv_at hl 2 rfl) ?_
          refine lv_iload_n hx hb dX2_odds_47 rfl (lv_at hl 3 rfl) ?_
          obtain ⟨r48, M48, h48, hf⟩ := bI_some hf
          refine g_calliV X hl.1 hZ hA hW (c_X2_failing l D cy ad h48) cw_X2_failing ql_X2_210 iO_X2 rfl (by decide) rfl (Nat.le_of_ble_eq_true rfl) dX2_odds_48 (fun H locs hW => ?_)
          exact g_iret X hr hlk hQ hW dX2_odds_51 hf
        · replace hf := ifp hc hf
          refine lv_bipush (v := (-4)) hx hb dX2_odds_39 (by decide) ?_
          refine lv_goto (tgt := 51) hx hb dX2_odds_41 (by decide) ?_
          exact g_iret X hr hlk hQ hW dX2_odds_51 hf
      · replace hf := ifp hc hf
        refine lv_iconst (v := (-1)) hx hb dX2_odds_30 (by decide) ?_
        exact g_iret X hr hlk hQ hW dX2_odds_31 hf

def f_X2_mid (v1 : Int32) (v2 : Int32) (M : Mem) : Option (Int32 × Mem) :=
  (bR (f_X2_in v1 0 20 M) (fun r4 => (if r4 = 0 then (some ((-1), M)) else (bR (f_X2_in v2 0 12 M) (fun r14 => (if r14 = 0 then (some ((-1), M)) else (if (M.1 0 4) = 0 then (some ((-4), M)) else (bI (f_X2_failing (-1) v1 v2 M) (fun r38 M38 => (some (r38, M38)))))))))))
set_option maxHeartbeats 4000000 in
set_option maxRecDepth 100000 in
theorem c_X2_mid (l : Launch) (D : va_G) (cy : Nat → ClassId) (ad : Nat → Nat)   {v1 : Int32} {v2 : Int32} {M M' : Mem} {r : Int32} (hf : f_X2_mid v1 v2 M = some (r, M')) : MetX l 20 (CM ad cy) D cy ad yX2_mid cX2_mid 3 (some .int) 5 [.ref (ad 0), .int v1, .int v2] M (fun A => QI r M' 20 (CM ad cy) D cy ad A) := by
  refine MetX.of (own := RX2) (by decide) rfl (Nat.le_of_ble_eq_true rfl) ?_
  intro p e s m below meth c A Q ls X hr hlk hZ hA hQ hW hl
  have hl : lv_has ls 3 [(0, .ref (ad 0)), (1, .int v1), (2, .int v2)] := hl
  have hx := X.1
  have hb := X.2.1
  obtain ⟨H, hH⟩ : ∃ H, H = s.heap := ⟨_, rfl⟩
  obtain ⟨locs, hlo⟩ : ∃ q : List Loc, q = [] := ⟨_, rfl⟩
  have hW : Wd D 20 ad (CM ad cy) A s.heap M H locs := by rw [hH, hlo]; exact hW
  suffices hh : W p l e (rmD 5) s m ([.ref (ad 0), .int v1, .int v2] : List Value).toArray below meth c H locs 0 0 Q (F0 m 0 ls []) by rw [hH, hlo] at hh; exact hh
  unfold f_X2_mid at hf
  refine lv_iload_n hx hb dX2_mid_0 rfl (lv_at hl 1 rfl) ?_
  refine lv_iconst (v := 0) hx hb dX2_mid_1 (by decide) ?_
  refine lv_bipush (v := 20) hx hb dX2_mid_2 (by decide) ?_
  obtain ⟨r4, h4, hf⟩ := bR_some hf
  refine g_calliS X hl.1 hZ hA hW (c_X2_in l D cy ad h4) cs_X2_in ql_X2_82 rfl (by decide) rfl (Nat.le_of_ble_eq_true rfl) dX2_mid_4 (fun H locs hW => ?_)
  refine lv_if_eq (tgt := 20) hx hb dX2_mid_7 (by decide) (fun hc => ?_) (fun hc => ?_)
  · replace hf := ifp hc hf
    refine lv_iconst (v := (-1)) hx hb dX2_mid_20 (by decide) ?_
    exact g_iret X hr hlk hQ hW dX2_mid_21 hf
  · replace hf := ifn hc hf
    refine lv_iload_n hx hb dX2_mid_10 rfl (lv_at hl 2 rfl) ?_
    refine lv_iconst (v := 0) hx hb dX2_mid_11 (by decide) ?_
    refine lv_bipush (v := 12) hx hb dX2_mid_12 (by decide) ?_
    obtain ⟨r14, h14, hf⟩ := bR_some hf
    refine g_calliS X hl.1 hZ hA hW (c_X2_in l D cy ad h14) cs_X2_in ql_X2_82 rfl (by decide) rfl (Nat.le_of_ble_eq_true rfl) dX2_mid_14 (fun H locs hW => ?_)
    refine lv_if_ne (tgt := 22) hx hb dX2_mid_17 (by decide) (fun hc => ?_) (fun hc => ?_)
    · replace hf := ifn hc hf
      refine lv_aload_n hx hb dX2_mid_22 rfl (lv_at hl 0 rfl) ?_
      refine gf_X2_79 X hW dX2_mid_23 ?_
      refine lv_if_ne (tgt := 34) hx hb dX2_mid_26 (by decide) (fun hc => ?_) (fun hc => ?_)
      · replace hf := ifn hc hf
        refine lv_aload_n hx hb dX2_mid_34 rfl (lv_at hl 0 rfl) ?_
        refine lv_iconst (v := (-1)) hx hb dX2_mid_35 (by decide) ?_
        refine lv_iload_n hx hb dX2_mid_36 rfl (lv_at hl 1 rfl) ?_
        refine lv_iload_n hx hb dX2_mid_37 rfl (lv_at hl 2 rfl) ?_
        obtain ⟨r38, M38, h38, hf⟩ := bI_some hf
        refine g_calliV X hl.1 hZ hA hW (c_X2_failing l D cy ad h38) cw_X2_failing ql_X2_210 iO_X2 rfl (by decide) rfl (Nat.le_of_ble_eq_true rfl) dX2_mid_38 (fun H locs hW => ?_)
        exact g_iret X hr hlk hQ hW dX2_mid_41 hf
      · replace hf := ifp hc hf
        refine lv_bipush (v := (-4)) hx hb dX2_mid_29 (by decide) ?_
        refine lv_goto (tgt := 41) hx hb dX2_mid_31 (by decide) ?_
        exact g_iret X hr hlk hQ hW dX2_mid_41 hf
    · replace hf := ifp hc hf
      refine lv_iconst (v := (-1)) hx hb dX2_mid_20 (by decide) ?_
      exact g_iret X hr hlk hQ hW dX2_mid_21 hf

def f_X2_lot (v1 : Int32) (M : Mem) : Option Mem :=
  (grd (nz (M.1 0 4)) (bR (f_X2_notes M) (fun M11 => (if (irm v1 8) = 0 then (grd (nz (M11.1 0 4)) (bR (f_X2_swapped 8 15 (irm (v1 / 8) (M.1 0 4)) (irm ((irm (v1 / 8) (M.1 0 4)) + 1) (M11.1 0 4)) M11) (fun M34 => (some M34)))) else (if 4 ≤ (irm v1 8) then (grd (inb 0 15) (if 99 ≤ (M11.1 8 (ix 0)) then (some M11) else (bR (f_X2_tickOn 8 15 M11) (fun M91 => (some M91))))) else (grd (inb (1 + (irm (v1 / 8) (M.1 0 4))) 15) (grd (inb (irm (v1 / 8) (M.1 0 4)) 7) (grd (nz (M11.1 6 (ix (irm (v1 / 8) (M.1 0 4))))) (grd (inb (1 + (irm (v1 / 8) (M.1 0 4))) 15) (lt (sI M11 8 (ix (1 + (irm (v1 / 8) (M.1 0 4)))) ((M11.1 8 (ix (1 + (irm (v1 / 8) (M.1 0 4))))) ^^^ (shl 1 (irm (v1 / 64) (M11.1 6 (ix (irm (v1 / 8) (M.1 0 4)))))))) (fun M71 => (some M71))))))))))))
set_option maxHeartbeats 4000000 in
set_option maxRecDepth 100000 in
theorem c_X2_lot (l : Launch) (D : va_G) (cy : Nat → ClassId) (ad : Nat → Nat)   {v1 : Int32} {M M' : Mem} (hf : f_X2_lot v1 M = some M') : MetX l 20 (CM ad cy) D cy ad yX2_lot cX2_lot 3 none 3 [.ref (ad 0), .int v1] M (fun A => QV M' 20 (CM ad cy) D cy ad A) := by
  refine MetX.of (own := RX2) (by decide) rfl (Nat.le_of_ble_eq_true rfl) ?_
  intro p e s m below meth c A Q ls X hr hlk hZ hA hQ hW hl
  have hl : lv_has ls 3 [(0, .ref (ad 0)), (1, .int v1)] := hl
  have hx := X.1
  have hb := X.2.1
  obtain ⟨H, hH⟩ : ∃ H, H = s.heap := ⟨_, rfl⟩
  obtain ⟨locs, hlo⟩ : ∃ q : List Loc, q = [] := ⟨_, rfl⟩
  have hW : Wd D 20 ad (CM ad cy) A s.heap M H locs := by rw [hH, hlo]; exact hW
  suffices hh : W p l e (rmD 3) s m ([.ref (ad 0), .int v1] : List Value).toArray below meth c H locs 0 0 Q (F0 m 0 ls []) by rw [hH, hlo] at hh; exact hh
  unfold f_X2_lot at hf
  refine lv_iload_n hx hb dX2_lot_0 rfl (lv_at hl 1 rfl) ?_
  refine lv_bipush (v := 8) hx hb dX2_lot_1 (by decide) ?_
  refine lv_idiv hx hb dX2_lot_3 (by decide) ?_
  refine lv_aload_n hx hb dX2_lot_4 rfl (lv_at hl 0 rfl) ?_
  refine gf_X2_79 X hW dX2_lot_5 ?_
  obtain ⟨hz8, hf⟩ := grd_some hf
  refine r_irem hx hb dX2_lot_8 (nz_ne hz8) ?_
  refine lv_istore_n (lv' := [(2, .int (irm (v1 / 8) (M.1 0 4))), (0, .ref (ad 0)), (1, .int v1)]) hx hb dX2_lot_9 rfl hl (by decide) rfl (fun ls hl => ?_)
  refine lv_aload_n hx hb dX2_lot_10 rfl (lv_at hl 1 rfl) ?_
  obtain ⟨M11, h11, hf⟩ := bR_some hf
  refine g_callvV X hl.1 hZ hA hW (c_X2_notes l D cy ad h11) cw_X2_notes ql_X2_155 iO_X2 rfl (by decide) rfl (Nat.le_of_ble_eq_true rfl) dX2_lot_11 (fun H locs hW => ?_)
  refine lv_iload_n hx hb dX2_lot_14 rfl (lv_at hl 2 rfl) ?_
  refine lv_bipush (v := 8) hx hb dX2_lot_15 (by decide) ?_
  refine r_irem hx hb dX2_lot_17 (by decide) ?_
  refine lv_if_ne (tgt := 40) hx hb dX2_lot_18 (by decide) (fun hc => ?_) (fun hc => ?_)
  · replace hf := ifn hc hf
    refine lv_iload_n hx hb dX2_lot_40 rfl (lv_at hl 2 rfl) ?_
    refine lv_bipush (v := 8) hx hb dX2_lot_41 (by decide) ?_
    refine r_irem hx hb dX2_lot_43 (by decide) ?_
    refine lv_iconst (v := 4) hx hb dX2_lot_44 (by decide) ?_
    refine lv_icmp_ge (tgt := 75) hx hb dX2_lot_45 (by decide) (fun hc => ?_) (fun hc => ?_)
    · replace hf := ifp hc hf
      refine lv_aload_n hx hb dX2_lot_75 rfl (lv_at hl 1 rfl) ?_
      refine gf_X2_31 X hW dX2_lot_76 ?_
      refine lv_iconst (v := 0) hx hb dX2_lot_79 (by decide) ?_
      obtain ⟨hi80, hf⟩ := grd_some hf
      refine g_iald X hW iM_st hi80 dX2_lot_80 ?_
      refine lv_bipush (v := 99) hx hb dX2_lot_81 (by decide) ?_
      refine lv_icmp_ge (tgt := 94) hx hb dX2_lot_83 (by decide) (fun hc => ?_) (fun hc => ?_)
      · replace hf := ifp hc hf
        exact g_vret X hr hlk hQ hW dX2_lot_94 hf
      · replace hf := ifn hc hf
        refine lv_aload_n hx hb dX2_lot_86 rfl (lv_at hl 1 rfl) ?_
        refine lv_aload_n hx hb dX2_lot_87 rfl (lv_at hl 1 rfl) ?_
        refine gf_X2_31 X hW dX2_lot_88 ?_
        obtain ⟨M91, h91, hf⟩ := bR_some hf
        refine g_callvV X hl.1 hZ hA hW (c_X2_tickOn l D cy ad iM_st h91) cw_X2_tickOn ql_X2_158 iO_X2 rfl (by decide) rfl (Nat.le_of_ble_eq_true rfl) dX2_lot_91 (fun H locs hW => ?_)
        exact g_vret X hr hlk hQ hW dX2_lot_94 hf
    · replace hf := ifn hc hf
      refine lv_aload_n hx hb dX2_lot_48 rfl (lv_at hl 1 rfl) ?_
      refine gf_X2_31 X hW dX2_lot_49 ?_
      refine lv_iconst (v := 1) hx hb dX2_lot_52 (by decide) ?_
      refine lv_iload_n hx hb dX2_lot_53 rfl (lv_at hl 0 rfl) ?_
      refine lv_iadd hx hb dX2_lot_54 ?_
      refine lv_dup2_11 hx hb dX2_lot_55 rfl rfl ?_
      obtain ⟨hi56, hf⟩ := grd_some hf
      refine g_iald X hW iM_st hi56 dX2_lot_56 ?_
      refine lv_iconst (v := 1) hx hb dX2_lot_57 (by decide) ?_
      refine lv_iload_n hx hb dX2_lot_58 rfl (lv_at hl 2 rfl) ?_
      refine lv_bipush (v := 64) hx hb dX2_lot_59 (by decide) ?_
      refine lv_idiv hx hb dX2_lot_61 (by decide) ?_
      refine lv_aload_n hx hb dX2_lot_62 rfl (lv_at hl 1 rfl) ?_
      refine gf_X2_25 X hW dX2_lot_63 ?_
      refine lv_iload_n hx hb dX2_lot_66 rfl (lv_at hl 0 rfl) ?_
      obtain ⟨hi67, hf⟩ := grd_some hf
      refine g_iald X hW iM_size hi67 dX2_lot_67 ?_
      obtain ⟨hz68, hf⟩ := grd_some hf
      refine r_irem hx hb dX2_lot_68 (nz_ne hz68) ?_
      refine r_ishl hx hb dX2_lot_69 ?_
      refine lv_ixor hx hb dX2_lot_70 ?_
      obtain ⟨hi71, hf⟩ := grd_some hf
      refine g_iast X hW iM_st hi71 dX2_lot_71 (fun H locs hW => ?_)
      obtain ⟨M71, e71, hf⟩ := lt_some hf
      have hW : Wd D 20 ad (CM ad cy) A s.heap M71 H locs := by rw [e71]; exact hW
      refine lv_goto (tgt := 94) hx hb dX2_lot_72 (by decide) ?_
      exact g_vret X hr hlk hQ hW dX2_lot_94 hf
  · replace hf := ifp hc hf
    refine lv_aload_n hx hb dX2_lot_21 rfl (lv_at hl 1 rfl) ?_
    refine gf_X2_31 X hW dX2_lot_22 ?_
    refine lv_iload_n hx hb dX2_lot_25 rfl (lv_at hl 0 rfl) ?_
    refine lv_iload_n hx hb dX2_lot_26 rfl (lv_at hl 0 rfl) ?_
    refine lv_iconst (v := 1) hx hb dX2_lot_27 (by decide) ?_
    refine lv_iadd hx hb dX2_lot_28 ?_
    refine lv_aload_n hx hb dX2_lot_29 rfl (lv_at hl 1 rfl) ?_
    refine gf_X2_79 X hW dX2_lot_30 ?_
    obtain ⟨hz33, hf⟩ := grd_some hf
    refine r_irem hx hb dX2_lot_33 (nz_ne hz33) ?_
    obtain ⟨M34, h34, hf⟩ := bR_some hf
    refine g_callvS X hl.1 hZ hA hW (c_X2_swapped l D cy ad iM_st h34) cs_X2_swapped ql_X2_166 rfl (by decide) rfl (Nat.le_of_ble_eq_true rfl) dX2_lot_34 (fun H locs hW => ?_)
    refine lv_goto (tgt := 94) hx hb dX2_lot_37 (by decide) ?_
    exact g_vret X hr hlk hQ hW dX2_lot_94 hf
