/-! walks, by program out of the listing: 25.walk_X1d -/
def f_X1_tellChance_L91 (v4_L91 : Int64) (M_L91 : Mem) (k117 : Int64 → Option Mem) : Nat → Int64 → Int32 → Option Mem
  | 0, _, _ => none
  | n + 1, v6_L91, v8_L91 => (if (M_L91.1 15 6) ≤ v8_L91 then (k117 v6_L91) else (f_X1_tellChance_L91 v4_L91 M_L91 k117 n (v6_L91 * 12) (v8_L91 + 1)))
def f_X1_tellChance_L6 (v1_L6 : Int32) (v2_L6 : Int32) (v3_L6 : Int32) (k85 : Int64 → Mem → Option Mem) : Nat → Int64 → Int32 → Mem → Option Mem
  | 0, _, _, _ => none
  | n + 1, v4_L6, v6_L6, M_L6 => (if (shl 1 (M_L6.1 15 6)) ≤ v6_L6 then (k85 v4_L6 M_L6) else (bR (f_X1_weightOf v6_L6 v3_L6 M_L6) (fun r24 => (jn (fun (k79 : Int64 → Mem → Option Mem) => (if (lg_cmp r24 0) ≤ 0 then (k79 v4_L6 M_L6) else (bI (f_X1_leftWithout v6_L6 v2_L6 M_L6) (fun r40 M40 => (jn (fun (k56 : Int32 → Option Mem) => (if r40 < v1_L6 then (k56 0) else (k56 1))) (fun (t0_56j : Int32) => (jn (fun (k74 : Int32 → Option Mem) => (if v1_L6 = (-1) then (k74 r40) else (k74 t0_56j))) (fun (t0_74j : Int32) => (k79 (v4_L6 + (r24 * t0_74j.toInt64)) M40))))))))) (fun (v4_79j : Int64) (M_79j : Mem) => (f_X1_tellChance_L6 v1_L6 v2_L6 v3_L6 k85 n v4_79j (v6_L6 + 1) M_79j))))))
def f_X1_tellChance (v1 : Int32) (v2 : Int32) (v3 : Int32) (M : Mem) : Option Mem :=
  (jn (fun (k85 : Int64 → Mem → Option Mem) => (f_X1_tellChance_L6 v1 v2 v3 k85 FU 0 0 M)) (fun (v4_85x : Int64) (M_85x : Mem) => (jn (fun (k117 : Int64 → Option Mem) => (f_X1_tellChance_L91 v4_85x M_85x k117 FU 1 0)) (fun (v6_117x : Int64) => (bR (f_X1_tellLowest v4_85x v6_117x M_85x) (fun M122 => (some M122)))))))
set_option maxHeartbeats 4000000 in
set_option maxRecDepth 100000 in
theorem c_X1_tellChance (l : Launch) (D : va_G) (cy : Nat → ClassId) (ad : Nat → Nat)   {v1 : Int32} {v2 : Int32} {v3 : Int32} {M M' : Mem} (hf : f_X1_tellChance v1 v2 v3 M = some M') : MetX l 43 (CC ad cy) D cy ad yX1_tellChance cX1_tellChance 11 none 5 [.ref (ad 0), .int v1, .int v2, .int v3] M (fun A => QV M' 43 (CC ad cy) D cy ad A) := by
  refine MetX.of (own := RX1) (by decide) rfl (Nat.le_of_ble_eq_true rfl) ?_
  intro p e s m below meth c A Q ls X hr hlk hZ hA hQ hW hl
  have hl : lv_has ls 11 [(0, .ref (ad 0)), (1, .int v1), (2, .int v2), (3, .int v3)] := hl
  have hx := X.1
  have hb := X.2.1
  have hL91 : ∀ (v4_L91 : Int64) (M_L91 : Mem) (k117 : Int64 → Option Mem) (hJ117 : ∀ (v6_117x : Int64) (H : Heap) (locs : List Loc) (ls : Array Slot), k117 v6_117x = some M' → Wd D 43 ad (CC ad cy) A s.heap M_L91 H locs → lv_has ls 11 [(0, .ref (ad 0)), (4, .long v4_L91), (6, .long v6_117x)] → W p l e (rmD 5) s m ([.ref (ad 0), .int v1, .int v2, .int v3] : List Value).toArray below meth c H locs 0 0 Q (F0 m 117 ls [])) (n : Nat) (v6_L91 : Int64) (v8_L91 : Int32) (H : Heap) (locs : List Loc) (ls : Array Slot), f_X1_tellChance_L91 v4_L91 M_L91 k117 n v6_L91 v8_L91 = some M' → Wd D 43 ad (CC ad cy) A s.heap M_L91 H locs → lv_has ls 11 [(0, .ref (ad 0)), (4, .long v4_L91), (6, .long v6_L91), (8, .int v8_L91)] → W p l e (rmD 5) s m ([.ref (ad 0), .int v1, .int v2, .int v3] : List Value).toArray below meth c H locs 0 0 Q (F0 m 91 ls []) := by
    intro v4_L91 M_L91 k117 hJ117 n
    induction n with
    | zero =>
      intro v6_L91 v8_L91 H locs ls hf
      cases (show (none : Option Mem) = some M' from hf)
    | succ n ih =>
      intro v6_L91 v8_L91 H locs ls hf hW hl
      rw [f_X1_tellChance_L91] at hf
      refine lv_iload hx hb dX1_tellChance_91 (lv_at hl 3 rfl) ?_
      refine lv_aload_n hx hb dX1_tellChance_93 rfl (lv_at hl 0 rfl) ?_
      refine gf_X1_29 X hW dX1_tellChance_94 ?_
      refine gf_X1_108 isSt15 X hW dX1_tellChance_97 ?_
      refine lv_icmp_ge (tgt := 117) hx hb dX1_tellChance_100 (by decide) (fun hc => ?_) (fun hc => ?_)
      · replace hf := ifp hc hf
        exact hJ117 v6_L91 H locs ls hf hW (lv_sub hl [0, 1, 2] rfl)
      · replace hf := ifn hc hf
        refine lv_lload hx hb dX1_tellChance_103 (lv_at hl 2 rfl) ?_
        refine lv_ldc2 (v := 12) hx hb X.2.2.2.1 (X.2.2.2.2.1 _ qk_X1_262) dX1_tellChance_105 ?_
        refine lv_lmul hx hb dX1_tellChance_108 ?_
        refine lv_lstore (lv' := [(6, .long (v6_L91 * 12)), (0, .ref (ad 0)), (4, .long v4_L91), (8, .int v8_L91)]) hx hb dX1_tellChance_109 hl (by decide) rfl (fun ls hl => ?_)
        refine lv_iinc (v := (v8_L91 + 1)) (lv' := [(8, .int (v8_L91 + 1)), (6, .long (v6_L91 * 12)), (0, .ref (ad 0)), (4, .long v4_L91)]) hx hb dX1_tellChance_111 hl (k := 3) rfl rfl (by decide) rfl (fun ls hl => ?_)
        refine lv_goto (tgt := 91) hx hb dX1_tellChance_114 (by decide) ?_
        exact ih (v6_L91 * 12) (v8_L91 + 1) H locs ls hf hW (lv_sub hl [2, 3, 1, 0] rfl)
  have hL6 : ∀ (v1_L6 : Int32) (v2_L6 : Int32) (v3_L6 : Int32) (k85 : Int64 → Mem → Option Mem) (hJ85 : ∀ (v4_85x : Int64) (M_85x : Mem) (H : Heap) (locs : List Loc) (ls : Array Slot), k85 v4_85x M_85x = some M' → Wd D 43 ad (CC ad cy) A s.heap M_85x H locs → lv_has ls 11 [(0, .ref (ad 0)), (4, .long v4_85x)] → W p l e (rmD 5) s m ([.ref (ad 0), .int v1, .int v2, .int v3] : List Value).toArray below meth c H locs 0 0 Q (F0 m 85 ls [])) (n : Nat) (v4_L6 : Int64) (v6_L6 : Int32) (M_L6 : Mem) (H : Heap) (locs : List Loc) (ls : Array Slot), f_X1_tellChance_L6 v1_L6 v2_L6 v3_L6 k85 n v4_L6 v6_L6 M_L6 = some M' → Wd D 43 ad (CC ad cy) A s.heap M_L6 H locs → lv_has ls 11 [(0, .ref (ad 0)), (1, .int v1_L6), (2, .int v2_L6), (3, .int v3_L6), (4, .long v4_L6), (6, .int v6_L6)] → W p l e (rmD 5) s m ([.ref (ad 0), .int v1, .int v2, .int v3] : List Value).toArray below meth c H locs 0 0 Q (F0 m 6 ls []) := by
    intro v1_L6 v2_L6 v3_L6 k85 hJ85 n
    induction n with
    | zero =>
      intro v4_L6 v6_L6 M_L6 H locs ls hf
      cases (show (none : Option Mem) = some M' from hf)
    | succ n ih =>
      intro v4_L6 v6_L6 M_L6 H locs ls hf hW hl
      rw [f_X1_tellChance_L6] at hf
      refine lv_iload hx hb dX1_tellChance_6 (lv_at hl 5 rfl) ?_
      refine lv_iconst (v := 1) hx hb dX1_tellChance_8 (by decide) ?_
      refine lv_aload_n hx hb dX1_tellChance_9 rfl (lv_at hl 0 rfl) ?_
      refine gf_X1_29 X hW dX1_tellChance_10 ?_
      refine gf_X1_108 isSt15 X hW dX1_tellChance_13 ?_
      refine r_ishl hx hb dX1_tellChance_16 ?_
      refine lv_icmp_ge (tgt := 85) hx hb dX1_tellChance_17 (by decide) (fun hc => ?_) (fun hc => ?_)
      · replace hf := ifp hc hf
        exact hJ85 v4_L6 M_L6 H locs ls hf hW (lv_sub hl [0, 4] rfl)
      · replace hf := ifn hc hf
        refine lv_aload_n hx hb dX1_tellChance_20 rfl (lv_at hl 0 rfl) ?_
        refine lv_iload hx hb dX1_tellChance_21 (lv_at hl 5 rfl) ?_
        refine lv_iload_n hx hb dX1_tellChance_23 rfl (lv_at hl 3 rfl) ?_
        obtain ⟨r24, h24, hf⟩ := bR_some hf
        refine g_calllV X hl.1 hZ hA hW (c_X1_weightOf l D cy ad h24) cw_X1_weightOf ql_X1_255 iO_X1 rfl (by decide) rfl (Nat.le_of_ble_eq_true rfl) dX1_tellChance_24 (fun H locs hW => ?_)
        refine lv_lstore (lv' := [(7, .long r24), (0, .ref (ad 0)), (1, .int v1_L6), (2, .int v2_L6), (3, .int v3_L6), (4, .long v4_L6), (6, .int v6_L6)]) hx hb dX1_tellChance_27 hl (by decide) rfl (fun ls hl => ?_)
        refine lv_lload hx hb dX1_tellChance_29 (lv_at hl 0 rfl) ?_
        refine lv_lconst (v := 0) hx hb dX1_tellChance_31 (by decide) ?_
        refine W.lcmp hx hb dX1_tellChance_32 ?_
        obtain ⟨k79, hk79, hf⟩ := jn_some2 hf
        have hJ79 : ∀ (v4_79j : Int64) (M_79j : Mem) (H : Heap) (locs : List Loc) (ls : Array Slot), k79 v4_79j M_79j = some M' → Wd D 43 ad (CC ad cy) A s.heap M_79j H locs → lv_has ls 11 [(0, .ref (ad 0)), (1, .int v1_L6), (2, .int v2_L6), (3, .int v3_L6), (4, .long v4_79j), (6, .int v6_L6)] → W p l e (rmD 5) s m ([.ref (ad 0), .int v1, .int v2, .int v3] : List Value).toArray below meth c H locs 0 0 Q (F0 m 79 ls []) := by
          intro v4_79j M_79j H locs ls hf hW hl
          rw [hk79] at hf
          refine lv_iinc (v := (v6_L6 + 1)) (lv' := [(6, .int (v6_L6 + 1)), (0, .ref (ad 0)), (1, .int v1_L6), (2, .int v2_L6), (3, .int v3_L6), (4, .long v4_79j)]) hx hb dX1_tellChance_79 hl (k := 5) rfl rfl (by decide) rfl (fun ls hl => ?_)
          refine lv_goto (tgt := 6) hx hb dX1_tellChance_82 (by decide) ?_
          exact ih v4_79j (v6_L6 + 1) M_79j H locs ls hf hW (lv_sub hl [1, 2, 3, 4, 5, 0] rfl)
        refine lv_if_le (tgt := 79) hx hb dX1_tellChance_33 (by decide) (fun hc => ?_) (fun hc => ?_)
        · replace hf := ifp hc hf
          exact hJ79 v4_L6 M_L6 H locs ls hf hW (lv_sub hl [1, 2, 3, 4, 5, 6] rfl)
        · replace hf := ifn hc hf
          refine lv_aload_n hx hb dX1_tellChance_36 rfl (lv_at hl 1 rfl) ?_
          refine lv_iload hx hb dX1_tellChance_37 (lv_at hl 6 rfl) ?_
          refine lv_iload_n hx hb dX1_tellChance_39 rfl (lv_at hl 3 rfl) ?_
          obtain ⟨r40, M40, h40, hf⟩ := bI_some hf
          refine g_calliV X hl.1 hZ hA hW (c_X1_leftWithout l D cy ad h40) cw_X1_leftWithout ql_X1_259 iO_X1 rfl (by decide) rfl (Nat.le_of_ble_eq_true rfl) dX1_tellChance_40 (fun H locs hW => ?_)
          refine lv_istore (lv' := [(9, .int r40), (7, .long r24), (0, .ref (ad 0)), (1, .int v1_L6), (2, .int v2_L6), (3, .int v3_L6), (4, .long v4_L6), (6, .int v6_L6)]) hx hb dX1_tellChance_43 hl (by decide) rfl (fun ls hl => ?_)
          refine lv_iload hx hb dX1_tellChance_45 (lv_at hl 0 rfl) ?_
          refine lv_iload_n hx hb dX1_tellChance_47 rfl (lv_at hl 3 rfl) ?_
          obtain ⟨k56, hk56, hf⟩ := jn_some1 hf
          have hJ56 : ∀ (t0_56j : Int32) (H : Heap) (locs : List Loc) (ls : Array Slot), k56 t0_56j = some M' → Wd D 43 ad (CC ad cy) A s.heap M40 H locs → lv_has ls 11 [(0, .ref (ad 0)), (1, .int v1_L6), (2, .int v2_L6), (3, .int v3_L6), (4, .long v4_L6), (6, .int v6_L6), (7, .long r24), (9, .int r40)] → W p l e (rmD 5) s m ([.ref (ad 0), .int v1, .int v2, .int v3] : List Value).toArray below meth c H locs 0 0 Q (F0 m 56 ls [.int t0_56j]) := by
            intro t0_56j H locs ls hf hW hl
            rw [hk56] at hf
            refine lv_istore (lv' := [(10, .int t0_56j), (0, .ref (ad 0)), (1, .int v1_L6), (2, .int v2_L6), (3, .int v3_L6), (4, .long v4_L6), (6, .int v6_L6), (7, .long r24), (9, .int r40)]) hx hb dX1_tellChance_56 hl (by decide) rfl (fun ls hl => ?_)
            refine lv_lload hx hb dX1_tellChance_58 (lv_at hl 5 rfl) ?_
            refine lv_lload hx hb dX1_tellChance_60 (lv_at hl 7 rfl) ?_
            refine lv_iload_n hx hb dX1_tellChance_62 rfl (lv_at hl 2 rfl) ?_
            refine lv_iconst (v := (-1)) hx hb dX1_tellChance_63 (by decide) ?_
            obtain ⟨k74, hk74, hf⟩ := jn_some1 hf
            have hJ74 : ∀ (t0_74j : Int32) (H : Heap) (locs : List Loc) (ls : Array Slot), k74 t0_74j = some M' → Wd D 43 ad (CC ad cy) A s.heap M40 H locs → lv_has ls 11 [(0, .ref (ad 0)), (1, .int v1_L6), (2, .int v2_L6), (3, .int v3_L6), (6, .int v6_L6)] → W p l e (rmD 5) s m ([.ref (ad 0), .int v1, .int v2, .int v3] : List Value).toArray below meth c H locs 0 0 Q (F0 m 74 ls [.int t0_74j, .long r24, .long v4_L6]) := by
              intro t0_74j H locs ls hf hW hl
              rw [hk74] at hf
              refine lv_i2l (v := t0_74j.toInt64) hx hb dX1_tellChance_74 rfl ?_
              refine lv_lmul hx hb dX1_tellChance_75 ?_
              refine lv_ladd hx hb dX1_tellChance_76 ?_
              refine lv_lstore (lv' := [(4, .long (v4_L6 + (r24 * t0_74j.toInt64))), (0, .ref (ad 0)), (1, .int v1_L6), (2, .int v2_L6), (3, .int v3_L6), (6, .int v6_L6)]) hx hb dX1_tellChance_77 hl (by decide) rfl (fun ls hl => ?_)
              exact hJ79 (v4_L6 + (r24 * t0_74j.toInt64)) M40 H locs ls hf hW (lv_sub hl [1, 2, 3, 4, 0, 5] rfl)
            refine lv_icmp_ne (tgt := 72) hx hb dX1_tellChance_64 (by decide) (fun hc => ?_) (fun hc => ?_)
            · replace hf := ifn hc hf
              refine lv_iload hx hb dX1_tellChance_72 (lv_at hl 0 rfl) ?_
              exact hJ74 t0_56j H locs ls hf hW (lv_sub hl [1, 2, 3, 4, 6] rfl)
            · replace hf := ifp hc hf
              refine lv_iload hx hb dX1_tellChance_67 (lv_at hl 8 rfl) ?_
              refine lv_goto (tgt := 74) hx hb dX1_tellChance_69 (by decide) ?_
              exact hJ74 r40 H locs ls hf hW (lv_sub hl [1, 2, 3, 4, 6] rfl)
          refine lv_icmp_lt (tgt := 55) hx hb dX1_tellChance_48 (by decide) (fun hc => ?_) (fun hc => ?_)
          · replace hf := ifp hc hf
            refine lv_iconst (v := 0) hx hb dX1_tellChance_55 (by decide) ?_
            exact hJ56 0 H locs ls hf hW (lv_sub hl [2, 3, 4, 5, 6, 7, 1, 0] rfl)
          · replace hf := ifn hc hf
            refine lv_iconst (v := 1) hx hb dX1_tellChance_51 (by decide) ?_
            refine lv_goto (tgt := 56) hx hb dX1_tellChance_52 (by decide) ?_
            exact hJ56 1 H locs ls hf hW (lv_sub hl [2, 3, 4, 5, 6, 7, 1, 0] rfl)
  obtain ⟨H, hH⟩ : ∃ H, H = s.heap := ⟨_, rfl⟩
  obtain ⟨locs, hlo⟩ : ∃ q : List Loc, q = [] := ⟨_, rfl⟩
  have hW : Wd D 43 ad (CC ad cy) A s.heap M H locs := by rw [hH, hlo]; exact hW
  suffices hh : W p l e (rmD 5) s m ([.ref (ad 0), .int v1, .int v2, .int v3] : List Value).toArray below meth c H locs 0 0 Q (F0 m 0 ls []) by rw [hH, hlo] at hh; exact hh
  unfold f_X1_tellChance at hf
  refine lv_lconst (v := 0) hx hb dX1_tellChance_0 (by decide) ?_
  refine lv_lstore (lv' := [(4, .long 0), (0, .ref (ad 0)), (1, .int v1), (2, .int v2), (3, .int v3)]) hx hb dX1_tellChance_1 hl (by decide) rfl (fun ls hl => ?_)
  refine lv_iconst (v := 0) hx hb dX1_tellChance_3 (by decide) ?_
  refine lv_istore (lv' := [(6, .int 0), (4, .long 0), (0, .ref (ad 0)), (1, .int v1), (2, .int v2), (3, .int v3)]) hx hb dX1_tellChance_4 hl (by decide) rfl (fun ls hl => ?_)
  obtain ⟨k85, hk85, hf⟩ := jn_some2 hf
  have hJ85 : ∀ (v4_85x : Int64) (M_85x : Mem) (H : Heap) (locs : List Loc) (ls : Array Slot), k85 v4_85x M_85x = some M' → Wd D 43 ad (CC ad cy) A s.heap M_85x H locs → lv_has ls 11 [(0, .ref (ad 0)), (4, .long v4_85x)] → W p l e (rmD 5) s m ([.ref (ad 0), .int v1, .int v2, .int v3] : List Value).toArray below meth c H locs 0 0 Q (F0 m 85 ls []) := by
    intro v4_85x M_85x H locs ls hf hW hl
    rw [hk85] at hf
    refine lv_lconst (v := 1) hx hb dX1_tellChance_85 (by decide) ?_
    refine lv_lstore (lv' := [(6, .long 1), (0, .ref (ad 0)), (4, .long v4_85x)]) hx hb dX1_tellChance_86 hl (by decide) rfl (fun ls hl => ?_)
    refine lv_iconst (v := 0) hx hb dX1_tellChance_88 (by decide) ?_
    refine lv_istore (lv' := [(8, .int 0), (6, .long 1), (0, .ref (ad 0)), (4, .long v4_85x)]) hx hb dX1_tellChance_89 hl (by decide) rfl (fun ls hl => ?_)
    obtain ⟨k117, hk117, hf⟩ := jn_some1 hf
    have hJ117 : ∀ (v6_117x : Int64) (H : Heap) (locs : List Loc) (ls : Array Slot), k117 v6_117x = some M' → Wd D 43 ad (CC ad cy) A s.heap M_85x H locs → lv_has ls 11 [(0, .ref (ad 0)), (4, .long v4_85x), (6, .long v6_117x)] → W p l e (rmD 5) s m ([.ref (ad 0), .int v1, .int v2, .int v3] : List Value).toArray below meth c H locs 0 0 Q (F0 m 117 ls []) := by
      intro v6_117x H locs ls hf hW hl
      rw [hk117] at hf
      refine lv_aload_n hx hb dX1_tellChance_117 rfl (lv_at hl 0 rfl) ?_
      refine lv_lload hx hb dX1_tellChance_118 (lv_at hl 1 rfl) ?_
      refine lv_lload hx hb dX1_tellChance_120 (lv_at hl 2 rfl) ?_
      obtain ⟨M122, h122, hf⟩ := bR_some hf
      refine g_callvV X hl.1 hZ hA hW (c_X1_tellLowest l D cy ad h122) cw_X1_tellLowest ql_X1_264 iO_X1 rfl (by decide) rfl (Nat.le_of_ble_eq_true rfl) dX1_tellChance_122 (fun H locs hW => ?_)
      exact g_vret X hr hlk hQ hW dX1_tellChance_125 hf
    exact hL91 v4_85x M_85x k117 hJ117 FU 1 0 H locs ls hf hW (lv_sub hl [2, 3, 1, 0] rfl)
  exact hL6 v1 v2 v3 k85 hJ85 FU 0 0 M H locs ls hf hW (lv_sub hl [2, 3, 4, 5, 1, 0] rfl)

def f_X1_odds (v1 : Int32) (v2 : Int32) (v3 : Int32) (M : Mem) : Option (Int32 × Mem) :=
  (bR (f_X1_isWithin v1 0 63 M) (fun r4 => (if r4 = 0 then (some ((-1), M)) else (bR (f_X1_isWithin v2 0 20 M) (fun r14 => (if r14 = 0 then (some ((-1), M)) else (bR (f_X1_isWithin v3 0 12 M) (fun r24 => (if r24 = 0 then (some ((-1), M)) else (if (M.1 15 6) = 0 then (some ((-4), M)) else (bR (f_X1_tellChance v1 v2 v3 M) (fun M49 => (some (1, M49))))))))))))))
set_option maxHeartbeats 4000000 in
set_option maxRecDepth 100000 in
theorem c_X1_odds (l : Launch) (D : va_G) (cy : Nat → ClassId) (ad : Nat → Nat)   {v1 : Int32} {v2 : Int32} {v3 : Int32} {M M' : Mem} {r : Int32} (hf : f_X1_odds v1 v2 v3 M = some (r, M')) : MetX l 43 (CC ad cy) D cy ad yX1_odds cX1_odds 4 (some .int) 6 [.ref (ad 0), .int v1, .int v2, .int v3] M (fun A => QI r M' 43 (CC ad cy) D cy ad A) := by
  refine MetX.of (own := RX1) (by decide) rfl (Nat.le_of_ble_eq_true rfl) ?_
  intro p e s m below meth c A Q ls X hr hlk hZ hA hQ hW hl
  have hl : lv_has ls 4 [(0, .ref (ad 0)), (1, .int v1), (2, .int v2), (3, .int v3)] := hl
  have hx := X.1
  have hb := X.2.1
  obtain ⟨H, hH⟩ : ∃ H, H = s.heap := ⟨_, rfl⟩
  obtain ⟨locs, hlo⟩ : ∃ q : List Loc, q = [] := ⟨_, rfl⟩
  have hW : Wd D 43 ad (CC ad cy) A s.heap M H locs := by rw [hH, hlo]; exact hW
  suffices hh : W p l e (rmD 6) s m ([.ref (ad 0), .int v1, .int v2, .int v3] : List Value).toArray below meth c H locs 0 0 Q (F0 m 0 ls []) by rw [hH, hlo] at hh; exact hh
  unfold f_X1_odds at hf
  refine lv_iload_n hx hb dX1_odds_0 rfl (lv_at hl 1 rfl) ?_
  refine lv_iconst (v := 0) hx hb dX1_odds_1 (by decide) ?_
  refine lv_bipush (v := 63) hx hb dX1_odds_2 (by decide) ?_
  obtain ⟨r4, h4, hf⟩ := bR_some hf
  refine g_calliS X hl.1 hZ hA hW (c_X1_isWithin l D cy ad h4) cs_X1_isWithin ql_X1_114 rfl (by decide) rfl (Nat.le_of_ble_eq_true rfl) dX1_odds_4 (fun H locs hW => ?_)
  refine lv_if_eq (tgt := 30) hx hb dX1_odds_7 (by decide) (fun hc => ?_) (fun hc => ?_)
  · replace hf := ifp hc hf
    refine lv_iconst (v := (-1)) hx hb dX1_odds_30 (by decide) ?_
    exact g_iret X hr hlk hQ hW dX1_odds_31 hf
  · replace hf := ifn hc hf
    refine lv_iload_n hx hb dX1_odds_10 rfl (lv_at hl 2 rfl) ?_
    refine lv_iconst (v := 0) hx hb dX1_odds_11 (by decide) ?_
    refine lv_bipush (v := 20) hx hb dX1_odds_12 (by decide) ?_
    obtain ⟨r14, h14, hf⟩ := bR_some hf
    refine g_calliS X hl.1 hZ hA hW (c_X1_isWithin l D cy ad h14) cs_X1_isWithin ql_X1_114 rfl (by decide) rfl (Nat.le_of_ble_eq_true rfl) dX1_odds_14 (fun H locs hW => ?_)
    refine lv_if_eq (tgt := 30) hx hb dX1_odds_17 (by decide) (fun hc => ?_) (fun hc => ?_)
    · replace hf := ifp hc hf
      refine lv_iconst (v := (-1)) hx hb dX1_odds_30 (by decide) ?_
      exact g_iret X hr hlk hQ hW dX1_odds_31 hf
    · replace hf := ifn hc hf
      refine lv_iload_n hx hb dX1_odds_20 rfl (lv_at hl 3 rfl) ?_
      refine lv_iconst (v := 0) hx hb dX1_odds_21 (by decide) ?_
      refine lv_bipush (v := 12) hx hb dX1_odds_22 (by decide) ?_
      obtain ⟨r24, h24, hf⟩ := bR_some hf
      refine g_calliS X hl.1 hZ hA hW (c_X1_isWithin l D cy ad h24) cs_X1_isWithin ql_X1_114 rfl (by decide) rfl (Nat.le_of_ble_eq_true rfl) dX1_odds_24 (fun H locs hW => ?_)
      refine lv_if_ne (tgt := 32) hx hb dX1_odds_27 (by decide) (fun hc => ?_) (fun hc => ?_)
      · replace hf := ifn hc hf
        refine lv_aload_n hx hb dX1_odds_32 rfl (lv_at hl 0 rfl) ?_
        refine gf_X1_29 X hW dX1_odds_33 ?_
        refine gf_X1_108 isSt15 X hW dX1_odds_36 ?_
        refine lv_if_ne (tgt := 45) hx hb dX1_odds_39 (by decide) (fun hc => ?_) (fun hc => ?_)
        · replace hf := ifn hc hf
          refine lv_aload_n hx hb dX1_odds_45 rfl (lv_at hl 0 rfl) ?_
          refine lv_iload_n hx hb dX1_odds_46 rfl (lv_at hl 1 rfl) ?_
          refine lv_iload_n hx hb dX1_odds_47 rfl (lv_at hl 2 rfl) ?_
          refine lv_iload_n hx hb dX1_odds_48 rfl (lv_at hl 3 rfl) ?_
          obtain ⟨M49, h49, hf⟩ := bR_some hf
          refine g_callvV X hl.1 hZ hA hW (c_X1_tellChance l D cy ad h49) cw_X1_tellChance ql_X1_214 iO_X1 rfl (by decide) rfl (Nat.le_of_ble_eq_true rfl) dX1_odds_49 (fun H locs hW => ?_)
          refine lv_iconst (v := 1) hx hb dX1_odds_52 (by decide) ?_
          exact g_iret X hr hlk hQ hW dX1_odds_53 hf
        · replace hf := ifp hc hf
          refine lv_bipush (v := (-4)) hx hb dX1_odds_42 (by decide) ?_
          exact g_iret X hr hlk hQ hW dX1_odds_44 hf
      · replace hf := ifp hc hf
        refine lv_iconst (v := (-1)) hx hb dX1_odds_30 (by decide) ?_
        exact g_iret X hr hlk hQ hW dX1_odds_31 hf

def f_X1_mid (v1 : Int32) (v2 : Int32) (M : Mem) : Option (Int32 × Mem) :=
  (bR (f_X1_isWithin v1 0 20 M) (fun r4 => (if r4 = 0 then (some ((-1), M)) else (bR (f_X1_isWithin v2 0 12 M) (fun r14 => (if r14 = 0 then (some ((-1), M)) else (if (M.1 15 6) = 0 then (some ((-4), M)) else (bR (f_X1_tellChance (-1) v1 v2 M) (fun M39 => (some (1, M39)))))))))))
set_option maxHeartbeats 4000000 in
set_option maxRecDepth 100000 in
theorem c_X1_mid (l : Launch) (D : va_G) (cy : Nat → ClassId) (ad : Nat → Nat)   {v1 : Int32} {v2 : Int32} {M M' : Mem} {r : Int32} (hf : f_X1_mid v1 v2 M = some (r, M')) : MetX l 43 (CC ad cy) D cy ad yX1_mid cX1_mid 3 (some .int) 6 [.ref (ad 0), .int v1, .int v2] M (fun A => QI r M' 43 (CC ad cy) D cy ad A) := by
  refine MetX.of (own := RX1) (by decide) rfl (Nat.le_of_ble_eq_true rfl) ?_
  intro p e s m below meth c A Q ls X hr hlk hZ hA hQ hW hl
  have hl : lv_has ls 3 [(0, .ref (ad 0)), (1, .int v1), (2, .int v2)] := hl
  have hx := X.1
  have hb := X.2.1
  obtain ⟨H, hH⟩ : ∃ H, H = s.heap := ⟨_, rfl⟩
  obtain ⟨locs, hlo⟩ : ∃ q : List Loc, q = [] := ⟨_, rfl⟩
  have hW : Wd D 43 ad (CC ad cy) A s.heap M H locs := by rw [hH, hlo]; exact hW
  suffices hh : W p l e (rmD 6) s m ([.ref (ad 0), .int v1, .int v2] : List Value).toArray below meth c H locs 0 0 Q (F0 m 0 ls []) by rw [hH, hlo] at hh; exact hh
  unfold f_X1_mid at hf
  refine lv_iload_n hx hb dX1_mid_0 rfl (lv_at hl 1 rfl) ?_
  refine lv_iconst (v := 0) hx hb dX1_mid_1 (by decide) ?_
  refine lv_bipush (v := 20) hx hb dX1_mid_2 (by decide) ?_
  obtain ⟨r4, h4, hf⟩ := bR_some hf
  refine g_calliS X hl.1 hZ hA hW (c_X1_isWithin l D cy ad h4) cs_X1_isWithin ql_X1_114 rfl (by decide) rfl (Nat.le_of_ble_eq_true rfl) dX1_mid_4 (fun H locs hW => ?_)
  refine lv_if_eq (tgt := 20) hx hb dX1_mid_7 (by decide) (fun hc => ?_) (fun hc => ?_)
  · replace hf := ifp hc hf
    refine lv_iconst (v := (-1)) hx hb dX1_mid_20 (by decide) ?_
    exact g_iret X hr hlk hQ hW dX1_mid_21 hf
  · replace hf := ifn hc hf
    refine lv_iload_n hx hb dX1_mid_10 rfl (lv_at hl 2 rfl) ?_
    refine lv_iconst (v := 0) hx hb dX1_mid_11 (by decide) ?_
    refine lv_bipush (v := 12) hx hb dX1_mid_12 (by decide) ?_
    obtain ⟨r14, h14, hf⟩ := bR_some hf
    refine g_calliS X hl.1 hZ hA hW (c_X1_isWithin l D cy ad h14) cs_X1_isWithin ql_X1_114 rfl (by decide) rfl (Nat.le_of_ble_eq_true rfl) dX1_mid_14 (fun H locs hW => ?_)
    refine lv_if_ne (tgt := 22) hx hb dX1_mid_17 (by decide) (fun hc => ?_) (fun hc => ?_)
    · replace hf := ifn hc hf
      refine lv_aload_n hx hb dX1_mid_22 rfl (lv_at hl 0 rfl) ?_
      refine gf_X1_29 X hW dX1_mid_23 ?_
      refine gf_X1_108 isSt15 X hW dX1_mid_26 ?_
      refine lv_if_ne (tgt := 35) hx hb dX1_mid_29 (by decide) (fun hc => ?_) (fun hc => ?_)
      · replace hf := ifn hc hf
        refine lv_aload_n hx hb dX1_mid_35 rfl (lv_at hl 0 rfl) ?_
        refine lv_iconst (v := (-1)) hx hb dX1_mid_36 (by decide) ?_
        refine lv_iload_n hx hb dX1_mid_37 rfl (lv_at hl 1 rfl) ?_
        refine lv_iload_n hx hb dX1_mid_38 rfl (lv_at hl 2 rfl) ?_
        obtain ⟨M39, h39, hf⟩ := bR_some hf
        refine g_callvV X hl.1 hZ hA hW (c_X1_tellChance l D cy ad h39) cw_X1_tellChance ql_X1_214 iO_X1 rfl (by decide) rfl (Nat.le_of_ble_eq_true rfl) dX1_mid_39 (fun H locs hW => ?_)
        refine lv_iconst (v := 1) hx hb dX1_mid_42 (by decide) ?_
        exact g_iret X hr hlk hQ hW dX1_mid_43 hf
      · replace hf := ifp hc hf
        refine lv_bipush (v := (-4)) hx hb dX1_mid_32 (by decide) ?_
        exact g_iret X hr hlk hQ hW dX1_mid_34 hf
    · replace hf := ifp hc hf
      refine lv_iconst (v := (-1)) hx hb dX1_mid_20 (by decide) ?_
      exact g_iret X hr hlk hQ hW dX1_mid_21 hf

def f_X1_doByLot (v1 : Int32) (M : Mem) : Option Mem :=
  (if 0 < (M.1 15 6) then (grd (nz (M.1 15 6)) (grd (inb (irm (v1 / 8) (M.1 15 6)) 7) (if (irm v1 8) = 0 then (grd (nz (M.1 15 6)) (bR (f_X1_addDeed 2 (irm (v1 / 8) (M.1 15 6)) (irm ((irm (v1 / 8) (M.1 15 6)) + 1) (M.1 15 6)) M) (fun M82 => (some M82)))) else (if (irm v1 8) = 1 then (jn (fun (k105 : Int32 → Option Mem) => (if (M.1 (15 + 2) (ix (irm (v1 / 8) (M.1 15 6)))) ≤ 0 then (k105 0) else (grd (nz (M.1 (15 + 2) (ix (irm (v1 / 8) (M.1 15 6))))) (k105 (irm (v1 / 64) (M.1 (15 + 2) (ix (irm (v1 / 8) (M.1 15 6))))))))) (fun (t0_105j : Int32) => (bR (f_X1_addDeed 1 (irm (v1 / 8) (M.1 15 6)) t0_105j M) (fun M105 => (some M105))))) else (if (irm v1 8) = 2 then (jn (fun (k105 : Int32 → Option Mem) => (if (M.1 (15 + 2) (ix (irm (v1 / 8) (M.1 15 6)))) ≤ 0 then (k105 0) else (grd (nz (M.1 (15 + 2) (ix (irm (v1 / 8) (M.1 15 6))))) (k105 (irm (v1 / 64) (M.1 (15 + 2) (ix (irm (v1 / 8) (M.1 15 6))))))))) (fun (t0_105j : Int32) => (bR (f_X1_addDeed 1 (irm (v1 / 8) (M.1 15 6)) t0_105j M) (fun M105 => (some M105))))) else (if (irm v1 8) = 3 then (jn (fun (k105 : Int32 → Option Mem) => (if (M.1 (15 + 2) (ix (irm (v1 / 8) (M.1 15 6)))) ≤ 0 then (k105 0) else (grd (nz (M.1 (15 + 2) (ix (irm (v1 / 8) (M.1 15 6))))) (k105 (irm (v1 / 64) (M.1 (15 + 2) (ix (irm (v1 / 8) (M.1 15 6))))))))) (fun (t0_105j : Int32) => (bR (f_X1_addDeed 1 (irm (v1 / 8) (M.1 15 6)) t0_105j M) (fun M105 => (some M105))))) else (jn (fun (k129 : Int32 → Option Mem) => (if 99 ≤ (M.1 15 7) then (k129 4) else (k129 0))) (fun (t0_129j : Int32) => (bR (f_X1_addDeed t0_129j 0 0 M) (fun M131 => (some M131))))))))))) else (some M))
set_option maxHeartbeats 4000000 in
set_option maxRecDepth 100000 in
theorem c_X1_doByLot (l : Launch) (D : va_G) (cy : Nat → ClassId) (ad : Nat → Nat)   {v1 : Int32} {M M' : Mem} (hf : f_X1_doByLot v1 M = some M') : MetX l 43 (CC ad cy) D cy ad yX1_doByLot cX1_doByLot 4 none 5 [.ref (ad 0), .int v1] M (fun A => QV M' 43 (CC ad cy) D cy ad A) := by
  refine MetX.of (own := RX1) (by decide) rfl (Nat.le_of_ble_eq_true rfl) ?_
  intro p e s m below meth c A Q ls X hr hlk hZ hA hQ hW hl
  have hl : lv_has ls 4 [(0, .ref (ad 0)), (1, .int v1)] := hl
  have hx := X.1
  have hb := X.2.1
  obtain ⟨H, hH⟩ : ∃ H, H = s.heap := ⟨_, rfl⟩
  obtain ⟨locs, hlo⟩ : ∃ q : List Loc, q = [] := ⟨_, rfl⟩
  have hW : Wd D 43 ad (CC ad cy) A s.heap M H locs := by rw [hH, hlo]; exact hW
  suffices hh : W p l e (rmD 5) s m ([.ref (ad 0), .int v1] : List Value).toArray below meth c H locs 0 0 Q (F0 m 0 ls []) by rw [hH, hlo] at hh; exact hh
  unfold f_X1_doByLot at hf
  refine lv_aload_n hx hb dX1_doByLot_0 rfl (lv_at hl 0 rfl) ?_
  refine gf_X1_29 X hW dX1_doByLot_1 ?_
  refine gf_X1_108 isSt15 X hW dX1_doByLot_4 ?_
  refine lv_if_gt (tgt := 11) hx hb dX1_doByLot_7 (by decide) (fun hc => ?_) (fun hc => ?_)
  · replace hf := ifp hc hf
    refine lv_iload_n hx hb dX1_doByLot_11 rfl (lv_at hl 1 rfl) ?_
    refine lv_bipush (v := 8) hx hb dX1_doByLot_12 (by decide) ?_
    refine lv_idiv hx hb dX1_doByLot_14 (by decide) ?_
    refine lv_aload_n hx hb dX1_doByLot_15 rfl (lv_at hl 0 rfl) ?_
    refine gf_X1_29 X hW dX1_doByLot_16 ?_
    refine gf_X1_108 isSt15 X hW dX1_doByLot_19 ?_
    obtain ⟨hz22, hf⟩ := grd_some hf
    refine r_irem hx hb dX1_doByLot_22 (nz_ne hz22) ?_
    refine lv_istore_n (lv' := [(2, .int (irm (v1 / 8) (M.1 15 6))), (0, .ref (ad 0)), (1, .int v1)]) hx hb dX1_doByLot_23 rfl hl (by decide) rfl (fun ls hl => ?_)
    refine lv_aload_n hx hb dX1_doByLot_24 rfl (lv_at hl 1 rfl) ?_
    refine gf_X1_29 X hW dX1_doByLot_25 ?_
    refine gf_X1_141 isSt15 X hW dX1_doByLot_28 ?_
    refine lv_iload_n hx hb dX1_doByLot_31 rfl (lv_at hl 0 rfl) ?_
    obtain ⟨hi32, hf⟩ := grd_some hf
    refine g_iald X hW (iA_st2 isSt15) hi32 dX1_doByLot_32 ?_
    refine lv_istore_n (lv' := [(3, .int (M.1 (15 + 2) (ix (irm (v1 / 8) (M.1 15 6))))), (2, .int (irm (v1 / 8) (M.1 15 6))), (0, .ref (ad 0)), (1, .int v1)]) hx hb dX1_doByLot_33 rfl hl (by decide) rfl (fun ls hl => ?_)
    refine lv_iload_n hx hb dX1_doByLot_34 rfl (lv_at hl 3 rfl) ?_
    refine lv_bipush (v := 8) hx hb dX1_doByLot_35 (by decide) ?_
    refine r_irem hx hb dX1_doByLot_37 (by decide) ?_
    by_cases hc0 : (irm v1 8) = 0
    · replace hf := ifp hc0 hf
      refine lv_tableIn (tgt := 68) hx hb dX1_doByLot_38 (by rw [hc0]; decide) (by rw [hc0]; decide) (by rw [hc0]; rfl) (by decide) ?_
      refine lv_aload_n hx hb dX1_doByLot_68 rfl (lv_at hl 2 rfl) ?_
      refine lv_iconst (v := 2) hx hb dX1_doByLot_69 (by decide) ?_
      refine lv_iload_n hx hb dX1_doByLot_70 rfl (lv_at hl 1 rfl) ?_
      refine lv_iload_n hx hb dX1_doByLot_71 rfl (lv_at hl 1 rfl) ?_
      refine lv_iconst (v := 1) hx hb dX1_doByLot_72 (by decide) ?_
      refine lv_iadd hx hb dX1_doByLot_73 ?_
      refine lv_aload_n hx hb dX1_doByLot_74 rfl (lv_at hl 2 rfl) ?_
      refine gf_X1_29 X hW dX1_doByLot_75 ?_
      refine gf_X1_108 isSt15 X hW dX1_doByLot_78 ?_
      obtain ⟨hz81, hf⟩ := grd_some hf
      refine r_irem hx hb dX1_doByLot_81 (nz_ne hz81) ?_
      obtain ⟨M82, h82, hf⟩ := bR_some hf
      refine g_callvV X hl.1 hZ hA hW (c_X1_addDeed l D cy ad h82) cw_X1_addDeed ql_X1_133 iO_X1 rfl (by decide) rfl (Nat.le_of_ble_eq_true rfl) dX1_doByLot_82 (fun H locs hW => ?_)
      refine lv_goto (tgt := 134) hx hb dX1_doByLot_85 (by decide) ?_
      exact g_vret X hr hlk hQ hW dX1_doByLot_134 hf
    · replace hf := ifn hc0 hf
      by_cases hc1 : (irm v1 8) = 1
      · replace hf := ifp hc1 hf
        refine lv_tableIn (tgt := 88) hx hb dX1_doByLot_38 (by rw [hc1]; decide) (by rw [hc1]; decide) (by rw [hc1]; rfl) (by decide) ?_
        refine lv_aload_n hx hb dX1_doByLot_88 rfl (lv_at hl 2 rfl) ?_
        refine lv_iconst (v := 1) hx hb dX1_doByLot_89 (by decide) ?_
        refine lv_iload_n hx hb dX1_doByLot_90 rfl (lv_at hl 1 rfl) ?_
        refine lv_iload_n hx hb dX1_doByLot_91 rfl (lv_at hl 0 rfl) ?_
        obtain ⟨k105, hk105, hf⟩ := jn_some1 hf
        have hJ105 : ∀ (t0_105j : Int32) (H : Heap) (locs : List Loc) (ls : Array Slot), k105 t0_105j = some M' → Wd D 43 ad (CC ad cy) A s.heap M H locs → lv_has ls 4 [] → W p l e (rmD 5) s m ([.ref (ad 0), .int v1] : List Value).toArray below meth c H locs 0 0 Q (F0 m 105 ls [.int t0_105j, .int (irm (v1 / 8) (M.1 15 6)), .int 1, .ref (ad 0)]) := by
          intro t0_105j H locs ls hf hW hl
          rw [hk105] at hf
          obtain ⟨M105, h105, hf⟩ := bR_some hf
          refine g_callvV X hl.1 hZ hA hW (c_X1_addDeed l D cy ad h105) cw_X1_addDeed ql_X1_133 iO_X1 rfl (by decide) rfl (Nat.le_of_ble_eq_true rfl) dX1_doByLot_105 (fun H locs hW => ?_)
          refine lv_goto (tgt := 134) hx hb dX1_doByLot_108 (by decide) ?_
          exact g_vret X hr hlk hQ hW dX1_doByLot_134 hf
        refine lv_if_le (tgt := 104) hx hb dX1_doByLot_92 (by decide) (fun hc => ?_) (fun hc => ?_)
        · replace hf := ifp hc hf
          refine lv_iconst (v := 0) hx hb dX1_doByLot_104 (by decide) ?_
          exact hJ105 0 H locs ls hf hW (lv_sub hl [] rfl)
        · replace hf := ifn hc hf
          refine lv_iload_n hx hb dX1_doByLot_95 rfl (lv_at hl 3 rfl) ?_
          refine lv_bipush (v := 64) hx hb dX1_doByLot_96 (by decide) ?_
          refine lv_idiv hx hb dX1_doByLot_98 (by decide) ?_
          refine lv_iload_n hx hb dX1_doByLot_99 rfl (lv_at hl 0 rfl) ?_
          obtain ⟨hz100, hf⟩ := grd_some hf
          refine r_irem hx hb dX1_doByLot_100 (nz_ne hz100) ?_
          refine lv_goto (tgt := 105) hx hb dX1_doByLot_101 (by decide) ?_
          exact hJ105 (irm (v1 / 64) (M.1 (15 + 2) (ix (irm (v1 / 8) (M.1 15 6))))) H locs ls hf hW (lv_sub hl [] rfl)
      · replace hf := ifn hc1 hf
        by_cases hc2 : (irm v1 8) = 2
        · replace hf := ifp hc2 hf
          refine lv_tableIn (tgt := 88) hx hb dX1_doByLot_38 (by rw [hc2]; decide) (by rw [hc2]; decide) (by rw [hc2]; rfl) (by decide) ?_
          refine lv_aload_n hx hb dX1_doByLot_88 rfl (lv_at hl 2 rfl) ?_
          refine lv_iconst (v := 1) hx hb dX1_doByLot_89 (by decide) ?_
          refine lv_iload_n hx hb dX1_doByLot_90 rfl (lv_at hl 1 rfl) ?_
          refine lv_iload_n hx hb dX1_doByLot_91 rfl (lv_at hl 0 rfl) ?_
          obtain ⟨k105, hk105, hf⟩ := jn_some1 hf
          have hJ105 : ∀ (t0_105j : Int32) (H : Heap) (locs : List Loc) (ls : Array Slot), k105 t0_105j = some M' → Wd D 43 ad (CC ad cy) A s.heap M H locs → lv_has ls 4 [] → W p l e (rmD 5) s m ([.ref (ad 0), .int v1] : List Value).toArray below meth c H locs 0 0 Q (F0 m 105 ls [.int t0_105j, .int (irm (v1 / 8) (M.1 15 6)), .int 1, .ref (ad 0)]) := by
            intro t0_105j H locs ls hf hW hl
            rw [hk105] at hf
            obtain ⟨M105, h105, hf⟩ := bR_some hf
            refine g_callvV X hl.1 hZ hA hW (c_X1_addDeed l D cy ad h105) cw_X1_addDeed ql_X1_133 iO_X1 rfl (by decide) rfl (Nat.le_of_ble_eq_true rfl) dX1_doByLot_105 (fun H locs hW => ?_)
            refine lv_goto (tgt := 134) hx hb dX1_doByLot_108 (by decide) ?_
            exact g_vret X hr hlk hQ hW dX1_doByLot_134 hf
          refine lv_if_le (tgt := 104) hx hb dX1_doByLot_92 (by decide) (fun hc => ?_) (fun hc => ?_)
          · replace hf := ifp hc hf
            refine lv_iconst (v := 0) hx hb dX1_doByLot_104 (by decide) ?_
            exact hJ105 0 H locs ls hf hW (lv_sub hl [] rfl)
          · replace hf := ifn hc hf
            refine lv_iload_n hx hb dX1_doByLot_95 rfl (lv_at hl 3 rfl) ?_
            refine lv_bipush (v := 64) hx hb dX1_doByLot_96 (by decide) ?_
            refine lv_idiv hx hb dX1_doByLot_98 (by decide) ?_
            refine lv_iload_n hx hb dX1_doByLot_99 rfl (lv_at hl 0 rfl) ?_
            obtain ⟨hz100, hf⟩ := grd_some hf
            refine r_irem hx hb dX1_doByLot_100 (nz_ne hz100) ?_
            refine lv_goto (tgt := 105) hx hb dX1_doByLot_101 (by decide) ?_
            exact hJ105 (irm (v1 / 64) (M.1 (15 + 2) (ix (irm (v1 / 8) (M.1 15 6))))) H locs ls hf hW (lv_sub hl [] rfl)
        · replace hf := ifn hc2 hf
          by_cases hc3 : (irm v1 8) = 3
          · replace hf := ifp hc3 hf
            refine lv_tableIn (tgt := 88) hx hb dX1_doByLot_38 (by rw [hc3]; decide) (by rw [hc3]; decide) (by rw [hc3]; rfl) (by decide) ?_
            refine lv_aload_n hx hb dX1_doByLot_88 rfl (lv_at hl 2 rfl) ?_
            refine lv_iconst (v := 1) hx hb dX1_doByLot_89 (by decide) ?_
            refine lv_iload_n hx hb dX1_doByLot_90 rfl (lv_at hl 1 rfl) ?_
            refine lv_iload_n hx hb dX1_doByLot_91 rfl (lv_at hl 0 rfl) ?_
            obtain ⟨k105, hk105, hf⟩ := jn_some1 hf
            have hJ105 : ∀ (t0_105j : Int32) (H : Heap) (locs : List Loc) (ls : Array Slot), k105 t0_105j = some M' → Wd D 43 ad (CC ad cy) A s.heap M H locs → lv_has ls 4 [] → W p l e (rmD 5) s m ([.ref (ad 0), .int v1] : List Value).toArray below meth c H locs 0 0 Q (F0 m 105 ls [.int t0_105j, .int (irm (v1 / 8) (M.1 15 6)), .int 1, .ref (ad 0)]) := by
              intro t0_105j H locs ls hf hW hl
              rw [hk105] at hf
              obtain ⟨M105, h105, hf⟩ := bR_some hf
              refine g_callvV X hl.1 hZ hA hW (c_X1_addDeed l D cy ad h105) cw_X1_addDeed ql_X1_133 iO_X1 rfl (by decide) rfl (Nat.le_of_ble_eq_true rfl) dX1_doByLot_105 (fun H locs hW => ?_)
              refine lv_goto (tgt := 134) hx hb dX1_doByLot_108 (by decide) ?_
              exact g_vret X hr hlk hQ hW dX1_doByLot_134 hf
            refine lv_if_le (tgt := 104) hx hb dX1_doByLot_92 (by decide) (fun hc => ?_) (fun hc => ?_)
            · replace hf := ifp hc hf
              refine lv_iconst (v := 0) hx hb dX1_doByLot_104 (by decide) ?_
              exact hJ105 0 H locs ls hf hW (lv_sub hl [] rfl)
            · replace hf := ifn hc hf
              refine lv_iload_n hx hb dX1_doByLot_95 rfl (lv_at hl 3 rfl) ?_
              refine lv_bipush (v := 64) hx hb dX1_doByLot_96 (by decide) ?_
              refine lv_idiv hx hb dX1_doByLot_98 (by decide) ?_
              refine lv_iload_n hx hb dX1_doByLot_99 rfl (lv_at hl 0 rfl) ?_
              obtain ⟨hz100, hf⟩ := grd_some hf
              refine r_irem hx hb dX1_doByLot_100 (nz_ne hz100) ?_
              refine lv_goto (tgt := 105) hx hb dX1_doByLot_101 (by decide) ?_
              exact hJ105 (irm (v1 / 64) (M.1 (15 + 2) (ix (irm (v1 / 8) (M.1 15 6))))) H locs ls hf hW (lv_sub hl [] rfl)
          · replace hf := ifn hc3 hf
            refine lv_tableOut (tgt := 111) hx hb dX1_doByLot_38 (by have q0 := sw_ne (a := 0) hc0 (by decide); have q1 := sw_ne (a := 1) hc1 (by decide); have q2 := sw_ne (a := 2) hc2 (by decide); have q3 := sw_ne (a := 3) hc3 (by decide); omega) (by decide) ?_
            refine lv_aload_n hx hb dX1_doByLot_111 rfl (lv_at hl 2 rfl) ?_
            refine lv_aload_n hx hb dX1_doByLot_112 rfl (lv_at hl 2 rfl) ?_
            refine gf_X1_29 X hW dX1_doByLot_113 ?_
            refine gf_X1_127 isSt15 X hW dX1_doByLot_116 ?_
            refine lv_bipush (v := 99) hx hb dX1_doByLot_119 (by decide) ?_
            obtain ⟨k129, hk129, hf⟩ := jn_some1 hf
            have hJ129 : ∀ (t0_129j : Int32) (H : Heap) (locs : List Loc) (ls : Array Slot), k129 t0_129j = some M' → Wd D 43 ad (CC ad cy) A s.heap M H locs → lv_has ls 4 [] → W p l e (rmD 5) s m ([.ref (ad 0), .int v1] : List Value).toArray below meth c H locs 0 0 Q (F0 m 129 ls [.int t0_129j, .ref (ad 0)]) := by
              intro t0_129j H locs ls hf hW hl
              rw [hk129] at hf
              refine lv_iconst (v := 0) hx hb dX1_doByLot_129 (by decide) ?_
              refine lv_iconst (v := 0) hx hb dX1_doByLot_130 (by decide) ?_
              obtain ⟨M131, h131, hf⟩ := bR_some hf
              refine g_callvV X hl.1 hZ hA hW (c_X1_addDeed l D cy ad h131) cw_X1_addDeed ql_X1_133 iO_X1 rfl (by decide) rfl (Nat.le_of_ble_eq_true rfl) dX1_doByLot_131 (fun H locs hW => ?_)
              exact g_vret X hr hlk hQ hW dX1_doByLot_134 hf
            refine lv_icmp_ge (tgt := 128) hx hb dX1_doByLot_121 (by decide) (fun hc => ?_) (fun hc => ?_)
            · replace hf := ifp hc hf
              refine lv_iconst (v := 4) hx hb dX1_doByLot_128 (by decide) ?_
              exact hJ129 4 H locs ls hf hW (lv_sub hl [] rfl)
            · replace hf := ifn hc hf
              refine lv_iconst (v := 0) hx hb dX1_doByLot_124 (by decide) ?_
              refine lv_goto (tgt := 129) hx hb dX1_doByLot_125 (by decide) ?_
              exact hJ129 0 H locs ls hf hW (lv_sub hl [] rfl)
  · replace hf := ifn hc hf
    exact g_vret X hr hlk hQ hW dX1_doByLot_10 hf

def f_X1_lots_L56 (v1_L56 : Int32) (k84 : Mem → Option (Int32 × Mem)) : Nat → Int64 → Int32 → Mem → Option (Int32 × Mem)
  | 0, _, _, _ => none
  | n + 1, v3_L56, v5_L56, M_L56 => (if v1_L56 ≤ v5_L56 then (k84 M_L56) else (bR (f_X1_doByLot ((lrm (v3_L56 * 48271) 2147483647)).toInt32 M_L56) (fun M75 => (f_X1_lots_L56 v1_L56 k84 n (lrm (v3_L56 * 48271) 2147483647) (v5_L56 + 1) M75))))
def f_X1_lots (v1 : Int32) (v2 : Int32) (M : Mem) : Option (Int32 × Mem) :=
  (bR (f_X1_isWithin v1 1 20 M) (fun r4 => (if r4 = 0 then (some ((-1), M)) else (if v2 < 1 then (some ((-1), M)) else (if (lg_cmp v2.toInt64 2147483647) < 0 then (if (M.1 15 6) = 0 then (some ((-4), M)) else (bR (f_X1_hasRoomFor v1 M) (fun r41 => (if r41 = 0 then (some ((-2), M)) else (jn (fun (k84 : Mem → Option (Int32 × Mem)) => (f_X1_lots_L56 v1 k84 FU v2.toInt64 0 M)) (fun  (M_84x : Mem) => (bR (f_X0_pulses 15 M_84x) (fun r88 => (some (r88, M_84x)))))))))) else (some ((-1), M)))))))
set_option maxHeartbeats 4000000 in
set_option maxRecDepth 100000 in
theorem c_X1_lots (l : Launch) (D : va_G) (cy : Nat → ClassId) (ad : Nat → Nat)   {v1 : Int32} {v2 : Int32} {M M' : Mem} {r : Int32} (hf : f_X1_lots v1 v2 M = some (r, M')) : MetX l 43 (CC ad cy) D cy ad yX1_lots cX1_lots 6 (some .int) 6 [.ref (ad 0), .int v1, .int v2] M (fun A => QI r M' 43 (CC ad cy) D cy ad A) := by
  refine MetX.of (own := RX1) (by decide) rfl (Nat.le_of_ble_eq_true rfl) ?_
  intro p e s m below meth c A Q ls X hr hlk hZ hA hQ hW hl
  have hl : lv_has ls 6 [(0, .ref (ad 0)), (1, .int v1), (2, .int v2)] := hl
  have hx := X.1
  have hb := X.2.1
  have hL56 : ∀ (v1_L56 : Int32) (k84 : Mem → Option (Int32 × Mem)) (hJ84 : ∀  (M_84x : Mem) (H : Heap) (locs : List Loc) (ls : Array Slot), k84 M_84x = some (r, M') → Wd D 43 ad (CC ad cy) A s.heap M_84x H locs → lv_has ls 6 [(0, .ref (ad 0))] → W p l e (rmD 6) s m ([.ref (ad 0), .int v1, .int v2] : List Value).toArray below meth c H locs 0 0 Q (F0 m 84 ls [])) (n : Nat) (v3_L56 : Int64) (v5_L56 : Int32) (M_L56 : Mem) (H : Heap) (locs : List Loc) (ls : Array Slot), f_X1_lots_L56 v1_L56 k84 n v3_L56 v5_L56 M_L56 = some (r, M') → Wd D 43 ad (CC ad cy) A s.heap M_L56 H locs → lv_has ls 6 [(0, .ref (ad 0)), (1, .int v1_L56), (3, .long v3_L56), (5, .int v5_L56)] → W p l e (rmD 6) s m ([.ref (ad 0), .int v1, .int v2] : List Value).toArray below meth c H locs 0 0 Q (F0 m 56 ls []) := by
    intro v1_L56 k84 hJ84 n
    induction n with
    | zero =>
      intro v3_L56 v5_L56 M_L56 H locs ls hf
      cases (show (none : Option (Int32 × Mem)) = some (r, M') from hf)
    | succ n ih =>
      intro v3_L56 v5_L56 M_L56 H locs ls hf hW hl
      rw [f_X1_lots_L56] at hf
      refine lv_iload hx hb dX1_lots_56 (lv_at hl 3 rfl) ?_
      refine lv_iload_n hx hb dX1_lots_58 rfl (lv_at hl 1 rfl) ?_
      refine lv_icmp_ge (tgt := 84) hx hb dX1_lots_59 (by decide) (fun hc => ?_) (fun hc => ?_)
      · replace hf := ifp hc hf
        exact hJ84 M_L56 H locs ls hf hW (lv_sub hl [0] rfl)
      · replace hf := ifn hc hf
        refine lv_lload_n hx hb dX1_lots_62 rfl (lv_at hl 2 rfl) ?_
        refine lv_ldc2 (v := 48271) hx hb X.2.2.2.1 (X.2.2.2.2.1 _ qk_X1_219) dX1_lots_63 ?_
        refine lv_lmul hx hb dX1_lots_66 ?_
        refine lv_ldc2 (v := 2147483647) hx hb X.2.2.2.1 (X.2.2.2.2.1 _ qk_X1_217) dX1_lots_67 ?_
        refine r_lrem hx hb dX1_lots_70 (by decide) ?_
        refine lv_lstore_n (lv' := [(3, .long (lrm (v3_L56 * 48271) 2147483647)), (0, .ref (ad 0)), (1, .int v1_L56), (5, .int v5_L56)]) hx hb dX1_lots_71 rfl hl (by decide) rfl (fun ls hl => ?_)
        refine lv_aload_n hx hb dX1_lots_72 rfl (lv_at hl 1 rfl) ?_
        refine lv_lload_n hx hb dX1_lots_73 rfl (lv_at hl 0 rfl) ?_
        refine lv_l2i (v := ((lrm (v3_L56 * 48271) 2147483647)).toInt32) hx hb dX1_lots_74 rfl ?_
        obtain ⟨M75, h75, hf⟩ := bR_some hf
        refine g_callvV X hl.1 hZ hA hW (c_X1_doByLot l D cy ad h75) cw_X1_doByLot ql_X1_221 iO_X1 rfl (by decide) rfl (Nat.le_of_ble_eq_true rfl) dX1_lots_75 (fun H locs hW => ?_)
        refine lv_iinc (v := (v5_L56 + 1)) (lv' := [(5, .int (v5_L56 + 1)), (3, .long (lrm (v3_L56 * 48271) 2147483647)), (0, .ref (ad 0)), (1, .int v1_L56)]) hx hb dX1_lots_78 hl (k := 3) rfl rfl (by decide) rfl (fun ls hl => ?_)
        refine lv_goto (tgt := 56) hx hb dX1_lots_81 (by decide) ?_
        exact ih (lrm (v3_L56 * 48271) 2147483647) (v5_L56 + 1) M75 H locs ls hf hW (lv_sub hl [2, 3, 1, 0] rfl)
  obtain ⟨H, hH⟩ : ∃ H, H = s.heap := ⟨_, rfl⟩
  obtain ⟨locs, hlo⟩ : ∃ q : List Loc, q = [] := ⟨_, rfl⟩
  have hW : Wd D 43 ad (CC ad cy) A s.heap M H locs := by rw [hH, hlo]; exact hW
  suffices hh : W p l e (rmD 6) s m ([.ref (ad 0), .int v1, .int v2] : List Value).toArray below meth c H locs 0 0 Q (F0 m 0 ls []) by rw [hH, hlo] at hh; exact hh
  unfold f_X1_lots at hf
  refine lv_iload_n hx hb dX1_lots_0 rfl (lv_at hl 1 rfl) ?_
  refine lv_iconst (v := 1) hx hb dX1_lots_1 (by decide) ?_
  refine lv_bipush (v := 20) hx hb dX1_lots_2 (by decide) ?_
  obtain ⟨r4, h4, hf⟩ := bR_some hf
  refine g_calliS X hl.1 hZ hA hW (c_X1_isWithin l D cy ad h4) cs_X1_isWithin ql_X1_114 rfl (by decide) rfl (Nat.le_of_ble_eq_true rfl) dX1_lots_4 (fun H locs hW => ?_)
  refine lv_if_eq (tgt := 24) hx hb dX1_lots_7 (by decide) (fun hc => ?_) (fun hc => ?_)
  · replace hf := ifp hc hf
    refine lv_iconst (v := (-1)) hx hb dX1_lots_24 (by decide) ?_
    exact g_iret X hr hlk hQ hW dX1_lots_25 hf
  · replace hf := ifn hc hf
    refine lv_iload_n hx hb dX1_lots_10 rfl (lv_at hl 2 rfl) ?_
    refine lv_iconst (v := 1) hx hb dX1_lots_11 (by decide) ?_
    refine lv_icmp_lt (tgt := 24) hx hb dX1_lots_12 (by decide) (fun hc => ?_) (fun hc => ?_)
    · replace hf := ifp hc hf
      refine lv_iconst (v := (-1)) hx hb dX1_lots_24 (by decide) ?_
      exact g_iret X hr hlk hQ hW dX1_lots_25 hf
    · replace hf := ifn hc hf
      refine lv_iload_n hx hb dX1_lots_15 rfl (lv_at hl 2 rfl) ?_
      refine lv_i2l (v := v2.toInt64) hx hb dX1_lots_16 rfl ?_
      refine lv_ldc2 (v := 2147483647) hx hb X.2.2.2.1 (X.2.2.2.2.1 _ qk_X1_217) dX1_lots_17 ?_
      refine W.lcmp hx hb dX1_lots_20 ?_
      refine lv_if_lt (tgt := 26) hx hb dX1_lots_21 (by decide) (fun hc => ?_) (fun hc => ?_)
      · replace hf := ifp hc hf
        refine lv_aload_n hx hb dX1_lots_26 rfl (lv_at hl 0 rfl) ?_
        refine gf_X1_29 X hW dX1_lots_27 ?_
        refine gf_X1_108 isSt15 X hW dX1_lots_30 ?_
        refine lv_if_ne (tgt := 39) hx hb dX1_lots_33 (by decide) (fun hc => ?_) (fun hc => ?_)
        · replace hf := ifn hc hf
          refine lv_aload_n hx hb dX1_lots_39 rfl (lv_at hl 0 rfl) ?_
          refine lv_iload_n hx hb dX1_lots_40 rfl (lv_at hl 1 rfl) ?_
          obtain ⟨r41, h41, hf⟩ := bR_some hf
          refine g_calliV X hl.1 hZ hA hW (c_X1_hasRoomFor l D cy ad h41) cw_X1_hasRoomFor ql_X1_130 iO_X1 rfl (by decide) rfl (Nat.le_of_ble_eq_true rfl) dX1_lots_41 (fun H locs hW => ?_)
          refine lv_if_ne (tgt := 50) hx hb dX1_lots_44 (by decide) (fun hc => ?_) (fun hc => ?_)
          · replace hf := ifn hc hf
            refine lv_iload_n hx hb dX1_lots_50 rfl (lv_at hl 2 rfl) ?_
            refine lv_i2l (v := v2.toInt64) hx hb dX1_lots_51 rfl ?_
            refine lv_lstore_n (lv' := [(3, .long v2.toInt64), (0, .ref (ad 0)), (1, .int v1), (2, .int v2)]) hx hb dX1_lots_52 rfl hl (by decide) rfl (fun ls hl => ?_)
            refine lv_iconst (v := 0) hx hb dX1_lots_53 (by decide) ?_
            refine lv_istore (lv' := [(5, .int 0), (3, .long v2.toInt64), (0, .ref (ad 0)), (1, .int v1), (2, .int v2)]) hx hb dX1_lots_54 hl (by decide) rfl (fun ls hl => ?_)
            obtain ⟨k84, hk84, hf⟩ := jn_some1 hf
            have hJ84 : ∀  (M_84x : Mem) (H : Heap) (locs : List Loc) (ls : Array Slot), k84 M_84x = some (r, M') → Wd D 43 ad (CC ad cy) A s.heap M_84x H locs → lv_has ls 6 [(0, .ref (ad 0))] → W p l e (rmD 6) s m ([.ref (ad 0), .int v1, .int v2] : List Value).toArray below meth c H locs 0 0 Q (F0 m 84 ls []) := by
              intro M_84x H locs ls hf hW hl
              rw [hk84] at hf
              refine lv_aload_n hx hb dX1_lots_84 rfl (lv_at hl 0 rfl) ?_
              refine gf_X1_29 X hW dX1_lots_85 ?_
              obtain ⟨r88, h88, hf⟩ := bR_some hf
              refine g_calliN (host := "TubeWords") X hl.1 hZ hA hW (c_X0_pulses l D cy ad isSt15 h88) cw_X0_pulses (by decide +kernel) (iO_st isSt15) rfl (by decide) rfl (Nat.le_of_ble_eq_true rfl) dX1_lots_88 (fun H locs hW => ?_)
              exact g_iret X hr hlk hQ hW dX1_lots_91 hf
            exact hL56 v1 k84 hJ84 FU v2.toInt64 0 M H locs ls hf hW (lv_sub hl [2, 3, 1, 0] rfl)
          · replace hf := ifp hc hf
            refine lv_bipush (v := (-2)) hx hb dX1_lots_47 (by decide) ?_
            exact g_iret X hr hlk hQ hW dX1_lots_49 hf
        · replace hf := ifp hc hf
          refine lv_bipush (v := (-4)) hx hb dX1_lots_36 (by decide) ?_
          exact g_iret X hr hlk hQ hW dX1_lots_38 hf
      · replace hf := ifn hc hf
        refine lv_iconst (v := (-1)) hx hb dX1_lots_24 (by decide) ?_
        exact g_iret X hr hlk hQ hW dX1_lots_25 hf

def f_X1_asked (M : Mem) : Option Int32 :=
  (some (M.1 0 13))
set_option maxHeartbeats 4000000 in
set_option maxRecDepth 100000 in
theorem c_X1_asked (l : Launch) (D : va_G) (cy : Nat → ClassId) (ad : Nat → Nat)    {M : Mem} {r : Int32} (hf : f_X1_asked M = some r) : MetX l 43 (CC ad cy) D cy ad yX1_asked cX1_asked 1 (some .int) 0 [.ref (ad 0)] M (fun A => QI r M 43 (CC ad cy) D cy ad A) := by
  refine MetX.of (own := RX1) (by decide) rfl (Nat.le_of_ble_eq_true rfl) ?_
  intro p e s m below meth c A Q ls X hr hlk hZ hA hQ hW hl
  have hl : lv_has ls 1 [(0, .ref (ad 0))] := hl
  have hx := X.1
  have hb := X.2.1
  obtain ⟨H, hH⟩ : ∃ H, H = s.heap := ⟨_, rfl⟩
  obtain ⟨locs, hlo⟩ : ∃ q : List Loc, q = [] := ⟨_, rfl⟩
  have hW : Wd D 43 ad (CC ad cy) A s.heap M H locs := by rw [hH, hlo]; exact hW
  suffices hh : W p l e (rmD 0) s m ([.ref (ad 0)] : List Value).toArray below meth c H locs 0 0 Q (F0 m 0 ls []) by rw [hH, hlo] at hh; exact hh
  unfold f_X1_asked at hf
  refine lv_aload_n hx hb dX1_asked_0 rfl (lv_at hl 0 rfl) ?_
  refine gf_X1_58 X hW dX1_asked_1 ?_
  exact g_iret X hr hlk hQ hW dX1_asked_4 (rd_some hf)

def f_X1_upper (M : Mem) : Option Int64 :=
  (some (M.2 0 14))
set_option maxHeartbeats 4000000 in
set_option maxRecDepth 100000 in
theorem c_X1_upper (l : Launch) (D : va_G) (cy : Nat → ClassId) (ad : Nat → Nat)    {M : Mem} {r : Int64} (hf : f_X1_upper M = some r) : MetX l 43 (CC ad cy) D cy ad yX1_upper cX1_upper 1 (some .long) 0 [.ref (ad 0)] M (fun A => QL r M 43 (CC ad cy) D cy ad A) := by
  refine MetX.of (own := RX1) (by decide) rfl (Nat.le_of_ble_eq_true rfl) ?_
  intro p e s m below meth c A Q ls X hr hlk hZ hA hQ hW hl
  have hl : lv_has ls 1 [(0, .ref (ad 0))] := hl
  have hx := X.1
  have hb := X.2.1
  obtain ⟨H, hH⟩ : ∃ H, H = s.heap := ⟨_, rfl⟩
  obtain ⟨locs, hlo⟩ : ∃ q : List Loc, q = [] := ⟨_, rfl⟩
  have hW : Wd D 43 ad (CC ad cy) A s.heap M H locs := by rw [hH, hlo]; exact hW
  suffices hh : W p l e (rmD 0) s m ([.ref (ad 0)] : List Value).toArray below meth c H locs 0 0 Q (F0 m 0 ls []) by rw [hH, hlo] at hh; exact hh
  unfold f_X1_upper at hf
  refine lv_aload_n hx hb dX1_upper_0 rfl (lv_at hl 0 rfl) ?_
  refine gf_X1_61 X hW dX1_upper_1 ?_
  exact g_lret X hr hlk hQ hW dX1_upper_4 (rd_some hf)

def f_X1_lower (M : Mem) : Option Int64 :=
  (some (M.2 0 15))
set_option maxHeartbeats 4000000 in
set_option maxRecDepth 100000 in
theorem c_X1_lower (l : Launch) (D : va_G) (cy : Nat → ClassId) (ad : Nat → Nat)    {M : Mem} {r : Int64} (hf : f_X1_lower M = some r) : MetX l 43 (CC ad cy) D cy ad yX1_lower cX1_lower 1 (some .long) 0 [.ref (ad 0)] M (fun A => QL r M 43 (CC ad cy) D cy ad A) := by
  refine MetX.of (own := RX1) (by decide) rfl (Nat.le_of_ble_eq_true rfl) ?_
  intro p e s m below meth c A Q ls X hr hlk hZ hA hQ hW hl
  have hl : lv_has ls 1 [(0, .ref (ad 0))] := hl
  have hx := X.1
  have hb := X.2.1
  obtain ⟨H, hH⟩ : ∃ H, H = s.heap := ⟨_, rfl⟩
  obtain ⟨locs, hlo⟩ : ∃ q : List Loc, q = [] := ⟨_, rfl⟩
  have hW : Wd D 43 ad (CC ad cy) A s.heap M H locs := by rw [hH, hlo]; exact hW
  suffices hh : W p l e (rmD 0) s m ([.ref (ad 0)] : List Value).toArray below meth c H locs 0 0 Q (F0 m 0 ls []) by rw [hH, hlo] at hh; exact hh
  unfold f_X1_lower at hf
  refine lv_aload_n hx hb dX1_lower_0 rfl (lv_at hl 0 rfl) ?_
  refine gf_X1_65 X hW dX1_lower_1 ?_
  exact g_lret X hr hlk hQ hW dX1_lower_4 (rd_some hf)

def f_X1_present_L10 (k0 : Nat) (n0 : Nat) (v3_L10 : Int32) (M : Mem) : Nat → Int32 → Int32 → Option Int32
  | 0, _, _ => none
  | n + 1, v1_L10, v4_L10 => (if v3_L10 ≤ v4_L10 then (some v1_L10) else (grd (inb v4_L10 n0) (jn (fun (k31 : Int32 → Option Int32) => (if (M.1 k0 (ix v4_L10)) = (-1) then (k31 v1_L10) else (k31 (v1_L10 + 1)))) (fun (v1_31j : Int32) => (f_X1_present_L10 k0 n0 v3_L10 M n v1_31j (v4_L10 + 1))))))
def f_X1_present (k0 : Nat) (n0 : Nat) (M : Mem) : Option Int32 :=
  (f_X1_present_L10 k0 n0 (nI n0) M FU 0 0)
set_option maxHeartbeats 4000000 in
set_option maxRecDepth 100000 in
theorem c_X1_present (l : Launch) (D : va_G) (cy : Nat → ClassId) (ad : Nat → Nat) {k0 : Nat} {n0 : Nat} (hA0 : isA (CC ad cy) 43 k0 (cy 0) n0)  {M : Mem} {r : Int32} (hf : f_X1_present k0 n0 M = some r) : MetX l 43 (CC ad cy) D cy ad yX1_present cX1_present 6 (some .int) 0 [.ref (ad k0)] M (fun A => QI r M 43 (CC ad cy) D cy ad A) := by
  refine MetX.of (own := RX1) (by decide) rfl (Nat.le_of_ble_eq_true rfl) ?_
  intro p e s m below meth c A Q ls X hr hlk hZ hA hQ hW hl
  have hl : lv_has ls 6 [(0, .ref (ad k0))] := hl
  have hx := X.1
  have hb := X.2.1
  have hL10 : ∀ (v3_L10 : Int32)  (n : Nat) (v1_L10 : Int32) (v4_L10 : Int32) (H : Heap) (locs : List Loc) (ls : Array Slot), f_X1_present_L10 k0 n0 v3_L10 M n v1_L10 v4_L10 = some r → Wd D 43 ad (CC ad cy) A s.heap M H locs → lv_has ls 6 [(1, .int v1_L10), (2, .ref (ad k0)), (3, .int v3_L10), (4, .int v4_L10)] → W p l e (rmD 0) s m ([.ref (ad k0)] : List Value).toArray below meth c H locs 0 0 Q (F0 m 10 ls []) := by
    intro v3_L10 n
    induction n with
    | zero =>
      intro v1_L10 v4_L10 H locs ls hf
      cases (show (none : Option Int32) = some r from hf)
    | succ n ih =>
      intro v1_L10 v4_L10 H locs ls hf hW hl
      rw [f_X1_present_L10] at hf
      refine lv_iload hx hb dX1_present_10 (lv_at hl 3 rfl) ?_
      refine lv_iload_n hx hb dX1_present_12 rfl (lv_at hl 2 rfl) ?_
      refine lv_icmp_ge (tgt := 37) hx hb dX1_present_13 (by decide) (fun hc => ?_) (fun hc => ?_)
      · replace hf := ifp hc hf
        refine lv_iload_n hx hb dX1_present_37 rfl (lv_at hl 0 rfl) ?_
        exact g_iret X hr hlk hQ hW dX1_present_38 (rd_some hf)
      · replace hf := ifn hc hf
        refine lv_aload_n hx hb dX1_present_16 rfl (lv_at hl 1 rfl) ?_
        refine lv_iload hx hb dX1_present_17 (lv_at hl 3 rfl) ?_
        obtain ⟨hi19, hf⟩ := grd_some hf
        refine g_iald X hW hA0 hi19 dX1_present_19 ?_
        refine lv_istore (lv' := [(5, .int (M.1 k0 (ix v4_L10))), (1, .int v1_L10), (2, .ref (ad k0)), (3, .int v3_L10), (4, .int v4_L10)]) hx hb dX1_present_20 hl (by decide) rfl (fun ls hl => ?_)
        refine lv_iload hx hb dX1_present_22 (lv_at hl 0 rfl) ?_
        refine lv_iconst (v := (-1)) hx hb dX1_present_24 (by decide) ?_
        obtain ⟨k31, hk31, hf⟩ := jn_some1 hf
        have hJ31 : ∀ (v1_31j : Int32) (H : Heap) (locs : List Loc) (ls : Array Slot), k31 v1_31j = some r → Wd D 43 ad (CC ad cy) A s.heap M H locs → lv_has ls 6 [(1, .int v1_31j), (2, .ref (ad k0)), (3, .int v3_L10), (4, .int v4_L10)] → W p l e (rmD 0) s m ([.ref (ad k0)] : List Value).toArray below meth c H locs 0 0 Q (F0 m 31 ls []) := by
          intro v1_31j H locs ls hf hW hl
          rw [hk31] at hf
          refine lv_iinc (v := (v4_L10 + 1)) (lv' := [(4, .int (v4_L10 + 1)), (1, .int v1_31j), (2, .ref (ad k0)), (3, .int v3_L10)]) hx hb dX1_present_31 hl (k := 3) rfl rfl (by decide) rfl (fun ls hl => ?_)
          refine lv_goto (tgt := 10) hx hb dX1_present_34 (by decide) ?_
          exact ih v1_31j (v4_L10 + 1) H locs ls hf hW (lv_sub hl [1, 2, 3, 0] rfl)
        refine lv_icmp_eq (tgt := 31) hx hb dX1_present_25 (by decide) (fun hc => ?_) (fun hc => ?_)
        · replace hf := ifp hc hf
          exact hJ31 v1_L10 H locs ls hf hW (lv_sub hl [1, 2, 3, 4] rfl)
        · replace hf := ifn hc hf
          refine lv_iinc (v := (v1_L10 + 1)) (lv' := [(1, .int (v1_L10 + 1)), (5, .int (M.1 k0 (ix v4_L10))), (2, .ref (ad k0)), (3, .int v3_L10), (4, .int v4_L10)]) hx hb dX1_present_28 hl (k := 1) rfl rfl (by decide) rfl (fun ls hl => ?_)
          exact hJ31 (v1_L10 + 1) H locs ls hf hW (lv_sub hl [0, 2, 3, 4] rfl)
  obtain ⟨H, hH⟩ : ∃ H, H = s.heap := ⟨_, rfl⟩
  obtain ⟨locs, hlo⟩ : ∃ q : List Loc, q = [] := ⟨_, rfl⟩
  have hW : Wd D 43 ad (CC ad cy) A s.heap M H locs := by rw [hH, hlo]; exact hW
  suffices hh : W p l e (rmD 0) s m ([.ref (ad k0)] : List Value).toArray below meth c H locs 0 0 Q (F0 m 0 ls []) by rw [hH, hlo] at hh; exact hh
  unfold f_X1_present at hf
  refine lv_iconst (v := 0) hx hb dX1_present_0 (by decide) ?_
  refine lv_istore_n (lv' := [(1, .int 0), (0, .ref (ad k0))]) hx hb dX1_present_1 rfl hl (by decide) rfl (fun ls hl => ?_)
  refine lv_aload_n hx hb dX1_present_2 rfl (lv_at hl 1 rfl) ?_
  refine lv_astore_n (lv' := [(2, .ref (ad k0)), (1, .int 0), (0, .ref (ad k0))]) hx hb dX1_present_3 rfl hl (by decide) rfl (fun ls hl => ?_)
  refine lv_aload_n hx hb dX1_present_4 rfl (lv_at hl 0 rfl) ?_
  refine g_alen X hW (t0 := 0) hA0 rfl dX1_present_5 ?_
  refine lv_istore_n (lv' := [(3, .int (nI n0)), (2, .ref (ad k0)), (1, .int 0), (0, .ref (ad k0))]) hx hb dX1_present_6 rfl hl (by decide) rfl (fun ls hl => ?_)
  refine lv_iconst (v := 0) hx hb dX1_present_7 (by decide) ?_
  refine lv_istore (lv' := [(4, .int 0), (3, .int (nI n0)), (2, .ref (ad k0)), (1, .int 0), (0, .ref (ad k0))]) hx hb dX1_present_8 hl (by decide) rfl (fun ls hl => ?_)
  exact hL10 (nI n0) FU 0 0 H locs ls hf hW (lv_sub hl [3, 2, 1, 0] rfl)

def f_X1_countOf (v1 : Int32) (M : Mem) : Option Int32 :=
  (if v1 = 0 then (some (M.1 15 6)) else (if v1 = 1 then (some (M.1 15 7)) else (if v1 = 2 then (some (M.1 0 7)) else (if v1 = 3 then (bR (f_X0_pulses 15 M) (fun r81 => (some r81))) else (if v1 = 4 then (bR (f_X0_slots 15 M) (fun r89 => (some r89))) else (if v1 = 5 then (bR (f_X0_emptyOnes 15 M) (fun r97 => (some r97))) else (if v1 = 6 then (bR (f_X1_present 8 6 M) (fun r105 => (some r105))) else (if v1 = 7 then (bR (f_X1_present 14 4 M) (fun r113 => (some r113))) else (if v1 = 8 then (bR (f_X1_present 34 3 M) (fun r121 => (some r121))) else (if v1 = 9 then (bR (f_X0_manyOf 15 1 M) (fun r130 => (some r130))) else (bR (f_X0_manyOf 15 2 M) (fun r139 => (some r139)))))))))))))
set_option maxHeartbeats 4000000 in
set_option maxRecDepth 100000 in
theorem c_X1_countOf (l : Launch) (D : va_G) (cy : Nat → ClassId) (ad : Nat → Nat)   {v1 : Int32} {M : Mem} {r : Int32} (hf : f_X1_countOf v1 M = some r) : MetX l 43 (CC ad cy) D cy ad yX1_countOf cX1_countOf 2 (some .int) 2 [.ref (ad 0), .int v1] M (fun A => QI r M 43 (CC ad cy) D cy ad A) := by
  refine MetX.of (own := RX1) (by decide) rfl (Nat.le_of_ble_eq_true rfl) ?_
  intro p e s m below meth c A Q ls X hr hlk hZ hA hQ hW hl
  have hl : lv_has ls 2 [(0, .ref (ad 0)), (1, .int v1)] := hl
  have hx := X.1
  have hb := X.2.1
  obtain ⟨H, hH⟩ : ∃ H, H = s.heap := ⟨_, rfl⟩
  obtain ⟨locs, hlo⟩ : ∃ q : List Loc, q = [] := ⟨_, rfl⟩
  have hW : Wd D 43 ad (CC ad cy) A s.heap M H locs := by rw [hH, hlo]; exact hW
  suffices hh : W p l e (rmD 2) s m ([.ref (ad 0), .int v1] : List Value).toArray below meth c H locs 0 0 Q (F0 m 0 ls []) by rw [hH, hlo] at hh; exact hh
  unfold f_X1_countOf at hf
  refine lv_iload_n hx hb dX1_countOf_0 rfl (lv_at hl 1 rfl) ?_
  by_cases hc0 : v1 = 0
  · replace hf := ifp hc0 hf
    refine lv_tableIn (tgt := 56) hx hb dX1_countOf_1 (by rw [hc0]; decide) (by rw [hc0]; decide) (by rw [hc0]; rfl) (by decide) ?_
    refine lv_aload_n hx hb dX1_countOf_56 rfl (lv_at hl 0 rfl) ?_
    refine gf_X1_29 X hW dX1_countOf_57 ?_
    refine gf_X1_108 isSt15 X hW dX1_countOf_60 ?_
    exact g_iret X hr hlk hQ hW dX1_countOf_63 (rd_some hf)
  · replace hf := ifn hc0 hf
    by_cases hc1 : v1 = 1
    · replace hf := ifp hc1 hf
      refine lv_tableIn (tgt := 64) hx hb dX1_countOf_1 (by rw [hc1]; decide) (by rw [hc1]; decide) (by rw [hc1]; rfl) (by decide) ?_
      refine lv_aload_n hx hb dX1_countOf_64 rfl (lv_at hl 0 rfl) ?_
      refine gf_X1_29 X hW dX1_countOf_65 ?_
      refine gf_X1_127 isSt15 X hW dX1_countOf_68 ?_
      exact g_iret X hr hlk hQ hW dX1_countOf_71 (rd_some hf)
    · replace hf := ifn hc1 hf
      by_cases hc2 : v1 = 2
      · replace hf := ifp hc2 hf
        refine lv_tableIn (tgt := 72) hx hb dX1_countOf_1 (by rw [hc2]; decide) (by rw [hc2]; decide) (by rw [hc2]; rfl) (by decide) ?_
        refine lv_aload_n hx hb dX1_countOf_72 rfl (lv_at hl 0 rfl) ?_
        refine gf_X1_39 X hW dX1_countOf_73 ?_
        exact g_iret X hr hlk hQ hW dX1_countOf_76 (rd_some hf)
      · replace hf := ifn hc2 hf
        by_cases hc3 : v1 = 3
        · replace hf := ifp hc3 hf
          refine lv_tableIn (tgt := 77) hx hb dX1_countOf_1 (by rw [hc3]; decide) (by rw [hc3]; decide) (by rw [hc3]; rfl) (by decide) ?_
          refine lv_aload_n hx hb dX1_countOf_77 rfl (lv_at hl 0 rfl) ?_
          refine gf_X1_29 X hW dX1_countOf_78 ?_
          obtain ⟨r81, h81, hf⟩ := bR_some hf
          refine g_calliN (host := "TubeWords") X hl.1 hZ hA hW (c_X0_pulses l D cy ad isSt15 h81) cw_X0_pulses (by decide +kernel) (iO_st isSt15) rfl (by decide) rfl (Nat.le_of_ble_eq_true rfl) dX1_countOf_81 (fun H locs hW => ?_)
          exact g_iret X hr hlk hQ hW dX1_countOf_84 (rd_some hf)
        · replace hf := ifn hc3 hf
          by_cases hc4 : v1 = 4
          · replace hf := ifp hc4 hf
            refine lv_tableIn (tgt := 85) hx hb dX1_countOf_1 (by rw [hc4]; decide) (by rw [hc4]; decide) (by rw [hc4]; rfl) (by decide) ?_
            refine lv_aload_n hx hb dX1_countOf_85 rfl (lv_at hl 0 rfl) ?_
            refine gf_X1_29 X hW dX1_countOf_86 ?_
            obtain ⟨r89, h89, hf⟩ := bR_some hf
            refine g_calliN (host := "TubeWords") X hl.1 hZ hA hW (c_X0_slots l D cy ad isSt15 h89) cw_X0_slots (by decide +kernel) (iO_st isSt15) rfl (by decide) rfl (Nat.le_of_ble_eq_true rfl) dX1_countOf_89 (fun H locs hW => ?_)
            exact g_iret X hr hlk hQ hW dX1_countOf_92 (rd_some hf)
          · replace hf := ifn hc4 hf
            by_cases hc5 : v1 = 5
            · replace hf := ifp hc5 hf
              refine lv_tableIn (tgt := 93) hx hb dX1_countOf_1 (by rw [hc5]; decide) (by rw [hc5]; decide) (by rw [hc5]; rfl) (by decide) ?_
              refine lv_aload_n hx hb dX1_countOf_93 rfl (lv_at hl 0 rfl) ?_
              refine gf_X1_29 X hW dX1_countOf_94 ?_
              obtain ⟨r97, h97, hf⟩ := bR_some hf
              refine g_calliN (host := "TubeWords") X hl.1 hZ hA hW (c_X0_emptyOnes l D cy ad isSt15 h97) cw_X0_emptyOnes (by decide +kernel) (iO_st isSt15) rfl (by decide) rfl (Nat.le_of_ble_eq_true rfl) dX1_countOf_97 (fun H locs hW => ?_)
              exact g_iret X hr hlk hQ hW dX1_countOf_100 (rd_some hf)
            · replace hf := ifn hc5 hf
              by_cases hc6 : v1 = 6
              · replace hf := ifp hc6 hf
                refine lv_tableIn (tgt := 101) hx hb dX1_countOf_1 (by rw [hc6]; decide) (by rw [hc6]; decide) (by rw [hc6]; rfl) (by decide) ?_
                refine lv_aload_n hx hb dX1_countOf_101 rfl (lv_at hl 0 rfl) ?_
                refine gf_X1_14 X hW dX1_countOf_102 ?_
                obtain ⟨r105, h105, hf⟩ := bR_some hf
                refine g_calliS X hl.1 hZ hA hW (c_X1_present l D cy ad iA_rowSizes h105) cs_X1_present ql_X1_274 rfl (by decide) rfl (Nat.le_of_ble_eq_true rfl) dX1_countOf_105 (fun H locs hW => ?_)
                exact g_iret X hr hlk hQ hW dX1_countOf_108 (rd_some hf)
              · replace hf := ifn hc6 hf
                by_cases hc7 : v1 = 7
                · replace hf := ifp hc7 hf
                  refine lv_tableIn (tgt := 109) hx hb dX1_countOf_1 (by rw [hc7]; decide) (by rw [hc7]; decide) (by rw [hc7]; rfl) (by decide) ?_
                  refine lv_aload_n hx hb dX1_countOf_109 rfl (lv_at hl 0 rfl) ?_
                  refine gf_X1_23 X hW dX1_countOf_110 ?_
                  obtain ⟨r113, h113, hf⟩ := bR_some hf
                  refine g_calliS X hl.1 hZ hA hW (c_X1_present l D cy ad iA_textSizes h113) cs_X1_present ql_X1_274 rfl (by decide) rfl (Nat.le_of_ble_eq_true rfl) dX1_countOf_113 (fun H locs hW => ?_)
                  exact g_iret X hr hlk hQ hW dX1_countOf_116 (rd_some hf)
                · replace hf := ifn hc7 hf
                  by_cases hc8 : v1 = 8
                  · replace hf := ifp hc8 hf
                    refine lv_tableIn (tgt := 117) hx hb dX1_countOf_1 (by rw [hc8]; decide) (by rw [hc8]; decide) (by rw [hc8]; rfl) (by decide) ?_
                    refine lv_aload_n hx hb dX1_countOf_117 rfl (lv_at hl 0 rfl) ?_
                    refine gf_X1_46 X hW dX1_countOf_118 ?_
                    obtain ⟨r121, h121, hf⟩ := bR_some hf
                    refine g_calliS X hl.1 hZ hA hW (c_X1_present l D cy ad iA_keptSizes h121) cs_X1_present ql_X1_274 rfl (by decide) rfl (Nat.le_of_ble_eq_true rfl) dX1_countOf_121 (fun H locs hW => ?_)
                    exact g_iret X hr hlk hQ hW dX1_countOf_124 (rd_some hf)
                  · replace hf := ifn hc8 hf
                    by_cases hc9 : v1 = 9
                    · replace hf := ifp hc9 hf
                      refine lv_tableIn (tgt := 125) hx hb dX1_countOf_1 (by rw [hc9]; decide) (by rw [hc9]; decide) (by rw [hc9]; rfl) (by decide) ?_
                      refine lv_aload_n hx hb dX1_countOf_125 rfl (lv_at hl 0 rfl) ?_
                      refine gf_X1_29 X hW dX1_countOf_126 ?_
                      refine lv_iconst (v := 1) hx hb dX1_countOf_129 (by decide) ?_
                      obtain ⟨r130, h130, hf⟩ := bR_some hf
                      refine g_calliN (host := "TubeWords") X hl.1 hZ hA hW (c_X0_manyOf l D cy ad isSt15 h130) cw_X0_manyOf (by decide +kernel) (iO_st isSt15) rfl (by decide) rfl (Nat.le_of_ble_eq_true rfl) dX1_countOf_130 (fun H locs hW => ?_)
                      exact g_iret X hr hlk hQ hW dX1_countOf_133 (rd_some hf)
                    · replace hf := ifn hc9 hf
                      refine lv_tableOut (tgt := 134) hx hb dX1_countOf_1 (by have q0 := sw_ne (a := 0) hc0 (by decide); have q1 := sw_ne (a := 1) hc1 (by decide); have q2 := sw_ne (a := 2) hc2 (by decide); have q3 := sw_ne (a := 3) hc3 (by decide); have q4 := sw_ne (a := 4) hc4 (by decide); have q5 := sw_ne (a := 5) hc5 (by decide); have q6 := sw_ne (a := 6) hc6 (by decide); have q7 := sw_ne (a := 7) hc7 (by decide); have q8 := sw_ne (a := 8) hc8 (by decide); have q9 := sw_ne (a := 9) hc9 (by decide); omega) (by decide) ?_
                      refine lv_aload_n hx hb dX1_countOf_134 rfl (lv_at hl 0 rfl) ?_
                      refine gf_X1_29 X hW dX1_countOf_135 ?_
                      refine lv_iconst (v := 2) hx hb dX1_countOf_138 (by decide) ?_
                      obtain ⟨r139, h139, hf⟩ := bR_some hf
                      refine g_calliN (host := "TubeWords") X hl.1 hZ hA hW (c_X0_manyOf l D cy ad isSt15 h139) cw_X0_manyOf (by decide +kernel) (iO_st isSt15) rfl (by decide) rfl (Nat.le_of_ble_eq_true rfl) dX1_countOf_139 (fun H locs hW => ?_)
                      exact g_iret X hr hlk hQ hW dX1_countOf_142 (rd_some hf)

def f_X1_count (v1 : Int32) (M : Mem) : Option Int32 :=
  (bR (f_X1_isWithin v1 0 10 M) (fun r4 => (if r4 = 0 then (some (-1)) else (bR (f_X1_countOf v1 M) (fun r12 => (some r12))))))
set_option maxHeartbeats 4000000 in
set_option maxRecDepth 100000 in
theorem c_X1_count (l : Launch) (D : va_G) (cy : Nat → ClassId) (ad : Nat → Nat)   {v1 : Int32} {M : Mem} {r : Int32} (hf : f_X1_count v1 M = some r) : MetX l 43 (CC ad cy) D cy ad yX1_count cX1_count 2 (some .int) 3 [.ref (ad 0), .int v1] M (fun A => QI r M 43 (CC ad cy) D cy ad A) := by
  refine MetX.of (own := RX1) (by decide) rfl (Nat.le_of_ble_eq_true rfl) ?_
  intro p e s m below meth c A Q ls X hr hlk hZ hA hQ hW hl
  have hl : lv_has ls 2 [(0, .ref (ad 0)), (1, .int v1)] := hl
  have hx := X.1
  have hb := X.2.1
  obtain ⟨H, hH⟩ : ∃ H, H = s.heap := ⟨_, rfl⟩
  obtain ⟨locs, hlo⟩ : ∃ q : List Loc, q = [] := ⟨_, rfl⟩
  have hW : Wd D 43 ad (CC ad cy) A s.heap M H locs := by rw [hH, hlo]; exact hW
  suffices hh : W p l e (rmD 3) s m ([.ref (ad 0), .int v1] : List Value).toArray below meth c H locs 0 0 Q (F0 m 0 ls []) by rw [hH, hlo] at hh; exact hh
  unfold f_X1_count at hf
  refine lv_iload_n hx hb dX1_count_0 rfl (lv_at hl 1 rfl) ?_
  refine lv_iconst (v := 0) hx hb dX1_count_1 (by decide) ?_
  refine lv_bipush (v := 10) hx hb dX1_count_2 (by decide) ?_
  obtain ⟨r4, h4, hf⟩ := bR_some hf
  refine g_calliS X hl.1 hZ hA hW (c_X1_isWithin l D cy ad h4) cs_X1_isWithin ql_X1_114 rfl (by decide) rfl (Nat.le_of_ble_eq_true rfl) dX1_count_4 (fun H locs hW => ?_)
  refine lv_if_eq (tgt := 18) hx hb dX1_count_7 (by decide) (fun hc => ?_) (fun hc => ?_)
  · replace hf := ifp hc hf
    refine lv_iconst (v := (-1)) hx hb dX1_count_18 (by decide) ?_
    exact g_iret X hr hlk hQ hW dX1_count_19 (rd_some hf)
  · replace hf := ifn hc hf
    refine lv_aload_n hx hb dX1_count_10 rfl (lv_at hl 0 rfl) ?_
    refine lv_iload_n hx hb dX1_count_11 rfl (lv_at hl 1 rfl) ?_
    obtain ⟨r12, h12, hf⟩ := bR_some hf
    refine g_calliV X hl.1 hZ hA hW (c_X1_countOf l D cy ad h12) cw_X1_countOf ql_X1_224 iO_X1 rfl (by decide) rfl (Nat.le_of_ble_eq_true rfl) dX1_count_12 (fun H locs hW => ?_)
    refine lv_goto (tgt := 19) hx hb dX1_count_15 (by decide) ?_
    exact g_iret X hr hlk hQ hW dX1_count_19 (rd_some hf)

def f_X1_finding (M : Mem) : Option Int32 :=
  (some (M.1 0 12))
set_option maxHeartbeats 4000000 in
set_option maxRecDepth 100000 in
theorem c_X1_finding (l : Launch) (D : va_G) (cy : Nat → ClassId) (ad : Nat → Nat)    {M : Mem} {r : Int32} (hf : f_X1_finding M = some r) : MetX l 43 (CC ad cy) D cy ad yX1_finding cX1_finding 1 (some .int) 0 [.ref (ad 0)] M (fun A => QI r M 43 (CC ad cy) D cy ad A) := by
  refine MetX.of (own := RX1) (by decide) rfl (Nat.le_of_ble_eq_true rfl) ?_
  intro p e s m below meth c A Q ls X hr hlk hZ hA hQ hW hl
  have hl : lv_has ls 1 [(0, .ref (ad 0))] := hl
  have hx := X.1
  have hb := X.2.1
  obtain ⟨H, hH⟩ : ∃ H, H = s.heap := ⟨_, rfl⟩
  obtain ⟨locs, hlo⟩ : ∃ q : List Loc, q = [] := ⟨_, rfl⟩
  have hW : Wd D 43 ad (CC ad cy) A s.heap M H locs := by rw [hH, hlo]; exact hW
  suffices hh : W p l e (rmD 0) s m ([.ref (ad 0)] : List Value).toArray below meth c H locs 0 0 Q (F0 m 0 ls []) by rw [hH, hlo] at hh; exact hh
  unfold f_X1_finding at hf
  refine lv_aload_n hx hb dX1_finding_0 rfl (lv_at hl 0 rfl) ?_
  refine gf_X1_55 X hW dX1_finding_1 ?_
  exact g_iret X hr hlk hQ hW dX1_finding_4 (rd_some hf)

def f_X1_findings (v1 : Int32) (M : Mem) : Option Int32 :=
  (bR (f_X1_isWithin v1 1 5 M) (fun r3 => (if r3 = 0 then (some (-1)) else (grd (inb v1 6) (some (M.1 42 (ix v1)))))))
set_option maxHeartbeats 4000000 in
set_option maxRecDepth 100000 in
theorem c_X1_findings (l : Launch) (D : va_G) (cy : Nat → ClassId) (ad : Nat → Nat)   {v1 : Int32} {M : Mem} {r : Int32} (hf : f_X1_findings v1 M = some r) : MetX l 43 (CC ad cy) D cy ad yX1_findings cX1_findings 2 (some .int) 1 [.ref (ad 0), .int v1] M (fun A => QI r M 43 (CC ad cy) D cy ad A) := by
  refine MetX.of (own := RX1) (by decide) rfl (Nat.le_of_ble_eq_true rfl) ?_
  intro p e s m below meth c A Q ls X hr hlk hZ hA hQ hW hl
  have hl : lv_has ls 2 [(0, .ref (ad 0)), (1, .int v1)] := hl
  have hx := X.1
  have hb := X.2.1
  obtain ⟨H, hH⟩ : ∃ H, H = s.heap := ⟨_, rfl⟩
  obtain ⟨locs, hlo⟩ : ∃ q : List Loc, q = [] := ⟨_, rfl⟩
  have hW : Wd D 43 ad (CC ad cy) A s.heap M H locs := by rw [hH, hlo]; exact hW
  suffices hh : W p l e (rmD 1) s m ([.ref (ad 0), .int v1] : List Value).toArray below meth c H locs 0 0 Q (F0 m 0 ls []) by rw [hH, hlo] at hh; exact hh
  unfold f_X1_findings at hf
  refine lv_iload_n hx hb dX1_findings_0 rfl (lv_at hl 1 rfl) ?_
  refine lv_iconst (v := 1) hx hb dX1_findings_1 (by decide) ?_
  refine lv_iconst (v := 5) hx hb dX1_findings_2 (by decide) ?_
  obtain ⟨r3, h3, hf⟩ := bR_some hf
  refine g_calliS X hl.1 hZ hA hW (c_X1_isWithin l D cy ad h3) cs_X1_isWithin ql_X1_114 rfl (by decide) rfl (Nat.le_of_ble_eq_true rfl) dX1_findings_3 (fun H locs hW => ?_)
  refine lv_if_eq (tgt := 18) hx hb dX1_findings_6 (by decide) (fun hc => ?_) (fun hc => ?_)
  · replace hf := ifp hc hf
    refine lv_iconst (v := (-1)) hx hb dX1_findings_18 (by decide) ?_
    exact g_iret X hr hlk hQ hW dX1_findings_19 (rd_some hf)
  · replace hf := ifn hc hf
    refine lv_aload_n hx hb dX1_findings_9 rfl (lv_at hl 0 rfl) ?_
    refine gf_X1_52 X hW dX1_findings_10 ?_
    refine lv_iload_n hx hb dX1_findings_13 rfl (lv_at hl 1 rfl) ?_
    obtain ⟨hi14, hf⟩ := grd_some hf
    refine g_iald X hW iA_findingCounts hi14 dX1_findings_14 ?_
    refine lv_goto (tgt := 19) hx hb dX1_findings_15 (by decide) ?_
    exact g_iret X hr hlk hQ hW dX1_findings_19 (rd_some hf)

def f_X1_digest_L200 (v3_L200 : Int32) (M : Mem) (k234 : Int64 → Option Int64) : Nat → Int64 → Int32 → Option Int64
  | 0, _, _ => none
  | n + 1, v1_L200, v4_L200 => (grd (inb v3_L200 4) (if (M.1 14 (ix v3_L200)) ≤ v4_L200 then (k234 v1_L200) else (grd (inb v3_L200 4) (grd (inb v4_L200 60) (f_X1_digest_L200 v3_L200 M k234 n ((31 * v1_L200) + ((M.1 (10 + (ix v3_L200)) (ix v4_L200))).toInt64) (v4_L200 + 1))))))
def f_X1_digest_L178 (M : Mem) : Nat → Int64 → Int32 → Option Int64
  | 0, _, _ => none
  | n + 1, v1_L178, v3_L178 => (if 4 ≤ v3_L178 then (some v1_L178) else (grd (inb v3_L178 4) (jn (fun (k234 : Int64 → Option Int64) => (f_X1_digest_L200 v3_L178 M k234 FU ((31 * v1_L178) + ((M.1 14 (ix v3_L178))).toInt64) 0)) (fun (v1_234x : Int64) => (f_X1_digest_L178 M n v1_234x (v3_L178 + 1))))))
def f_X1_digest_L136 (v3_L136 : Int32) (M : Mem) (k170 : Int64 → Option Int64) : Nat → Int64 → Int32 → Option Int64
  | 0, _, _ => none
  | n + 1, v1_L136, v4_L136 => (grd (inb v3_L136 6) (if (M.1 8 (ix v3_L136)) ≤ v4_L136 then (k170 v1_L136) else (grd (inb v3_L136 6) (grd (inb v4_L136 40) (f_X1_digest_L136 v3_L136 M k170 n ((31 * v1_L136) + ((M.1 (2 + (ix v3_L136)) (ix v4_L136))).toInt64) (v4_L136 + 1))))))
def f_X1_digest_L113 (M : Mem) (k176 : Int64 → Option Int64) : Nat → Int64 → Int32 → Option Int64
  | 0, _, _ => none
  | n + 1, v1_L113, v3_L113 => (if 6 ≤ v3_L113 then (k176 v1_L113) else (grd (inb v3_L113 6) (jn (fun (k170 : Int64 → Option Int64) => (f_X1_digest_L136 v3_L113 M k170 FU ((31 * v1_L113) + ((M.1 8 (ix v3_L113))).toInt64) 0)) (fun (v1_170x : Int64) => (f_X1_digest_L113 M k176 n v1_170x (v3_L113 + 1))))))
def f_X1_digest_L86 (M : Mem) (k111 : Int64 → Option Int64) : Nat → Int64 → Int32 → Option Int64
  | 0, _, _ => none
  | n + 1, v1_L86, v3_L86 => (if 3 ≤ v3_L86 then (k111 v1_L86) else (grd (inb v3_L86 3) (f_X1_digest_L86 M k111 n ((31 * v1_L86) + ((M.1 34 (ix v3_L86))).toInt64) (v3_L86 + 1))))
def f_X1_digest_L47 (v3_L47 : Int32) (M : Mem) (k78 : Int64 → Option Int64) : Nat → Int64 → Int32 → Option Int64
  | 0, _, _ => none
  | n + 1, v1_L47, v4_L47 => (if 7 ≤ v4_L47 then (k78 v1_L47) else (bR (f_X0_fact 15 v3_L47 v4_L47 M) (fun r66 => (f_X1_digest_L47 v3_L47 M k78 n ((31 * v1_L47) + r66.toInt64) (v4_L47 + 1)))))
def f_X1_digest_L33 (M : Mem) (k84 : Int64 → Option Int64) : Nat → Int64 → Int32 → Option Int64
  | 0, _, _ => none
  | n + 1, v1_L33, v3_L33 => (if (M.1 15 6) ≤ v3_L33 then (k84 v1_L33) else (jn (fun (k78 : Int64 → Option Int64) => (f_X1_digest_L47 v3_L33 M k78 FU v1_L33 0)) (fun (v1_78x : Int64) => (f_X1_digest_L33 M k84 n v1_78x (v3_L33 + 1)))))
def f_X1_digest_L6 (M : Mem) (k31 : Int64 → Option Int64) : Nat → Int64 → Int32 → Option Int64
  | 0, _, _ => none
  | n + 1, v1_L6, v3_L6 => (if 11 ≤ v3_L6 then (k31 v1_L6) else (bR (f_X1_countOf v3_L6 M) (fun r19 => (f_X1_digest_L6 M k31 n ((31 * v1_L6) + r19.toInt64) (v3_L6 + 1)))))
def f_X1_digest (M : Mem) : Option Int64 :=
  (jn (fun (k31 : Int64 → Option Int64) => (f_X1_digest_L6 M k31 FU 17 0)) (fun (v1_31x : Int64) => (jn (fun (k84 : Int64 → Option Int64) => (f_X1_digest_L33 M k84 FU v1_31x 0)) (fun (v1_84x : Int64) => (jn (fun (k111 : Int64 → Option Int64) => (f_X1_digest_L86 M k111 FU v1_84x 0)) (fun (v1_111x : Int64) => (jn (fun (k176 : Int64 → Option Int64) => (f_X1_digest_L113 M k176 FU v1_111x 0)) (fun (v1_176x : Int64) => (f_X1_digest_L178 M FU v1_176x 0)))))))))
set_option maxHeartbeats 4000000 in
set_option maxRecDepth 100000 in
theorem c_X1_digest (l : Launch) (D : va_G) (cy : Nat → ClassId) (ad : Nat → Nat)    {M : Mem} {r : Int64} (hf : f_X1_digest M = some r) : MetX l 43 (CC ad cy) D cy ad yX1_digest cX1_digest 5 (some .long) 4 [.ref (ad 0)] M (fun A => QL r M 43 (CC ad cy) D cy ad A) := by
  refine MetX.of (own := RX1) (by decide) rfl (Nat.le_of_ble_eq_true rfl) ?_
  intro p e s m below meth c A Q ls X hr hlk hZ hA hQ hW hl
  have hl : lv_has ls 5 [(0, .ref (ad 0))] := hl
  have hx := X.1
  have hb := X.2.1
  have hL200 : ∀ (v3_L200 : Int32) (k234 : Int64 → Option Int64) (hJ234 : ∀ (v1_234x : Int64) (H : Heap) (locs : List Loc) (ls : Array Slot), k234 v1_234x = some r → Wd D 43 ad (CC ad cy) A s.heap M H locs → lv_has ls 5 [(0, .ref (ad 0)), (1, .long v1_234x), (3, .int v3_L200)] → W p l e (rmD 4) s m ([.ref (ad 0)] : List Value).toArray below meth c H locs 0 0 Q (F0 m 234 ls [])) (n : Nat) (v1_L200 : Int64) (v4_L200 : Int32) (H : Heap) (locs : List Loc) (ls : Array Slot), f_X1_digest_L200 v3_L200 M k234 n v1_L200 v4_L200 = some r → Wd D 43 ad (CC ad cy) A s.heap M H locs → lv_has ls 5 [(0, .ref (ad 0)), (1, .long v1_L200), (3, .int v3_L200), (4, .int v4_L200)] → W p l e (rmD 4) s m ([.ref (ad 0)] : List Value).toArray below meth c H locs 0 0 Q (F0 m 200 ls []) := by
    intro v3_L200 k234 hJ234 n
    induction n with
    | zero =>
      intro v1_L200 v4_L200 H locs ls hf
      cases (show (none : Option Int64) = some r from hf)
    | succ n ih =>
      intro v1_L200 v4_L200 H locs ls hf hW hl
      rw [f_X1_digest_L200] at hf
      refine lv_iload hx hb dX1_digest_200 (lv_at hl 3 rfl) ?_
      refine lv_aload_n hx hb dX1_digest_202 rfl (lv_at hl 0 rfl) ?_
      refine gf_X1_23 X hW dX1_digest_203 ?_
      refine lv_iload_n hx hb dX1_digest_206 rfl (lv_at hl 2 rfl) ?_
      obtain ⟨hi207, hf⟩ := grd_some hf
      refine g_iald X hW iA_textSizes hi207 dX1_digest_207 ?_
      refine lv_icmp_ge (tgt := 234) hx hb dX1_digest_208 (by decide) (fun hc => ?_) (fun hc => ?_)
      · replace hf := ifp hc hf
        exact hJ234 v1_L200 H locs ls hf hW (lv_sub hl [0, 1, 2] rfl)
      · replace hf := ifn hc hf
        refine lv_ldc2 (v := 31) hx hb X.2.2.2.1 (X.2.2.2.2.1 _ qk_X1_229) dX1_digest_211 ?_
        refine lv_lload_n hx hb dX1_digest_214 rfl (lv_at hl 1 rfl) ?_
        refine lv_lmul hx hb dX1_digest_215 ?_
        refine lv_aload_n hx hb dX1_digest_216 rfl (lv_at hl 0 rfl) ?_
        refine gf_X1_20 X hW dX1_digest_217 ?_
        refine lv_iload_n hx hb dX1_digest_220 rfl (lv_at hl 2 rfl) ?_
        obtain ⟨hi221, hf⟩ := grd_some hf
        refine g_aald X hW (t0 := 4) iG_texts rfl rfl hi221 dX1_digest_221 ?_
        refine lv_iload hx hb dX1_digest_222 (lv_at hl 3 rfl) ?_
        obtain ⟨hi224, hf⟩ := grd_some hf
        refine g_bald X hW (iA_texts_r (inb_lt hi221)) hi224 dX1_digest_224 ?_
        refine lv_i2l (v := ((M.1 (10 + (ix v3_L200)) (ix v4_L200))).toInt64) hx hb dX1_digest_225 rfl ?_
        refine lv_ladd hx hb dX1_digest_226 ?_
        refine lv_lstore_n (lv' := [(1, .long ((31 * v1_L200) + ((M.1 (10 + (ix v3_L200)) (ix v4_L200))).toInt64)), (0, .ref (ad 0)), (3, .int v3_L200), (4, .int v4_L200)]) hx hb dX1_digest_227 rfl hl (by decide) rfl (fun ls hl => ?_)
        refine lv_iinc (v := (v4_L200 + 1)) (lv' := [(4, .int (v4_L200 + 1)), (1, .long ((31 * v1_L200) + ((M.1 (10 + (ix v3_L200)) (ix v4_L200))).toInt64)), (0, .ref (ad 0)), (3, .int v3_L200)]) hx hb dX1_digest_228 hl (k := 3) rfl rfl (by decide) rfl (fun ls hl => ?_)
        refine lv_goto (tgt := 200) hx hb dX1_digest_231 (by decide) ?_
        exact ih ((31 * v1_L200) + ((M.1 (10 + (ix v3_L200)) (ix v4_L200))).toInt64) (v4_L200 + 1) H locs ls hf hW (lv_sub hl [2, 1, 3, 0] rfl)
  have hL178 : ∀   (n : Nat) (v1_L178 : Int64) (v3_L178 : Int32) (H : Heap) (locs : List Loc) (ls : Array Slot), f_X1_digest_L178 M n v1_L178 v3_L178 = some r → Wd D 43 ad (CC ad cy) A s.heap M H locs → lv_has ls 5 [(0, .ref (ad 0)), (1, .long v1_L178), (3, .int v3_L178)] → W p l e (rmD 4) s m ([.ref (ad 0)] : List Value).toArray below meth c H locs 0 0 Q (F0 m 178 ls []) := by
    intro  n
    induction n with
    | zero =>
      intro v1_L178 v3_L178 H locs ls hf
      cases (show (none : Option Int64) = some r from hf)
    | succ n ih =>
      intro v1_L178 v3_L178 H locs ls hf hW hl
      rw [f_X1_digest_L178] at hf
      refine lv_iload_n hx hb dX1_digest_178 rfl (lv_at hl 2 rfl) ?_
      refine lv_iconst (v := 4) hx hb dX1_digest_179 (by decide) ?_
      refine lv_icmp_ge (tgt := 240) hx hb dX1_digest_180 (by decide) (fun hc => ?_) (fun hc => ?_)
      · replace hf := ifp hc hf
        refine lv_lload_n hx hb dX1_digest_240 rfl (lv_at hl 1 rfl) ?_
        exact g_lret X hr hlk hQ hW dX1_digest_241 (rd_some hf)
      · replace hf := ifn hc hf
        refine lv_ldc2 (v := 31) hx hb X.2.2.2.1 (X.2.2.2.2.1 _ qk_X1_229) dX1_digest_183 ?_
        refine lv_lload_n hx hb dX1_digest_186 rfl (lv_at hl 1 rfl) ?_
        refine lv_lmul hx hb dX1_digest_187 ?_
        refine lv_aload_n hx hb dX1_digest_188 rfl (lv_at hl 0 rfl) ?_
        refine gf_X1_23 X hW dX1_digest_189 ?_
        refine lv_iload_n hx hb dX1_digest_192 rfl (lv_at hl 2 rfl) ?_
        obtain ⟨hi193, hf⟩ := grd_some hf
        refine g_iald X hW iA_textSizes hi193 dX1_digest_193 ?_
        refine lv_i2l (v := ((M.1 14 (ix v3_L178))).toInt64) hx hb dX1_digest_194 rfl ?_
        refine lv_ladd hx hb dX1_digest_195 ?_
        refine lv_lstore_n (lv' := [(1, .long ((31 * v1_L178) + ((M.1 14 (ix v3_L178))).toInt64)), (0, .ref (ad 0)), (3, .int v3_L178)]) hx hb dX1_digest_196 rfl hl (by decide) rfl (fun ls hl => ?_)
        refine lv_iconst (v := 0) hx hb dX1_digest_197 (by decide) ?_
        refine lv_istore (lv' := [(4, .int 0), (1, .long ((31 * v1_L178) + ((M.1 14 (ix v3_L178))).toInt64)), (0, .ref (ad 0)), (3, .int v3_L178)]) hx hb dX1_digest_198 hl (by decide) rfl (fun ls hl => ?_)
        obtain ⟨k234, hk234, hf⟩ := jn_some1 hf
        have hJ234 : ∀ (v1_234x : Int64) (H : Heap) (locs : List Loc) (ls : Array Slot), k234 v1_234x = some r → Wd D 43 ad (CC ad cy) A s.heap M H locs → lv_has ls 5 [(0, .ref (ad 0)), (1, .long v1_234x), (3, .int v3_L178)] → W p l e (rmD 4) s m ([.ref (ad 0)] : List Value).toArray below meth c H locs 0 0 Q (F0 m 234 ls []) := by
          intro v1_234x H locs ls hf hW hl
          rw [hk234] at hf
          refine lv_iinc (v := (v3_L178 + 1)) (lv' := [(3, .int (v3_L178 + 1)), (0, .ref (ad 0)), (1, .long v1_234x)]) hx hb dX1_digest_234 hl (k := 2) rfl rfl (by decide) rfl (fun ls hl => ?_)
          refine lv_goto (tgt := 178) hx hb dX1_digest_237 (by decide) ?_
          exact ih v1_234x (v3_L178 + 1) H locs ls hf hW (lv_sub hl [1, 2, 0] rfl)
        exact hL200 v3_L178 k234 hJ234 FU ((31 * v1_L178) + ((M.1 14 (ix v3_L178))).toInt64) 0 H locs ls hf hW (lv_sub hl [2, 1, 3, 0] rfl)
  have hL136 : ∀ (v3_L136 : Int32) (k170 : Int64 → Option Int64) (hJ170 : ∀ (v1_170x : Int64) (H : Heap) (locs : List Loc) (ls : Array Slot), k170 v1_170x = some r → Wd D 43 ad (CC ad cy) A s.heap M H locs → lv_has ls 5 [(0, .ref (ad 0)), (1, .long v1_170x), (3, .int v3_L136)] → W p l e (rmD 4) s m ([.ref (ad 0)] : List Value).toArray below meth c H locs 0 0 Q (F0 m 170 ls [])) (n : Nat) (v1_L136 : Int64) (v4_L136 : Int32) (H : Heap) (locs : List Loc) (ls : Array Slot), f_X1_digest_L136 v3_L136 M k170 n v1_L136 v4_L136 = some r → Wd D 43 ad (CC ad cy) A s.heap M H locs → lv_has ls 5 [(0, .ref (ad 0)), (1, .long v1_L136), (3, .int v3_L136), (4, .int v4_L136)] → W p l e (rmD 4) s m ([.ref (ad 0)] : List Value).toArray below meth c H locs 0 0 Q (F0 m 136 ls []) := by
    intro v3_L136 k170 hJ170 n
    induction n with
    | zero =>
      intro v1_L136 v4_L136 H locs ls hf
      cases (show (none : Option Int64) = some r from hf)
    | succ n ih =>
      intro v1_L136 v4_L136 H locs ls hf hW hl
      rw [f_X1_digest_L136] at hf
      refine lv_iload hx hb dX1_digest_136 (lv_at hl 3 rfl) ?_
      refine lv_aload_n hx hb dX1_digest_138 rfl (lv_at hl 0 rfl) ?_
      refine gf_X1_14 X hW dX1_digest_139 ?_
      refine lv_iload_n hx hb dX1_digest_142 rfl (lv_at hl 2 rfl) ?_
      obtain ⟨hi143, hf⟩ := grd_some hf
      refine g_iald X hW iA_rowSizes hi143 dX1_digest_143 ?_
      refine lv_icmp_ge (tgt := 170) hx hb dX1_digest_144 (by decide) (fun hc => ?_) (fun hc => ?_)
      · replace hf := ifp hc hf
        exact hJ170 v1_L136 H locs ls hf hW (lv_sub hl [0, 1, 2] rfl)
      · replace hf := ifn hc hf
        refine lv_ldc2 (v := 31) hx hb X.2.2.2.1 (X.2.2.2.2.1 _ qk_X1_229) dX1_digest_147 ?_
        refine lv_lload_n hx hb dX1_digest_150 rfl (lv_at hl 1 rfl) ?_
        refine lv_lmul hx hb dX1_digest_151 ?_
        refine lv_aload_n hx hb dX1_digest_152 rfl (lv_at hl 0 rfl) ?_
        refine gf_X1_11 X hW dX1_digest_153 ?_
        refine lv_iload_n hx hb dX1_digest_156 rfl (lv_at hl 2 rfl) ?_
        obtain ⟨hi157, hf⟩ := grd_some hf
        refine g_aald X hW (t0 := 3) iG_rows rfl rfl hi157 dX1_digest_157 ?_
        refine lv_iload hx hb dX1_digest_158 (lv_at hl 3 rfl) ?_
        obtain ⟨hi160, hf⟩ := grd_some hf
        refine g_iald X hW (iA_rows_r (inb_lt hi157)) hi160 dX1_digest_160 ?_
        refine lv_i2l (v := ((M.1 (2 + (ix v3_L136)) (ix v4_L136))).toInt64) hx hb dX1_digest_161 rfl ?_
        refine lv_ladd hx hb dX1_digest_162 ?_
        refine lv_lstore_n (lv' := [(1, .long ((31 * v1_L136) + ((M.1 (2 + (ix v3_L136)) (ix v4_L136))).toInt64)), (0, .ref (ad 0)), (3, .int v3_L136), (4, .int v4_L136)]) hx hb dX1_digest_163 rfl hl (by decide) rfl (fun ls hl => ?_)
        refine lv_iinc (v := (v4_L136 + 1)) (lv' := [(4, .int (v4_L136 + 1)), (1, .long ((31 * v1_L136) + ((M.1 (2 + (ix v3_L136)) (ix v4_L136))).toInt64)), (0, .ref (ad 0)), (3, .int v3_L136)]) hx hb dX1_digest_164 hl (k := 3) rfl rfl (by decide) rfl (fun ls hl => ?_)
        refine lv_goto (tgt := 136) hx hb dX1_digest_167 (by decide) ?_
        exact ih ((31 * v1_L136) + ((M.1 (2 + (ix v3_L136)) (ix v4_L136))).toInt64) (v4_L136 + 1) H locs ls hf hW (lv_sub hl [2, 1, 3, 0] rfl)
  have hL113 : ∀  (k176 : Int64 → Option Int64) (hJ176 : ∀ (v1_176x : Int64) (H : Heap) (locs : List Loc) (ls : Array Slot), k176 v1_176x = some r → Wd D 43 ad (CC ad cy) A s.heap M H locs → lv_has ls 5 [(0, .ref (ad 0)), (1, .long v1_176x)] → W p l e (rmD 4) s m ([.ref (ad 0)] : List Value).toArray below meth c H locs 0 0 Q (F0 m 176 ls [])) (n : Nat) (v1_L113 : Int64) (v3_L113 : Int32) (H : Heap) (locs : List Loc) (ls : Array Slot), f_X1_digest_L113 M k176 n v1_L113 v3_L113 = some r → Wd D 43 ad (CC ad cy) A s.heap M H locs → lv_has ls 5 [(0, .ref (ad 0)), (1, .long v1_L113), (3, .int v3_L113)] → W p l e (rmD 4) s m ([.ref (ad 0)] : List Value).toArray below meth c H locs 0 0 Q (F0 m 113 ls []) := by
    intro k176 hJ176 n
    induction n with
    | zero =>
      intro v1_L113 v3_L113 H locs ls hf
      cases (show (none : Option Int64) = some r from hf)
    | succ n ih =>
      intro v1_L113 v3_L113 H locs ls hf hW hl
      rw [f_X1_digest_L113] at hf
      refine lv_iload_n hx hb dX1_digest_113 rfl (lv_at hl 2 rfl) ?_
      refine lv_bipush (v := 6) hx hb dX1_digest_114 (by decide) ?_
      refine lv_icmp_ge (tgt := 176) hx hb dX1_digest_116 (by decide) (fun hc => ?_) (fun hc => ?_)
      · replace hf := ifp hc hf
        exact hJ176 v1_L113 H locs ls hf hW (lv_sub hl [0, 1] rfl)
      · replace hf := ifn hc hf
        refine lv_ldc2 (v := 31) hx hb X.2.2.2.1 (X.2.2.2.2.1 _ qk_X1_229) dX1_digest_119 ?_
        refine lv_lload_n hx hb dX1_digest_122 rfl (lv_at hl 1 rfl) ?_
        refine lv_lmul hx hb dX1_digest_123 ?_
        refine lv_aload_n hx hb dX1_digest_124 rfl (lv_at hl 0 rfl) ?_
        refine gf_X1_14 X hW dX1_digest_125 ?_
        refine lv_iload_n hx hb dX1_digest_128 rfl (lv_at hl 2 rfl) ?_
        obtain ⟨hi129, hf⟩ := grd_some hf
        refine g_iald X hW iA_rowSizes hi129 dX1_digest_129 ?_
        refine lv_i2l (v := ((M.1 8 (ix v3_L113))).toInt64) hx hb dX1_digest_130 rfl ?_
        refine lv_ladd hx hb dX1_digest_131 ?_
        refine lv_lstore_n (lv' := [(1, .long ((31 * v1_L113) + ((M.1 8 (ix v3_L113))).toInt64)), (0, .ref (ad 0)), (3, .int v3_L113)]) hx hb dX1_digest_132 rfl hl (by decide) rfl (fun ls hl => ?_)
        refine lv_iconst (v := 0) hx hb dX1_digest_133 (by decide) ?_
        refine lv_istore (lv' := [(4, .int 0), (1, .long ((31 * v1_L113) + ((M.1 8 (ix v3_L113))).toInt64)), (0, .ref (ad 0)), (3, .int v3_L113)]) hx hb dX1_digest_134 hl (by decide) rfl (fun ls hl => ?_)
        obtain ⟨k170, hk170, hf⟩ := jn_some1 hf
        have hJ170 : ∀ (v1_170x : Int64) (H : Heap) (locs : List Loc) (ls : Array Slot), k170 v1_170x = some r → Wd D 43 ad (CC ad cy) A s.heap M H locs → lv_has ls 5 [(0, .ref (ad 0)), (1, .long v1_170x), (3, .int v3_L113)] → W p l e (rmD 4) s m ([.ref (ad 0)] : List Value).toArray below meth c H locs 0 0 Q (F0 m 170 ls []) := by
          intro v1_170x H locs ls hf hW hl
          rw [hk170] at hf
          refine lv_iinc (v := (v3_L113 + 1)) (lv' := [(3, .int (v3_L113 + 1)), (0, .ref (ad 0)), (1, .long v1_170x)]) hx hb dX1_digest_170 hl (k := 2) rfl rfl (by decide) rfl (fun ls hl => ?_)
          refine lv_goto (tgt := 113) hx hb dX1_digest_173 (by decide) ?_
          exact ih v1_170x (v3_L113 + 1) H locs ls hf hW (lv_sub hl [1, 2, 0] rfl)
        exact hL136 v3_L113 k170 hJ170 FU ((31 * v1_L113) + ((M.1 8 (ix v3_L113))).toInt64) 0 H locs ls hf hW (lv_sub hl [2, 1, 3, 0] rfl)
  have hL86 : ∀  (k111 : Int64 → Option Int64) (hJ111 : ∀ (v1_111x : Int64) (H : Heap) (locs : List Loc) (ls : Array Slot), k111 v1_111x = some r → Wd D 43 ad (CC ad cy) A s.heap M H locs → lv_has ls 5 [(0, .ref (ad 0)), (1, .long v1_111x)] → W p l e (rmD 4) s m ([.ref (ad 0)] : List Value).toArray below meth c H locs 0 0 Q (F0 m 111 ls [])) (n : Nat) (v1_L86 : Int64) (v3_L86 : Int32) (H : Heap) (locs : List Loc) (ls : Array Slot), f_X1_digest_L86 M k111 n v1_L86 v3_L86 = some r → Wd D 43 ad (CC ad cy) A s.heap M H locs → lv_has ls 5 [(0, .ref (ad 0)), (1, .long v1_L86), (3, .int v3_L86)] → W p l e (rmD 4) s m ([.ref (ad 0)] : List Value).toArray below meth c H locs 0 0 Q (F0 m 86 ls []) := by
    intro k111 hJ111 n
    induction n with
    | zero =>
      intro v1_L86 v3_L86 H locs ls hf
      cases (show (none : Option Int64) = some r from hf)
    | succ n ih =>
      intro v1_L86 v3_L86 H locs ls hf hW hl
      rw [f_X1_digest_L86] at hf
      refine lv_iload_n hx hb dX1_digest_86 rfl (lv_at hl 2 rfl) ?_
      refine lv_iconst (v := 3) hx hb dX1_digest_87 (by decide) ?_
      refine lv_icmp_ge (tgt := 111) hx hb dX1_digest_88 (by decide) (fun hc => ?_) (fun hc => ?_)
      · replace hf := ifp hc hf
        exact hJ111 v1_L86 H locs ls hf hW (lv_sub hl [0, 1] rfl)
      · replace hf := ifn hc hf
        refine lv_ldc2 (v := 31) hx hb X.2.2.2.1 (X.2.2.2.2.1 _ qk_X1_229) dX1_digest_91 ?_
        refine lv_lload_n hx hb dX1_digest_94 rfl (lv_at hl 1 rfl) ?_
        refine lv_lmul hx hb dX1_digest_95 ?_
        refine lv_aload_n hx hb dX1_digest_96 rfl (lv_at hl 0 rfl) ?_
        refine gf_X1_46 X hW dX1_digest_97 ?_
        refine lv_iload_n hx hb dX1_digest_100 rfl (lv_at hl 2 rfl) ?_
        obtain ⟨hi101, hf⟩ := grd_some hf
        refine g_iald X hW iA_keptSizes hi101 dX1_digest_101 ?_
        refine lv_i2l (v := ((M.1 34 (ix v3_L86))).toInt64) hx hb dX1_digest_102 rfl ?_
        refine lv_ladd hx hb dX1_digest_103 ?_
        refine lv_lstore_n (lv' := [(1, .long ((31 * v1_L86) + ((M.1 34 (ix v3_L86))).toInt64)), (0, .ref (ad 0)), (3, .int v3_L86)]) hx hb dX1_digest_104 rfl hl (by decide) rfl (fun ls hl => ?_)
        refine lv_iinc (v := (v3_L86 + 1)) (lv' := [(3, .int (v3_L86 + 1)), (1, .long ((31 * v1_L86) + ((M.1 34 (ix v3_L86))).toInt64)), (0, .ref (ad 0))]) hx hb dX1_digest_105 hl (k := 2) rfl rfl (by decide) rfl (fun ls hl => ?_)
        refine lv_goto (tgt := 86) hx hb dX1_digest_108 (by decide) ?_
        exact ih ((31 * v1_L86) + ((M.1 34 (ix v3_L86))).toInt64) (v3_L86 + 1) H locs ls hf hW (lv_sub hl [2, 1, 0] rfl)
  have hL47 : ∀ (v3_L47 : Int32) (k78 : Int64 → Option Int64) (hJ78 : ∀ (v1_78x : Int64) (H : Heap) (locs : List Loc) (ls : Array Slot), k78 v1_78x = some r → Wd D 43 ad (CC ad cy) A s.heap M H locs → lv_has ls 5 [(0, .ref (ad 0)), (1, .long v1_78x), (3, .int v3_L47)] → W p l e (rmD 4) s m ([.ref (ad 0)] : List Value).toArray below meth c H locs 0 0 Q (F0 m 78 ls [])) (n : Nat) (v1_L47 : Int64) (v4_L47 : Int32) (H : Heap) (locs : List Loc) (ls : Array Slot), f_X1_digest_L47 v3_L47 M k78 n v1_L47 v4_L47 = some r → Wd D 43 ad (CC ad cy) A s.heap M H locs → lv_has ls 5 [(0, .ref (ad 0)), (1, .long v1_L47), (3, .int v3_L47), (4, .int v4_L47)] → W p l e (rmD 4) s m ([.ref (ad 0)] : List Value).toArray below meth c H locs 0 0 Q (F0 m 47 ls []) := by
    intro v3_L47 k78 hJ78 n
    induction n with
    | zero =>
      intro v1_L47 v4_L47 H locs ls hf
      cases (show (none : Option Int64) = some r from hf)
    | succ n ih =>
      intro v1_L47 v4_L47 H locs ls hf hW hl
      rw [f_X1_digest_L47] at hf
      refine lv_iload hx hb dX1_digest_47 (lv_at hl 3 rfl) ?_
      refine lv_bipush (v := 7) hx hb dX1_digest_49 (by decide) ?_
      refine lv_icmp_ge (tgt := 78) hx hb dX1_digest_51 (by decide) (fun hc => ?_) (fun hc => ?_)
      · replace hf := ifp hc hf
        exact hJ78 v1_L47 H locs ls hf hW (lv_sub hl [0, 1, 2] rfl)
      · replace hf := ifn hc hf
        refine lv_ldc2 (v := 31) hx hb X.2.2.2.1 (X.2.2.2.2.1 _ qk_X1_229) dX1_digest_54 ?_
        refine lv_lload_n hx hb dX1_digest_57 rfl (lv_at hl 1 rfl) ?_
        refine lv_lmul hx hb dX1_digest_58 ?_
        refine lv_aload_n hx hb dX1_digest_59 rfl (lv_at hl 0 rfl) ?_
        refine gf_X1_29 X hW dX1_digest_60 ?_
        refine lv_iload_n hx hb dX1_digest_63 rfl (lv_at hl 2 rfl) ?_
        refine lv_iload hx hb dX1_digest_64 (lv_at hl 3 rfl) ?_
        obtain ⟨r66, h66, hf⟩ := bR_some hf
        refine g_calliN (host := "TubeWords") X hl.1 hZ hA hW (c_X0_fact l D cy ad isSt15 h66) cw_X0_fact (by decide +kernel) (iO_st isSt15) rfl (by decide) rfl (Nat.le_of_ble_eq_true rfl) dX1_digest_66 (fun H locs hW => ?_)
        refine lv_i2l (v := r66.toInt64) hx hb dX1_digest_69 rfl ?_
        refine lv_ladd hx hb dX1_digest_70 ?_
        refine lv_lstore_n (lv' := [(1, .long ((31 * v1_L47) + r66.toInt64)), (0, .ref (ad 0)), (3, .int v3_L47), (4, .int v4_L47)]) hx hb dX1_digest_71 rfl hl (by decide) rfl (fun ls hl => ?_)
        refine lv_iinc (v := (v4_L47 + 1)) (lv' := [(4, .int (v4_L47 + 1)), (1, .long ((31 * v1_L47) + r66.toInt64)), (0, .ref (ad 0)), (3, .int v3_L47)]) hx hb dX1_digest_72 hl (k := 3) rfl rfl (by decide) rfl (fun ls hl => ?_)
        refine lv_goto (tgt := 47) hx hb dX1_digest_75 (by decide) ?_
        exact ih ((31 * v1_L47) + r66.toInt64) (v4_L47 + 1) H locs ls hf hW (lv_sub hl [2, 1, 3, 0] rfl)
  have hL33 : ∀  (k84 : Int64 → Option Int64) (hJ84 : ∀ (v1_84x : Int64) (H : Heap) (locs : List Loc) (ls : Array Slot), k84 v1_84x = some r → Wd D 43 ad (CC ad cy) A s.heap M H locs → lv_has ls 5 [(0, .ref (ad 0)), (1, .long v1_84x)] → W p l e (rmD 4) s m ([.ref (ad 0)] : List Value).toArray below meth c H locs 0 0 Q (F0 m 84 ls [])) (n : Nat) (v1_L33 : Int64) (v3_L33 : Int32) (H : Heap) (locs : List Loc) (ls : Array Slot), f_X1_digest_L33 M k84 n v1_L33 v3_L33 = some r → Wd D 43 ad (CC ad cy) A s.heap M H locs → lv_has ls 5 [(0, .ref (ad 0)), (1, .long v1_L33), (3, .int v3_L33)] → W p l e (rmD 4) s m ([.ref (ad 0)] : List Value).toArray below meth c H locs 0 0 Q (F0 m 33 ls []) := by
    intro k84 hJ84 n
    induction n with
    | zero =>
      intro v1_L33 v3_L33 H locs ls hf
      cases (show (none : Option Int64) = some r from hf)
    | succ n ih =>
      intro v1_L33 v3_L33 H locs ls hf hW hl
      rw [f_X1_digest_L33] at hf
      refine lv_iload_n hx hb dX1_digest_33 rfl (lv_at hl 2 rfl) ?_
      refine lv_aload_n hx hb dX1_digest_34 rfl (lv_at hl 0 rfl) ?_
      refine gf_X1_29 X hW dX1_digest_35 ?_
      refine gf_X1_108 isSt15 X hW dX1_digest_38 ?_
      refine lv_icmp_ge (tgt := 84) hx hb dX1_digest_41 (by decide) (fun hc => ?_) (fun hc => ?_)
      · replace hf := ifp hc hf
        exact hJ84 v1_L33 H locs ls hf hW (lv_sub hl [0, 1] rfl)
      · replace hf := ifn hc hf
        refine lv_iconst (v := 0) hx hb dX1_digest_44 (by decide) ?_
        refine lv_istore (lv' := [(4, .int 0), (0, .ref (ad 0)), (1, .long v1_L33), (3, .int v3_L33)]) hx hb dX1_digest_45 hl (by decide) rfl (fun ls hl => ?_)
        obtain ⟨k78, hk78, hf⟩ := jn_some1 hf
        have hJ78 : ∀ (v1_78x : Int64) (H : Heap) (locs : List Loc) (ls : Array Slot), k78 v1_78x = some r → Wd D 43 ad (CC ad cy) A s.heap M H locs → lv_has ls 5 [(0, .ref (ad 0)), (1, .long v1_78x), (3, .int v3_L33)] → W p l e (rmD 4) s m ([.ref (ad 0)] : List Value).toArray below meth c H locs 0 0 Q (F0 m 78 ls []) := by
          intro v1_78x H locs ls hf hW hl
          rw [hk78] at hf
          refine lv_iinc (v := (v3_L33 + 1)) (lv' := [(3, .int (v3_L33 + 1)), (0, .ref (ad 0)), (1, .long v1_78x)]) hx hb dX1_digest_78 hl (k := 2) rfl rfl (by decide) rfl (fun ls hl => ?_)
          refine lv_goto (tgt := 33) hx hb dX1_digest_81 (by decide) ?_
          exact ih v1_78x (v3_L33 + 1) H locs ls hf hW (lv_sub hl [1, 2, 0] rfl)
        exact hL47 v3_L33 k78 hJ78 FU v1_L33 0 H locs ls hf hW (lv_sub hl [1, 2, 3, 0] rfl)
  have hL6 : ∀  (k31 : Int64 → Option Int64) (hJ31 : ∀ (v1_31x : Int64) (H : Heap) (locs : List Loc) (ls : Array Slot), k31 v1_31x = some r → Wd D 43 ad (CC ad cy) A s.heap M H locs → lv_has ls 5 [(0, .ref (ad 0)), (1, .long v1_31x)] → W p l e (rmD 4) s m ([.ref (ad 0)] : List Value).toArray below meth c H locs 0 0 Q (F0 m 31 ls [])) (n : Nat) (v1_L6 : Int64) (v3_L6 : Int32) (H : Heap) (locs : List Loc) (ls : Array Slot), f_X1_digest_L6 M k31 n v1_L6 v3_L6 = some r → Wd D 43 ad (CC ad cy) A s.heap M H locs → lv_has ls 5 [(0, .ref (ad 0)), (1, .long v1_L6), (3, .int v3_L6)] → W p l e (rmD 4) s m ([.ref (ad 0)] : List Value).toArray below meth c H locs 0 0 Q (F0 m 6 ls []) := by
    intro k31 hJ31 n
    induction n with
    | zero =>
      intro v1_L6 v3_L6 H locs ls hf
      cases (show (none : Option Int64) = some r from hf)
    | succ n ih =>
      intro v1_L6 v3_L6 H locs ls hf hW hl
      rw [f_X1_digest_L6] at hf
      refine lv_iload_n hx hb dX1_digest_6 rfl (lv_at hl 2 rfl) ?_
      refine lv_bipush (v := 11) hx hb dX1_digest_7 (by decide) ?_
      refine lv_icmp_ge (tgt := 31) hx hb dX1_digest_9 (by decide) (fun hc => ?_) (fun hc => ?_)
      · replace hf := ifp hc hf
        exact hJ31 v1_L6 H locs ls hf hW (lv_sub hl [0, 1] rfl)
      · replace hf := ifn hc hf
        refine lv_ldc2 (v := 31) hx hb X.2.2.2.1 (X.2.2.2.2.1 _ qk_X1_229) dX1_digest_12 ?_
        refine lv_lload_n hx hb dX1_digest_15 rfl (lv_at hl 1 rfl) ?_
        refine lv_lmul hx hb dX1_digest_16 ?_
        refine lv_aload_n hx hb dX1_digest_17 rfl (lv_at hl 0 rfl) ?_
        refine lv_iload_n hx hb dX1_digest_18 rfl (lv_at hl 2 rfl) ?_
        obtain ⟨r19, h19, hf⟩ := bR_some hf
        refine g_calliV X hl.1 hZ hA hW (c_X1_countOf l D cy ad h19) cw_X1_countOf ql_X1_224 iO_X1 rfl (by decide) rfl (Nat.le_of_ble_eq_true rfl) dX1_digest_19 (fun H locs hW => ?_)
        refine lv_i2l (v := r19.toInt64) hx hb dX1_digest_22 rfl ?_
        refine lv_ladd hx hb dX1_digest_23 ?_
        refine lv_lstore_n (lv' := [(1, .long ((31 * v1_L6) + r19.toInt64)), (0, .ref (ad 0)), (3, .int v3_L6)]) hx hb dX1_digest_24 rfl hl (by decide) rfl (fun ls hl => ?_)
        refine lv_iinc (v := (v3_L6 + 1)) (lv' := [(3, .int (v3_L6 + 1)), (1, .long ((31 * v1_L6) + r19.toInt64)), (0, .ref (ad 0))]) hx hb dX1_digest_25 hl (k := 2) rfl rfl (by decide) rfl (fun ls hl => ?_)
        refine lv_goto (tgt := 6) hx hb dX1_digest_28 (by decide) ?_
        exact ih ((31 * v1_L6) + r19.toInt64) (v3_L6 + 1) H locs ls hf hW (lv_sub hl [2, 1, 0] rfl)
  obtain ⟨H, hH⟩ : ∃ H, H = s.heap := ⟨_, rfl⟩
  obtain ⟨locs, hlo⟩ : ∃ q : List Loc, q = [] := ⟨_, rfl⟩
  have hW : Wd D 43 ad (CC ad cy) A s.heap M H locs := by rw [hH, hlo]; exact hW
  suffices hh : W p l e (rmD 4) s m ([.ref (ad 0)] : List Value).toArray below meth c H locs 0 0 Q (F0 m 0 ls []) by rw [hH, hlo] at hh; exact hh
  unfold f_X1_digest at hf
  refine lv_ldc2 (v := 17) hx hb X.2.2.2.1 (X.2.2.2.2.1 _ qk_X1_227) dX1_digest_0 ?_
  refine lv_lstore_n (lv' := [(1, .long 17), (0, .ref (ad 0))]) hx hb dX1_digest_3 rfl hl (by decide) rfl (fun ls hl => ?_)
  refine lv_iconst (v := 0) hx hb dX1_digest_4 (by decide) ?_
  refine lv_istore_n (lv' := [(3, .int 0), (1, .long 17), (0, .ref (ad 0))]) hx hb dX1_digest_5 rfl hl (by decide) rfl (fun ls hl => ?_)
  obtain ⟨k31, hk31, hf⟩ := jn_some1 hf
  have hJ31 : ∀ (v1_31x : Int64) (H : Heap) (locs : List Loc) (ls : Array Slot), k31 v1_31x = some r → Wd D 43 ad (CC ad cy) A s.heap M H locs → lv_has ls 5 [(0, .ref (ad 0)), (1, .long v1_31x)] → W p l e (rmD 4) s m ([.ref (ad 0)] : List Value).toArray below meth c H locs 0 0 Q (F0 m 31 ls []) := by
    intro v1_31x H locs ls hf hW hl
    rw [hk31] at hf
    refine lv_iconst (v := 0) hx hb dX1_digest_31 (by decide) ?_
    refine lv_istore_n (lv' := [(3, .int 0), (0, .ref (ad 0)), (1, .long v1_31x)]) hx hb dX1_digest_32 rfl hl (by decide) rfl (fun ls hl => ?_)
    obtain ⟨k84, hk84, hf⟩ := jn_some1 hf
    have hJ84 : ∀ (v1_84x : Int64) (H : Heap) (locs : List Loc) (ls : Array Slot), k84 v1_84x = some r → Wd D 43 ad (CC ad cy) A s.heap M H locs → lv_has ls 5 [(0, .ref (ad 0)), (1, .long v1_84x)] → W p l e (rmD 4) s m ([.ref (ad 0)] : List Value).toArray below meth c H locs 0 0 Q (F0 m 84 ls []) := by
      intro v1_84x H locs ls hf hW hl
      rw [hk84] at hf
      refine lv_iconst (v := 0) hx hb dX1_digest_84 (by decide) ?_
      refine lv_istore_n (lv' := [(3, .int 0), (0, .ref (ad 0)), (1, .long v1_84x)]) hx hb dX1_digest_85 rfl hl (by decide) rfl (fun ls hl => ?_)
      obtain ⟨k111, hk111, hf⟩ := jn_some1 hf
      have hJ111 : ∀ (v1_111x : Int64) (H : Heap) (locs : List Loc) (ls : Array Slot), k111 v1_111x = some r → Wd D 43 ad (CC ad cy) A s.heap M H locs → lv_has ls 5 [(0, .ref (ad 0)), (1, .long v1_111x)] → W p l e (rmD 4) s m ([.ref (ad 0)] : List Value).toArray below meth c H locs 0 0 Q (F0 m 111 ls []) := by
        intro v1_111x H locs ls hf hW hl
        rw [hk111] at hf
        refine lv_iconst (v := 0) hx hb dX1_digest_111 (by decide) ?_
        refine lv_istore_n (lv' := [(3, .int 0), (0, .ref (ad 0)), (1, .long v1_111x)]) hx hb dX1_digest_112 rfl hl (by decide) rfl (fun ls hl => ?_)
        obtain ⟨k176, hk176, hf⟩ := jn_some1 hf
        have hJ176 : ∀ (v1_176x : Int64) (H : Heap) (locs : List Loc) (ls : Array Slot), k176 v1_176x = some r → Wd D 43 ad (CC ad cy) A s.heap M H locs → lv_has ls 5 [(0, .ref (ad 0)), (1, .long v1_176x)] → W p l e (rmD 4) s m ([.ref (ad 0)] : List Value).toArray below meth c H locs 0 0 Q (F0 m 176 ls []) := by
          intro v1_176x H locs ls hf hW hl
          rw [hk176] at hf
          refine lv_iconst (v := 0) hx hb dX1_digest_176 (by decide) ?_
          refine lv_istore_n (lv' := [(3, .int 0), (0, .ref (ad 0)), (1, .long v1_176x)]) hx hb dX1_digest_177 rfl hl (by decide) rfl (fun ls hl => ?_)
          exact hL178  FU v1_176x 0 H locs ls hf hW (lv_sub hl [1, 2, 0] rfl)
        exact hL113 k176 hJ176 FU v1_111x 0 H locs ls hf hW (lv_sub hl [1, 2, 0] rfl)
      exact hL86 k111 hJ111 FU v1_84x 0 H locs ls hf hW (lv_sub hl [1, 2, 0] rfl)
    exact hL33 k84 hJ84 FU v1_31x 0 H locs ls hf hW (lv_sub hl [1, 2, 0] rfl)
  exact hL6 k31 hJ31 FU 17 0 H locs ls hf hW (lv_sub hl [2, 1, 0] rfl)
