/-! walks, by program out of the listing: 24.walk_X1c -/
def f_X1_round_L34 (k74 : Int32 → Int32 → Mem → Option (Int32 × Mem)) : Nat → Int32 → Int32 → Mem → Option (Int32 × Mem)
  | 0, _, _, _ => none
  | n + 1, v1_L34, v2_L34, M_L34 => (if 120 < v2_L34 then (some ((-9), M_L34)) else (bR (f_X0_goOn 22 1 M_L34) (fun M45 => (bR (f_X0_pulses 22 M45) (fun r53 => (bR (f_X0_hasWordsOf 22 15 M45) (fun r68 => (if r68 = 0 then (f_X1_round_L34 k74 n (mnI v1_L34 r53) (v2_L34 + 1) M45) else (k74 (mnI v1_L34 r53) v2_L34 M45)))))))))
def f_X1_round (M : Mem) : Option (Int32 × Mem) :=
  (if (M.1 15 6) = 0 then (some ((-4), M)) else (bR (f_X0_takeFrom 22 15 M) (fun M21 => (bR (f_X0_pulses 22 M21) (fun r28 => (jn (fun (k74 : Int32 → Int32 → Mem → Option (Int32 × Mem)) => (f_X1_round_L34 k74 FU r28 1 M21)) (fun (v1_74x : Int32) (v2_74x : Int32) (M_74x : Mem) => (lt (sI M_74x 0 13 v1_74x) (fun M76 => (some (v2_74x, M76)))))))))))
set_option maxHeartbeats 4000000 in
set_option maxRecDepth 100000 in
theorem c_X1_round (l : Launch) (D : va_G) (cy : Nat → ClassId) (ad : Nat → Nat)    {M M' : Mem} {r : Int32} (hf : f_X1_round M = some (r, M')) : MetX l 43 (CC ad cy) D cy ad yX1_round cX1_round 3 (some .int) 4 [.ref (ad 0)] M (fun A => QI r M' 43 (CC ad cy) D cy ad A) := by
  refine MetX.of (own := RX1) (by decide) rfl (Nat.le_of_ble_eq_true rfl) ?_
  intro p e s m below meth c A Q ls X hr hlk hZ hA hQ hW hl
  have hl : lv_has ls 3 [(0, .ref (ad 0))] := hl
  have hx := X.1
  have hb := X.2.1
  have hL34 : ∀  (k74 : Int32 → Int32 → Mem → Option (Int32 × Mem)) (hJ74 : ∀ (v1_74x : Int32) (v2_74x : Int32) (M_74x : Mem) (H : Heap) (locs : List Loc) (ls : Array Slot), k74 v1_74x v2_74x M_74x = some (r, M') → Wd D 43 ad (CC ad cy) A s.heap M_74x H locs → lv_has ls 3 [(0, .ref (ad 0)), (1, .int v1_74x), (2, .int v2_74x)] → W p l e (rmD 4) s m ([.ref (ad 0)] : List Value).toArray below meth c H locs 0 0 Q (F0 m 74 ls [])) (n : Nat) (v1_L34 : Int32) (v2_L34 : Int32) (M_L34 : Mem) (H : Heap) (locs : List Loc) (ls : Array Slot), f_X1_round_L34 k74 n v1_L34 v2_L34 M_L34 = some (r, M') → Wd D 43 ad (CC ad cy) A s.heap M_L34 H locs → lv_has ls 3 [(0, .ref (ad 0)), (1, .int v1_L34), (2, .int v2_L34)] → W p l e (rmD 4) s m ([.ref (ad 0)] : List Value).toArray below meth c H locs 0 0 Q (F0 m 34 ls []) := by
    intro k74 hJ74 n
    induction n with
    | zero =>
      intro v1_L34 v2_L34 M_L34 H locs ls hf
      cases (show (none : Option (Int32 × Mem)) = some (r, M') from hf)
    | succ n ih =>
      intro v1_L34 v2_L34 M_L34 H locs ls hf hW hl
      rw [f_X1_round_L34] at hf
      refine lv_iload_n hx hb dX1_round_34 rfl (lv_at hl 2 rfl) ?_
      refine lv_bipush (v := 120) hx hb dX1_round_35 (by decide) ?_
      refine lv_icmp_gt (tgt := 87) hx hb dX1_round_37 (by decide) (fun hc => ?_) (fun hc => ?_)
      · replace hf := ifp hc hf
        refine lv_bipush (v := (-9)) hx hb dX1_round_87 (by decide) ?_
        exact g_iret X hr hlk hQ hW dX1_round_89 hf
      · replace hf := ifn hc hf
        refine lv_aload_n hx hb dX1_round_40 rfl (lv_at hl 0 rfl) ?_
        refine gf_X1_33 X hW dX1_round_41 ?_
        refine lv_iconst (v := 1) hx hb dX1_round_44 (by decide) ?_
        obtain ⟨M45, h45, hf⟩ := bR_some hf
        refine g_callvN (host := "TubeWords") X hl.1 hZ hA hW (c_X0_goOn l D cy ad isSt22 h45) cw_X0_goOn (by decide +kernel) (iO_st isSt22) rfl (by decide) rfl (Nat.le_of_ble_eq_true rfl) dX1_round_45 (fun H locs hW => ?_)
        refine lv_iload_n hx hb dX1_round_48 rfl (lv_at hl 1 rfl) ?_
        refine lv_aload_n hx hb dX1_round_49 rfl (lv_at hl 0 rfl) ?_
        refine gf_X1_33 X hW dX1_round_50 ?_
        obtain ⟨r53, h53, hf⟩ := bR_some hf
        refine g_calliN (host := "TubeWords") X hl.1 hZ hA hW (c_X0_pulses l D cy ad isSt22 h53) cw_X0_pulses (by decide +kernel) (iO_st isSt22) rfl (by decide) rfl (Nat.le_of_ble_eq_true rfl) dX1_round_53 (fun H locs hW => ?_)
        refine r_min X hl.1 ql_X1_169 (by decide) (Nat.le_of_ble_eq_true rfl) dX1_round_56 ?_
        refine lv_istore_n (lv' := [(1, .int (mnI v1_L34 r53)), (0, .ref (ad 0)), (2, .int v2_L34)]) hx hb dX1_round_59 rfl hl (by decide) rfl (fun ls hl => ?_)
        refine lv_aload_n hx hb dX1_round_60 rfl (lv_at hl 1 rfl) ?_
        refine gf_X1_33 X hW dX1_round_61 ?_
        refine lv_aload_n hx hb dX1_round_64 rfl (lv_at hl 1 rfl) ?_
        refine gf_X1_29 X hW dX1_round_65 ?_
        obtain ⟨r68, h68, hf⟩ := bR_some hf
        refine g_calliN (host := "TubeWords") X hl.1 hZ hA hW (c_X0_hasWordsOf l D cy ad isSt22 isSt15 h68) cw_X0_hasWordsOf (by decide +kernel) (iO_st isSt22) rfl (by decide) rfl (Nat.le_of_ble_eq_true rfl) dX1_round_68 (fun H locs hW => ?_)
        refine lv_if_eq (tgt := 81) hx hb dX1_round_71 (by decide) (fun hc => ?_) (fun hc => ?_)
        · replace hf := ifp hc hf
          refine lv_iinc (v := (v2_L34 + 1)) (lv' := [(2, .int (v2_L34 + 1)), (1, .int (mnI v1_L34 r53)), (0, .ref (ad 0))]) hx hb dX1_round_81 hl (k := 2) rfl rfl (by decide) rfl (fun ls hl => ?_)
          refine lv_goto (tgt := 34) hx hb dX1_round_84 (by decide) ?_
          exact ih (mnI v1_L34 r53) (v2_L34 + 1) M45 H locs ls hf hW (lv_sub hl [2, 1, 0] rfl)
        · replace hf := ifn hc hf
          exact hJ74 (mnI v1_L34 r53) v2_L34 M45 H locs ls hf hW (lv_sub hl [1, 0, 2] rfl)
  obtain ⟨H, hH⟩ : ∃ H, H = s.heap := ⟨_, rfl⟩
  obtain ⟨locs, hlo⟩ : ∃ q : List Loc, q = [] := ⟨_, rfl⟩
  have hW : Wd D 43 ad (CC ad cy) A s.heap M H locs := by rw [hH, hlo]; exact hW
  suffices hh : W p l e (rmD 4) s m ([.ref (ad 0)] : List Value).toArray below meth c H locs 0 0 Q (F0 m 0 ls []) by rw [hH, hlo] at hh; exact hh
  unfold f_X1_round at hf
  refine lv_aload_n hx hb dX1_round_0 rfl (lv_at hl 0 rfl) ?_
  refine gf_X1_29 X hW dX1_round_1 ?_
  refine gf_X1_108 isSt15 X hW dX1_round_4 ?_
  refine lv_if_ne (tgt := 13) hx hb dX1_round_7 (by decide) (fun hc => ?_) (fun hc => ?_)
  · replace hf := ifn hc hf
    refine lv_aload_n hx hb dX1_round_13 rfl (lv_at hl 0 rfl) ?_
    refine gf_X1_33 X hW dX1_round_14 ?_
    refine lv_aload_n hx hb dX1_round_17 rfl (lv_at hl 0 rfl) ?_
    refine gf_X1_29 X hW dX1_round_18 ?_
    obtain ⟨M21, h21, hf⟩ := bR_some hf
    refine g_callvN (host := "TubeWords") X hl.1 hZ hA hW (c_X0_takeFrom l D cy ad isSt22 isSt15 h21) cw_X0_takeFrom (by decide +kernel) (iO_st isSt22) rfl (by decide) rfl (Nat.le_of_ble_eq_true rfl) dX1_round_21 (fun H locs hW => ?_)
    refine lv_aload_n hx hb dX1_round_24 rfl (lv_at hl 0 rfl) ?_
    refine gf_X1_33 X hW dX1_round_25 ?_
    obtain ⟨r28, h28, hf⟩ := bR_some hf
    refine g_calliN (host := "TubeWords") X hl.1 hZ hA hW (c_X0_pulses l D cy ad isSt22 h28) cw_X0_pulses (by decide +kernel) (iO_st isSt22) rfl (by decide) rfl (Nat.le_of_ble_eq_true rfl) dX1_round_28 (fun H locs hW => ?_)
    refine lv_istore_n (lv' := [(1, .int r28), (0, .ref (ad 0))]) hx hb dX1_round_31 rfl hl (by decide) rfl (fun ls hl => ?_)
    refine lv_iconst (v := 1) hx hb dX1_round_32 (by decide) ?_
    refine lv_istore_n (lv' := [(2, .int 1), (1, .int r28), (0, .ref (ad 0))]) hx hb dX1_round_33 rfl hl (by decide) rfl (fun ls hl => ?_)
    obtain ⟨k74, hk74, hf⟩ := jn_some3 hf
    have hJ74 : ∀ (v1_74x : Int32) (v2_74x : Int32) (M_74x : Mem) (H : Heap) (locs : List Loc) (ls : Array Slot), k74 v1_74x v2_74x M_74x = some (r, M') → Wd D 43 ad (CC ad cy) A s.heap M_74x H locs → lv_has ls 3 [(0, .ref (ad 0)), (1, .int v1_74x), (2, .int v2_74x)] → W p l e (rmD 4) s m ([.ref (ad 0)] : List Value).toArray below meth c H locs 0 0 Q (F0 m 74 ls []) := by
      intro v1_74x v2_74x M_74x H locs ls hf hW hl
      rw [hk74] at hf
      refine lv_aload_n hx hb dX1_round_74 rfl (lv_at hl 0 rfl) ?_
      refine lv_iload_n hx hb dX1_round_75 rfl (lv_at hl 1 rfl) ?_
      refine gp_X1_58 X hW dX1_round_76 (fun H locs hW => ?_)
      obtain ⟨M76, e76, hf⟩ := lt_some hf
      have hW : Wd D 43 ad (CC ad cy) A s.heap M76 H locs := by rw [e76]; exact hW
      refine lv_iload_n hx hb dX1_round_79 rfl (lv_at hl 2 rfl) ?_
      exact g_iret X hr hlk hQ hW dX1_round_80 hf
    exact hL34 k74 hJ74 FU r28 1 M21 H locs ls hf hW (lv_sub hl [2, 1, 0] rfl)
  · replace hf := ifp hc hf
    refine lv_bipush (v := (-4)) hx hb dX1_round_10 (by decide) ?_
    exact g_iret X hr hlk hQ hW dX1_round_12 hf

def f_X1_left (v1 : Int32) (M : Mem) : Option (Int32 × Mem) :=
  (bR (f_X1_isWithin v1 0 60 M) (fun r4 => (if r4 = 0 then (some ((-1), M)) else (if (M.1 15 6) = 0 then (some ((-4), M)) else (bR (f_X0_takeFrom 22 15 M) (fun M33 => (bR (f_X0_goOn 22 v1 M33) (fun M41 => (bR (f_X0_emptyOnes 22 M41) (fun r49 => (lt (sI M41 0 13 (bcI r49)) (fun M55 => (bR (f_X0_pulses 22 M55) (fun r62 => (some (r62, M55))))))))))))))))
set_option maxHeartbeats 4000000 in
set_option maxRecDepth 100000 in
theorem c_X1_left (l : Launch) (D : va_G) (cy : Nat → ClassId) (ad : Nat → Nat)   {v1 : Int32} {M M' : Mem} {r : Int32} (hf : f_X1_left v1 M = some (r, M')) : MetX l 43 (CC ad cy) D cy ad yX1_left cX1_left 2 (some .int) 4 [.ref (ad 0), .int v1] M (fun A => QI r M' 43 (CC ad cy) D cy ad A) := by
  refine MetX.of (own := RX1) (by decide) rfl (Nat.le_of_ble_eq_true rfl) ?_
  intro p e s m below meth c A Q ls X hr hlk hZ hA hQ hW hl
  have hl : lv_has ls 2 [(0, .ref (ad 0)), (1, .int v1)] := hl
  have hx := X.1
  have hb := X.2.1
  obtain ⟨H, hH⟩ : ∃ H, H = s.heap := ⟨_, rfl⟩
  obtain ⟨locs, hlo⟩ : ∃ q : List Loc, q = [] := ⟨_, rfl⟩
  have hW : Wd D 43 ad (CC ad cy) A s.heap M H locs := by rw [hH, hlo]; exact hW
  suffices hh : W p l e (rmD 4) s m ([.ref (ad 0), .int v1] : List Value).toArray below meth c H locs 0 0 Q (F0 m 0 ls []) by rw [hH, hlo] at hh; exact hh
  unfold f_X1_left at hf
  refine lv_iload_n hx hb dX1_left_0 rfl (lv_at hl 1 rfl) ?_
  refine lv_iconst (v := 0) hx hb dX1_left_1 (by decide) ?_
  refine lv_bipush (v := 60) hx hb dX1_left_2 (by decide) ?_
  obtain ⟨r4, h4, hf⟩ := bR_some hf
  refine g_calliS X hl.1 hZ hA hW (c_X1_isWithin l D cy ad h4) cs_X1_isWithin ql_X1_114 rfl (by decide) rfl (Nat.le_of_ble_eq_true rfl) dX1_left_4 (fun H locs hW => ?_)
  refine lv_if_ne (tgt := 12) hx hb dX1_left_7 (by decide) (fun hc => ?_) (fun hc => ?_)
  · replace hf := ifn hc hf
    refine lv_aload_n hx hb dX1_left_12 rfl (lv_at hl 0 rfl) ?_
    refine gf_X1_29 X hW dX1_left_13 ?_
    refine gf_X1_108 isSt15 X hW dX1_left_16 ?_
    refine lv_if_ne (tgt := 25) hx hb dX1_left_19 (by decide) (fun hc => ?_) (fun hc => ?_)
    · replace hf := ifn hc hf
      refine lv_aload_n hx hb dX1_left_25 rfl (lv_at hl 0 rfl) ?_
      refine gf_X1_33 X hW dX1_left_26 ?_
      refine lv_aload_n hx hb dX1_left_29 rfl (lv_at hl 0 rfl) ?_
      refine gf_X1_29 X hW dX1_left_30 ?_
      obtain ⟨M33, h33, hf⟩ := bR_some hf
      refine g_callvN (host := "TubeWords") X hl.1 hZ hA hW (c_X0_takeFrom l D cy ad isSt22 isSt15 h33) cw_X0_takeFrom (by decide +kernel) (iO_st isSt22) rfl (by decide) rfl (Nat.le_of_ble_eq_true rfl) dX1_left_33 (fun H locs hW => ?_)
      refine lv_aload_n hx hb dX1_left_36 rfl (lv_at hl 0 rfl) ?_
      refine gf_X1_33 X hW dX1_left_37 ?_
      refine lv_iload_n hx hb dX1_left_40 rfl (lv_at hl 1 rfl) ?_
      obtain ⟨M41, h41, hf⟩ := bR_some hf
      refine g_callvN (host := "TubeWords") X hl.1 hZ hA hW (c_X0_goOn l D cy ad isSt22 h41) cw_X0_goOn (by decide +kernel) (iO_st isSt22) rfl (by decide) rfl (Nat.le_of_ble_eq_true rfl) dX1_left_41 (fun H locs hW => ?_)
      refine lv_aload_n hx hb dX1_left_44 rfl (lv_at hl 0 rfl) ?_
      refine lv_aload_n hx hb dX1_left_45 rfl (lv_at hl 0 rfl) ?_
      refine gf_X1_33 X hW dX1_left_46 ?_
      obtain ⟨r49, h49, hf⟩ := bR_some hf
      refine g_calliN (host := "TubeWords") X hl.1 hZ hA hW (c_X0_emptyOnes l D cy ad isSt22 h49) cw_X0_emptyOnes (by decide +kernel) (iO_st isSt22) rfl (by decide) rfl (Nat.le_of_ble_eq_true rfl) dX1_left_49 (fun H locs hW => ?_)
      refine g_calliS X hl.1 hZ hA hW (c_J6_bitCount (CC ad cy) ad D cy l 43 r49) cs_J6_bitCount ql_X1_181 rfl (by decide) rfl (Nat.le_of_ble_eq_true rfl) dX1_left_52 (fun H locs hW => ?_)
      refine gp_X1_58 X hW dX1_left_55 (fun H locs hW => ?_)
      obtain ⟨M55, e55, hf⟩ := lt_some hf
      have hW : Wd D 43 ad (CC ad cy) A s.heap M55 H locs := by rw [e55]; exact hW
      refine lv_aload_n hx hb dX1_left_58 rfl (lv_at hl 0 rfl) ?_
      refine gf_X1_33 X hW dX1_left_59 ?_
      obtain ⟨r62, h62, hf⟩ := bR_some hf
      refine g_calliN (host := "TubeWords") X hl.1 hZ hA hW (c_X0_pulses l D cy ad isSt22 h62) cw_X0_pulses (by decide +kernel) (iO_st isSt22) rfl (by decide) rfl (Nat.le_of_ble_eq_true rfl) dX1_left_62 (fun H locs hW => ?_)
      exact g_iret X hr hlk hQ hW dX1_left_65 hf
    · replace hf := ifp hc hf
      refine lv_bipush (v := (-4)) hx hb dX1_left_22 (by decide) ?_
      exact g_iret X hr hlk hQ hW dX1_left_24 hf
  · replace hf := ifp hc hf
    refine lv_iconst (v := (-1)) hx hb dX1_left_10 (by decide) ?_
    exact g_iret X hr hlk hQ hW dX1_left_11 hf

def f_X1_best_L76 (v1_L76 : Int32) (v4_L76 : Int32) (k152 : Int32 → Int32 → Mem → Option (Int32 × Mem)) : Nat → Int32 → Int32 → Int32 → Mem → Option (Int32 × Mem)
  | 0, _, _, _, _ => none
  | n + 1, v2_L76, v3_L76, v5_L76, M_L76 => (if (M_L76.1 15 6) ≤ v5_L76 then (k152 v2_L76 v3_L76 M_L76) else (bR (f_X0_takeFrom 22 15 M_L76) (fun M96 => (bR (f_X0_swapWays 22 v4_L76 v5_L76 M96) (fun M107 => (bR (f_X0_goOn 22 v1_L76 M107) (fun M115 => (bR (f_X0_pulses 22 M115) (fun r122 => (jn (fun (k146 : Int32 → Int32 → Option (Int32 × Mem)) => (if r122 ≤ v2_L76 then (k146 v2_L76 v3_L76) else (bR (f_X0_pulses 22 M115) (fun r133 => (k146 r133 ((10 * v4_L76) + v5_L76)))))) (fun (v2_146j : Int32) (v3_146j : Int32) => (f_X1_best_L76 v1_L76 v4_L76 k152 n v2_146j v3_146j (v5_L76 + 1) M115))))))))))))
def f_X1_best_L58 (v1_L58 : Int32) (k158 : Int32 → Int32 → Mem → Option (Int32 × Mem)) : Nat → Int32 → Int32 → Int32 → Mem → Option (Int32 × Mem)
  | 0, _, _, _, _ => none
  | n + 1, v2_L58, v3_L58, v4_L58, M_L58 => (if (M_L58.1 15 6) ≤ v4_L58 then (k158 v2_L58 v3_L58 M_L58) else (jn (fun (k152 : Int32 → Int32 → Mem → Option (Int32 × Mem)) => (f_X1_best_L76 v1_L58 v4_L58 k152 FU v2_L58 v3_L58 (v4_L58 + 1) M_L58)) (fun (v2_152x : Int32) (v3_152x : Int32) (M_152x : Mem) => (f_X1_best_L58 v1_L58 k158 n v2_152x v3_152x (v4_L58 + 1) M_152x))))
def f_X1_best (v1 : Int32) (M : Mem) : Option (Int32 × Mem) :=
  (bR (f_X1_isWithin v1 1 40 M) (fun r4 => (if r4 = 0 then (some ((-1), M)) else (if (M.1 15 6) = 0 then (some ((-4), M)) else (bR (f_X0_takeFrom 22 15 M) (fun M33 => (bR (f_X0_goOn 22 v1 M33) (fun M41 => (bR (f_X0_pulses 22 M41) (fun r48 => (jn (fun (k158 : Int32 → Int32 → Mem → Option (Int32 × Mem)) => (f_X1_best_L58 v1 k158 FU r48 (-9) 0 M41)) (fun (v2_158x : Int32) (v3_158x : Int32) (M_158x : Mem) => (if v3_158x = (-9) then (some (v3_158x, M_158x)) else (lt (sI M_158x 0 13 v2_158x) (fun M166 => (some (v3_158x, M166)))))))))))))))))
set_option maxHeartbeats 4000000 in
set_option maxRecDepth 100000 in
theorem c_X1_best (l : Launch) (D : va_G) (cy : Nat → ClassId) (ad : Nat → Nat)   {v1 : Int32} {M M' : Mem} {r : Int32} (hf : f_X1_best v1 M = some (r, M')) : MetX l 43 (CC ad cy) D cy ad yX1_best cX1_best 6 (some .int) 4 [.ref (ad 0), .int v1] M (fun A => QI r M' 43 (CC ad cy) D cy ad A) := by
  refine MetX.of (own := RX1) (by decide) rfl (Nat.le_of_ble_eq_true rfl) ?_
  intro p e s m below meth c A Q ls X hr hlk hZ hA hQ hW hl
  have hl : lv_has ls 6 [(0, .ref (ad 0)), (1, .int v1)] := hl
  have hx := X.1
  have hb := X.2.1
  have hL76 : ∀ (v1_L76 : Int32) (v4_L76 : Int32) (k152 : Int32 → Int32 → Mem → Option (Int32 × Mem)) (hJ152 : ∀ (v2_152x : Int32) (v3_152x : Int32) (M_152x : Mem) (H : Heap) (locs : List Loc) (ls : Array Slot), k152 v2_152x v3_152x M_152x = some (r, M') → Wd D 43 ad (CC ad cy) A s.heap M_152x H locs → lv_has ls 6 [(0, .ref (ad 0)), (1, .int v1_L76), (2, .int v2_152x), (3, .int v3_152x), (4, .int v4_L76)] → W p l e (rmD 4) s m ([.ref (ad 0), .int v1] : List Value).toArray below meth c H locs 0 0 Q (F0 m 152 ls [])) (n : Nat) (v2_L76 : Int32) (v3_L76 : Int32) (v5_L76 : Int32) (M_L76 : Mem) (H : Heap) (locs : List Loc) (ls : Array Slot), f_X1_best_L76 v1_L76 v4_L76 k152 n v2_L76 v3_L76 v5_L76 M_L76 = some (r, M') → Wd D 43 ad (CC ad cy) A s.heap M_L76 H locs → lv_has ls 6 [(0, .ref (ad 0)), (1, .int v1_L76), (2, .int v2_L76), (3, .int v3_L76), (4, .int v4_L76), (5, .int v5_L76)] → W p l e (rmD 4) s m ([.ref (ad 0), .int v1] : List Value).toArray below meth c H locs 0 0 Q (F0 m 76 ls []) := by
    intro v1_L76 v4_L76 k152 hJ152 n
    induction n with
    | zero =>
      intro v2_L76 v3_L76 v5_L76 M_L76 H locs ls hf
      cases (show (none : Option (Int32 × Mem)) = some (r, M') from hf)
    | succ n ih =>
      intro v2_L76 v3_L76 v5_L76 M_L76 H locs ls hf hW hl
      rw [f_X1_best_L76] at hf
      refine lv_iload hx hb dX1_best_76 (lv_at hl 5 rfl) ?_
      refine lv_aload_n hx hb dX1_best_78 rfl (lv_at hl 0 rfl) ?_
      refine gf_X1_29 X hW dX1_best_79 ?_
      refine gf_X1_108 isSt15 X hW dX1_best_82 ?_
      refine lv_icmp_ge (tgt := 152) hx hb dX1_best_85 (by decide) (fun hc => ?_) (fun hc => ?_)
      · replace hf := ifp hc hf
        exact hJ152 v2_L76 v3_L76 M_L76 H locs ls hf hW (lv_sub hl [0, 1, 2, 3, 4] rfl)
      · replace hf := ifn hc hf
        refine lv_aload_n hx hb dX1_best_88 rfl (lv_at hl 0 rfl) ?_
        refine gf_X1_33 X hW dX1_best_89 ?_
        refine lv_aload_n hx hb dX1_best_92 rfl (lv_at hl 0 rfl) ?_
        refine gf_X1_29 X hW dX1_best_93 ?_
        obtain ⟨M96, h96, hf⟩ := bR_some hf
        refine g_callvN (host := "TubeWords") X hl.1 hZ hA hW (c_X0_takeFrom l D cy ad isSt22 isSt15 h96) cw_X0_takeFrom (by decide +kernel) (iO_st isSt22) rfl (by decide) rfl (Nat.le_of_ble_eq_true rfl) dX1_best_96 (fun H locs hW => ?_)
        refine lv_aload_n hx hb dX1_best_99 rfl (lv_at hl 0 rfl) ?_
        refine gf_X1_33 X hW dX1_best_100 ?_
        refine lv_iload hx hb dX1_best_103 (lv_at hl 4 rfl) ?_
        refine lv_iload hx hb dX1_best_105 (lv_at hl 5 rfl) ?_
        obtain ⟨M107, h107, hf⟩ := bR_some hf
        refine g_callvN (host := "TubeWords") X hl.1 hZ hA hW (c_X0_swapWays l D cy ad isSt22 h107) cw_X0_swapWays (by decide +kernel) (iO_st isSt22) rfl (by decide) rfl (Nat.le_of_ble_eq_true rfl) dX1_best_107 (fun H locs hW => ?_)
        refine lv_aload_n hx hb dX1_best_110 rfl (lv_at hl 0 rfl) ?_
        refine gf_X1_33 X hW dX1_best_111 ?_
        refine lv_iload_n hx hb dX1_best_114 rfl (lv_at hl 1 rfl) ?_
        obtain ⟨M115, h115, hf⟩ := bR_some hf
        refine g_callvN (host := "TubeWords") X hl.1 hZ hA hW (c_X0_goOn l D cy ad isSt22 h115) cw_X0_goOn (by decide +kernel) (iO_st isSt22) rfl (by decide) rfl (Nat.le_of_ble_eq_true rfl) dX1_best_115 (fun H locs hW => ?_)
        refine lv_aload_n hx hb dX1_best_118 rfl (lv_at hl 0 rfl) ?_
        refine gf_X1_33 X hW dX1_best_119 ?_
        obtain ⟨r122, h122, hf⟩ := bR_some hf
        refine g_calliN (host := "TubeWords") X hl.1 hZ hA hW (c_X0_pulses l D cy ad isSt22 h122) cw_X0_pulses (by decide +kernel) (iO_st isSt22) rfl (by decide) rfl (Nat.le_of_ble_eq_true rfl) dX1_best_122 (fun H locs hW => ?_)
        refine lv_iload_n hx hb dX1_best_125 rfl (lv_at hl 2 rfl) ?_
        obtain ⟨k146, hk146, hf⟩ := jn_some2 hf
        have hJ146 : ∀ (v2_146j : Int32) (v3_146j : Int32) (H : Heap) (locs : List Loc) (ls : Array Slot), k146 v2_146j v3_146j = some (r, M') → Wd D 43 ad (CC ad cy) A s.heap M115 H locs → lv_has ls 6 [(0, .ref (ad 0)), (1, .int v1_L76), (2, .int v2_146j), (3, .int v3_146j), (4, .int v4_L76), (5, .int v5_L76)] → W p l e (rmD 4) s m ([.ref (ad 0), .int v1] : List Value).toArray below meth c H locs 0 0 Q (F0 m 146 ls []) := by
          intro v2_146j v3_146j H locs ls hf hW hl
          rw [hk146] at hf
          refine lv_iinc (v := (v5_L76 + 1)) (lv' := [(5, .int (v5_L76 + 1)), (0, .ref (ad 0)), (1, .int v1_L76), (2, .int v2_146j), (3, .int v3_146j), (4, .int v4_L76)]) hx hb dX1_best_146 hl (k := 5) rfl rfl (by decide) rfl (fun ls hl => ?_)
          refine lv_goto (tgt := 76) hx hb dX1_best_149 (by decide) ?_
          exact ih v2_146j v3_146j (v5_L76 + 1) M115 H locs ls hf hW (lv_sub hl [1, 2, 3, 4, 5, 0] rfl)
        refine lv_icmp_le (tgt := 146) hx hb dX1_best_126 (by decide) (fun hc => ?_) (fun hc => ?_)
        · replace hf := ifp hc hf
          exact hJ146 v2_L76 v3_L76 H locs ls hf hW (lv_sub hl [0, 1, 2, 3, 4, 5] rfl)
        · replace hf := ifn hc hf
          refine lv_aload_n hx hb dX1_best_129 rfl (lv_at hl 0 rfl) ?_
          refine gf_X1_33 X hW dX1_best_130 ?_
          obtain ⟨r133, h133, hf⟩ := bR_some hf
          refine g_calliN (host := "TubeWords") X hl.1 hZ hA hW (c_X0_pulses l D cy ad isSt22 h133) cw_X0_pulses (by decide +kernel) (iO_st isSt22) rfl (by decide) rfl (Nat.le_of_ble_eq_true rfl) dX1_best_133 (fun H locs hW => ?_)
          refine lv_istore_n (lv' := [(2, .int r133), (0, .ref (ad 0)), (1, .int v1_L76), (3, .int v3_L76), (4, .int v4_L76), (5, .int v5_L76)]) hx hb dX1_best_136 rfl hl (by decide) rfl (fun ls hl => ?_)
          refine lv_bipush (v := 10) hx hb dX1_best_137 (by decide) ?_
          refine lv_iload hx hb dX1_best_139 (lv_at hl 4 rfl) ?_
          refine lv_imul hx hb dX1_best_141 ?_
          refine lv_iload hx hb dX1_best_142 (lv_at hl 5 rfl) ?_
          refine lv_iadd hx hb dX1_best_144 ?_
          refine lv_istore_n (lv' := [(3, .int ((10 * v4_L76) + v5_L76)), (2, .int r133), (0, .ref (ad 0)), (1, .int v1_L76), (4, .int v4_L76), (5, .int v5_L76)]) hx hb dX1_best_145 rfl hl (by decide) rfl (fun ls hl => ?_)
          exact hJ146 r133 ((10 * v4_L76) + v5_L76) H locs ls hf hW (lv_sub hl [2, 3, 1, 0, 4, 5] rfl)
  have hL58 : ∀ (v1_L58 : Int32) (k158 : Int32 → Int32 → Mem → Option (Int32 × Mem)) (hJ158 : ∀ (v2_158x : Int32) (v3_158x : Int32) (M_158x : Mem) (H : Heap) (locs : List Loc) (ls : Array Slot), k158 v2_158x v3_158x M_158x = some (r, M') → Wd D 43 ad (CC ad cy) A s.heap M_158x H locs → lv_has ls 6 [(0, .ref (ad 0)), (2, .int v2_158x), (3, .int v3_158x)] → W p l e (rmD 4) s m ([.ref (ad 0), .int v1] : List Value).toArray below meth c H locs 0 0 Q (F0 m 158 ls [])) (n : Nat) (v2_L58 : Int32) (v3_L58 : Int32) (v4_L58 : Int32) (M_L58 : Mem) (H : Heap) (locs : List Loc) (ls : Array Slot), f_X1_best_L58 v1_L58 k158 n v2_L58 v3_L58 v4_L58 M_L58 = some (r, M') → Wd D 43 ad (CC ad cy) A s.heap M_L58 H locs → lv_has ls 6 [(0, .ref (ad 0)), (1, .int v1_L58), (2, .int v2_L58), (3, .int v3_L58), (4, .int v4_L58)] → W p l e (rmD 4) s m ([.ref (ad 0), .int v1] : List Value).toArray below meth c H locs 0 0 Q (F0 m 58 ls []) := by
    intro v1_L58 k158 hJ158 n
    induction n with
    | zero =>
      intro v2_L58 v3_L58 v4_L58 M_L58 H locs ls hf
      cases (show (none : Option (Int32 × Mem)) = some (r, M') from hf)
    | succ n ih =>
      intro v2_L58 v3_L58 v4_L58 M_L58 H locs ls hf hW hl
      rw [f_X1_best_L58] at hf
      refine lv_iload hx hb dX1_best_58 (lv_at hl 4 rfl) ?_
      refine lv_aload_n hx hb dX1_best_60 rfl (lv_at hl 0 rfl) ?_
      refine gf_X1_29 X hW dX1_best_61 ?_
      refine gf_X1_108 isSt15 X hW dX1_best_64 ?_
      refine lv_icmp_ge (tgt := 158) hx hb dX1_best_67 (by decide) (fun hc => ?_) (fun hc => ?_)
      · replace hf := ifp hc hf
        exact hJ158 v2_L58 v3_L58 M_L58 H locs ls hf hW (lv_sub hl [0, 2, 3] rfl)
      · replace hf := ifn hc hf
        refine lv_iload hx hb dX1_best_70 (lv_at hl 4 rfl) ?_
        refine lv_iconst (v := 1) hx hb dX1_best_72 (by decide) ?_
        refine lv_iadd hx hb dX1_best_73 ?_
        refine lv_istore (lv' := [(5, .int (v4_L58 + 1)), (0, .ref (ad 0)), (1, .int v1_L58), (2, .int v2_L58), (3, .int v3_L58), (4, .int v4_L58)]) hx hb dX1_best_74 hl (by decide) rfl (fun ls hl => ?_)
        obtain ⟨k152, hk152, hf⟩ := jn_some3 hf
        have hJ152 : ∀ (v2_152x : Int32) (v3_152x : Int32) (M_152x : Mem) (H : Heap) (locs : List Loc) (ls : Array Slot), k152 v2_152x v3_152x M_152x = some (r, M') → Wd D 43 ad (CC ad cy) A s.heap M_152x H locs → lv_has ls 6 [(0, .ref (ad 0)), (1, .int v1_L58), (2, .int v2_152x), (3, .int v3_152x), (4, .int v4_L58)] → W p l e (rmD 4) s m ([.ref (ad 0), .int v1] : List Value).toArray below meth c H locs 0 0 Q (F0 m 152 ls []) := by
          intro v2_152x v3_152x M_152x H locs ls hf hW hl
          rw [hk152] at hf
          refine lv_iinc (v := (v4_L58 + 1)) (lv' := [(4, .int (v4_L58 + 1)), (0, .ref (ad 0)), (1, .int v1_L58), (2, .int v2_152x), (3, .int v3_152x)]) hx hb dX1_best_152 hl (k := 4) rfl rfl (by decide) rfl (fun ls hl => ?_)
          refine lv_goto (tgt := 58) hx hb dX1_best_155 (by decide) ?_
          exact ih v2_152x v3_152x (v4_L58 + 1) M_152x H locs ls hf hW (lv_sub hl [1, 2, 3, 4, 0] rfl)
        exact hL76 v1_L58 v4_L58 k152 hJ152 FU v2_L58 v3_L58 (v4_L58 + 1) M_L58 H locs ls hf hW (lv_sub hl [1, 2, 3, 4, 5, 0] rfl)
  obtain ⟨H, hH⟩ : ∃ H, H = s.heap := ⟨_, rfl⟩
  obtain ⟨locs, hlo⟩ : ∃ q : List Loc, q = [] := ⟨_, rfl⟩
  have hW : Wd D 43 ad (CC ad cy) A s.heap M H locs := by rw [hH, hlo]; exact hW
  suffices hh : W p l e (rmD 4) s m ([.ref (ad 0), .int v1] : List Value).toArray below meth c H locs 0 0 Q (F0 m 0 ls []) by rw [hH, hlo] at hh; exact hh
  unfold f_X1_best at hf
  refine lv_iload_n hx hb dX1_best_0 rfl (lv_at hl 1 rfl) ?_
  refine lv_iconst (v := 1) hx hb dX1_best_1 (by decide) ?_
  refine lv_bipush (v := 40) hx hb dX1_best_2 (by decide) ?_
  obtain ⟨r4, h4, hf⟩ := bR_some hf
  refine g_calliS X hl.1 hZ hA hW (c_X1_isWithin l D cy ad h4) cs_X1_isWithin ql_X1_114 rfl (by decide) rfl (Nat.le_of_ble_eq_true rfl) dX1_best_4 (fun H locs hW => ?_)
  refine lv_if_ne (tgt := 12) hx hb dX1_best_7 (by decide) (fun hc => ?_) (fun hc => ?_)
  · replace hf := ifn hc hf
    refine lv_aload_n hx hb dX1_best_12 rfl (lv_at hl 0 rfl) ?_
    refine gf_X1_29 X hW dX1_best_13 ?_
    refine gf_X1_108 isSt15 X hW dX1_best_16 ?_
    refine lv_if_ne (tgt := 25) hx hb dX1_best_19 (by decide) (fun hc => ?_) (fun hc => ?_)
    · replace hf := ifn hc hf
      refine lv_aload_n hx hb dX1_best_25 rfl (lv_at hl 0 rfl) ?_
      refine gf_X1_33 X hW dX1_best_26 ?_
      refine lv_aload_n hx hb dX1_best_29 rfl (lv_at hl 0 rfl) ?_
      refine gf_X1_29 X hW dX1_best_30 ?_
      obtain ⟨M33, h33, hf⟩ := bR_some hf
      refine g_callvN (host := "TubeWords") X hl.1 hZ hA hW (c_X0_takeFrom l D cy ad isSt22 isSt15 h33) cw_X0_takeFrom (by decide +kernel) (iO_st isSt22) rfl (by decide) rfl (Nat.le_of_ble_eq_true rfl) dX1_best_33 (fun H locs hW => ?_)
      refine lv_aload_n hx hb dX1_best_36 rfl (lv_at hl 0 rfl) ?_
      refine gf_X1_33 X hW dX1_best_37 ?_
      refine lv_iload_n hx hb dX1_best_40 rfl (lv_at hl 1 rfl) ?_
      obtain ⟨M41, h41, hf⟩ := bR_some hf
      refine g_callvN (host := "TubeWords") X hl.1 hZ hA hW (c_X0_goOn l D cy ad isSt22 h41) cw_X0_goOn (by decide +kernel) (iO_st isSt22) rfl (by decide) rfl (Nat.le_of_ble_eq_true rfl) dX1_best_41 (fun H locs hW => ?_)
      refine lv_aload_n hx hb dX1_best_44 rfl (lv_at hl 0 rfl) ?_
      refine gf_X1_33 X hW dX1_best_45 ?_
      obtain ⟨r48, h48, hf⟩ := bR_some hf
      refine g_calliN (host := "TubeWords") X hl.1 hZ hA hW (c_X0_pulses l D cy ad isSt22 h48) cw_X0_pulses (by decide +kernel) (iO_st isSt22) rfl (by decide) rfl (Nat.le_of_ble_eq_true rfl) dX1_best_48 (fun H locs hW => ?_)
      refine lv_istore_n (lv' := [(2, .int r48), (0, .ref (ad 0)), (1, .int v1)]) hx hb dX1_best_51 rfl hl (by decide) rfl (fun ls hl => ?_)
      refine lv_bipush (v := (-9)) hx hb dX1_best_52 (by decide) ?_
      refine lv_istore_n (lv' := [(3, .int (-9)), (2, .int r48), (0, .ref (ad 0)), (1, .int v1)]) hx hb dX1_best_54 rfl hl (by decide) rfl (fun ls hl => ?_)
      refine lv_iconst (v := 0) hx hb dX1_best_55 (by decide) ?_
      refine lv_istore (lv' := [(4, .int 0), (3, .int (-9)), (2, .int r48), (0, .ref (ad 0)), (1, .int v1)]) hx hb dX1_best_56 hl (by decide) rfl (fun ls hl => ?_)
      obtain ⟨k158, hk158, hf⟩ := jn_some3 hf
      have hJ158 : ∀ (v2_158x : Int32) (v3_158x : Int32) (M_158x : Mem) (H : Heap) (locs : List Loc) (ls : Array Slot), k158 v2_158x v3_158x M_158x = some (r, M') → Wd D 43 ad (CC ad cy) A s.heap M_158x H locs → lv_has ls 6 [(0, .ref (ad 0)), (2, .int v2_158x), (3, .int v3_158x)] → W p l e (rmD 4) s m ([.ref (ad 0), .int v1] : List Value).toArray below meth c H locs 0 0 Q (F0 m 158 ls []) := by
        intro v2_158x v3_158x M_158x H locs ls hf hW hl
        rw [hk158] at hf
        refine lv_iload_n hx hb dX1_best_158 rfl (lv_at hl 2 rfl) ?_
        refine lv_bipush (v := (-9)) hx hb dX1_best_159 (by decide) ?_
        refine lv_icmp_eq (tgt := 169) hx hb dX1_best_161 (by decide) (fun hc => ?_) (fun hc => ?_)
        · replace hf := ifp hc hf
          refine lv_iload_n hx hb dX1_best_169 rfl (lv_at hl 2 rfl) ?_
          exact g_iret X hr hlk hQ hW dX1_best_170 hf
        · replace hf := ifn hc hf
          refine lv_aload_n hx hb dX1_best_164 rfl (lv_at hl 0 rfl) ?_
          refine lv_iload_n hx hb dX1_best_165 rfl (lv_at hl 1 rfl) ?_
          refine gp_X1_58 X hW dX1_best_166 (fun H locs hW => ?_)
          obtain ⟨M166, e166, hf⟩ := lt_some hf
          have hW : Wd D 43 ad (CC ad cy) A s.heap M166 H locs := by rw [e166]; exact hW
          refine lv_iload_n hx hb dX1_best_169 rfl (lv_at hl 2 rfl) ?_
          exact g_iret X hr hlk hQ hW dX1_best_170 hf
      exact hL58 v1 k158 hJ158 FU r48 (-9) 0 M41 H locs ls hf hW (lv_sub hl [3, 4, 2, 1, 0] rfl)
    · replace hf := ifp hc hf
      refine lv_bipush (v := (-4)) hx hb dX1_best_22 (by decide) ?_
      exact g_iret X hr hlk hQ hW dX1_best_24 hf
  · replace hf := ifp hc hf
    refine lv_iconst (v := (-1)) hx hb dX1_best_10 (by decide) ?_
    exact g_iret X hr hlk hQ hW dX1_best_11 hf

def f_X1_comesBack_L22 (v1_L22 : Int32) (v2_L22 : Int32) : Nat → Int32 → Mem → Option (Int32 × Mem)
  | 0, _, _ => none
  | n + 1, v3_L22, M_L22 => (if 60 < v3_L22 then (some (61, M_L22)) else (bR (f_X0_goOn 22 1 M_L22) (fun M33 => (grd (inb v1_L22 7) (if (M33.1 (22 + 4) (ix v1_L22)) = v2_L22 then (some (v3_L22, M33)) else (f_X1_comesBack_L22 v1_L22 v2_L22 n (v3_L22 + 1) M33))))))
def f_X1_comesBack (v1 : Int32) (v2 : Int32) (M : Mem) : Option (Int32 × Mem) :=
  (bR (f_X0_takeFrom 22 15 M) (fun M8 => (bR (f_X0_putWord 22 v1 v2 M8) (fun M17 => (f_X1_comesBack_L22 v1 v2 FU 1 M17)))))
set_option maxHeartbeats 4000000 in
set_option maxRecDepth 100000 in
theorem c_X1_comesBack (l : Launch) (D : va_G) (cy : Nat → ClassId) (ad : Nat → Nat)   {v1 : Int32} {v2 : Int32} {M M' : Mem} {r : Int32} (hf : f_X1_comesBack v1 v2 M = some (r, M')) : MetX l 43 (CC ad cy) D cy ad yX1_comesBack cX1_comesBack 4 (some .int) 4 [.ref (ad 0), .int v1, .int v2] M (fun A => QI r M' 43 (CC ad cy) D cy ad A) := by
  refine MetX.of (own := RX1) (by decide) rfl (Nat.le_of_ble_eq_true rfl) ?_
  intro p e s m below meth c A Q ls X hr hlk hZ hA hQ hW hl
  have hl : lv_has ls 4 [(0, .ref (ad 0)), (1, .int v1), (2, .int v2)] := hl
  have hx := X.1
  have hb := X.2.1
  have hL22 : ∀ (v1_L22 : Int32) (v2_L22 : Int32)  (n : Nat) (v3_L22 : Int32) (M_L22 : Mem) (H : Heap) (locs : List Loc) (ls : Array Slot), f_X1_comesBack_L22 v1_L22 v2_L22 n v3_L22 M_L22 = some (r, M') → Wd D 43 ad (CC ad cy) A s.heap M_L22 H locs → lv_has ls 4 [(0, .ref (ad 0)), (1, .int v1_L22), (2, .int v2_L22), (3, .int v3_L22)] → W p l e (rmD 4) s m ([.ref (ad 0), .int v1, .int v2] : List Value).toArray below meth c H locs 0 0 Q (F0 m 22 ls []) := by
    intro v1_L22 v2_L22 n
    induction n with
    | zero =>
      intro v3_L22 M_L22 H locs ls hf
      cases (show (none : Option (Int32 × Mem)) = some (r, M') from hf)
    | succ n ih =>
      intro v3_L22 M_L22 H locs ls hf hW hl
      rw [f_X1_comesBack_L22] at hf
      refine lv_iload_n hx hb dX1_comesBack_22 rfl (lv_at hl 3 rfl) ?_
      refine lv_bipush (v := 60) hx hb dX1_comesBack_23 (by decide) ?_
      refine lv_icmp_gt (tgt := 57) hx hb dX1_comesBack_25 (by decide) (fun hc => ?_) (fun hc => ?_)
      · replace hf := ifp hc hf
        refine lv_bipush (v := 61) hx hb dX1_comesBack_57 (by decide) ?_
        exact g_iret X hr hlk hQ hW dX1_comesBack_59 hf
      · replace hf := ifn hc hf
        refine lv_aload_n hx hb dX1_comesBack_28 rfl (lv_at hl 0 rfl) ?_
        refine gf_X1_33 X hW dX1_comesBack_29 ?_
        refine lv_iconst (v := 1) hx hb dX1_comesBack_32 (by decide) ?_
        obtain ⟨M33, h33, hf⟩ := bR_some hf
        refine g_callvN (host := "TubeWords") X hl.1 hZ hA hW (c_X0_goOn l D cy ad isSt22 h33) cw_X0_goOn (by decide +kernel) (iO_st isSt22) rfl (by decide) rfl (Nat.le_of_ble_eq_true rfl) dX1_comesBack_33 (fun H locs hW => ?_)
        refine lv_aload_n hx hb dX1_comesBack_36 rfl (lv_at hl 0 rfl) ?_
        refine gf_X1_33 X hW dX1_comesBack_37 ?_
        refine gf_X1_144 isSt22 X hW dX1_comesBack_40 ?_
        refine lv_iload_n hx hb dX1_comesBack_43 rfl (lv_at hl 1 rfl) ?_
        obtain ⟨hi44, hf⟩ := grd_some hf
        refine g_iald X hW (iA_st4 isSt22) hi44 dX1_comesBack_44 ?_
        refine lv_iload_n hx hb dX1_comesBack_45 rfl (lv_at hl 2 rfl) ?_
        refine lv_icmp_ne (tgt := 51) hx hb dX1_comesBack_46 (by decide) (fun hc => ?_) (fun hc => ?_)
        · replace hf := ifn hc hf
          refine lv_iinc (v := (v3_L22 + 1)) (lv' := [(3, .int (v3_L22 + 1)), (0, .ref (ad 0)), (1, .int v1_L22), (2, .int v2_L22)]) hx hb dX1_comesBack_51 hl (k := 3) rfl rfl (by decide) rfl (fun ls hl => ?_)
          refine lv_goto (tgt := 22) hx hb dX1_comesBack_54 (by decide) ?_
          exact ih (v3_L22 + 1) M33 H locs ls hf hW (lv_sub hl [1, 2, 3, 0] rfl)
        · replace hf := ifp hc hf
          refine lv_iload_n hx hb dX1_comesBack_49 rfl (lv_at hl 3 rfl) ?_
          exact g_iret X hr hlk hQ hW dX1_comesBack_50 hf
  obtain ⟨H, hH⟩ : ∃ H, H = s.heap := ⟨_, rfl⟩
  obtain ⟨locs, hlo⟩ : ∃ q : List Loc, q = [] := ⟨_, rfl⟩
  have hW : Wd D 43 ad (CC ad cy) A s.heap M H locs := by rw [hH, hlo]; exact hW
  suffices hh : W p l e (rmD 4) s m ([.ref (ad 0), .int v1, .int v2] : List Value).toArray below meth c H locs 0 0 Q (F0 m 0 ls []) by rw [hH, hlo] at hh; exact hh
  unfold f_X1_comesBack at hf
  refine lv_aload_n hx hb dX1_comesBack_0 rfl (lv_at hl 0 rfl) ?_
  refine gf_X1_33 X hW dX1_comesBack_1 ?_
  refine lv_aload_n hx hb dX1_comesBack_4 rfl (lv_at hl 0 rfl) ?_
  refine gf_X1_29 X hW dX1_comesBack_5 ?_
  obtain ⟨M8, h8, hf⟩ := bR_some hf
  refine g_callvN (host := "TubeWords") X hl.1 hZ hA hW (c_X0_takeFrom l D cy ad isSt22 isSt15 h8) cw_X0_takeFrom (by decide +kernel) (iO_st isSt22) rfl (by decide) rfl (Nat.le_of_ble_eq_true rfl) dX1_comesBack_8 (fun H locs hW => ?_)
  refine lv_aload_n hx hb dX1_comesBack_11 rfl (lv_at hl 0 rfl) ?_
  refine gf_X1_33 X hW dX1_comesBack_12 ?_
  refine lv_iload_n hx hb dX1_comesBack_15 rfl (lv_at hl 1 rfl) ?_
  refine lv_iload_n hx hb dX1_comesBack_16 rfl (lv_at hl 2 rfl) ?_
  obtain ⟨M17, h17, hf⟩ := bR_some hf
  refine g_callvN (host := "TubeWords") X hl.1 hZ hA hW (c_X0_putWord l D cy ad isSt22 h17) cw_X0_putWord (by decide +kernel) (iO_st isSt22) rfl (by decide) rfl (Nat.le_of_ble_eq_true rfl) dX1_comesBack_17 (fun H locs hW => ?_)
  refine lv_iconst (v := 1) hx hb dX1_comesBack_20 (by decide) ?_
  refine lv_istore_n (lv' := [(3, .int 1), (0, .ref (ad 0)), (1, .int v1), (2, .int v2)]) hx hb dX1_comesBack_21 rfl hl (by decide) rfl (fun ls hl => ?_)
  exact hL22 v1 v2 FU 1 M17 H locs ls hf hW (lv_sub hl [1, 2, 3, 0] rfl)

def f_X1_safest_L35 (v1_L35 : Int32) (k92 : Int32 → Int32 → Mem → Option (Int32 × Mem)) : Nat → Int32 → Int32 → Int32 → Mem → Option (Int32 × Mem)
  | 0, _, _, _, _ => none
  | n + 1, v2_L35, v3_L35, v4_L35, M_L35 => (if (M_L35.1 15 6) ≤ v4_L35 then (k92 v2_L35 v3_L35 M_L35) else (bR (f_X0_canHave 15 v4_L35 v1_L35 M_L35) (fun r54 => (jn (fun (k72 : Int32 → Mem → Option (Int32 × Mem)) => (if r54 = 0 then (k72 61 M_L35) else (bI (f_X1_comesBack v4_L35 v1_L35 M_L35) (fun r64 M64 => (k72 r64 M64))))) (fun (t0_72j : Int32) (M_72j : Mem) => (jn (fun (k86 : Int32 → Int32 → Option (Int32 × Mem)) => (if v2_L35 ≤ t0_72j then (k86 v2_L35 v3_L35) else (k86 t0_72j v4_L35))) (fun (v2_86j : Int32) (v3_86j : Int32) => (f_X1_safest_L35 v1_L35 k92 n v2_86j v3_86j (v4_L35 + 1) M_72j))))))))
def f_X1_safest (v1 : Int32) (M : Mem) : Option (Int32 × Mem) :=
  (bR (f_X1_isWithin v1 0 511 M) (fun r5 => (if r5 = 0 then (some ((-1), M)) else (if (M.1 15 6) = 0 then (some ((-4), M)) else (jn (fun (k92 : Int32 → Int32 → Mem → Option (Int32 × Mem)) => (f_X1_safest_L35 v1 k92 FU 61 (-9) 0 M)) (fun (v2_92x : Int32) (v3_92x : Int32) (M_92x : Mem) => (if v3_92x = (-9) then (some (v3_92x, M_92x)) else (lt (sI M_92x 0 13 v2_92x) (fun M100 => (some (v3_92x, M100)))))))))))
set_option maxHeartbeats 4000000 in
set_option maxRecDepth 100000 in
theorem c_X1_safest (l : Launch) (D : va_G) (cy : Nat → ClassId) (ad : Nat → Nat)   {v1 : Int32} {M M' : Mem} {r : Int32} (hf : f_X1_safest v1 M = some (r, M')) : MetX l 43 (CC ad cy) D cy ad yX1_safest cX1_safest 6 (some .int) 5 [.ref (ad 0), .int v1] M (fun A => QI r M' 43 (CC ad cy) D cy ad A) := by
  refine MetX.of (own := RX1) (by decide) rfl (Nat.le_of_ble_eq_true rfl) ?_
  intro p e s m below meth c A Q ls X hr hlk hZ hA hQ hW hl
  have hl : lv_has ls 6 [(0, .ref (ad 0)), (1, .int v1)] := hl
  have hx := X.1
  have hb := X.2.1
  have hL35 : ∀ (v1_L35 : Int32) (k92 : Int32 → Int32 → Mem → Option (Int32 × Mem)) (hJ92 : ∀ (v2_92x : Int32) (v3_92x : Int32) (M_92x : Mem) (H : Heap) (locs : List Loc) (ls : Array Slot), k92 v2_92x v3_92x M_92x = some (r, M') → Wd D 43 ad (CC ad cy) A s.heap M_92x H locs → lv_has ls 6 [(0, .ref (ad 0)), (2, .int v2_92x), (3, .int v3_92x)] → W p l e (rmD 5) s m ([.ref (ad 0), .int v1] : List Value).toArray below meth c H locs 0 0 Q (F0 m 92 ls [])) (n : Nat) (v2_L35 : Int32) (v3_L35 : Int32) (v4_L35 : Int32) (M_L35 : Mem) (H : Heap) (locs : List Loc) (ls : Array Slot), f_X1_safest_L35 v1_L35 k92 n v2_L35 v3_L35 v4_L35 M_L35 = some (r, M') → Wd D 43 ad (CC ad cy) A s.heap M_L35 H locs → lv_has ls 6 [(0, .ref (ad 0)), (1, .int v1_L35), (2, .int v2_L35), (3, .int v3_L35), (4, .int v4_L35)] → W p l e (rmD 5) s m ([.ref (ad 0), .int v1] : List Value).toArray below meth c H locs 0 0 Q (F0 m 35 ls []) := by
    intro v1_L35 k92 hJ92 n
    induction n with
    | zero =>
      intro v2_L35 v3_L35 v4_L35 M_L35 H locs ls hf
      cases (show (none : Option (Int32 × Mem)) = some (r, M') from hf)
    | succ n ih =>
      intro v2_L35 v3_L35 v4_L35 M_L35 H locs ls hf hW hl
      rw [f_X1_safest_L35] at hf
      refine lv_iload hx hb dX1_safest_35 (lv_at hl 4 rfl) ?_
      refine lv_aload_n hx hb dX1_safest_37 rfl (lv_at hl 0 rfl) ?_
      refine gf_X1_29 X hW dX1_safest_38 ?_
      refine gf_X1_108 isSt15 X hW dX1_safest_41 ?_
      refine lv_icmp_ge (tgt := 92) hx hb dX1_safest_44 (by decide) (fun hc => ?_) (fun hc => ?_)
      · replace hf := ifp hc hf
        exact hJ92 v2_L35 v3_L35 M_L35 H locs ls hf hW (lv_sub hl [0, 2, 3] rfl)
      · replace hf := ifn hc hf
        refine lv_aload_n hx hb dX1_safest_47 rfl (lv_at hl 0 rfl) ?_
        refine gf_X1_29 X hW dX1_safest_48 ?_
        refine lv_iload hx hb dX1_safest_51 (lv_at hl 4 rfl) ?_
        refine lv_iload_n hx hb dX1_safest_53 rfl (lv_at hl 1 rfl) ?_
        obtain ⟨r54, h54, hf⟩ := bR_some hf
        refine g_calliN (host := "TubeWords") X hl.1 hZ hA hW (c_X0_canHave l D cy ad isSt15 h54) cw_X0_canHave (by decide +kernel) (iO_st isSt15) rfl (by decide) rfl (Nat.le_of_ble_eq_true rfl) dX1_safest_54 (fun H locs hW => ?_)
        obtain ⟨k72, hk72, hf⟩ := jn_some2 hf
        have hJ72 : ∀ (t0_72j : Int32) (M_72j : Mem) (H : Heap) (locs : List Loc) (ls : Array Slot), k72 t0_72j M_72j = some (r, M') → Wd D 43 ad (CC ad cy) A s.heap M_72j H locs → lv_has ls 6 [(0, .ref (ad 0)), (1, .int v1_L35), (2, .int v2_L35), (3, .int v3_L35), (4, .int v4_L35)] → W p l e (rmD 5) s m ([.ref (ad 0), .int v1] : List Value).toArray below meth c H locs 0 0 Q (F0 m 72 ls [.int t0_72j]) := by
          intro t0_72j M_72j H locs ls hf hW hl
          rw [hk72] at hf
          refine lv_istore (lv' := [(5, .int t0_72j), (0, .ref (ad 0)), (1, .int v1_L35), (2, .int v2_L35), (3, .int v3_L35), (4, .int v4_L35)]) hx hb dX1_safest_72 hl (by decide) rfl (fun ls hl => ?_)
          refine lv_iload hx hb dX1_safest_74 (lv_at hl 0 rfl) ?_
          refine lv_iload_n hx hb dX1_safest_76 rfl (lv_at hl 3 rfl) ?_
          obtain ⟨k86, hk86, hf⟩ := jn_some2 hf
          have hJ86 : ∀ (v2_86j : Int32) (v3_86j : Int32) (H : Heap) (locs : List Loc) (ls : Array Slot), k86 v2_86j v3_86j = some (r, M') → Wd D 43 ad (CC ad cy) A s.heap M_72j H locs → lv_has ls 6 [(0, .ref (ad 0)), (1, .int v1_L35), (2, .int v2_86j), (3, .int v3_86j), (4, .int v4_L35)] → W p l e (rmD 5) s m ([.ref (ad 0), .int v1] : List Value).toArray below meth c H locs 0 0 Q (F0 m 86 ls []) := by
            intro v2_86j v3_86j H locs ls hf hW hl
            rw [hk86] at hf
            refine lv_iinc (v := (v4_L35 + 1)) (lv' := [(4, .int (v4_L35 + 1)), (0, .ref (ad 0)), (1, .int v1_L35), (2, .int v2_86j), (3, .int v3_86j)]) hx hb dX1_safest_86 hl (k := 4) rfl rfl (by decide) rfl (fun ls hl => ?_)
            refine lv_goto (tgt := 35) hx hb dX1_safest_89 (by decide) ?_
            exact ih v2_86j v3_86j (v4_L35 + 1) M_72j H locs ls hf hW (lv_sub hl [1, 2, 3, 4, 0] rfl)
          refine lv_icmp_ge (tgt := 86) hx hb dX1_safest_77 (by decide) (fun hc => ?_) (fun hc => ?_)
          · replace hf := ifp hc hf
            exact hJ86 v2_L35 v3_L35 H locs ls hf hW (lv_sub hl [1, 2, 3, 4, 5] rfl)
          · replace hf := ifn hc hf
            refine lv_iload hx hb dX1_safest_80 (lv_at hl 0 rfl) ?_
            refine lv_istore_n (lv' := [(2, .int t0_72j), (5, .int t0_72j), (0, .ref (ad 0)), (1, .int v1_L35), (3, .int v3_L35), (4, .int v4_L35)]) hx hb dX1_safest_82 rfl hl (by decide) rfl (fun ls hl => ?_)
            refine lv_iload hx hb dX1_safest_83 (lv_at hl 5 rfl) ?_
            refine lv_istore_n (lv' := [(3, .int v4_L35), (2, .int t0_72j), (5, .int t0_72j), (0, .ref (ad 0)), (1, .int v1_L35), (4, .int v4_L35)]) hx hb dX1_safest_85 rfl hl (by decide) rfl (fun ls hl => ?_)
            exact hJ86 t0_72j v4_L35 H locs ls hf hW (lv_sub hl [3, 4, 1, 0, 5] rfl)
        refine lv_if_eq (tgt := 70) hx hb dX1_safest_57 (by decide) (fun hc => ?_) (fun hc => ?_)
        · replace hf := ifp hc hf
          refine lv_bipush (v := 61) hx hb dX1_safest_70 (by decide) ?_
          exact hJ72 61 M_L35 H locs ls hf hW (lv_sub hl [0, 1, 2, 3, 4] rfl)
        · replace hf := ifn hc hf
          refine lv_aload_n hx hb dX1_safest_60 rfl (lv_at hl 0 rfl) ?_
          refine lv_iload hx hb dX1_safest_61 (lv_at hl 4 rfl) ?_
          refine lv_iload_n hx hb dX1_safest_63 rfl (lv_at hl 1 rfl) ?_
          obtain ⟨r64, M64, h64, hf⟩ := bI_some hf
          refine g_calliV X hl.1 hZ hA hW (c_X1_comesBack l D cy ad h64) cw_X1_comesBack ql_X1_189 iO_X1 rfl (by decide) rfl (Nat.le_of_ble_eq_true rfl) dX1_safest_64 (fun H locs hW => ?_)
          refine lv_goto (tgt := 72) hx hb dX1_safest_67 (by decide) ?_
          exact hJ72 r64 M64 H locs ls hf hW (lv_sub hl [0, 1, 2, 3, 4] rfl)
  obtain ⟨H, hH⟩ : ∃ H, H = s.heap := ⟨_, rfl⟩
  obtain ⟨locs, hlo⟩ : ∃ q : List Loc, q = [] := ⟨_, rfl⟩
  have hW : Wd D 43 ad (CC ad cy) A s.heap M H locs := by rw [hH, hlo]; exact hW
  suffices hh : W p l e (rmD 5) s m ([.ref (ad 0), .int v1] : List Value).toArray below meth c H locs 0 0 Q (F0 m 0 ls []) by rw [hH, hlo] at hh; exact hh
  unfold f_X1_safest at hf
  refine lv_iload_n hx hb dX1_safest_0 rfl (lv_at hl 1 rfl) ?_
  refine lv_iconst (v := 0) hx hb dX1_safest_1 (by decide) ?_
  refine lv_sipush (v := 511) hx hb dX1_safest_2 (by decide) ?_
  obtain ⟨r5, h5, hf⟩ := bR_some hf
  refine g_calliS X hl.1 hZ hA hW (c_X1_isWithin l D cy ad h5) cs_X1_isWithin ql_X1_114 rfl (by decide) rfl (Nat.le_of_ble_eq_true rfl) dX1_safest_5 (fun H locs hW => ?_)
  refine lv_if_ne (tgt := 13) hx hb dX1_safest_8 (by decide) (fun hc => ?_) (fun hc => ?_)
  · replace hf := ifn hc hf
    refine lv_aload_n hx hb dX1_safest_13 rfl (lv_at hl 0 rfl) ?_
    refine gf_X1_29 X hW dX1_safest_14 ?_
    refine gf_X1_108 isSt15 X hW dX1_safest_17 ?_
    refine lv_if_ne (tgt := 26) hx hb dX1_safest_20 (by decide) (fun hc => ?_) (fun hc => ?_)
    · replace hf := ifn hc hf
      refine lv_bipush (v := 61) hx hb dX1_safest_26 (by decide) ?_
      refine lv_istore_n (lv' := [(2, .int 61), (0, .ref (ad 0)), (1, .int v1)]) hx hb dX1_safest_28 rfl hl (by decide) rfl (fun ls hl => ?_)
      refine lv_bipush (v := (-9)) hx hb dX1_safest_29 (by decide) ?_
      refine lv_istore_n (lv' := [(3, .int (-9)), (2, .int 61), (0, .ref (ad 0)), (1, .int v1)]) hx hb dX1_safest_31 rfl hl (by decide) rfl (fun ls hl => ?_)
      refine lv_iconst (v := 0) hx hb dX1_safest_32 (by decide) ?_
      refine lv_istore (lv' := [(4, .int 0), (3, .int (-9)), (2, .int 61), (0, .ref (ad 0)), (1, .int v1)]) hx hb dX1_safest_33 hl (by decide) rfl (fun ls hl => ?_)
      obtain ⟨k92, hk92, hf⟩ := jn_some3 hf
      have hJ92 : ∀ (v2_92x : Int32) (v3_92x : Int32) (M_92x : Mem) (H : Heap) (locs : List Loc) (ls : Array Slot), k92 v2_92x v3_92x M_92x = some (r, M') → Wd D 43 ad (CC ad cy) A s.heap M_92x H locs → lv_has ls 6 [(0, .ref (ad 0)), (2, .int v2_92x), (3, .int v3_92x)] → W p l e (rmD 5) s m ([.ref (ad 0), .int v1] : List Value).toArray below meth c H locs 0 0 Q (F0 m 92 ls []) := by
        intro v2_92x v3_92x M_92x H locs ls hf hW hl
        rw [hk92] at hf
        refine lv_iload_n hx hb dX1_safest_92 rfl (lv_at hl 2 rfl) ?_
        refine lv_bipush (v := (-9)) hx hb dX1_safest_93 (by decide) ?_
        refine lv_icmp_eq (tgt := 103) hx hb dX1_safest_95 (by decide) (fun hc => ?_) (fun hc => ?_)
        · replace hf := ifp hc hf
          refine lv_iload_n hx hb dX1_safest_103 rfl (lv_at hl 2 rfl) ?_
          exact g_iret X hr hlk hQ hW dX1_safest_104 hf
        · replace hf := ifn hc hf
          refine lv_aload_n hx hb dX1_safest_98 rfl (lv_at hl 0 rfl) ?_
          refine lv_iload_n hx hb dX1_safest_99 rfl (lv_at hl 1 rfl) ?_
          refine gp_X1_58 X hW dX1_safest_100 (fun H locs hW => ?_)
          obtain ⟨M100, e100, hf⟩ := lt_some hf
          have hW : Wd D 43 ad (CC ad cy) A s.heap M100 H locs := by rw [e100]; exact hW
          refine lv_iload_n hx hb dX1_safest_103 rfl (lv_at hl 2 rfl) ?_
          exact g_iret X hr hlk hQ hW dX1_safest_104 hf
      exact hL35 v1 k92 hJ92 FU 61 (-9) 0 M H locs ls hf hW (lv_sub hl [3, 4, 2, 1, 0] rfl)
    · replace hf := ifp hc hf
      refine lv_bipush (v := (-4)) hx hb dX1_safest_23 (by decide) ?_
      exact g_iret X hr hlk hQ hW dX1_safest_25 hf
  · replace hf := ifp hc hf
    refine lv_iconst (v := (-1)) hx hb dX1_safest_11 (by decide) ?_
    exact g_iret X hr hlk hQ hW dX1_safest_12 hf

def f_X1_lookThroughHeard_L28 (v1_L28 : Int32) (v2_L28 : Int32) (M : Mem) : Nat → Int32 → Option Int32
  | 0, _ => none
  | n + 1, v3_L28 => (if v2_L28 ≤ v3_L28 then (some 0) else (grd (inb v1_L28 6) (grd (inb v3_L28 40) (bR (f_X1_isWithin (M.1 (2 + (ix v1_L28)) (ix v3_L28)) 0 1 M) (fun r43 => (if r43 = 0 then (some 3) else (f_X1_lookThroughHeard_L28 v1_L28 v2_L28 M n (v3_L28 + 1))))))))
def f_X1_lookThroughHeard (v1 : Int32) (M : Mem) : Option Int32 :=
  (grd (inb v1 6) (if (M.1 8 (ix v1)) = (-1) then (some 1) else (bR (f_X1_isWithin (M.1 8 (ix v1)) 1 20 M) (fun r18 => (if r18 = 0 then (some 5) else (f_X1_lookThroughHeard_L28 v1 (M.1 8 (ix v1)) M FU 0))))))
set_option maxHeartbeats 4000000 in
set_option maxRecDepth 100000 in
theorem c_X1_lookThroughHeard (l : Launch) (D : va_G) (cy : Nat → ClassId) (ad : Nat → Nat)   {v1 : Int32} {M : Mem} {r : Int32} (hf : f_X1_lookThroughHeard v1 M = some r) : MetX l 43 (CC ad cy) D cy ad yX1_lookThroughHeard cX1_lookThroughHeard 4 (some .int) 1 [.ref (ad 0), .int v1] M (fun A => QI r M 43 (CC ad cy) D cy ad A) := by
  refine MetX.of (own := RX1) (by decide) rfl (Nat.le_of_ble_eq_true rfl) ?_
  intro p e s m below meth c A Q ls X hr hlk hZ hA hQ hW hl
  have hl : lv_has ls 4 [(0, .ref (ad 0)), (1, .int v1)] := hl
  have hx := X.1
  have hb := X.2.1
  have hL28 : ∀ (v1_L28 : Int32) (v2_L28 : Int32)  (n : Nat) (v3_L28 : Int32) (H : Heap) (locs : List Loc) (ls : Array Slot), f_X1_lookThroughHeard_L28 v1_L28 v2_L28 M n v3_L28 = some r → Wd D 43 ad (CC ad cy) A s.heap M H locs → lv_has ls 4 [(0, .ref (ad 0)), (1, .int v1_L28), (2, .int v2_L28), (3, .int v3_L28)] → W p l e (rmD 1) s m ([.ref (ad 0), .int v1] : List Value).toArray below meth c H locs 0 0 Q (F0 m 28 ls []) := by
    intro v1_L28 v2_L28 n
    induction n with
    | zero =>
      intro v3_L28 H locs ls hf
      cases (show (none : Option Int32) = some r from hf)
    | succ n ih =>
      intro v3_L28 H locs ls hf hW hl
      rw [f_X1_lookThroughHeard_L28] at hf
      refine lv_iload_n hx hb dX1_lookThroughHeard_28 rfl (lv_at hl 3 rfl) ?_
      refine lv_iload_n hx hb dX1_lookThroughHeard_29 rfl (lv_at hl 2 rfl) ?_
      refine lv_icmp_ge (tgt := 57) hx hb dX1_lookThroughHeard_30 (by decide) (fun hc => ?_) (fun hc => ?_)
      · replace hf := ifp hc hf
        refine lv_iconst (v := 0) hx hb dX1_lookThroughHeard_57 (by decide) ?_
        exact g_iret X hr hlk hQ hW dX1_lookThroughHeard_58 (rd_some hf)
      · replace hf := ifn hc hf
        refine lv_aload_n hx hb dX1_lookThroughHeard_33 rfl (lv_at hl 0 rfl) ?_
        refine gf_X1_11 X hW dX1_lookThroughHeard_34 ?_
        refine lv_iload_n hx hb dX1_lookThroughHeard_37 rfl (lv_at hl 1 rfl) ?_
        obtain ⟨hi38, hf⟩ := grd_some hf
        refine g_aald X hW (t0 := 3) iG_rows rfl rfl hi38 dX1_lookThroughHeard_38 ?_
        refine lv_iload_n hx hb dX1_lookThroughHeard_39 rfl (lv_at hl 3 rfl) ?_
        obtain ⟨hi40, hf⟩ := grd_some hf
        refine g_iald X hW (iA_rows_r (inb_lt hi38)) hi40 dX1_lookThroughHeard_40 ?_
        refine lv_iconst (v := 0) hx hb dX1_lookThroughHeard_41 (by decide) ?_
        refine lv_iconst (v := 1) hx hb dX1_lookThroughHeard_42 (by decide) ?_
        obtain ⟨r43, h43, hf⟩ := bR_some hf
        refine g_calliS X hl.1 hZ hA hW (c_X1_isWithin l D cy ad h43) cs_X1_isWithin ql_X1_114 rfl (by decide) rfl (Nat.le_of_ble_eq_true rfl) dX1_lookThroughHeard_43 (fun H locs hW => ?_)
        refine lv_if_ne (tgt := 51) hx hb dX1_lookThroughHeard_46 (by decide) (fun hc => ?_) (fun hc => ?_)
        · replace hf := ifn hc hf
          refine lv_iinc (v := (v3_L28 + 1)) (lv' := [(3, .int (v3_L28 + 1)), (0, .ref (ad 0)), (1, .int v1_L28), (2, .int v2_L28)]) hx hb dX1_lookThroughHeard_51 hl (k := 3) rfl rfl (by decide) rfl (fun ls hl => ?_)
          refine lv_goto (tgt := 28) hx hb dX1_lookThroughHeard_54 (by decide) ?_
          exact ih (v3_L28 + 1) H locs ls hf hW (lv_sub hl [1, 2, 3, 0] rfl)
        · replace hf := ifp hc hf
          refine lv_iconst (v := 3) hx hb dX1_lookThroughHeard_49 (by decide) ?_
          exact g_iret X hr hlk hQ hW dX1_lookThroughHeard_50 (rd_some hf)
  obtain ⟨H, hH⟩ : ∃ H, H = s.heap := ⟨_, rfl⟩
  obtain ⟨locs, hlo⟩ : ∃ q : List Loc, q = [] := ⟨_, rfl⟩
  have hW : Wd D 43 ad (CC ad cy) A s.heap M H locs := by rw [hH, hlo]; exact hW
  suffices hh : W p l e (rmD 1) s m ([.ref (ad 0), .int v1] : List Value).toArray below meth c H locs 0 0 Q (F0 m 0 ls []) by rw [hH, hlo] at hh; exact hh
  unfold f_X1_lookThroughHeard at hf
  refine lv_aload_n hx hb dX1_lookThroughHeard_0 rfl (lv_at hl 0 rfl) ?_
  refine gf_X1_14 X hW dX1_lookThroughHeard_1 ?_
  refine lv_iload_n hx hb dX1_lookThroughHeard_4 rfl (lv_at hl 1 rfl) ?_
  obtain ⟨hi5, hf⟩ := grd_some hf
  refine g_iald X hW iA_rowSizes hi5 dX1_lookThroughHeard_5 ?_
  refine lv_istore_n (lv' := [(2, .int (M.1 8 (ix v1))), (0, .ref (ad 0)), (1, .int v1)]) hx hb dX1_lookThroughHeard_6 rfl hl (by decide) rfl (fun ls hl => ?_)
  refine lv_iload_n hx hb dX1_lookThroughHeard_7 rfl (lv_at hl 0 rfl) ?_
  refine lv_iconst (v := (-1)) hx hb dX1_lookThroughHeard_8 (by decide) ?_
  refine lv_icmp_ne (tgt := 14) hx hb dX1_lookThroughHeard_9 (by decide) (fun hc => ?_) (fun hc => ?_)
  · replace hf := ifn hc hf
    refine lv_iload_n hx hb dX1_lookThroughHeard_14 rfl (lv_at hl 0 rfl) ?_
    refine lv_iconst (v := 1) hx hb dX1_lookThroughHeard_15 (by decide) ?_
    refine lv_bipush (v := 20) hx hb dX1_lookThroughHeard_16 (by decide) ?_
    obtain ⟨r18, h18, hf⟩ := bR_some hf
    refine g_calliS X hl.1 hZ hA hW (c_X1_isWithin l D cy ad h18) cs_X1_isWithin ql_X1_114 rfl (by decide) rfl (Nat.le_of_ble_eq_true rfl) dX1_lookThroughHeard_18 (fun H locs hW => ?_)
    refine lv_if_ne (tgt := 26) hx hb dX1_lookThroughHeard_21 (by decide) (fun hc => ?_) (fun hc => ?_)
    · replace hf := ifn hc hf
      refine lv_iconst (v := 0) hx hb dX1_lookThroughHeard_26 (by decide) ?_
      refine lv_istore_n (lv' := [(3, .int 0), (2, .int (M.1 8 (ix v1))), (0, .ref (ad 0)), (1, .int v1)]) hx hb dX1_lookThroughHeard_27 rfl hl (by decide) rfl (fun ls hl => ?_)
      exact hL28 v1 (M.1 8 (ix v1)) FU 0 H locs ls hf hW (lv_sub hl [2, 3, 1, 0] rfl)
    · replace hf := ifp hc hf
      refine lv_iconst (v := 5) hx hb dX1_lookThroughHeard_24 (by decide) ?_
      exact g_iret X hr hlk hQ hW dX1_lookThroughHeard_25 (rd_some hf)
  · replace hf := ifp hc hf
    refine lv_iconst (v := 1) hx hb dX1_lookThroughHeard_12 (by decide) ?_
    exact g_iret X hr hlk hQ hW dX1_lookThroughHeard_13 (rd_some hf)

def f_X1_isHeard_L13 (v1_L13 : Int32) (v2_L13 : Int32) (v3_L13 : Int32) (k76 : Int32 → Mem → Option (Int32 × Mem)) : Nat → Int32 → Int32 → Mem → Option (Int32 × Mem)
  | 0, _, _, _ => none
  | n + 1, v4_L13, v5_L13, M_L13 => (if 60 ≤ v5_L13 then (k76 v4_L13 M_L13) else (if v3_L13 ≤ v4_L13 then (k76 v4_L13 M_L13) else (bR (f_X0_isReady 22 v1_L13 M_L13) (fun r31 => (jn (fun (k62 : Int32 → Option (Int32 × Mem)) => (if r31 = 0 then (k62 v4_L13) else (bR (f_X0_comesOut 22 v1_L13 M_L13) (fun r42 => (grd (inb v2_L13 6) (grd (inb v4_L13 40) (if r42 = (M_L13.1 (2 + (ix v2_L13)) (ix v4_L13)) then (k62 (v4_L13 + 1)) else (some (0, M_L13))))))))) (fun (v4_62j : Int32) => (bR (f_X0_goOn 22 1 M_L13) (fun M67 => (f_X1_isHeard_L13 v1_L13 v2_L13 v3_L13 k76 n v4_62j (v5_L13 + 1) M67)))))))))
def f_X1_isHeard (v1 : Int32) (v2 : Int32) (M : Mem) : Option (Int32 × Mem) :=
  (grd (inb v2 6) (jn (fun (k76 : Int32 → Mem → Option (Int32 × Mem)) => (f_X1_isHeard_L13 v1 v2 (M.1 8 (ix v2)) k76 FU 0 0 M)) (fun (v4_76x : Int32) (M_76x : Mem) => (if v4_76x = (M.1 8 (ix v2)) then (some (1, M_76x)) else (some (0, M_76x))))))
set_option maxHeartbeats 4000000 in
set_option maxRecDepth 100000 in
theorem c_X1_isHeard (l : Launch) (D : va_G) (cy : Nat → ClassId) (ad : Nat → Nat)   {v1 : Int32} {v2 : Int32} {M M' : Mem} {r : Int32} (hf : f_X1_isHeard v1 v2 M = some (r, M')) : MetX l 43 (CC ad cy) D cy ad yX1_isHeard cX1_isHeard 6 (some .boolean) 4 [.ref (ad 0), .int v1, .int v2] M (fun A => QI r M' 43 (CC ad cy) D cy ad A) := by
  refine MetX.of (own := RX1) (by decide) rfl (Nat.le_of_ble_eq_true rfl) ?_
  intro p e s m below meth c A Q ls X hr hlk hZ hA hQ hW hl
  have hl : lv_has ls 6 [(0, .ref (ad 0)), (1, .int v1), (2, .int v2)] := hl
  have hx := X.1
  have hb := X.2.1
  have hL13 : ∀ (v1_L13 : Int32) (v2_L13 : Int32) (v3_L13 : Int32) (k76 : Int32 → Mem → Option (Int32 × Mem)) (hJ76 : ∀ (v4_76x : Int32) (M_76x : Mem) (H : Heap) (locs : List Loc) (ls : Array Slot), k76 v4_76x M_76x = some (r, M') → Wd D 43 ad (CC ad cy) A s.heap M_76x H locs → lv_has ls 6 [(3, .int v3_L13), (4, .int v4_76x)] → W p l e (rmD 4) s m ([.ref (ad 0), .int v1, .int v2] : List Value).toArray below meth c H locs 0 0 Q (F0 m 76 ls [])) (n : Nat) (v4_L13 : Int32) (v5_L13 : Int32) (M_L13 : Mem) (H : Heap) (locs : List Loc) (ls : Array Slot), f_X1_isHeard_L13 v1_L13 v2_L13 v3_L13 k76 n v4_L13 v5_L13 M_L13 = some (r, M') → Wd D 43 ad (CC ad cy) A s.heap M_L13 H locs → lv_has ls 6 [(0, .ref (ad 0)), (1, .int v1_L13), (2, .int v2_L13), (3, .int v3_L13), (4, .int v4_L13), (5, .int v5_L13)] → W p l e (rmD 4) s m ([.ref (ad 0), .int v1, .int v2] : List Value).toArray below meth c H locs 0 0 Q (F0 m 13 ls []) := by
    intro v1_L13 v2_L13 v3_L13 k76 hJ76 n
    induction n with
    | zero =>
      intro v4_L13 v5_L13 M_L13 H locs ls hf
      cases (show (none : Option (Int32 × Mem)) = some (r, M') from hf)
    | succ n ih =>
      intro v4_L13 v5_L13 M_L13 H locs ls hf hW hl
      rw [f_X1_isHeard_L13] at hf
      refine lv_iload hx hb dX1_isHeard_13 (lv_at hl 5 rfl) ?_
      refine lv_bipush (v := 60) hx hb dX1_isHeard_15 (by decide) ?_
      refine lv_icmp_ge (tgt := 76) hx hb dX1_isHeard_17 (by decide) (fun hc => ?_) (fun hc => ?_)
      · replace hf := ifp hc hf
        exact hJ76 v4_L13 M_L13 H locs ls hf hW (lv_sub hl [3, 4] rfl)
      · replace hf := ifn hc hf
        refine lv_iload hx hb dX1_isHeard_20 (lv_at hl 4 rfl) ?_
        refine lv_iload_n hx hb dX1_isHeard_22 rfl (lv_at hl 3 rfl) ?_
        refine lv_icmp_ge (tgt := 76) hx hb dX1_isHeard_23 (by decide) (fun hc => ?_) (fun hc => ?_)
        · replace hf := ifp hc hf
          exact hJ76 v4_L13 M_L13 H locs ls hf hW (lv_sub hl [3, 4] rfl)
        · replace hf := ifn hc hf
          refine lv_aload_n hx hb dX1_isHeard_26 rfl (lv_at hl 0 rfl) ?_
          refine gf_X1_33 X hW dX1_isHeard_27 ?_
          refine lv_iload_n hx hb dX1_isHeard_30 rfl (lv_at hl 1 rfl) ?_
          obtain ⟨r31, h31, hf⟩ := bR_some hf
          refine g_calliN (host := "TubeWords") X hl.1 hZ hA hW (c_X0_isReady l D cy ad isSt22 h31) cw_X0_isReady (by decide +kernel) (iO_st isSt22) rfl (by decide) rfl (Nat.le_of_ble_eq_true rfl) dX1_isHeard_31 (fun H locs hW => ?_)
          obtain ⟨k62, hk62, hf⟩ := jn_some1 hf
          have hJ62 : ∀ (v4_62j : Int32) (H : Heap) (locs : List Loc) (ls : Array Slot), k62 v4_62j = some (r, M') → Wd D 43 ad (CC ad cy) A s.heap M_L13 H locs → lv_has ls 6 [(0, .ref (ad 0)), (1, .int v1_L13), (2, .int v2_L13), (3, .int v3_L13), (4, .int v4_62j), (5, .int v5_L13)] → W p l e (rmD 4) s m ([.ref (ad 0), .int v1, .int v2] : List Value).toArray below meth c H locs 0 0 Q (F0 m 62 ls []) := by
            intro v4_62j H locs ls hf hW hl
            rw [hk62] at hf
            refine lv_aload_n hx hb dX1_isHeard_62 rfl (lv_at hl 0 rfl) ?_
            refine gf_X1_33 X hW dX1_isHeard_63 ?_
            refine lv_iconst (v := 1) hx hb dX1_isHeard_66 (by decide) ?_
            obtain ⟨M67, h67, hf⟩ := bR_some hf
            refine g_callvN (host := "TubeWords") X hl.1 hZ hA hW (c_X0_goOn l D cy ad isSt22 h67) cw_X0_goOn (by decide +kernel) (iO_st isSt22) rfl (by decide) rfl (Nat.le_of_ble_eq_true rfl) dX1_isHeard_67 (fun H locs hW => ?_)
            refine lv_iinc (v := (v5_L13 + 1)) (lv' := [(5, .int (v5_L13 + 1)), (0, .ref (ad 0)), (1, .int v1_L13), (2, .int v2_L13), (3, .int v3_L13), (4, .int v4_62j)]) hx hb dX1_isHeard_70 hl (k := 5) rfl rfl (by decide) rfl (fun ls hl => ?_)
            refine lv_goto (tgt := 13) hx hb dX1_isHeard_73 (by decide) ?_
            exact ih v4_62j (v5_L13 + 1) M67 H locs ls hf hW (lv_sub hl [1, 2, 3, 4, 5, 0] rfl)
          refine lv_if_eq (tgt := 62) hx hb dX1_isHeard_34 (by decide) (fun hc => ?_) (fun hc => ?_)
          · replace hf := ifp hc hf
            exact hJ62 v4_L13 H locs ls hf hW (lv_sub hl [0, 1, 2, 3, 4, 5] rfl)
          · replace hf := ifn hc hf
            refine lv_aload_n hx hb dX1_isHeard_37 rfl (lv_at hl 0 rfl) ?_
            refine gf_X1_33 X hW dX1_isHeard_38 ?_
            refine lv_iload_n hx hb dX1_isHeard_41 rfl (lv_at hl 1 rfl) ?_
            obtain ⟨r42, h42, hf⟩ := bR_some hf
            refine g_calliN (host := "TubeWords") X hl.1 hZ hA hW (c_X0_comesOut l D cy ad isSt22 h42) cw_X0_comesOut (by decide +kernel) (iO_st isSt22) rfl (by decide) rfl (Nat.le_of_ble_eq_true rfl) dX1_isHeard_42 (fun H locs hW => ?_)
            refine lv_aload_n hx hb dX1_isHeard_45 rfl (lv_at hl 0 rfl) ?_
            refine gf_X1_11 X hW dX1_isHeard_46 ?_
            refine lv_iload_n hx hb dX1_isHeard_49 rfl (lv_at hl 2 rfl) ?_
            obtain ⟨hi50, hf⟩ := grd_some hf
            refine g_aald X hW (t0 := 3) iG_rows rfl rfl hi50 dX1_isHeard_50 ?_
            refine lv_iload hx hb dX1_isHeard_51 (lv_at hl 4 rfl) ?_
            obtain ⟨hi53, hf⟩ := grd_some hf
            refine g_iald X hW (iA_rows_r (inb_lt hi50)) hi53 dX1_isHeard_53 ?_
            refine lv_icmp_eq (tgt := 59) hx hb dX1_isHeard_54 (by decide) (fun hc => ?_) (fun hc => ?_)
            · replace hf := ifp hc hf
              refine lv_iinc (v := (v4_L13 + 1)) (lv' := [(4, .int (v4_L13 + 1)), (0, .ref (ad 0)), (1, .int v1_L13), (2, .int v2_L13), (3, .int v3_L13), (5, .int v5_L13)]) hx hb dX1_isHeard_59 hl (k := 4) rfl rfl (by decide) rfl (fun ls hl => ?_)
              exact hJ62 (v4_L13 + 1) H locs ls hf hW (lv_sub hl [1, 2, 3, 4, 0, 5] rfl)
            · replace hf := ifn hc hf
              refine lv_iconst (v := 0) hx hb dX1_isHeard_57 (by decide) ?_
              exact g_zret X hr hlk hQ hW dX1_isHeard_58 (by decide) hf
  obtain ⟨H, hH⟩ : ∃ H, H = s.heap := ⟨_, rfl⟩
  obtain ⟨locs, hlo⟩ : ∃ q : List Loc, q = [] := ⟨_, rfl⟩
  have hW : Wd D 43 ad (CC ad cy) A s.heap M H locs := by rw [hH, hlo]; exact hW
  suffices hh : W p l e (rmD 4) s m ([.ref (ad 0), .int v1, .int v2] : List Value).toArray below meth c H locs 0 0 Q (F0 m 0 ls []) by rw [hH, hlo] at hh; exact hh
  unfold f_X1_isHeard at hf
  refine lv_aload_n hx hb dX1_isHeard_0 rfl (lv_at hl 0 rfl) ?_
  refine gf_X1_14 X hW dX1_isHeard_1 ?_
  refine lv_iload_n hx hb dX1_isHeard_4 rfl (lv_at hl 2 rfl) ?_
  obtain ⟨hi5, hf⟩ := grd_some hf
  refine g_iald X hW iA_rowSizes hi5 dX1_isHeard_5 ?_
  refine lv_istore_n (lv' := [(3, .int (M.1 8 (ix v2))), (0, .ref (ad 0)), (1, .int v1), (2, .int v2)]) hx hb dX1_isHeard_6 rfl hl (by decide) rfl (fun ls hl => ?_)
  refine lv_iconst (v := 0) hx hb dX1_isHeard_7 (by decide) ?_
  refine lv_istore (lv' := [(4, .int 0), (3, .int (M.1 8 (ix v2))), (0, .ref (ad 0)), (1, .int v1), (2, .int v2)]) hx hb dX1_isHeard_8 hl (by decide) rfl (fun ls hl => ?_)
  refine lv_iconst (v := 0) hx hb dX1_isHeard_10 (by decide) ?_
  refine lv_istore (lv' := [(5, .int 0), (4, .int 0), (3, .int (M.1 8 (ix v2))), (0, .ref (ad 0)), (1, .int v1), (2, .int v2)]) hx hb dX1_isHeard_11 hl (by decide) rfl (fun ls hl => ?_)
  obtain ⟨k76, hk76, hf⟩ := jn_some2 hf
  have hJ76 : ∀ (v4_76x : Int32) (M_76x : Mem) (H : Heap) (locs : List Loc) (ls : Array Slot), k76 v4_76x M_76x = some (r, M') → Wd D 43 ad (CC ad cy) A s.heap M_76x H locs → lv_has ls 6 [(3, .int (M.1 8 (ix v2))), (4, .int v4_76x)] → W p l e (rmD 4) s m ([.ref (ad 0), .int v1, .int v2] : List Value).toArray below meth c H locs 0 0 Q (F0 m 76 ls []) := by
    intro v4_76x M_76x H locs ls hf hW hl
    rw [hk76] at hf
    refine lv_iload hx hb dX1_isHeard_76 (lv_at hl 1 rfl) ?_
    refine lv_iload_n hx hb dX1_isHeard_78 rfl (lv_at hl 0 rfl) ?_
    refine lv_icmp_ne (tgt := 86) hx hb dX1_isHeard_79 (by decide) (fun hc => ?_) (fun hc => ?_)
    · replace hf := ifn hc hf
      refine lv_iconst (v := 0) hx hb dX1_isHeard_86 (by decide) ?_
      exact g_zret X hr hlk hQ hW dX1_isHeard_87 (by decide) hf
    · replace hf := ifp hc hf
      refine lv_iconst (v := 1) hx hb dX1_isHeard_82 (by decide) ?_
      refine lv_goto (tgt := 87) hx hb dX1_isHeard_83 (by decide) ?_
      exact g_zret X hr hlk hQ hW dX1_isHeard_87 (by decide) hf
  exact hL13 v1 v2 (M.1 8 (ix v2)) k76 hJ76 FU 0 0 M H locs ls hf hW (lv_sub hl [3, 4, 5, 2, 1, 0] rfl)

def f_X1_kindsHeard_L5 (v1_L5 : Int32) (v2_L5 : Int32) : Nat → Int32 → Int32 → Mem → Option (Int32 × Mem)
  | 0, _, _, _ => none
  | n + 1, v3_L5, v4_L5, M_L5 => (if 6 ≤ v4_L5 then (some (v3_L5, M_L5)) else (bR (f_X0_takeFrom 22 15 M_L5) (fun M20 => (grd (inb v1_L5 7) (lt (sI M20 (22 + 1) (ix v1_L5) v4_L5) (fun M33 => (bI (f_X1_isHeard v1_L5 v2_L5 M33) (fun r37 M37 => (jn (fun (k50 : Int32 → Option (Int32 × Mem)) => (if r37 = 0 then (k50 v3_L5) else (k50 (v3_L5 ||| (shl 1 v4_L5))))) (fun (v3_50j : Int32) => (f_X1_kindsHeard_L5 v1_L5 v2_L5 n v3_50j (v4_L5 + 1) M37)))))))))))
def f_X1_kindsHeard (v1 : Int32) (v2 : Int32) (M : Mem) : Option (Int32 × Mem) :=
  (f_X1_kindsHeard_L5 v1 v2 FU 0 0 M)
set_option maxHeartbeats 4000000 in
set_option maxRecDepth 100000 in
theorem c_X1_kindsHeard (l : Launch) (D : va_G) (cy : Nat → ClassId) (ad : Nat → Nat)   {v1 : Int32} {v2 : Int32} {M M' : Mem} {r : Int32} (hf : f_X1_kindsHeard v1 v2 M = some (r, M')) : MetX l 43 (CC ad cy) D cy ad yX1_kindsHeard cX1_kindsHeard 5 (some .int) 5 [.ref (ad 0), .int v1, .int v2] M (fun A => QI r M' 43 (CC ad cy) D cy ad A) := by
  refine MetX.of (own := RX1) (by decide) rfl (Nat.le_of_ble_eq_true rfl) ?_
  intro p e s m below meth c A Q ls X hr hlk hZ hA hQ hW hl
  have hl : lv_has ls 5 [(0, .ref (ad 0)), (1, .int v1), (2, .int v2)] := hl
  have hx := X.1
  have hb := X.2.1
  have hL5 : ∀ (v1_L5 : Int32) (v2_L5 : Int32)  (n : Nat) (v3_L5 : Int32) (v4_L5 : Int32) (M_L5 : Mem) (H : Heap) (locs : List Loc) (ls : Array Slot), f_X1_kindsHeard_L5 v1_L5 v2_L5 n v3_L5 v4_L5 M_L5 = some (r, M') → Wd D 43 ad (CC ad cy) A s.heap M_L5 H locs → lv_has ls 5 [(0, .ref (ad 0)), (1, .int v1_L5), (2, .int v2_L5), (3, .int v3_L5), (4, .int v4_L5)] → W p l e (rmD 5) s m ([.ref (ad 0), .int v1, .int v2] : List Value).toArray below meth c H locs 0 0 Q (F0 m 5 ls []) := by
    intro v1_L5 v2_L5 n
    induction n with
    | zero =>
      intro v3_L5 v4_L5 M_L5 H locs ls hf
      cases (show (none : Option (Int32 × Mem)) = some (r, M') from hf)
    | succ n ih =>
      intro v3_L5 v4_L5 M_L5 H locs ls hf hW hl
      rw [f_X1_kindsHeard_L5] at hf
      refine lv_iload hx hb dX1_kindsHeard_5 (lv_at hl 4 rfl) ?_
      refine lv_bipush (v := 6) hx hb dX1_kindsHeard_7 (by decide) ?_
      refine lv_icmp_ge (tgt := 56) hx hb dX1_kindsHeard_9 (by decide) (fun hc => ?_) (fun hc => ?_)
      · replace hf := ifp hc hf
        refine lv_iload_n hx hb dX1_kindsHeard_56 rfl (lv_at hl 3 rfl) ?_
        exact g_iret X hr hlk hQ hW dX1_kindsHeard_57 hf
      · replace hf := ifn hc hf
        refine lv_aload_n hx hb dX1_kindsHeard_12 rfl (lv_at hl 0 rfl) ?_
        refine gf_X1_33 X hW dX1_kindsHeard_13 ?_
        refine lv_aload_n hx hb dX1_kindsHeard_16 rfl (lv_at hl 0 rfl) ?_
        refine gf_X1_29 X hW dX1_kindsHeard_17 ?_
        obtain ⟨M20, h20, hf⟩ := bR_some hf
        refine g_callvN (host := "TubeWords") X hl.1 hZ hA hW (c_X0_takeFrom l D cy ad isSt22 isSt15 h20) cw_X0_takeFrom (by decide +kernel) (iO_st isSt22) rfl (by decide) rfl (Nat.le_of_ble_eq_true rfl) dX1_kindsHeard_20 (fun H locs hW => ?_)
        refine lv_aload_n hx hb dX1_kindsHeard_23 rfl (lv_at hl 0 rfl) ?_
        refine gf_X1_33 X hW dX1_kindsHeard_24 ?_
        refine gf_X1_243 isSt22 X hW dX1_kindsHeard_27 ?_
        refine lv_iload_n hx hb dX1_kindsHeard_30 rfl (lv_at hl 1 rfl) ?_
        refine lv_iload hx hb dX1_kindsHeard_31 (lv_at hl 4 rfl) ?_
        obtain ⟨hi33, hf⟩ := grd_some hf
        refine g_iast X hW (iA_st1 isSt22) hi33 dX1_kindsHeard_33 (fun H locs hW => ?_)
        obtain ⟨M33, e33, hf⟩ := lt_some hf
        have hW : Wd D 43 ad (CC ad cy) A s.heap M33 H locs := by rw [e33]; exact hW
        refine lv_aload_n hx hb dX1_kindsHeard_34 rfl (lv_at hl 0 rfl) ?_
        refine lv_iload_n hx hb dX1_kindsHeard_35 rfl (lv_at hl 1 rfl) ?_
        refine lv_iload_n hx hb dX1_kindsHeard_36 rfl (lv_at hl 2 rfl) ?_
        obtain ⟨r37, M37, h37, hf⟩ := bI_some hf
        refine g_calliV X hl.1 hZ hA hW (c_X1_isHeard l D cy ad h37) cw_X1_isHeard ql_X1_198 iO_X1 rfl (by decide) rfl (Nat.le_of_ble_eq_true rfl) dX1_kindsHeard_37 (fun H locs hW => ?_)
        obtain ⟨k50, hk50, hf⟩ := jn_some1 hf
        have hJ50 : ∀ (v3_50j : Int32) (H : Heap) (locs : List Loc) (ls : Array Slot), k50 v3_50j = some (r, M') → Wd D 43 ad (CC ad cy) A s.heap M37 H locs → lv_has ls 5 [(0, .ref (ad 0)), (1, .int v1_L5), (2, .int v2_L5), (3, .int v3_50j), (4, .int v4_L5)] → W p l e (rmD 5) s m ([.ref (ad 0), .int v1, .int v2] : List Value).toArray below meth c H locs 0 0 Q (F0 m 50 ls []) := by
          intro v3_50j H locs ls hf hW hl
          rw [hk50] at hf
          refine lv_iinc (v := (v4_L5 + 1)) (lv' := [(4, .int (v4_L5 + 1)), (0, .ref (ad 0)), (1, .int v1_L5), (2, .int v2_L5), (3, .int v3_50j)]) hx hb dX1_kindsHeard_50 hl (k := 4) rfl rfl (by decide) rfl (fun ls hl => ?_)
          refine lv_goto (tgt := 5) hx hb dX1_kindsHeard_53 (by decide) ?_
          exact ih v3_50j (v4_L5 + 1) M37 H locs ls hf hW (lv_sub hl [1, 2, 3, 4, 0] rfl)
        refine lv_if_eq (tgt := 50) hx hb dX1_kindsHeard_40 (by decide) (fun hc => ?_) (fun hc => ?_)
        · replace hf := ifp hc hf
          exact hJ50 v3_L5 H locs ls hf hW (lv_sub hl [0, 1, 2, 3, 4] rfl)
        · replace hf := ifn hc hf
          refine lv_iload_n hx hb dX1_kindsHeard_43 rfl (lv_at hl 3 rfl) ?_
          refine lv_iconst (v := 1) hx hb dX1_kindsHeard_44 (by decide) ?_
          refine lv_iload hx hb dX1_kindsHeard_45 (lv_at hl 4 rfl) ?_
          refine r_ishl hx hb dX1_kindsHeard_47 ?_
          refine lv_ior hx hb dX1_kindsHeard_48 ?_
          refine lv_istore_n (lv' := [(3, .int (v3_L5 ||| (shl 1 v4_L5))), (0, .ref (ad 0)), (1, .int v1_L5), (2, .int v2_L5), (4, .int v4_L5)]) hx hb dX1_kindsHeard_49 rfl hl (by decide) rfl (fun ls hl => ?_)
          exact hJ50 (v3_L5 ||| (shl 1 v4_L5)) H locs ls hf hW (lv_sub hl [1, 2, 3, 0, 4] rfl)
  obtain ⟨H, hH⟩ : ∃ H, H = s.heap := ⟨_, rfl⟩
  obtain ⟨locs, hlo⟩ : ∃ q : List Loc, q = [] := ⟨_, rfl⟩
  have hW : Wd D 43 ad (CC ad cy) A s.heap M H locs := by rw [hH, hlo]; exact hW
  suffices hh : W p l e (rmD 5) s m ([.ref (ad 0), .int v1, .int v2] : List Value).toArray below meth c H locs 0 0 Q (F0 m 0 ls []) by rw [hH, hlo] at hh; exact hh
  unfold f_X1_kindsHeard at hf
  refine lv_iconst (v := 0) hx hb dX1_kindsHeard_0 (by decide) ?_
  refine lv_istore_n (lv' := [(3, .int 0), (0, .ref (ad 0)), (1, .int v1), (2, .int v2)]) hx hb dX1_kindsHeard_1 rfl hl (by decide) rfl (fun ls hl => ?_)
  refine lv_iconst (v := 0) hx hb dX1_kindsHeard_2 (by decide) ?_
  refine lv_istore (lv' := [(4, .int 0), (3, .int 0), (0, .ref (ad 0)), (1, .int v1), (2, .int v2)]) hx hb dX1_kindsHeard_3 hl (by decide) rfl (fun ls hl => ?_)
  exact hL5 v1 v2 FU 0 0 M H locs ls hf hW (lv_sub hl [2, 3, 4, 1, 0] rfl)

def f_X1_kinds (v1 : Int32) (v2 : Int32) (M : Mem) : Option (Int32 × Mem) :=
  (bR (f_X0_has 15 v1 M) (fun r5 => (if r5 = 0 then (some ((-1), M)) else (bR (f_X1_isRow v2 M) (fun r12 => (if r12 = 0 then (some ((-1), M)) else (bR (f_X1_lookThroughHeard v2 M) (fun r22 => (if r22 = 0 then (bI (f_X1_kindsHeard v1 v2 M) (fun r41 M41 => (some (r41, M41)))) else (bI (f_X1_refuse r22 M) (fun r32 M32 => (some (r32, M32)))))))))))))
set_option maxHeartbeats 4000000 in
set_option maxRecDepth 100000 in
theorem c_X1_kinds (l : Launch) (D : va_G) (cy : Nat → ClassId) (ad : Nat → Nat)   {v1 : Int32} {v2 : Int32} {M M' : Mem} {r : Int32} (hf : f_X1_kinds v1 v2 M = some (r, M')) : MetX l 43 (CC ad cy) D cy ad yX1_kinds cX1_kinds 4 (some .int) 6 [.ref (ad 0), .int v1, .int v2] M (fun A => QI r M' 43 (CC ad cy) D cy ad A) := by
  refine MetX.of (own := RX1) (by decide) rfl (Nat.le_of_ble_eq_true rfl) ?_
  intro p e s m below meth c A Q ls X hr hlk hZ hA hQ hW hl
  have hl : lv_has ls 4 [(0, .ref (ad 0)), (1, .int v1), (2, .int v2)] := hl
  have hx := X.1
  have hb := X.2.1
  obtain ⟨H, hH⟩ : ∃ H, H = s.heap := ⟨_, rfl⟩
  obtain ⟨locs, hlo⟩ : ∃ q : List Loc, q = [] := ⟨_, rfl⟩
  have hW : Wd D 43 ad (CC ad cy) A s.heap M H locs := by rw [hH, hlo]; exact hW
  suffices hh : W p l e (rmD 6) s m ([.ref (ad 0), .int v1, .int v2] : List Value).toArray below meth c H locs 0 0 Q (F0 m 0 ls []) by rw [hH, hlo] at hh; exact hh
  unfold f_X1_kinds at hf
  refine lv_aload_n hx hb dX1_kinds_0 rfl (lv_at hl 0 rfl) ?_
  refine gf_X1_29 X hW dX1_kinds_1 ?_
  refine lv_iload_n hx hb dX1_kinds_4 rfl (lv_at hl 1 rfl) ?_
  obtain ⟨r5, h5, hf⟩ := bR_some hf
  refine g_calliN (host := "TubeWords") X hl.1 hZ hA hW (c_X0_has l D cy ad isSt15 h5) cw_X0_has (by decide +kernel) (iO_st isSt15) rfl (by decide) rfl (Nat.le_of_ble_eq_true rfl) dX1_kinds_5 (fun H locs hW => ?_)
  refine lv_if_eq (tgt := 18) hx hb dX1_kinds_8 (by decide) (fun hc => ?_) (fun hc => ?_)
  · replace hf := ifp hc hf
    refine lv_iconst (v := (-1)) hx hb dX1_kinds_18 (by decide) ?_
    exact g_iret X hr hlk hQ hW dX1_kinds_19 hf
  · replace hf := ifn hc hf
    refine lv_iload_n hx hb dX1_kinds_11 rfl (lv_at hl 2 rfl) ?_
    obtain ⟨r12, h12, hf⟩ := bR_some hf
    refine g_calliS X hl.1 hZ hA hW (c_X1_isRow l D cy ad h12) cs_X1_isRow ql_X1_68 rfl (by decide) rfl (Nat.le_of_ble_eq_true rfl) dX1_kinds_12 (fun H locs hW => ?_)
    refine lv_if_ne (tgt := 20) hx hb dX1_kinds_15 (by decide) (fun hc => ?_) (fun hc => ?_)
    · replace hf := ifn hc hf
      refine lv_aload_n hx hb dX1_kinds_20 rfl (lv_at hl 0 rfl) ?_
      refine lv_iload_n hx hb dX1_kinds_21 rfl (lv_at hl 2 rfl) ?_
      obtain ⟨r22, h22, hf⟩ := bR_some hf
      refine g_calliV X hl.1 hZ hA hW (c_X1_lookThroughHeard l D cy ad h22) cw_X1_lookThroughHeard ql_X1_192 iO_X1 rfl (by decide) rfl (Nat.le_of_ble_eq_true rfl) dX1_kinds_22 (fun H locs hW => ?_)
      refine lv_istore_n (lv' := [(3, .int r22), (0, .ref (ad 0)), (1, .int v1), (2, .int v2)]) hx hb dX1_kinds_25 rfl hl (by decide) rfl (fun ls hl => ?_)
      refine lv_iload_n hx hb dX1_kinds_26 rfl (lv_at hl 0 rfl) ?_
      refine lv_if_eq (tgt := 38) hx hb dX1_kinds_27 (by decide) (fun hc => ?_) (fun hc => ?_)
      · replace hf := ifp hc hf
        refine lv_aload_n hx hb dX1_kinds_38 rfl (lv_at hl 1 rfl) ?_
        refine lv_iload_n hx hb dX1_kinds_39 rfl (lv_at hl 2 rfl) ?_
        refine lv_iload_n hx hb dX1_kinds_40 rfl (lv_at hl 3 rfl) ?_
        obtain ⟨r41, M41, h41, hf⟩ := bI_some hf
        refine g_calliV X hl.1 hZ hA hW (c_X1_kindsHeard l D cy ad h41) cw_X1_kindsHeard ql_X1_195 iO_X1 rfl (by decide) rfl (Nat.le_of_ble_eq_true rfl) dX1_kinds_41 (fun H locs hW => ?_)
        exact g_iret X hr hlk hQ hW dX1_kinds_44 hf
      · replace hf := ifn hc hf
        refine lv_aload_n hx hb dX1_kinds_30 rfl (lv_at hl 1 rfl) ?_
        refine lv_iload_n hx hb dX1_kinds_31 rfl (lv_at hl 0 rfl) ?_
        obtain ⟨r32, M32, h32, hf⟩ := bI_some hf
        refine g_calliV X hl.1 hZ hA hW (c_X1_refuse l D cy ad h32) cw_X1_refuse ql_X1_72 iO_X1 rfl (by decide) rfl (Nat.le_of_ble_eq_true rfl) dX1_kinds_32 (fun H locs hW => ?_)
        refine lv_goto (tgt := 44) hx hb dX1_kinds_35 (by decide) ?_
        exact g_iret X hr hlk hQ hW dX1_kinds_44 hf
    · replace hf := ifp hc hf
      refine lv_iconst (v := (-1)) hx hb dX1_kinds_18 (by decide) ?_
      exact g_iret X hr hlk hQ hW dX1_kinds_19 hf

def f_X1_words_L45 (v1_L45 : Int32) (v2_L45 : Int32) (k120 : Int32 → Int32 → Mem → Option (Int32 × Mem)) : Nat → Int32 → Int32 → Int32 → Mem → Option (Int32 × Mem)
  | 0, _, _, _, _ => none
  | n + 1, v4_L45, v5_L45, v6_L45, M_L45 => (if 511 < v6_L45 then (k120 v4_L45 v5_L45 M_L45) else (bR (f_X0_canHave 15 v1_L45 v6_L45 M_L45) (fun r60 => (if r60 = 0 then (k120 v4_L45 v5_L45 M_L45) else (bR (f_X0_takeFrom 22 15 M_L45) (fun M74 => (grd (inb v1_L45 7) (lt (sI M74 (22 + 4) (ix v1_L45) v6_L45) (fun M87 => (bI (f_X1_isHeard v1_L45 v2_L45 M87) (fun r91 M91 => (jn (fun (k114 : Int32 → Int32 → Option (Int32 × Mem)) => (if r91 = 0 then (k114 v4_L45 v5_L45) else (jn (fun (k109 : Int32 → Option (Int32 × Mem)) => (if v5_L45 = 0 then (k109 v6_L45) else (k109 v4_L45))) (fun (t0_109j : Int32) => (k114 t0_109j (v5_L45 + 1)))))) (fun (v4_114j : Int32) (v5_114j : Int32) => (f_X1_words_L45 v1_L45 v2_L45 k120 n v4_114j v5_114j (v6_L45 + 1) M91))))))))))))))
def f_X1_words (v1 : Int32) (v2 : Int32) (M : Mem) : Option (Int32 × Mem) :=
  (bR (f_X0_has 15 v1 M) (fun r5 => (if r5 = 0 then (some ((-1), M)) else (bR (f_X1_isRow v2 M) (fun r12 => (if r12 = 0 then (some ((-1), M)) else (bR (f_X1_lookThroughHeard v2 M) (fun r22 => (if r22 = 0 then (jn (fun (k120 : Int32 → Int32 → Mem → Option (Int32 × Mem)) => (f_X1_words_L45 v1 v2 k120 FU 0 0 0 M)) (fun (v4_120x : Int32) (v5_120x : Int32) (M_120x : Mem) => (if v5_120x = 0 then (some ((-9), M_120x)) else (lt (sI M_120x 0 13 v4_120x) (fun M131 => (some (v5_120x, M131))))))) else (bI (f_X1_refuse r22 M) (fun r32 M32 => (some (r32, M32)))))))))))))
set_option maxHeartbeats 4000000 in
set_option maxRecDepth 100000 in
theorem c_X1_words (l : Launch) (D : va_G) (cy : Nat → ClassId) (ad : Nat → Nat)   {v1 : Int32} {v2 : Int32} {M M' : Mem} {r : Int32} (hf : f_X1_words v1 v2 M = some (r, M')) : MetX l 43 (CC ad cy) D cy ad yX1_words cX1_words 7 (some .int) 5 [.ref (ad 0), .int v1, .int v2] M (fun A => QI r M' 43 (CC ad cy) D cy ad A) := by
  refine MetX.of (own := RX1) (by decide) rfl (Nat.le_of_ble_eq_true rfl) ?_
  intro p e s m below meth c A Q ls X hr hlk hZ hA hQ hW hl
  have hl : lv_has ls 7 [(0, .ref (ad 0)), (1, .int v1), (2, .int v2)] := hl
  have hx := X.1
  have hb := X.2.1
  have hL45 : ∀ (v1_L45 : Int32) (v2_L45 : Int32) (k120 : Int32 → Int32 → Mem → Option (Int32 × Mem)) (hJ120 : ∀ (v4_120x : Int32) (v5_120x : Int32) (M_120x : Mem) (H : Heap) (locs : List Loc) (ls : Array Slot), k120 v4_120x v5_120x M_120x = some (r, M') → Wd D 43 ad (CC ad cy) A s.heap M_120x H locs → lv_has ls 7 [(0, .ref (ad 0)), (4, .int v4_120x), (5, .int v5_120x)] → W p l e (rmD 5) s m ([.ref (ad 0), .int v1, .int v2] : List Value).toArray below meth c H locs 0 0 Q (F0 m 120 ls [])) (n : Nat) (v4_L45 : Int32) (v5_L45 : Int32) (v6_L45 : Int32) (M_L45 : Mem) (H : Heap) (locs : List Loc) (ls : Array Slot), f_X1_words_L45 v1_L45 v2_L45 k120 n v4_L45 v5_L45 v6_L45 M_L45 = some (r, M') → Wd D 43 ad (CC ad cy) A s.heap M_L45 H locs → lv_has ls 7 [(0, .ref (ad 0)), (1, .int v1_L45), (2, .int v2_L45), (4, .int v4_L45), (5, .int v5_L45), (6, .int v6_L45)] → W p l e (rmD 5) s m ([.ref (ad 0), .int v1, .int v2] : List Value).toArray below meth c H locs 0 0 Q (F0 m 45 ls []) := by
    intro v1_L45 v2_L45 k120 hJ120 n
    induction n with
    | zero =>
      intro v4_L45 v5_L45 v6_L45 M_L45 H locs ls hf
      cases (show (none : Option (Int32 × Mem)) = some (r, M') from hf)
    | succ n ih =>
      intro v4_L45 v5_L45 v6_L45 M_L45 H locs ls hf hW hl
      rw [f_X1_words_L45] at hf
      refine lv_iload hx hb dX1_words_45 (lv_at hl 5 rfl) ?_
      refine lv_sipush (v := 511) hx hb dX1_words_47 (by decide) ?_
      refine lv_icmp_gt (tgt := 120) hx hb dX1_words_50 (by decide) (fun hc => ?_) (fun hc => ?_)
      · replace hf := ifp hc hf
        exact hJ120 v4_L45 v5_L45 M_L45 H locs ls hf hW (lv_sub hl [0, 3, 4] rfl)
      · replace hf := ifn hc hf
        refine lv_aload_n hx hb dX1_words_53 rfl (lv_at hl 0 rfl) ?_
        refine gf_X1_29 X hW dX1_words_54 ?_
        refine lv_iload_n hx hb dX1_words_57 rfl (lv_at hl 1 rfl) ?_
        refine lv_iload hx hb dX1_words_58 (lv_at hl 5 rfl) ?_
        obtain ⟨r60, h60, hf⟩ := bR_some hf
        refine g_calliN (host := "TubeWords") X hl.1 hZ hA hW (c_X0_canHave l D cy ad isSt15 h60) cw_X0_canHave (by decide +kernel) (iO_st isSt15) rfl (by decide) rfl (Nat.le_of_ble_eq_true rfl) dX1_words_60 (fun H locs hW => ?_)
        refine lv_if_eq (tgt := 120) hx hb dX1_words_63 (by decide) (fun hc => ?_) (fun hc => ?_)
        · replace hf := ifp hc hf
          exact hJ120 v4_L45 v5_L45 M_L45 H locs ls hf hW (lv_sub hl [0, 3, 4] rfl)
        · replace hf := ifn hc hf
          refine lv_aload_n hx hb dX1_words_66 rfl (lv_at hl 0 rfl) ?_
          refine gf_X1_33 X hW dX1_words_67 ?_
          refine lv_aload_n hx hb dX1_words_70 rfl (lv_at hl 0 rfl) ?_
          refine gf_X1_29 X hW dX1_words_71 ?_
          obtain ⟨M74, h74, hf⟩ := bR_some hf
          refine g_callvN (host := "TubeWords") X hl.1 hZ hA hW (c_X0_takeFrom l D cy ad isSt22 isSt15 h74) cw_X0_takeFrom (by decide +kernel) (iO_st isSt22) rfl (by decide) rfl (Nat.le_of_ble_eq_true rfl) dX1_words_74 (fun H locs hW => ?_)
          refine lv_aload_n hx hb dX1_words_77 rfl (lv_at hl 0 rfl) ?_
          refine gf_X1_33 X hW dX1_words_78 ?_
          refine gf_X1_144 isSt22 X hW dX1_words_81 ?_
          refine lv_iload_n hx hb dX1_words_84 rfl (lv_at hl 1 rfl) ?_
          refine lv_iload hx hb dX1_words_85 (lv_at hl 5 rfl) ?_
          obtain ⟨hi87, hf⟩ := grd_some hf
          refine g_iast X hW (iA_st4 isSt22) hi87 dX1_words_87 (fun H locs hW => ?_)
          obtain ⟨M87, e87, hf⟩ := lt_some hf
          have hW : Wd D 43 ad (CC ad cy) A s.heap M87 H locs := by rw [e87]; exact hW
          refine lv_aload_n hx hb dX1_words_88 rfl (lv_at hl 0 rfl) ?_
          refine lv_iload_n hx hb dX1_words_89 rfl (lv_at hl 1 rfl) ?_
          refine lv_iload_n hx hb dX1_words_90 rfl (lv_at hl 2 rfl) ?_
          obtain ⟨r91, M91, h91, hf⟩ := bI_some hf
          refine g_calliV X hl.1 hZ hA hW (c_X1_isHeard l D cy ad h91) cw_X1_isHeard ql_X1_198 iO_X1 rfl (by decide) rfl (Nat.le_of_ble_eq_true rfl) dX1_words_91 (fun H locs hW => ?_)
          obtain ⟨k114, hk114, hf⟩ := jn_some2 hf
          have hJ114 : ∀ (v4_114j : Int32) (v5_114j : Int32) (H : Heap) (locs : List Loc) (ls : Array Slot), k114 v4_114j v5_114j = some (r, M') → Wd D 43 ad (CC ad cy) A s.heap M91 H locs → lv_has ls 7 [(0, .ref (ad 0)), (1, .int v1_L45), (2, .int v2_L45), (4, .int v4_114j), (5, .int v5_114j), (6, .int v6_L45)] → W p l e (rmD 5) s m ([.ref (ad 0), .int v1, .int v2] : List Value).toArray below meth c H locs 0 0 Q (F0 m 114 ls []) := by
            intro v4_114j v5_114j H locs ls hf hW hl
            rw [hk114] at hf
            refine lv_iinc (v := (v6_L45 + 1)) (lv' := [(6, .int (v6_L45 + 1)), (0, .ref (ad 0)), (1, .int v1_L45), (2, .int v2_L45), (4, .int v4_114j), (5, .int v5_114j)]) hx hb dX1_words_114 hl (k := 5) rfl rfl (by decide) rfl (fun ls hl => ?_)
            refine lv_goto (tgt := 45) hx hb dX1_words_117 (by decide) ?_
            exact ih v4_114j v5_114j (v6_L45 + 1) M91 H locs ls hf hW (lv_sub hl [1, 2, 3, 4, 5, 0] rfl)
          refine lv_if_eq (tgt := 114) hx hb dX1_words_94 (by decide) (fun hc => ?_) (fun hc => ?_)
          · replace hf := ifp hc hf
            exact hJ114 v4_L45 v5_L45 H locs ls hf hW (lv_sub hl [0, 1, 2, 3, 4, 5] rfl)
          · replace hf := ifn hc hf
            refine lv_iload hx hb dX1_words_97 (lv_at hl 4 rfl) ?_
            obtain ⟨k109, hk109, hf⟩ := jn_some1 hf
            have hJ109 : ∀ (t0_109j : Int32) (H : Heap) (locs : List Loc) (ls : Array Slot), k109 t0_109j = some (r, M') → Wd D 43 ad (CC ad cy) A s.heap M91 H locs → lv_has ls 7 [(0, .ref (ad 0)), (1, .int v1_L45), (2, .int v2_L45), (5, .int v5_L45), (6, .int v6_L45)] → W p l e (rmD 5) s m ([.ref (ad 0), .int v1, .int v2] : List Value).toArray below meth c H locs 0 0 Q (F0 m 109 ls [.int t0_109j]) := by
              intro t0_109j H locs ls hf hW hl
              rw [hk109] at hf
              refine lv_istore (lv' := [(4, .int t0_109j), (0, .ref (ad 0)), (1, .int v1_L45), (2, .int v2_L45), (5, .int v5_L45), (6, .int v6_L45)]) hx hb dX1_words_109 hl (by decide) rfl (fun ls hl => ?_)
              refine lv_iinc (v := (v5_L45 + 1)) (lv' := [(5, .int (v5_L45 + 1)), (4, .int t0_109j), (0, .ref (ad 0)), (1, .int v1_L45), (2, .int v2_L45), (6, .int v6_L45)]) hx hb dX1_words_111 hl (k := 4) rfl rfl (by decide) rfl (fun ls hl => ?_)
              exact hJ114 t0_109j (v5_L45 + 1) H locs ls hf hW (lv_sub hl [2, 3, 4, 1, 0, 5] rfl)
            refine lv_if_ne (tgt := 107) hx hb dX1_words_99 (by decide) (fun hc => ?_) (fun hc => ?_)
            · replace hf := ifn hc hf
              refine lv_iload hx hb dX1_words_107 (lv_at hl 3 rfl) ?_
              exact hJ109 v4_L45 H locs ls hf hW (lv_sub hl [0, 1, 2, 4, 5] rfl)
            · replace hf := ifp hc hf
              refine lv_iload hx hb dX1_words_102 (lv_at hl 5 rfl) ?_
              refine lv_goto (tgt := 109) hx hb dX1_words_104 (by decide) ?_
              exact hJ109 v6_L45 H locs ls hf hW (lv_sub hl [0, 1, 2, 4, 5] rfl)
  obtain ⟨H, hH⟩ : ∃ H, H = s.heap := ⟨_, rfl⟩
  obtain ⟨locs, hlo⟩ : ∃ q : List Loc, q = [] := ⟨_, rfl⟩
  have hW : Wd D 43 ad (CC ad cy) A s.heap M H locs := by rw [hH, hlo]; exact hW
  suffices hh : W p l e (rmD 5) s m ([.ref (ad 0), .int v1, .int v2] : List Value).toArray below meth c H locs 0 0 Q (F0 m 0 ls []) by rw [hH, hlo] at hh; exact hh
  unfold f_X1_words at hf
  refine lv_aload_n hx hb dX1_words_0 rfl (lv_at hl 0 rfl) ?_
  refine gf_X1_29 X hW dX1_words_1 ?_
  refine lv_iload_n hx hb dX1_words_4 rfl (lv_at hl 1 rfl) ?_
  obtain ⟨r5, h5, hf⟩ := bR_some hf
  refine g_calliN (host := "TubeWords") X hl.1 hZ hA hW (c_X0_has l D cy ad isSt15 h5) cw_X0_has (by decide +kernel) (iO_st isSt15) rfl (by decide) rfl (Nat.le_of_ble_eq_true rfl) dX1_words_5 (fun H locs hW => ?_)
  refine lv_if_eq (tgt := 18) hx hb dX1_words_8 (by decide) (fun hc => ?_) (fun hc => ?_)
  · replace hf := ifp hc hf
    refine lv_iconst (v := (-1)) hx hb dX1_words_18 (by decide) ?_
    exact g_iret X hr hlk hQ hW dX1_words_19 hf
  · replace hf := ifn hc hf
    refine lv_iload_n hx hb dX1_words_11 rfl (lv_at hl 2 rfl) ?_
    obtain ⟨r12, h12, hf⟩ := bR_some hf
    refine g_calliS X hl.1 hZ hA hW (c_X1_isRow l D cy ad h12) cs_X1_isRow ql_X1_68 rfl (by decide) rfl (Nat.le_of_ble_eq_true rfl) dX1_words_12 (fun H locs hW => ?_)
    refine lv_if_ne (tgt := 20) hx hb dX1_words_15 (by decide) (fun hc => ?_) (fun hc => ?_)
    · replace hf := ifn hc hf
      refine lv_aload_n hx hb dX1_words_20 rfl (lv_at hl 0 rfl) ?_
      refine lv_iload_n hx hb dX1_words_21 rfl (lv_at hl 2 rfl) ?_
      obtain ⟨r22, h22, hf⟩ := bR_some hf
      refine g_calliV X hl.1 hZ hA hW (c_X1_lookThroughHeard l D cy ad h22) cw_X1_lookThroughHeard ql_X1_192 iO_X1 rfl (by decide) rfl (Nat.le_of_ble_eq_true rfl) dX1_words_22 (fun H locs hW => ?_)
      refine lv_istore_n (lv' := [(3, .int r22), (0, .ref (ad 0)), (1, .int v1), (2, .int v2)]) hx hb dX1_words_25 rfl hl (by decide) rfl (fun ls hl => ?_)
      refine lv_iload_n hx hb dX1_words_26 rfl (lv_at hl 0 rfl) ?_
      refine lv_if_eq (tgt := 36) hx hb dX1_words_27 (by decide) (fun hc => ?_) (fun hc => ?_)
      · replace hf := ifp hc hf
        refine lv_iconst (v := 0) hx hb dX1_words_36 (by decide) ?_
        refine lv_istore (lv' := [(4, .int 0), (3, .int r22), (0, .ref (ad 0)), (1, .int v1), (2, .int v2)]) hx hb dX1_words_37 hl (by decide) rfl (fun ls hl => ?_)
        refine lv_iconst (v := 0) hx hb dX1_words_39 (by decide) ?_
        refine lv_istore (lv' := [(5, .int 0), (4, .int 0), (3, .int r22), (0, .ref (ad 0)), (1, .int v1), (2, .int v2)]) hx hb dX1_words_40 hl (by decide) rfl (fun ls hl => ?_)
        refine lv_iconst (v := 0) hx hb dX1_words_42 (by decide) ?_
        refine lv_istore (lv' := [(6, .int 0), (5, .int 0), (4, .int 0), (3, .int r22), (0, .ref (ad 0)), (1, .int v1), (2, .int v2)]) hx hb dX1_words_43 hl (by decide) rfl (fun ls hl => ?_)
        obtain ⟨k120, hk120, hf⟩ := jn_some3 hf
        have hJ120 : ∀ (v4_120x : Int32) (v5_120x : Int32) (M_120x : Mem) (H : Heap) (locs : List Loc) (ls : Array Slot), k120 v4_120x v5_120x M_120x = some (r, M') → Wd D 43 ad (CC ad cy) A s.heap M_120x H locs → lv_has ls 7 [(0, .ref (ad 0)), (4, .int v4_120x), (5, .int v5_120x)] → W p l e (rmD 5) s m ([.ref (ad 0), .int v1, .int v2] : List Value).toArray below meth c H locs 0 0 Q (F0 m 120 ls []) := by
          intro v4_120x v5_120x M_120x H locs ls hf hW hl
          rw [hk120] at hf
          refine lv_iload hx hb dX1_words_120 (lv_at hl 2 rfl) ?_
          refine lv_if_ne (tgt := 128) hx hb dX1_words_122 (by decide) (fun hc => ?_) (fun hc => ?_)
          · replace hf := ifn hc hf
            refine lv_aload_n hx hb dX1_words_128 rfl (lv_at hl 0 rfl) ?_
            refine lv_iload hx hb dX1_words_129 (lv_at hl 1 rfl) ?_
            refine gp_X1_58 X hW dX1_words_131 (fun H locs hW => ?_)
            obtain ⟨M131, e131, hf⟩ := lt_some hf
            have hW : Wd D 43 ad (CC ad cy) A s.heap M131 H locs := by rw [e131]; exact hW
            refine lv_iload hx hb dX1_words_134 (lv_at hl 2 rfl) ?_
            exact g_iret X hr hlk hQ hW dX1_words_136 hf
          · replace hf := ifp hc hf
            refine lv_bipush (v := (-9)) hx hb dX1_words_125 (by decide) ?_
            exact g_iret X hr hlk hQ hW dX1_words_127 hf
        exact hL45 v1 v2 k120 hJ120 FU 0 0 0 M H locs ls hf hW (lv_sub hl [4, 5, 6, 2, 1, 0] rfl)
      · replace hf := ifn hc hf
        refine lv_aload_n hx hb dX1_words_30 rfl (lv_at hl 1 rfl) ?_
        refine lv_iload_n hx hb dX1_words_31 rfl (lv_at hl 0 rfl) ?_
        obtain ⟨r32, M32, h32, hf⟩ := bI_some hf
        refine g_calliV X hl.1 hZ hA hW (c_X1_refuse l D cy ad h32) cw_X1_refuse ql_X1_72 iO_X1 rfl (by decide) rfl (Nat.le_of_ble_eq_true rfl) dX1_words_32 (fun H locs hW => ?_)
        exact g_iret X hr hlk hQ hW dX1_words_35 hf
    · replace hf := ifp hc hf
      refine lv_iconst (v := (-1)) hx hb dX1_words_18 (by decide) ?_
      exact g_iret X hr hlk hQ hW dX1_words_19 hf

def f_X1_lookAhead_L31 (v1_L31 : Int32) (v2_L31 : Int32) (k68 : Mem → Option Mem) : Nat → Int32 → Mem → Option Mem
  | 0, _, _ => none
  | n + 1, v3_L31, M_L31 => (if 20 ≤ v3_L31 then (k68 M_L31) else (bR (f_X0_goOn 22 1 M_L31) (fun M42 => (grd (inb v2_L31 6) (grd (inb v1_L31 7) (grd (inb v3_L31 20) (lt (sI M42 (36 + (ix v2_L31)) (ix v3_L31) (M42.1 (22 + 4) (ix v1_L31))) (fun M61 => (f_X1_lookAhead_L31 v1_L31 v2_L31 k68 n (v3_L31 + 1) M61)))))))))
def f_X1_lookAhead_L2 (v1_L2 : Int32) : Nat → Int32 → Mem → Option Mem
  | 0, _, _ => none
  | n + 1, v2_L2, M_L2 => (if 6 ≤ v2_L2 then (some M_L2) else (bR (f_X0_takeFrom 22 15 M_L2) (fun M16 => (grd (inb v1_L2 7) (lt (sI M16 (22 + 1) (ix v1_L2) v2_L2) (fun M28 => (jn (fun (k68 : Mem → Option Mem) => (f_X1_lookAhead_L31 v1_L2 v2_L2 k68 FU 0 M28)) (fun  (M_68x : Mem) => (f_X1_lookAhead_L2 v1_L2 n (v2_L2 + 1) M_68x)))))))))
def f_X1_lookAhead (v1 : Int32) (M : Mem) : Option Mem :=
  (f_X1_lookAhead_L2 v1 FU 0 M)
set_option maxHeartbeats 4000000 in
set_option maxRecDepth 100000 in
theorem c_X1_lookAhead (l : Launch) (D : va_G) (cy : Nat → ClassId) (ad : Nat → Nat)   {v1 : Int32} {M M' : Mem} (hf : f_X1_lookAhead v1 M = some M') : MetX l 43 (CC ad cy) D cy ad yX1_lookAhead cX1_lookAhead 4 none 4 [.ref (ad 0), .int v1] M (fun A => QV M' 43 (CC ad cy) D cy ad A) := by
  refine MetX.of (own := RX1) (by decide) rfl (Nat.le_of_ble_eq_true rfl) ?_
  intro p e s m below meth c A Q ls X hr hlk hZ hA hQ hW hl
  have hl : lv_has ls 4 [(0, .ref (ad 0)), (1, .int v1)] := hl
  have hx := X.1
  have hb := X.2.1
  have hL31 : ∀ (v1_L31 : Int32) (v2_L31 : Int32) (k68 : Mem → Option Mem) (hJ68 : ∀  (M_68x : Mem) (H : Heap) (locs : List Loc) (ls : Array Slot), k68 M_68x = some M' → Wd D 43 ad (CC ad cy) A s.heap M_68x H locs → lv_has ls 4 [(0, .ref (ad 0)), (1, .int v1_L31), (2, .int v2_L31)] → W p l e (rmD 4) s m ([.ref (ad 0), .int v1] : List Value).toArray below meth c H locs 0 0 Q (F0 m 68 ls [])) (n : Nat) (v3_L31 : Int32) (M_L31 : Mem) (H : Heap) (locs : List Loc) (ls : Array Slot), f_X1_lookAhead_L31 v1_L31 v2_L31 k68 n v3_L31 M_L31 = some M' → Wd D 43 ad (CC ad cy) A s.heap M_L31 H locs → lv_has ls 4 [(0, .ref (ad 0)), (1, .int v1_L31), (2, .int v2_L31), (3, .int v3_L31)] → W p l e (rmD 4) s m ([.ref (ad 0), .int v1] : List Value).toArray below meth c H locs 0 0 Q (F0 m 31 ls []) := by
    intro v1_L31 v2_L31 k68 hJ68 n
    induction n with
    | zero =>
      intro v3_L31 M_L31 H locs ls hf
      cases (show (none : Option Mem) = some M' from hf)
    | succ n ih =>
      intro v3_L31 M_L31 H locs ls hf hW hl
      rw [f_X1_lookAhead_L31] at hf
      refine lv_iload_n hx hb dX1_lookAhead_31 rfl (lv_at hl 3 rfl) ?_
      refine lv_bipush (v := 20) hx hb dX1_lookAhead_32 (by decide) ?_
      refine lv_icmp_ge (tgt := 68) hx hb dX1_lookAhead_34 (by decide) (fun hc => ?_) (fun hc => ?_)
      · replace hf := ifp hc hf
        exact hJ68 M_L31 H locs ls hf hW (lv_sub hl [0, 1, 2] rfl)
      · replace hf := ifn hc hf
        refine lv_aload_n hx hb dX1_lookAhead_37 rfl (lv_at hl 0 rfl) ?_
        refine gf_X1_33 X hW dX1_lookAhead_38 ?_
        refine lv_iconst (v := 1) hx hb dX1_lookAhead_41 (by decide) ?_
        obtain ⟨M42, h42, hf⟩ := bR_some hf
        refine g_callvN (host := "TubeWords") X hl.1 hZ hA hW (c_X0_goOn l D cy ad isSt22 h42) cw_X0_goOn (by decide +kernel) (iO_st isSt22) rfl (by decide) rfl (Nat.le_of_ble_eq_true rfl) dX1_lookAhead_42 (fun H locs hW => ?_)
        refine lv_aload_n hx hb dX1_lookAhead_45 rfl (lv_at hl 0 rfl) ?_
        refine gf_X1_49 X hW dX1_lookAhead_46 ?_
        refine lv_iload_n hx hb dX1_lookAhead_49 rfl (lv_at hl 2 rfl) ?_
        obtain ⟨hi50, hf⟩ := grd_some hf
        refine g_aald X hW (t0 := 3) iG_looks rfl rfl hi50 dX1_lookAhead_50 ?_
        refine lv_iload_n hx hb dX1_lookAhead_51 rfl (lv_at hl 3 rfl) ?_
        refine lv_aload_n hx hb dX1_lookAhead_52 rfl (lv_at hl 0 rfl) ?_
        refine gf_X1_33 X hW dX1_lookAhead_53 ?_
        refine gf_X1_144 isSt22 X hW dX1_lookAhead_56 ?_
        refine lv_iload_n hx hb dX1_lookAhead_59 rfl (lv_at hl 1 rfl) ?_
        obtain ⟨hi60, hf⟩ := grd_some hf
        refine g_iald X hW (iA_st4 isSt22) hi60 dX1_lookAhead_60 ?_
        obtain ⟨hi61, hf⟩ := grd_some hf
        refine g_iast X hW (iA_looks_r (inb_lt hi50)) hi61 dX1_lookAhead_61 (fun H locs hW => ?_)
        obtain ⟨M61, e61, hf⟩ := lt_some hf
        have hW : Wd D 43 ad (CC ad cy) A s.heap M61 H locs := by rw [e61]; exact hW
        refine lv_iinc (v := (v3_L31 + 1)) (lv' := [(3, .int (v3_L31 + 1)), (0, .ref (ad 0)), (1, .int v1_L31), (2, .int v2_L31)]) hx hb dX1_lookAhead_62 hl (k := 3) rfl rfl (by decide) rfl (fun ls hl => ?_)
        refine lv_goto (tgt := 31) hx hb dX1_lookAhead_65 (by decide) ?_
        exact ih (v3_L31 + 1) M61 H locs ls hf hW (lv_sub hl [1, 2, 3, 0] rfl)
  have hL2 : ∀ (v1_L2 : Int32)  (n : Nat) (v2_L2 : Int32) (M_L2 : Mem) (H : Heap) (locs : List Loc) (ls : Array Slot), f_X1_lookAhead_L2 v1_L2 n v2_L2 M_L2 = some M' → Wd D 43 ad (CC ad cy) A s.heap M_L2 H locs → lv_has ls 4 [(0, .ref (ad 0)), (1, .int v1_L2), (2, .int v2_L2)] → W p l e (rmD 4) s m ([.ref (ad 0), .int v1] : List Value).toArray below meth c H locs 0 0 Q (F0 m 2 ls []) := by
    intro v1_L2 n
    induction n with
    | zero =>
      intro v2_L2 M_L2 H locs ls hf
      cases (show (none : Option Mem) = some M' from hf)
    | succ n ih =>
      intro v2_L2 M_L2 H locs ls hf hW hl
      rw [f_X1_lookAhead_L2] at hf
      refine lv_iload_n hx hb dX1_lookAhead_2 rfl (lv_at hl 2 rfl) ?_
      refine lv_bipush (v := 6) hx hb dX1_lookAhead_3 (by decide) ?_
      refine lv_icmp_ge (tgt := 74) hx hb dX1_lookAhead_5 (by decide) (fun hc => ?_) (fun hc => ?_)
      · replace hf := ifp hc hf
        exact g_vret X hr hlk hQ hW dX1_lookAhead_74 hf
      · replace hf := ifn hc hf
        refine lv_aload_n hx hb dX1_lookAhead_8 rfl (lv_at hl 0 rfl) ?_
        refine gf_X1_33 X hW dX1_lookAhead_9 ?_
        refine lv_aload_n hx hb dX1_lookAhead_12 rfl (lv_at hl 0 rfl) ?_
        refine gf_X1_29 X hW dX1_lookAhead_13 ?_
        obtain ⟨M16, h16, hf⟩ := bR_some hf
        refine g_callvN (host := "TubeWords") X hl.1 hZ hA hW (c_X0_takeFrom l D cy ad isSt22 isSt15 h16) cw_X0_takeFrom (by decide +kernel) (iO_st isSt22) rfl (by decide) rfl (Nat.le_of_ble_eq_true rfl) dX1_lookAhead_16 (fun H locs hW => ?_)
        refine lv_aload_n hx hb dX1_lookAhead_19 rfl (lv_at hl 0 rfl) ?_
        refine gf_X1_33 X hW dX1_lookAhead_20 ?_
        refine gf_X1_243 isSt22 X hW dX1_lookAhead_23 ?_
        refine lv_iload_n hx hb dX1_lookAhead_26 rfl (lv_at hl 1 rfl) ?_
        refine lv_iload_n hx hb dX1_lookAhead_27 rfl (lv_at hl 2 rfl) ?_
        obtain ⟨hi28, hf⟩ := grd_some hf
        refine g_iast X hW (iA_st1 isSt22) hi28 dX1_lookAhead_28 (fun H locs hW => ?_)
        obtain ⟨M28, e28, hf⟩ := lt_some hf
        have hW : Wd D 43 ad (CC ad cy) A s.heap M28 H locs := by rw [e28]; exact hW
        refine lv_iconst (v := 0) hx hb dX1_lookAhead_29 (by decide) ?_
        refine lv_istore_n (lv' := [(3, .int 0), (0, .ref (ad 0)), (1, .int v1_L2), (2, .int v2_L2)]) hx hb dX1_lookAhead_30 rfl hl (by decide) rfl (fun ls hl => ?_)
        obtain ⟨k68, hk68, hf⟩ := jn_some1 hf
        have hJ68 : ∀  (M_68x : Mem) (H : Heap) (locs : List Loc) (ls : Array Slot), k68 M_68x = some M' → Wd D 43 ad (CC ad cy) A s.heap M_68x H locs → lv_has ls 4 [(0, .ref (ad 0)), (1, .int v1_L2), (2, .int v2_L2)] → W p l e (rmD 4) s m ([.ref (ad 0), .int v1] : List Value).toArray below meth c H locs 0 0 Q (F0 m 68 ls []) := by
          intro M_68x H locs ls hf hW hl
          rw [hk68] at hf
          refine lv_iinc (v := (v2_L2 + 1)) (lv' := [(2, .int (v2_L2 + 1)), (0, .ref (ad 0)), (1, .int v1_L2)]) hx hb dX1_lookAhead_68 hl (k := 2) rfl rfl (by decide) rfl (fun ls hl => ?_)
          refine lv_goto (tgt := 2) hx hb dX1_lookAhead_71 (by decide) ?_
          exact ih (v2_L2 + 1) M_68x H locs ls hf hW (lv_sub hl [1, 2, 0] rfl)
        exact hL31 v1_L2 v2_L2 k68 hJ68 FU 0 M28 H locs ls hf hW (lv_sub hl [1, 2, 3, 0] rfl)
  obtain ⟨H, hH⟩ : ∃ H, H = s.heap := ⟨_, rfl⟩
  obtain ⟨locs, hlo⟩ : ∃ q : List Loc, q = [] := ⟨_, rfl⟩
  have hW : Wd D 43 ad (CC ad cy) A s.heap M H locs := by rw [hH, hlo]; exact hW
  suffices hh : W p l e (rmD 4) s m ([.ref (ad 0), .int v1] : List Value).toArray below meth c H locs 0 0 Q (F0 m 0 ls []) by rw [hH, hlo] at hh; exact hh
  unfold f_X1_lookAhead at hf
  refine lv_iconst (v := 0) hx hb dX1_lookAhead_0 (by decide) ?_
  refine lv_istore_n (lv' := [(2, .int 0), (0, .ref (ad 0)), (1, .int v1)]) hx hb dX1_lookAhead_1 rfl hl (by decide) rfl (fun ls hl => ?_)
  exact hL2 v1 FU 0 M H locs ls hf hW (lv_sub hl [1, 2, 0] rfl)

def f_X1_greatestPart_L18 (v1_L18 : Int32) (v2_L18 : Int32) (v3_L18 : Int32) (v4_L18 : Int32) (M : Mem) (k70 : Int32 → Option Int32) : Nat → Int32 → Int32 → Option Int32
  | 0, _, _ => none
  | n + 1, v5_L18, v6_L18 => (if 6 ≤ v6_L18 then (k70 v5_L18) else (jn (fun (k64 : Int32 → Option Int32) => (if (((shr v1_L18 v4_L18) &&& (shr v1_L18 v6_L18)) &&& 1) = 1 then (grd (inb v4_L18 6) (grd (inb v2_L18 20) (grd (inb v6_L18 6) (grd (inb v2_L18 20) (if (M.1 (36 + (ix v4_L18)) (ix v2_L18)) = (M.1 (36 + (ix v6_L18)) (ix v2_L18)) then (k64 (v5_L18 + 1)) else (k64 v5_L18)))))) else (k64 v5_L18))) (fun (v5_64j : Int32) => (f_X1_greatestPart_L18 v1_L18 v2_L18 v3_L18 v4_L18 M k70 n v5_64j (v6_L18 + 1)))))
def f_X1_greatestPart_L5 (v1_L5 : Int32) (v2_L5 : Int32) (M : Mem) : Nat → Int32 → Int32 → Option Int32
  | 0, _, _ => none
  | n + 1, v3_L5, v4_L5 => (if 6 ≤ v4_L5 then (some v3_L5) else (jn (fun (k70 : Int32 → Option Int32) => (f_X1_greatestPart_L18 v1_L5 v2_L5 v3_L5 v4_L5 M k70 FU 0 0)) (fun (v5_70x : Int32) => (f_X1_greatestPart_L5 v1_L5 v2_L5 M n (mxI v3_L5 v5_70x) (v4_L5 + 1)))))
def f_X1_greatestPart (v1 : Int32) (v2 : Int32) (M : Mem) : Option Int32 :=
  (f_X1_greatestPart_L5 v1 v2 M FU 0 0)
set_option maxHeartbeats 4000000 in
set_option maxRecDepth 100000 in
theorem c_X1_greatestPart (l : Launch) (D : va_G) (cy : Nat → ClassId) (ad : Nat → Nat)   {v1 : Int32} {v2 : Int32} {M : Mem} {r : Int32} (hf : f_X1_greatestPart v1 v2 M = some r) : MetX l 43 (CC ad cy) D cy ad yX1_greatestPart cX1_greatestPart 7 (some .int) 1 [.ref (ad 0), .int v1, .int v2] M (fun A => QI r M 43 (CC ad cy) D cy ad A) := by
  refine MetX.of (own := RX1) (by decide) rfl (Nat.le_of_ble_eq_true rfl) ?_
  intro p e s m below meth c A Q ls X hr hlk hZ hA hQ hW hl
  have hl : lv_has ls 7 [(0, .ref (ad 0)), (1, .int v1), (2, .int v2)] := hl
  have hx := X.1
  have hb := X.2.1
  have hL18 : ∀ (v1_L18 : Int32) (v2_L18 : Int32) (v3_L18 : Int32) (v4_L18 : Int32) (k70 : Int32 → Option Int32) (hJ70 : ∀ (v5_70x : Int32) (H : Heap) (locs : List Loc) (ls : Array Slot), k70 v5_70x = some r → Wd D 43 ad (CC ad cy) A s.heap M H locs → lv_has ls 7 [(0, .ref (ad 0)), (1, .int v1_L18), (2, .int v2_L18), (3, .int v3_L18), (4, .int v4_L18), (5, .int v5_70x)] → W p l e (rmD 1) s m ([.ref (ad 0), .int v1, .int v2] : List Value).toArray below meth c H locs 0 0 Q (F0 m 70 ls [])) (n : Nat) (v5_L18 : Int32) (v6_L18 : Int32) (H : Heap) (locs : List Loc) (ls : Array Slot), f_X1_greatestPart_L18 v1_L18 v2_L18 v3_L18 v4_L18 M k70 n v5_L18 v6_L18 = some r → Wd D 43 ad (CC ad cy) A s.heap M H locs → lv_has ls 7 [(0, .ref (ad 0)), (1, .int v1_L18), (2, .int v2_L18), (3, .int v3_L18), (4, .int v4_L18), (5, .int v5_L18), (6, .int v6_L18)] → W p l e (rmD 1) s m ([.ref (ad 0), .int v1, .int v2] : List Value).toArray below meth c H locs 0 0 Q (F0 m 18 ls []) := by
    intro v1_L18 v2_L18 v3_L18 v4_L18 k70 hJ70 n
    induction n with
    | zero =>
      intro v5_L18 v6_L18 H locs ls hf
      cases (show (none : Option Int32) = some r from hf)
    | succ n ih =>
      intro v5_L18 v6_L18 H locs ls hf hW hl
      rw [f_X1_greatestPart_L18] at hf
      refine lv_iload hx hb dX1_greatestPart_18 (lv_at hl 6 rfl) ?_
      refine lv_bipush (v := 6) hx hb dX1_greatestPart_20 (by decide) ?_
      refine lv_icmp_ge (tgt := 70) hx hb dX1_greatestPart_22 (by decide) (fun hc => ?_) (fun hc => ?_)
      · replace hf := ifp hc hf
        exact hJ70 v5_L18 H locs ls hf hW (lv_sub hl [0, 1, 2, 3, 4, 5] rfl)
      · replace hf := ifn hc hf
        refine lv_iload_n hx hb dX1_greatestPart_25 rfl (lv_at hl 1 rfl) ?_
        refine lv_iload hx hb dX1_greatestPart_26 (lv_at hl 4 rfl) ?_
        refine r_ishr hx hb dX1_greatestPart_28 ?_
        refine lv_iload_n hx hb dX1_greatestPart_29 rfl (lv_at hl 1 rfl) ?_
        refine lv_iload hx hb dX1_greatestPart_30 (lv_at hl 6 rfl) ?_
        refine r_ishr hx hb dX1_greatestPart_32 ?_
        refine lv_iand hx hb dX1_greatestPart_33 ?_
        refine lv_iconst (v := 1) hx hb dX1_greatestPart_34 (by decide) ?_
        refine lv_iand hx hb dX1_greatestPart_35 ?_
        refine lv_iconst (v := 1) hx hb dX1_greatestPart_36 (by decide) ?_
        obtain ⟨k64, hk64, hf⟩ := jn_some1 hf
        have hJ64 : ∀ (v5_64j : Int32) (H : Heap) (locs : List Loc) (ls : Array Slot), k64 v5_64j = some r → Wd D 43 ad (CC ad cy) A s.heap M H locs → lv_has ls 7 [(0, .ref (ad 0)), (1, .int v1_L18), (2, .int v2_L18), (3, .int v3_L18), (4, .int v4_L18), (5, .int v5_64j), (6, .int v6_L18)] → W p l e (rmD 1) s m ([.ref (ad 0), .int v1, .int v2] : List Value).toArray below meth c H locs 0 0 Q (F0 m 64 ls []) := by
          intro v5_64j H locs ls hf hW hl
          rw [hk64] at hf
          refine lv_iinc (v := (v6_L18 + 1)) (lv' := [(6, .int (v6_L18 + 1)), (0, .ref (ad 0)), (1, .int v1_L18), (2, .int v2_L18), (3, .int v3_L18), (4, .int v4_L18), (5, .int v5_64j)]) hx hb dX1_greatestPart_64 hl (k := 6) rfl rfl (by decide) rfl (fun ls hl => ?_)
          refine lv_goto (tgt := 18) hx hb dX1_greatestPart_67 (by decide) ?_
          exact ih v5_64j (v6_L18 + 1) H locs ls hf hW (lv_sub hl [1, 2, 3, 4, 5, 6, 0] rfl)
        refine lv_icmp_ne (tgt := 64) hx hb dX1_greatestPart_37 (by decide) (fun hc => ?_) (fun hc => ?_)
        · replace hf := ifn hc hf
          exact hJ64 v5_L18 H locs ls hf hW (lv_sub hl [0, 1, 2, 3, 4, 5, 6] rfl)
        · replace hf := ifp hc hf
          refine lv_aload_n hx hb dX1_greatestPart_40 rfl (lv_at hl 0 rfl) ?_
          refine gf_X1_49 X hW dX1_greatestPart_41 ?_
          refine lv_iload hx hb dX1_greatestPart_44 (lv_at hl 4 rfl) ?_
          obtain ⟨hi46, hf⟩ := grd_some hf
          refine g_aald X hW (t0 := 3) iG_looks rfl rfl hi46 dX1_greatestPart_46 ?_
          refine lv_iload_n hx hb dX1_greatestPart_47 rfl (lv_at hl 2 rfl) ?_
          obtain ⟨hi48, hf⟩ := grd_some hf
          refine g_iald X hW (iA_looks_r (inb_lt hi46)) hi48 dX1_greatestPart_48 ?_
          refine lv_aload_n hx hb dX1_greatestPart_49 rfl (lv_at hl 0 rfl) ?_
          refine gf_X1_49 X hW dX1_greatestPart_50 ?_
          refine lv_iload hx hb dX1_greatestPart_53 (lv_at hl 6 rfl) ?_
          obtain ⟨hi55, hf⟩ := grd_some hf
          refine g_aald X hW (t0 := 3) iG_looks rfl rfl hi55 dX1_greatestPart_55 ?_
          refine lv_iload_n hx hb dX1_greatestPart_56 rfl (lv_at hl 2 rfl) ?_
          obtain ⟨hi57, hf⟩ := grd_some hf
          refine g_iald X hW (iA_looks_r (inb_lt hi55)) hi57 dX1_greatestPart_57 ?_
          refine lv_icmp_ne (tgt := 64) hx hb dX1_greatestPart_58 (by decide) (fun hc => ?_) (fun hc => ?_)
          · replace hf := ifn hc hf
            exact hJ64 v5_L18 H locs ls hf hW (lv_sub hl [0, 1, 2, 3, 4, 5, 6] rfl)
          · replace hf := ifp hc hf
            refine lv_iinc (v := (v5_L18 + 1)) (lv' := [(5, .int (v5_L18 + 1)), (0, .ref (ad 0)), (1, .int v1_L18), (2, .int v2_L18), (3, .int v3_L18), (4, .int v4_L18), (6, .int v6_L18)]) hx hb dX1_greatestPart_61 hl (k := 5) rfl rfl (by decide) rfl (fun ls hl => ?_)
            exact hJ64 (v5_L18 + 1) H locs ls hf hW (lv_sub hl [1, 2, 3, 4, 5, 0, 6] rfl)
  have hL5 : ∀ (v1_L5 : Int32) (v2_L5 : Int32)  (n : Nat) (v3_L5 : Int32) (v4_L5 : Int32) (H : Heap) (locs : List Loc) (ls : Array Slot), f_X1_greatestPart_L5 v1_L5 v2_L5 M n v3_L5 v4_L5 = some r → Wd D 43 ad (CC ad cy) A s.heap M H locs → lv_has ls 7 [(0, .ref (ad 0)), (1, .int v1_L5), (2, .int v2_L5), (3, .int v3_L5), (4, .int v4_L5)] → W p l e (rmD 1) s m ([.ref (ad 0), .int v1, .int v2] : List Value).toArray below meth c H locs 0 0 Q (F0 m 5 ls []) := by
    intro v1_L5 v2_L5 n
    induction n with
    | zero =>
      intro v3_L5 v4_L5 H locs ls hf
      cases (show (none : Option Int32) = some r from hf)
    | succ n ih =>
      intro v3_L5 v4_L5 H locs ls hf hW hl
      rw [f_X1_greatestPart_L5] at hf
      refine lv_iload hx hb dX1_greatestPart_5 (lv_at hl 4 rfl) ?_
      refine lv_bipush (v := 6) hx hb dX1_greatestPart_7 (by decide) ?_
      refine lv_icmp_ge (tgt := 83) hx hb dX1_greatestPart_9 (by decide) (fun hc => ?_) (fun hc => ?_)
      · replace hf := ifp hc hf
        refine lv_iload_n hx hb dX1_greatestPart_83 rfl (lv_at hl 3 rfl) ?_
        exact g_iret X hr hlk hQ hW dX1_greatestPart_84 (rd_some hf)
      · replace hf := ifn hc hf
        refine lv_iconst (v := 0) hx hb dX1_greatestPart_12 (by decide) ?_
        refine lv_istore (lv' := [(5, .int 0), (0, .ref (ad 0)), (1, .int v1_L5), (2, .int v2_L5), (3, .int v3_L5), (4, .int v4_L5)]) hx hb dX1_greatestPart_13 hl (by decide) rfl (fun ls hl => ?_)
        refine lv_iconst (v := 0) hx hb dX1_greatestPart_15 (by decide) ?_
        refine lv_istore (lv' := [(6, .int 0), (5, .int 0), (0, .ref (ad 0)), (1, .int v1_L5), (2, .int v2_L5), (3, .int v3_L5), (4, .int v4_L5)]) hx hb dX1_greatestPart_16 hl (by decide) rfl (fun ls hl => ?_)
        obtain ⟨k70, hk70, hf⟩ := jn_some1 hf
        have hJ70 : ∀ (v5_70x : Int32) (H : Heap) (locs : List Loc) (ls : Array Slot), k70 v5_70x = some r → Wd D 43 ad (CC ad cy) A s.heap M H locs → lv_has ls 7 [(0, .ref (ad 0)), (1, .int v1_L5), (2, .int v2_L5), (3, .int v3_L5), (4, .int v4_L5), (5, .int v5_70x)] → W p l e (rmD 1) s m ([.ref (ad 0), .int v1, .int v2] : List Value).toArray below meth c H locs 0 0 Q (F0 m 70 ls []) := by
          intro v5_70x H locs ls hf hW hl
          rw [hk70] at hf
          refine lv_iload_n hx hb dX1_greatestPart_70 rfl (lv_at hl 3 rfl) ?_
          refine lv_iload hx hb dX1_greatestPart_71 (lv_at hl 5 rfl) ?_
          refine r_max X hl.1 ql_X1_246 (by decide) (Nat.le_of_ble_eq_true rfl) dX1_greatestPart_73 ?_
          refine lv_istore_n (lv' := [(3, .int (mxI v3_L5 v5_70x)), (0, .ref (ad 0)), (1, .int v1_L5), (2, .int v2_L5), (4, .int v4_L5), (5, .int v5_70x)]) hx hb dX1_greatestPart_76 rfl hl (by decide) rfl (fun ls hl => ?_)
          refine lv_iinc (v := (v4_L5 + 1)) (lv' := [(4, .int (v4_L5 + 1)), (3, .int (mxI v3_L5 v5_70x)), (0, .ref (ad 0)), (1, .int v1_L5), (2, .int v2_L5), (5, .int v5_70x)]) hx hb dX1_greatestPart_77 hl (k := 4) rfl rfl (by decide) rfl (fun ls hl => ?_)
          refine lv_goto (tgt := 5) hx hb dX1_greatestPart_80 (by decide) ?_
          exact ih (mxI v3_L5 v5_70x) (v4_L5 + 1) H locs ls hf hW (lv_sub hl [2, 3, 4, 1, 0] rfl)
        exact hL18 v1_L5 v2_L5 v3_L5 v4_L5 k70 hJ70 FU 0 0 H locs ls hf hW (lv_sub hl [2, 3, 4, 5, 6, 1, 0] rfl)
  obtain ⟨H, hH⟩ : ∃ H, H = s.heap := ⟨_, rfl⟩
  obtain ⟨locs, hlo⟩ : ∃ q : List Loc, q = [] := ⟨_, rfl⟩
  have hW : Wd D 43 ad (CC ad cy) A s.heap M H locs := by rw [hH, hlo]; exact hW
  suffices hh : W p l e (rmD 1) s m ([.ref (ad 0), .int v1, .int v2] : List Value).toArray below meth c H locs 0 0 Q (F0 m 0 ls []) by rw [hH, hlo] at hh; exact hh
  unfold f_X1_greatestPart at hf
  refine lv_iconst (v := 0) hx hb dX1_greatestPart_0 (by decide) ?_
  refine lv_istore_n (lv' := [(3, .int 0), (0, .ref (ad 0)), (1, .int v1), (2, .int v2)]) hx hb dX1_greatestPart_1 rfl hl (by decide) rfl (fun ls hl => ?_)
  refine lv_iconst (v := 0) hx hb dX1_greatestPart_2 (by decide) ?_
  refine lv_istore (lv' := [(4, .int 0), (3, .int 0), (0, .ref (ad 0)), (1, .int v1), (2, .int v2)]) hx hb dX1_greatestPart_3 hl (by decide) rfl (fun ls hl => ?_)
  exact hL5 v1 v2 FU 0 0 H locs ls hf hW (lv_sub hl [2, 3, 4, 1, 0] rfl)

def f_X1_test_L68 (v4_L68 : Int32) (M_L68 : Mem) (k108 : Int32 → Int32 → Option (Int32 × Mem)) : Nat → Int32 → Int32 → Int32 → Option (Int32 × Mem)
  | 0, _, _, _ => none
  | n + 1, v5_L68, v6_L68, v7_L68 => (if 20 ≤ v7_L68 then (k108 v5_L68 v6_L68) else (bR (f_X1_greatestPart v4_L68 v7_L68 M_L68) (fun r80 => (jn (fun (k102 : Int32 → Int32 → Option (Int32 × Mem)) => (if v5_L68 ≤ r80 then (k102 v5_L68 v6_L68) else (k102 r80 (v7_L68 + 1)))) (fun (v5_102j : Int32) (v6_102j : Int32) => (f_X1_test_L68 v4_L68 M_L68 k108 n v5_102j v6_102j (v7_L68 + 1)))))))
def f_X1_test (v1 : Int32) (v2 : Int32) (M : Mem) : Option (Int32 × Mem) :=
  (bR (f_X0_has 15 v1 M) (fun r5 => (if r5 = 0 then (some ((-1), M)) else (bR (f_X1_isRow v2 M) (fun r12 => (if r12 = 0 then (some ((-1), M)) else (bR (f_X1_lookThroughHeard v2 M) (fun r22 => (if r22 = 0 then (bI (f_X1_kindsHeard v1 v2 M) (fun r39 M39 => (if r39 = 0 then (some ((-9), M39)) else (bR (f_X1_lookAhead v1 M39) (fun M54 => (jn (fun (k108 : Int32 → Int32 → Option (Int32 × Mem)) => (f_X1_test_L68 r39 M54 k108 FU 7 (-9) 0)) (fun (v5_108x : Int32) (v6_108x : Int32) => (lt (sI M54 0 13 v5_108x) (fun M111 => (some (v6_108x, M111))))))))))) else (bI (f_X1_refuse r22 M) (fun r32 M32 => (some (r32, M32)))))))))))))
set_option maxHeartbeats 4000000 in
set_option maxRecDepth 100000 in
theorem c_X1_test (l : Launch) (D : va_G) (cy : Nat → ClassId) (ad : Nat → Nat)   {v1 : Int32} {v2 : Int32} {M M' : Mem} {r : Int32} (hf : f_X1_test v1 v2 M = some (r, M')) : MetX l 43 (CC ad cy) D cy ad yX1_test cX1_test 9 (some .int) 6 [.ref (ad 0), .int v1, .int v2] M (fun A => QI r M' 43 (CC ad cy) D cy ad A) := by
  refine MetX.of (own := RX1) (by decide) rfl (Nat.le_of_ble_eq_true rfl) ?_
  intro p e s m below meth c A Q ls X hr hlk hZ hA hQ hW hl
  have hl : lv_has ls 9 [(0, .ref (ad 0)), (1, .int v1), (2, .int v2)] := hl
  have hx := X.1
  have hb := X.2.1
  have hL68 : ∀ (v4_L68 : Int32) (M_L68 : Mem) (k108 : Int32 → Int32 → Option (Int32 × Mem)) (hJ108 : ∀ (v5_108x : Int32) (v6_108x : Int32) (H : Heap) (locs : List Loc) (ls : Array Slot), k108 v5_108x v6_108x = some (r, M') → Wd D 43 ad (CC ad cy) A s.heap M_L68 H locs → lv_has ls 9 [(0, .ref (ad 0)), (5, .int v5_108x), (6, .int v6_108x)] → W p l e (rmD 6) s m ([.ref (ad 0), .int v1, .int v2] : List Value).toArray below meth c H locs 0 0 Q (F0 m 108 ls [])) (n : Nat) (v5_L68 : Int32) (v6_L68 : Int32) (v7_L68 : Int32) (H : Heap) (locs : List Loc) (ls : Array Slot), f_X1_test_L68 v4_L68 M_L68 k108 n v5_L68 v6_L68 v7_L68 = some (r, M') → Wd D 43 ad (CC ad cy) A s.heap M_L68 H locs → lv_has ls 9 [(0, .ref (ad 0)), (4, .int v4_L68), (5, .int v5_L68), (6, .int v6_L68), (7, .int v7_L68)] → W p l e (rmD 6) s m ([.ref (ad 0), .int v1, .int v2] : List Value).toArray below meth c H locs 0 0 Q (F0 m 68 ls []) := by
    intro v4_L68 M_L68 k108 hJ108 n
    induction n with
    | zero =>
      intro v5_L68 v6_L68 v7_L68 H locs ls hf
      cases (show (none : Option (Int32 × Mem)) = some (r, M') from hf)
    | succ n ih =>
      intro v5_L68 v6_L68 v7_L68 H locs ls hf hW hl
      rw [f_X1_test_L68] at hf
      refine lv_iload hx hb dX1_test_68 (lv_at hl 4 rfl) ?_
      refine lv_bipush (v := 20) hx hb dX1_test_70 (by decide) ?_
      refine lv_icmp_ge (tgt := 108) hx hb dX1_test_72 (by decide) (fun hc => ?_) (fun hc => ?_)
      · replace hf := ifp hc hf
        exact hJ108 v5_L68 v6_L68 H locs ls hf hW (lv_sub hl [0, 2, 3] rfl)
      · replace hf := ifn hc hf
        refine lv_aload_n hx hb dX1_test_75 rfl (lv_at hl 0 rfl) ?_
        refine lv_iload hx hb dX1_test_76 (lv_at hl 1 rfl) ?_
        refine lv_iload hx hb dX1_test_78 (lv_at hl 4 rfl) ?_
        obtain ⟨r80, h80, hf⟩ := bR_some hf
        refine g_calliV X hl.1 hZ hA hW (c_X1_greatestPart l D cy ad h80) cw_X1_greatestPart ql_X1_204 iO_X1 rfl (by decide) rfl (Nat.le_of_ble_eq_true rfl) dX1_test_80 (fun H locs hW => ?_)
        refine lv_istore (lv' := [(8, .int r80), (0, .ref (ad 0)), (4, .int v4_L68), (5, .int v5_L68), (6, .int v6_L68), (7, .int v7_L68)]) hx hb dX1_test_83 hl (by decide) rfl (fun ls hl => ?_)
        refine lv_iload hx hb dX1_test_85 (lv_at hl 0 rfl) ?_
        refine lv_iload hx hb dX1_test_87 (lv_at hl 3 rfl) ?_
        obtain ⟨k102, hk102, hf⟩ := jn_some2 hf
        have hJ102 : ∀ (v5_102j : Int32) (v6_102j : Int32) (H : Heap) (locs : List Loc) (ls : Array Slot), k102 v5_102j v6_102j = some (r, M') → Wd D 43 ad (CC ad cy) A s.heap M_L68 H locs → lv_has ls 9 [(0, .ref (ad 0)), (4, .int v4_L68), (5, .int v5_102j), (6, .int v6_102j), (7, .int v7_L68)] → W p l e (rmD 6) s m ([.ref (ad 0), .int v1, .int v2] : List Value).toArray below meth c H locs 0 0 Q (F0 m 102 ls []) := by
          intro v5_102j v6_102j H locs ls hf hW hl
          rw [hk102] at hf
          refine lv_iinc (v := (v7_L68 + 1)) (lv' := [(7, .int (v7_L68 + 1)), (0, .ref (ad 0)), (4, .int v4_L68), (5, .int v5_102j), (6, .int v6_102j)]) hx hb dX1_test_102 hl (k := 4) rfl rfl (by decide) rfl (fun ls hl => ?_)
          refine lv_goto (tgt := 68) hx hb dX1_test_105 (by decide) ?_
          exact ih v5_102j v6_102j (v7_L68 + 1) H locs ls hf hW (lv_sub hl [1, 2, 3, 4, 0] rfl)
        refine lv_icmp_ge (tgt := 102) hx hb dX1_test_89 (by decide) (fun hc => ?_) (fun hc => ?_)
        · replace hf := ifp hc hf
          exact hJ102 v5_L68 v6_L68 H locs ls hf hW (lv_sub hl [1, 2, 3, 4, 5] rfl)
        · replace hf := ifn hc hf
          refine lv_iload hx hb dX1_test_92 (lv_at hl 0 rfl) ?_
          refine lv_istore (lv' := [(5, .int r80), (8, .int r80), (0, .ref (ad 0)), (4, .int v4_L68), (6, .int v6_L68), (7, .int v7_L68)]) hx hb dX1_test_94 hl (by decide) rfl (fun ls hl => ?_)
          refine lv_iload hx hb dX1_test_96 (lv_at hl 5 rfl) ?_
          refine lv_iconst (v := 1) hx hb dX1_test_98 (by decide) ?_
          refine lv_iadd hx hb dX1_test_99 ?_
          refine lv_istore (lv' := [(6, .int (v7_L68 + 1)), (5, .int r80), (8, .int r80), (0, .ref (ad 0)), (4, .int v4_L68), (7, .int v7_L68)]) hx hb dX1_test_100 hl (by decide) rfl (fun ls hl => ?_)
          exact hJ102 r80 (v7_L68 + 1) H locs ls hf hW (lv_sub hl [3, 4, 1, 0, 5] rfl)
  obtain ⟨H, hH⟩ : ∃ H, H = s.heap := ⟨_, rfl⟩
  obtain ⟨locs, hlo⟩ : ∃ q : List Loc, q = [] := ⟨_, rfl⟩
  have hW : Wd D 43 ad (CC ad cy) A s.heap M H locs := by rw [hH, hlo]; exact hW
  suffices hh : W p l e (rmD 6) s m ([.ref (ad 0), .int v1, .int v2] : List Value).toArray below meth c H locs 0 0 Q (F0 m 0 ls []) by rw [hH, hlo] at hh; exact hh
  unfold f_X1_test at hf
  refine lv_aload_n hx hb dX1_test_0 rfl (lv_at hl 0 rfl) ?_
  refine gf_X1_29 X hW dX1_test_1 ?_
  refine lv_iload_n hx hb dX1_test_4 rfl (lv_at hl 1 rfl) ?_
  obtain ⟨r5, h5, hf⟩ := bR_some hf
  refine g_calliN (host := "TubeWords") X hl.1 hZ hA hW (c_X0_has l D cy ad isSt15 h5) cw_X0_has (by decide +kernel) (iO_st isSt15) rfl (by decide) rfl (Nat.le_of_ble_eq_true rfl) dX1_test_5 (fun H locs hW => ?_)
  refine lv_if_eq (tgt := 18) hx hb dX1_test_8 (by decide) (fun hc => ?_) (fun hc => ?_)
  · replace hf := ifp hc hf
    refine lv_iconst (v := (-1)) hx hb dX1_test_18 (by decide) ?_
    exact g_iret X hr hlk hQ hW dX1_test_19 hf
  · replace hf := ifn hc hf
    refine lv_iload_n hx hb dX1_test_11 rfl (lv_at hl 2 rfl) ?_
    obtain ⟨r12, h12, hf⟩ := bR_some hf
    refine g_calliS X hl.1 hZ hA hW (c_X1_isRow l D cy ad h12) cs_X1_isRow ql_X1_68 rfl (by decide) rfl (Nat.le_of_ble_eq_true rfl) dX1_test_12 (fun H locs hW => ?_)
    refine lv_if_ne (tgt := 20) hx hb dX1_test_15 (by decide) (fun hc => ?_) (fun hc => ?_)
    · replace hf := ifn hc hf
      refine lv_aload_n hx hb dX1_test_20 rfl (lv_at hl 0 rfl) ?_
      refine lv_iload_n hx hb dX1_test_21 rfl (lv_at hl 2 rfl) ?_
      obtain ⟨r22, h22, hf⟩ := bR_some hf
      refine g_calliV X hl.1 hZ hA hW (c_X1_lookThroughHeard l D cy ad h22) cw_X1_lookThroughHeard ql_X1_192 iO_X1 rfl (by decide) rfl (Nat.le_of_ble_eq_true rfl) dX1_test_22 (fun H locs hW => ?_)
      refine lv_istore_n (lv' := [(3, .int r22), (0, .ref (ad 0)), (1, .int v1), (2, .int v2)]) hx hb dX1_test_25 rfl hl (by decide) rfl (fun ls hl => ?_)
      refine lv_iload_n hx hb dX1_test_26 rfl (lv_at hl 0 rfl) ?_
      refine lv_if_eq (tgt := 36) hx hb dX1_test_27 (by decide) (fun hc => ?_) (fun hc => ?_)
      · replace hf := ifp hc hf
        refine lv_aload_n hx hb dX1_test_36 rfl (lv_at hl 1 rfl) ?_
        refine lv_iload_n hx hb dX1_test_37 rfl (lv_at hl 2 rfl) ?_
        refine lv_iload_n hx hb dX1_test_38 rfl (lv_at hl 3 rfl) ?_
        obtain ⟨r39, M39, h39, hf⟩ := bI_some hf
        refine g_calliV X hl.1 hZ hA hW (c_X1_kindsHeard l D cy ad h39) cw_X1_kindsHeard ql_X1_195 iO_X1 rfl (by decide) rfl (Nat.le_of_ble_eq_true rfl) dX1_test_39 (fun H locs hW => ?_)
        refine lv_istore (lv' := [(4, .int r39), (3, .int r22), (0, .ref (ad 0)), (1, .int v1), (2, .int v2)]) hx hb dX1_test_42 hl (by decide) rfl (fun ls hl => ?_)
        refine lv_iload hx hb dX1_test_44 (lv_at hl 0 rfl) ?_
        refine lv_if_ne (tgt := 52) hx hb dX1_test_46 (by decide) (fun hc => ?_) (fun hc => ?_)
        · replace hf := ifn hc hf
          refine lv_aload_n hx hb dX1_test_52 rfl (lv_at hl 2 rfl) ?_
          refine lv_iload_n hx hb dX1_test_53 rfl (lv_at hl 3 rfl) ?_
          obtain ⟨M54, h54, hf⟩ := bR_some hf
          refine g_callvV X hl.1 hZ hA hW (c_X1_lookAhead l D cy ad h54) cw_X1_lookAhead ql_X1_201 iO_X1 rfl (by decide) rfl (Nat.le_of_ble_eq_true rfl) dX1_test_54 (fun H locs hW => ?_)
          refine lv_bipush (v := 7) hx hb dX1_test_57 (by decide) ?_
          refine lv_istore (lv' := [(5, .int 7), (4, .int r39), (3, .int r22), (0, .ref (ad 0)), (1, .int v1), (2, .int v2)]) hx hb dX1_test_59 hl (by decide) rfl (fun ls hl => ?_)
          refine lv_bipush (v := (-9)) hx hb dX1_test_61 (by decide) ?_
          refine lv_istore (lv' := [(6, .int (-9)), (5, .int 7), (4, .int r39), (3, .int r22), (0, .ref (ad 0)), (1, .int v1), (2, .int v2)]) hx hb dX1_test_63 hl (by decide) rfl (fun ls hl => ?_)
          refine lv_iconst (v := 0) hx hb dX1_test_65 (by decide) ?_
          refine lv_istore (lv' := [(7, .int 0), (6, .int (-9)), (5, .int 7), (4, .int r39), (3, .int r22), (0, .ref (ad 0)), (1, .int v1), (2, .int v2)]) hx hb dX1_test_66 hl (by decide) rfl (fun ls hl => ?_)
          obtain ⟨k108, hk108, hf⟩ := jn_some2 hf
          have hJ108 : ∀ (v5_108x : Int32) (v6_108x : Int32) (H : Heap) (locs : List Loc) (ls : Array Slot), k108 v5_108x v6_108x = some (r, M') → Wd D 43 ad (CC ad cy) A s.heap M54 H locs → lv_has ls 9 [(0, .ref (ad 0)), (5, .int v5_108x), (6, .int v6_108x)] → W p l e (rmD 6) s m ([.ref (ad 0), .int v1, .int v2] : List Value).toArray below meth c H locs 0 0 Q (F0 m 108 ls []) := by
            intro v5_108x v6_108x H locs ls hf hW hl
            rw [hk108] at hf
            refine lv_aload_n hx hb dX1_test_108 rfl (lv_at hl 0 rfl) ?_
            refine lv_iload hx hb dX1_test_109 (lv_at hl 1 rfl) ?_
            refine gp_X1_58 X hW dX1_test_111 (fun H locs hW => ?_)
            obtain ⟨M111, e111, hf⟩ := lt_some hf
            have hW : Wd D 43 ad (CC ad cy) A s.heap M111 H locs := by rw [e111]; exact hW
            refine lv_iload hx hb dX1_test_114 (lv_at hl 2 rfl) ?_
            exact g_iret X hr hlk hQ hW dX1_test_116 hf
          exact hL68 r39 M54 k108 hJ108 FU 7 (-9) 0 H locs ls hf hW (lv_sub hl [5, 3, 2, 1, 0] rfl)
        · replace hf := ifp hc hf
          refine lv_bipush (v := (-9)) hx hb dX1_test_49 (by decide) ?_
          exact g_iret X hr hlk hQ hW dX1_test_51 hf
      · replace hf := ifn hc hf
        refine lv_aload_n hx hb dX1_test_30 rfl (lv_at hl 1 rfl) ?_
        refine lv_iload_n hx hb dX1_test_31 rfl (lv_at hl 0 rfl) ?_
        obtain ⟨r32, M32, h32, hf⟩ := bI_some hf
        refine g_calliV X hl.1 hZ hA hW (c_X1_refuse l D cy ad h32) cw_X1_refuse ql_X1_72 iO_X1 rfl (by decide) rfl (Nat.le_of_ble_eq_true rfl) dX1_test_32 (fun H locs hW => ?_)
        exact g_iret X hr hlk hQ hW dX1_test_35 hf
    · replace hf := ifp hc hf
      refine lv_iconst (v := (-1)) hx hb dX1_test_18 (by decide) ?_
      exact g_iret X hr hlk hQ hW dX1_test_19 hf

def f_X1_leftWithEnds (v1 : Int32) (M : Mem) : Option (Int32 × Mem) :=
  (bR (f_X0_takeFrom 22 15 M) (fun M8 => (bR (f_X0_putEnds 22 v1 M8) (fun M16 => (bR (f_X0_goOn 22 8 M16) (fun M25 => (bR (f_X0_pulses 22 M25) (fun r32 => (some (r32, M25))))))))))
set_option maxHeartbeats 4000000 in
set_option maxRecDepth 100000 in
theorem c_X1_leftWithEnds (l : Launch) (D : va_G) (cy : Nat → ClassId) (ad : Nat → Nat)   {v1 : Int32} {M M' : Mem} {r : Int32} (hf : f_X1_leftWithEnds v1 M = some (r, M')) : MetX l 43 (CC ad cy) D cy ad yX1_leftWithEnds cX1_leftWithEnds 2 (some .int) 4 [.ref (ad 0), .int v1] M (fun A => QI r M' 43 (CC ad cy) D cy ad A) := by
  refine MetX.of (own := RX1) (by decide) rfl (Nat.le_of_ble_eq_true rfl) ?_
  intro p e s m below meth c A Q ls X hr hlk hZ hA hQ hW hl
  have hl : lv_has ls 2 [(0, .ref (ad 0)), (1, .int v1)] := hl
  have hx := X.1
  have hb := X.2.1
  obtain ⟨H, hH⟩ : ∃ H, H = s.heap := ⟨_, rfl⟩
  obtain ⟨locs, hlo⟩ : ∃ q : List Loc, q = [] := ⟨_, rfl⟩
  have hW : Wd D 43 ad (CC ad cy) A s.heap M H locs := by rw [hH, hlo]; exact hW
  suffices hh : W p l e (rmD 4) s m ([.ref (ad 0), .int v1] : List Value).toArray below meth c H locs 0 0 Q (F0 m 0 ls []) by rw [hH, hlo] at hh; exact hh
  unfold f_X1_leftWithEnds at hf
  refine lv_aload_n hx hb dX1_leftWithEnds_0 rfl (lv_at hl 0 rfl) ?_
  refine gf_X1_33 X hW dX1_leftWithEnds_1 ?_
  refine lv_aload_n hx hb dX1_leftWithEnds_4 rfl (lv_at hl 0 rfl) ?_
  refine gf_X1_29 X hW dX1_leftWithEnds_5 ?_
  obtain ⟨M8, h8, hf⟩ := bR_some hf
  refine g_callvN (host := "TubeWords") X hl.1 hZ hA hW (c_X0_takeFrom l D cy ad isSt22 isSt15 h8) cw_X0_takeFrom (by decide +kernel) (iO_st isSt22) rfl (by decide) rfl (Nat.le_of_ble_eq_true rfl) dX1_leftWithEnds_8 (fun H locs hW => ?_)
  refine lv_aload_n hx hb dX1_leftWithEnds_11 rfl (lv_at hl 0 rfl) ?_
  refine gf_X1_33 X hW dX1_leftWithEnds_12 ?_
  refine lv_iload_n hx hb dX1_leftWithEnds_15 rfl (lv_at hl 1 rfl) ?_
  obtain ⟨M16, h16, hf⟩ := bR_some hf
  refine g_callvN (host := "TubeWords") X hl.1 hZ hA hW (c_X0_putEnds l D cy ad isSt22 h16) cw_X0_putEnds (by decide +kernel) (iO_st isSt22) rfl (by decide) rfl (Nat.le_of_ble_eq_true rfl) dX1_leftWithEnds_16 (fun H locs hW => ?_)
  refine lv_aload_n hx hb dX1_leftWithEnds_19 rfl (lv_at hl 0 rfl) ?_
  refine gf_X1_33 X hW dX1_leftWithEnds_20 ?_
  refine lv_bipush (v := 8) hx hb dX1_leftWithEnds_23 (by decide) ?_
  obtain ⟨M25, h25, hf⟩ := bR_some hf
  refine g_callvN (host := "TubeWords") X hl.1 hZ hA hW (c_X0_goOn l D cy ad isSt22 h25) cw_X0_goOn (by decide +kernel) (iO_st isSt22) rfl (by decide) rfl (Nat.le_of_ble_eq_true rfl) dX1_leftWithEnds_25 (fun H locs hW => ?_)
  refine lv_aload_n hx hb dX1_leftWithEnds_28 rfl (lv_at hl 0 rfl) ?_
  refine gf_X1_33 X hW dX1_leftWithEnds_29 ?_
  obtain ⟨r32, h32, hf⟩ := bR_some hf
  refine g_calliN (host := "TubeWords") X hl.1 hZ hA hW (c_X0_pulses l D cy ad isSt22 h32) cw_X0_pulses (by decide +kernel) (iO_st isSt22) rfl (by decide) rfl (Nat.le_of_ble_eq_true rfl) dX1_leftWithEnds_32 (fun H locs hW => ?_)
  exact g_iret X hr hlk hQ hW dX1_leftWithEnds_35 hf

def f_X1_weightOf_L5 (v1_L5 : Int32) (v2_L5 : Int32) (M : Mem) : Nat → Int64 → Int32 → Option Int64
  | 0, _, _ => none
  | n + 1, v3_L5, v5_L5 => (if (M.1 15 6) ≤ v5_L5 then (some v3_L5) else (jn (fun (k38 : Int64 → Option Int64) => (if ((shr v1_L5 v5_L5) &&& 1) = 1 then (k38 v2_L5.toInt64) else (k38 ((12 - v2_L5)).toInt64))) (fun (t0_38j : Int64) => (f_X1_weightOf_L5 v1_L5 v2_L5 M n (v3_L5 * t0_38j) (v5_L5 + 1)))))
def f_X1_weightOf (v1 : Int32) (v2 : Int32) (M : Mem) : Option Int64 :=
  (f_X1_weightOf_L5 v1 v2 M FU 1 0)
set_option maxHeartbeats 4000000 in
set_option maxRecDepth 100000 in
theorem c_X1_weightOf (l : Launch) (D : va_G) (cy : Nat → ClassId) (ad : Nat → Nat)   {v1 : Int32} {v2 : Int32} {M : Mem} {r : Int64} (hf : f_X1_weightOf v1 v2 M = some r) : MetX l 43 (CC ad cy) D cy ad yX1_weightOf cX1_weightOf 6 (some .long) 0 [.ref (ad 0), .int v1, .int v2] M (fun A => QL r M 43 (CC ad cy) D cy ad A) := by
  refine MetX.of (own := RX1) (by decide) rfl (Nat.le_of_ble_eq_true rfl) ?_
  intro p e s m below meth c A Q ls X hr hlk hZ hA hQ hW hl
  have hl : lv_has ls 6 [(0, .ref (ad 0)), (1, .int v1), (2, .int v2)] := hl
  have hx := X.1
  have hb := X.2.1
  have hL5 : ∀ (v1_L5 : Int32) (v2_L5 : Int32)  (n : Nat) (v3_L5 : Int64) (v5_L5 : Int32) (H : Heap) (locs : List Loc) (ls : Array Slot), f_X1_weightOf_L5 v1_L5 v2_L5 M n v3_L5 v5_L5 = some r → Wd D 43 ad (CC ad cy) A s.heap M H locs → lv_has ls 6 [(0, .ref (ad 0)), (1, .int v1_L5), (2, .int v2_L5), (3, .long v3_L5), (5, .int v5_L5)] → W p l e (rmD 0) s m ([.ref (ad 0), .int v1, .int v2] : List Value).toArray below meth c H locs 0 0 Q (F0 m 5 ls []) := by
    intro v1_L5 v2_L5 n
    induction n with
    | zero =>
      intro v3_L5 v5_L5 H locs ls hf
      cases (show (none : Option Int64) = some r from hf)
    | succ n ih =>
      intro v3_L5 v5_L5 H locs ls hf hW hl
      rw [f_X1_weightOf_L5] at hf
      refine lv_iload hx hb dX1_weightOf_5 (lv_at hl 4 rfl) ?_
      refine lv_aload_n hx hb dX1_weightOf_7 rfl (lv_at hl 0 rfl) ?_
      refine gf_X1_29 X hW dX1_weightOf_8 ?_
      refine gf_X1_108 isSt15 X hW dX1_weightOf_11 ?_
      refine lv_icmp_ge (tgt := 46) hx hb dX1_weightOf_14 (by decide) (fun hc => ?_) (fun hc => ?_)
      · replace hf := ifp hc hf
        refine lv_lload_n hx hb dX1_weightOf_46 rfl (lv_at hl 3 rfl) ?_
        exact g_lret X hr hlk hQ hW dX1_weightOf_47 (rd_some hf)
      · replace hf := ifn hc hf
        refine lv_lload_n hx hb dX1_weightOf_17 rfl (lv_at hl 3 rfl) ?_
        refine lv_iload_n hx hb dX1_weightOf_18 rfl (lv_at hl 1 rfl) ?_
        refine lv_iload hx hb dX1_weightOf_19 (lv_at hl 4 rfl) ?_
        refine r_ishr hx hb dX1_weightOf_21 ?_
        refine lv_iconst (v := 1) hx hb dX1_weightOf_22 (by decide) ?_
        refine lv_iand hx hb dX1_weightOf_23 ?_
        refine lv_iconst (v := 1) hx hb dX1_weightOf_24 (by decide) ?_
        obtain ⟨k38, hk38, hf⟩ := jn_some1 hf
        have hJ38 : ∀ (t0_38j : Int64) (H : Heap) (locs : List Loc) (ls : Array Slot), k38 t0_38j = some r → Wd D 43 ad (CC ad cy) A s.heap M H locs → lv_has ls 6 [(0, .ref (ad 0)), (1, .int v1_L5), (2, .int v2_L5), (5, .int v5_L5)] → W p l e (rmD 0) s m ([.ref (ad 0), .int v1, .int v2] : List Value).toArray below meth c H locs 0 0 Q (F0 m 38 ls [.long t0_38j, .long v3_L5]) := by
          intro t0_38j H locs ls hf hW hl
          rw [hk38] at hf
          refine lv_lmul hx hb dX1_weightOf_38 ?_
          refine lv_lstore_n (lv' := [(3, .long (v3_L5 * t0_38j)), (0, .ref (ad 0)), (1, .int v1_L5), (2, .int v2_L5), (5, .int v5_L5)]) hx hb dX1_weightOf_39 rfl hl (by decide) rfl (fun ls hl => ?_)
          refine lv_iinc (v := (v5_L5 + 1)) (lv' := [(5, .int (v5_L5 + 1)), (3, .long (v3_L5 * t0_38j)), (0, .ref (ad 0)), (1, .int v1_L5), (2, .int v2_L5)]) hx hb dX1_weightOf_40 hl (k := 4) rfl rfl (by decide) rfl (fun ls hl => ?_)
          refine lv_goto (tgt := 5) hx hb dX1_weightOf_43 (by decide) ?_
          exact ih (v3_L5 * t0_38j) (v5_L5 + 1) H locs ls hf hW (lv_sub hl [2, 3, 4, 1, 0] rfl)
        refine lv_icmp_ne (tgt := 33) hx hb dX1_weightOf_25 (by decide) (fun hc => ?_) (fun hc => ?_)
        · replace hf := ifn hc hf
          refine lv_bipush (v := 12) hx hb dX1_weightOf_33 (by decide) ?_
          refine lv_iload_n hx hb dX1_weightOf_35 rfl (lv_at hl 2 rfl) ?_
          refine lv_isub hx hb dX1_weightOf_36 ?_
          refine lv_i2l (v := ((12 - v2_L5)).toInt64) hx hb dX1_weightOf_37 rfl ?_
          exact hJ38 ((12 - v2_L5)).toInt64 H locs ls hf hW (lv_sub hl [0, 1, 2, 4] rfl)
        · replace hf := ifp hc hf
          refine lv_iload_n hx hb dX1_weightOf_28 rfl (lv_at hl 2 rfl) ?_
          refine lv_i2l (v := v2_L5.toInt64) hx hb dX1_weightOf_29 rfl ?_
          refine lv_goto (tgt := 38) hx hb dX1_weightOf_30 (by decide) ?_
          exact hJ38 v2_L5.toInt64 H locs ls hf hW (lv_sub hl [0, 1, 2, 4] rfl)
  obtain ⟨H, hH⟩ : ∃ H, H = s.heap := ⟨_, rfl⟩
  obtain ⟨locs, hlo⟩ : ∃ q : List Loc, q = [] := ⟨_, rfl⟩
  have hW : Wd D 43 ad (CC ad cy) A s.heap M H locs := by rw [hH, hlo]; exact hW
  suffices hh : W p l e (rmD 0) s m ([.ref (ad 0), .int v1, .int v2] : List Value).toArray below meth c H locs 0 0 Q (F0 m 0 ls []) by rw [hH, hlo] at hh; exact hh
  unfold f_X1_weightOf at hf
  refine lv_lconst (v := 1) hx hb dX1_weightOf_0 (by decide) ?_
  refine lv_lstore_n (lv' := [(3, .long 1), (0, .ref (ad 0)), (1, .int v1), (2, .int v2)]) hx hb dX1_weightOf_1 rfl hl (by decide) rfl (fun ls hl => ?_)
  refine lv_iconst (v := 0) hx hb dX1_weightOf_2 (by decide) ?_
  refine lv_istore (lv' := [(5, .int 0), (3, .long 1), (0, .ref (ad 0)), (1, .int v1), (2, .int v2)]) hx hb dX1_weightOf_3 hl (by decide) rfl (fun ls hl => ?_)
  exact hL5 v1 v2 FU 1 0 H locs ls hf hW (lv_sub hl [2, 3, 4, 1, 0] rfl)

def f_X1_leftWithout (v1 : Int32) (v2 : Int32) (M : Mem) : Option (Int32 × Mem) :=
  (bR (f_X0_takeFrom 22 15 M) (fun M8 => (bR (f_X0_empty 22 v1 M8) (fun M16 => (bR (f_X0_goOn 22 v2 M16) (fun M24 => (bR (f_X0_pulses 22 M24) (fun r31 => (some (r31, M24))))))))))
set_option maxHeartbeats 4000000 in
set_option maxRecDepth 100000 in
theorem c_X1_leftWithout (l : Launch) (D : va_G) (cy : Nat → ClassId) (ad : Nat → Nat)   {v1 : Int32} {v2 : Int32} {M M' : Mem} {r : Int32} (hf : f_X1_leftWithout v1 v2 M = some (r, M')) : MetX l 43 (CC ad cy) D cy ad yX1_leftWithout cX1_leftWithout 3 (some .int) 4 [.ref (ad 0), .int v1, .int v2] M (fun A => QI r M' 43 (CC ad cy) D cy ad A) := by
  refine MetX.of (own := RX1) (by decide) rfl (Nat.le_of_ble_eq_true rfl) ?_
  intro p e s m below meth c A Q ls X hr hlk hZ hA hQ hW hl
  have hl : lv_has ls 3 [(0, .ref (ad 0)), (1, .int v1), (2, .int v2)] := hl
  have hx := X.1
  have hb := X.2.1
  obtain ⟨H, hH⟩ : ∃ H, H = s.heap := ⟨_, rfl⟩
  obtain ⟨locs, hlo⟩ : ∃ q : List Loc, q = [] := ⟨_, rfl⟩
  have hW : Wd D 43 ad (CC ad cy) A s.heap M H locs := by rw [hH, hlo]; exact hW
  suffices hh : W p l e (rmD 4) s m ([.ref (ad 0), .int v1, .int v2] : List Value).toArray below meth c H locs 0 0 Q (F0 m 0 ls []) by rw [hH, hlo] at hh; exact hh
  unfold f_X1_leftWithout at hf
  refine lv_aload_n hx hb dX1_leftWithout_0 rfl (lv_at hl 0 rfl) ?_
  refine gf_X1_33 X hW dX1_leftWithout_1 ?_
  refine lv_aload_n hx hb dX1_leftWithout_4 rfl (lv_at hl 0 rfl) ?_
  refine gf_X1_29 X hW dX1_leftWithout_5 ?_
  obtain ⟨M8, h8, hf⟩ := bR_some hf
  refine g_callvN (host := "TubeWords") X hl.1 hZ hA hW (c_X0_takeFrom l D cy ad isSt22 isSt15 h8) cw_X0_takeFrom (by decide +kernel) (iO_st isSt22) rfl (by decide) rfl (Nat.le_of_ble_eq_true rfl) dX1_leftWithout_8 (fun H locs hW => ?_)
  refine lv_aload_n hx hb dX1_leftWithout_11 rfl (lv_at hl 0 rfl) ?_
  refine gf_X1_33 X hW dX1_leftWithout_12 ?_
  refine lv_iload_n hx hb dX1_leftWithout_15 rfl (lv_at hl 1 rfl) ?_
  obtain ⟨M16, h16, hf⟩ := bR_some hf
  refine g_callvN (host := "TubeWords") X hl.1 hZ hA hW (c_X0_empty l D cy ad isSt22 h16) cw_X0_empty (by decide +kernel) (iO_st isSt22) rfl (by decide) rfl (Nat.le_of_ble_eq_true rfl) dX1_leftWithout_16 (fun H locs hW => ?_)
  refine lv_aload_n hx hb dX1_leftWithout_19 rfl (lv_at hl 0 rfl) ?_
  refine gf_X1_33 X hW dX1_leftWithout_20 ?_
  refine lv_iload_n hx hb dX1_leftWithout_23 rfl (lv_at hl 2 rfl) ?_
  obtain ⟨M24, h24, hf⟩ := bR_some hf
  refine g_callvN (host := "TubeWords") X hl.1 hZ hA hW (c_X0_goOn l D cy ad isSt22 h24) cw_X0_goOn (by decide +kernel) (iO_st isSt22) rfl (by decide) rfl (Nat.le_of_ble_eq_true rfl) dX1_leftWithout_24 (fun H locs hW => ?_)
  refine lv_aload_n hx hb dX1_leftWithout_27 rfl (lv_at hl 0 rfl) ?_
  refine gf_X1_33 X hW dX1_leftWithout_28 ?_
  obtain ⟨r31, h31, hf⟩ := bR_some hf
  refine g_calliN (host := "TubeWords") X hl.1 hZ hA hW (c_X0_pulses l D cy ad isSt22 h31) cw_X0_pulses (by decide +kernel) (iO_st isSt22) rfl (by decide) rfl (Nat.le_of_ble_eq_true rfl) dX1_leftWithout_31 (fun H locs hW => ?_)
  exact g_iret X hr hlk hQ hW dX1_leftWithout_34 hf

def f_X1_tellLowest_L9 (v1_L9 : Int64) (v3_L9 : Int64) (M_L9 : Mem) (k45 : Int64 → Option Mem) : Nat → Int64 → Int64 → Int32 → Option Mem
  | 0, _, _, _ => none
  | n + 1, v5_L9, v7_L9, v9_L9 => (if 200 ≤ v9_L9 then (k45 v5_L9) else (if (lg_cmp v7_L9 0) = 0 then (k45 v5_L9) else (grd (nzL v7_L9) (f_X1_tellLowest_L9 v1_L9 v3_L9 M_L9 k45 n v7_L9 (lrm v5_L9 v7_L9) (v9_L9 + 1)))))
def f_X1_tellLowest (v1 : Int64) (v3 : Int64) (M : Mem) : Option Mem :=
  (jn (fun (k45 : Int64 → Option Mem) => (f_X1_tellLowest_L9 v1 v3 M k45 FU v3 v1 0)) (fun (v5_45x : Int64) => (jn (fun (k61 : Int64 → Option Mem) => (if (lg_cmp v5_45x 0) ≤ 0 then (k61 v1) else (grd (nzL v5_45x) (k61 (v1 / v5_45x))))) (fun (t0_61j : Int64) => (lt (sL M 0 14 t0_61j) (fun M61 => (jn (fun (k80 : Int64 → Option Mem) => (if (lg_cmp v5_45x 0) ≤ 0 then (k80 v3) else (grd (nzL v5_45x) (k80 (v3 / v5_45x))))) (fun (t0_80j : Int64) => (lt (sL M61 0 15 t0_80j) (fun M80 => (some M80)))))))))))
set_option maxHeartbeats 4000000 in
set_option maxRecDepth 100000 in
theorem c_X1_tellLowest (l : Launch) (D : va_G) (cy : Nat → ClassId) (ad : Nat → Nat)   {v1 : Int64} {v3 : Int64} {M M' : Mem} (hf : f_X1_tellLowest v1 v3 M = some M') : MetX l 43 (CC ad cy) D cy ad yX1_tellLowest cX1_tellLowest 12 none 0 [.ref (ad 0), .long v1, .long v3] M (fun A => QV M' 43 (CC ad cy) D cy ad A) := by
  refine MetX.of (own := RX1) (by decide) rfl (Nat.le_of_ble_eq_true rfl) ?_
  intro p e s m below meth c A Q ls X hr hlk hZ hA hQ hW hl
  have hl : lv_has ls 12 [(0, .ref (ad 0)), (1, .long v1), (3, .long v3)] := hl
  have hx := X.1
  have hb := X.2.1
  have hL9 : ∀ (v1_L9 : Int64) (v3_L9 : Int64) (M_L9 : Mem) (k45 : Int64 → Option Mem) (hJ45 : ∀ (v5_45x : Int64) (H : Heap) (locs : List Loc) (ls : Array Slot), k45 v5_45x = some M' → Wd D 43 ad (CC ad cy) A s.heap M_L9 H locs → lv_has ls 12 [(0, .ref (ad 0)), (1, .long v1_L9), (3, .long v3_L9), (5, .long v5_45x)] → W p l e (rmD 0) s m ([.ref (ad 0), .long v1, .long v3] : List Value).toArray below meth c H locs 0 0 Q (F0 m 45 ls [])) (n : Nat) (v5_L9 : Int64) (v7_L9 : Int64) (v9_L9 : Int32) (H : Heap) (locs : List Loc) (ls : Array Slot), f_X1_tellLowest_L9 v1_L9 v3_L9 M_L9 k45 n v5_L9 v7_L9 v9_L9 = some M' → Wd D 43 ad (CC ad cy) A s.heap M_L9 H locs → lv_has ls 12 [(0, .ref (ad 0)), (1, .long v1_L9), (3, .long v3_L9), (5, .long v5_L9), (7, .long v7_L9), (9, .int v9_L9)] → W p l e (rmD 0) s m ([.ref (ad 0), .long v1, .long v3] : List Value).toArray below meth c H locs 0 0 Q (F0 m 9 ls []) := by
    intro v1_L9 v3_L9 M_L9 k45 hJ45 n
    induction n with
    | zero =>
      intro v5_L9 v7_L9 v9_L9 H locs ls hf
      cases (show (none : Option Mem) = some M' from hf)
    | succ n ih =>
      intro v5_L9 v7_L9 v9_L9 H locs ls hf hW hl
      rw [f_X1_tellLowest_L9] at hf
      refine lv_iload hx hb dX1_tellLowest_9 (lv_at hl 5 rfl) ?_
      refine lv_sipush (v := 200) hx hb dX1_tellLowest_11 (by decide) ?_
      refine lv_icmp_ge (tgt := 45) hx hb dX1_tellLowest_14 (by decide) (fun hc => ?_) (fun hc => ?_)
      · replace hf := ifp hc hf
        exact hJ45 v5_L9 H locs ls hf hW (lv_sub hl [0, 1, 2, 3] rfl)
      · replace hf := ifn hc hf
        refine lv_lload hx hb dX1_tellLowest_17 (lv_at hl 4 rfl) ?_
        refine lv_lconst (v := 0) hx hb dX1_tellLowest_19 (by decide) ?_
        refine W.lcmp hx hb dX1_tellLowest_20 ?_
        refine lv_if_eq (tgt := 45) hx hb dX1_tellLowest_21 (by decide) (fun hc => ?_) (fun hc => ?_)
        · replace hf := ifp hc hf
          exact hJ45 v5_L9 H locs ls hf hW (lv_sub hl [0, 1, 2, 3] rfl)
        · replace hf := ifn hc hf
          refine lv_lload hx hb dX1_tellLowest_24 (lv_at hl 3 rfl) ?_
          refine lv_lload hx hb dX1_tellLowest_26 (lv_at hl 4 rfl) ?_
          obtain ⟨hz28, hf⟩ := grd_some hf
          refine r_lrem hx hb dX1_tellLowest_28 (nzL_ne hz28) ?_
          refine lv_lstore (lv' := [(10, .long (lrm v5_L9 v7_L9)), (0, .ref (ad 0)), (1, .long v1_L9), (3, .long v3_L9), (5, .long v5_L9), (7, .long v7_L9), (9, .int v9_L9)]) hx hb dX1_tellLowest_29 hl (by decide) rfl (fun ls hl => ?_)
          refine lv_lload hx hb dX1_tellLowest_31 (lv_at hl 5 rfl) ?_
          refine lv_lstore (lv' := [(5, .long v7_L9), (10, .long (lrm v5_L9 v7_L9)), (0, .ref (ad 0)), (1, .long v1_L9), (3, .long v3_L9), (7, .long v7_L9), (9, .int v9_L9)]) hx hb dX1_tellLowest_33 hl (by decide) rfl (fun ls hl => ?_)
          refine lv_lload hx hb dX1_tellLowest_35 (lv_at hl 1 rfl) ?_
          refine lv_lstore (lv' := [(7, .long (lrm v5_L9 v7_L9)), (5, .long v7_L9), (10, .long (lrm v5_L9 v7_L9)), (0, .ref (ad 0)), (1, .long v1_L9), (3, .long v3_L9), (9, .int v9_L9)]) hx hb dX1_tellLowest_37 hl (by decide) rfl (fun ls hl => ?_)
          refine lv_iinc (v := (v9_L9 + 1)) (lv' := [(9, .int (v9_L9 + 1)), (7, .long (lrm v5_L9 v7_L9)), (5, .long v7_L9), (10, .long (lrm v5_L9 v7_L9)), (0, .ref (ad 0)), (1, .long v1_L9), (3, .long v3_L9)]) hx hb dX1_tellLowest_39 hl (k := 6) rfl rfl (by decide) rfl (fun ls hl => ?_)
          refine lv_goto (tgt := 9) hx hb dX1_tellLowest_42 (by decide) ?_
          exact ih v7_L9 (lrm v5_L9 v7_L9) (v9_L9 + 1) H locs ls hf hW (lv_sub hl [4, 5, 6, 2, 1, 0] rfl)
  obtain ⟨H, hH⟩ : ∃ H, H = s.heap := ⟨_, rfl⟩
  obtain ⟨locs, hlo⟩ : ∃ q : List Loc, q = [] := ⟨_, rfl⟩
  have hW : Wd D 43 ad (CC ad cy) A s.heap M H locs := by rw [hH, hlo]; exact hW
  suffices hh : W p l e (rmD 0) s m ([.ref (ad 0), .long v1, .long v3] : List Value).toArray below meth c H locs 0 0 Q (F0 m 0 ls []) by rw [hH, hlo] at hh; exact hh
  unfold f_X1_tellLowest at hf
  refine lv_lload_n hx hb dX1_tellLowest_0 rfl (lv_at hl 2 rfl) ?_
  refine lv_lstore (lv' := [(5, .long v3), (0, .ref (ad 0)), (1, .long v1), (3, .long v3)]) hx hb dX1_tellLowest_1 hl (by decide) rfl (fun ls hl => ?_)
  refine lv_lload_n hx hb dX1_tellLowest_3 rfl (lv_at hl 2 rfl) ?_
  refine lv_lstore (lv' := [(7, .long v1), (5, .long v3), (0, .ref (ad 0)), (1, .long v1), (3, .long v3)]) hx hb dX1_tellLowest_4 hl (by decide) rfl (fun ls hl => ?_)
  refine lv_iconst (v := 0) hx hb dX1_tellLowest_6 (by decide) ?_
  refine lv_istore (lv' := [(9, .int 0), (7, .long v1), (5, .long v3), (0, .ref (ad 0)), (1, .long v1), (3, .long v3)]) hx hb dX1_tellLowest_7 hl (by decide) rfl (fun ls hl => ?_)
  obtain ⟨k45, hk45, hf⟩ := jn_some1 hf
  have hJ45 : ∀ (v5_45x : Int64) (H : Heap) (locs : List Loc) (ls : Array Slot), k45 v5_45x = some M' → Wd D 43 ad (CC ad cy) A s.heap M H locs → lv_has ls 12 [(0, .ref (ad 0)), (1, .long v1), (3, .long v3), (5, .long v5_45x)] → W p l e (rmD 0) s m ([.ref (ad 0), .long v1, .long v3] : List Value).toArray below meth c H locs 0 0 Q (F0 m 45 ls []) := by
    intro v5_45x H locs ls hf hW hl
    rw [hk45] at hf
    refine lv_aload_n hx hb dX1_tellLowest_45 rfl (lv_at hl 0 rfl) ?_
    refine lv_lload hx hb dX1_tellLowest_46 (lv_at hl 3 rfl) ?_
    refine lv_lconst (v := 0) hx hb dX1_tellLowest_48 (by decide) ?_
    refine W.lcmp hx hb dX1_tellLowest_49 ?_
    obtain ⟨k61, hk61, hf⟩ := jn_some1 hf
    have hJ61 : ∀ (t0_61j : Int64) (H : Heap) (locs : List Loc) (ls : Array Slot), k61 t0_61j = some M' → Wd D 43 ad (CC ad cy) A s.heap M H locs → lv_has ls 12 [(0, .ref (ad 0)), (3, .long v3), (5, .long v5_45x)] → W p l e (rmD 0) s m ([.ref (ad 0), .long v1, .long v3] : List Value).toArray below meth c H locs 0 0 Q (F0 m 61 ls [.long t0_61j, .ref (ad 0)]) := by
      intro t0_61j H locs ls hf hW hl
      rw [hk61] at hf
      refine gp_X1_61 X hW dX1_tellLowest_61 (fun H locs hW => ?_)
      obtain ⟨M61, e61, hf⟩ := lt_some hf
      have hW : Wd D 43 ad (CC ad cy) A s.heap M61 H locs := by rw [e61]; exact hW
      refine lv_aload_n hx hb dX1_tellLowest_64 rfl (lv_at hl 0 rfl) ?_
      refine lv_lload hx hb dX1_tellLowest_65 (lv_at hl 2 rfl) ?_
      refine lv_lconst (v := 0) hx hb dX1_tellLowest_67 (by decide) ?_
      refine W.lcmp hx hb dX1_tellLowest_68 ?_
      obtain ⟨k80, hk80, hf⟩ := jn_some1 hf
      have hJ80 : ∀ (t0_80j : Int64) (H : Heap) (locs : List Loc) (ls : Array Slot), k80 t0_80j = some M' → Wd D 43 ad (CC ad cy) A s.heap M61 H locs → lv_has ls 12 [] → W p l e (rmD 0) s m ([.ref (ad 0), .long v1, .long v3] : List Value).toArray below meth c H locs 0 0 Q (F0 m 80 ls [.long t0_80j, .ref (ad 0)]) := by
        intro t0_80j H locs ls hf hW hl
        rw [hk80] at hf
        refine gp_X1_65 X hW dX1_tellLowest_80 (fun H locs hW => ?_)
        obtain ⟨M80, e80, hf⟩ := lt_some hf
        have hW : Wd D 43 ad (CC ad cy) A s.heap M80 H locs := by rw [e80]; exact hW
        exact g_vret X hr hlk hQ hW dX1_tellLowest_83 hf
      refine lv_if_le (tgt := 79) hx hb dX1_tellLowest_69 (by decide) (fun hc => ?_) (fun hc => ?_)
      · replace hf := ifp hc hf
        refine lv_lload_n hx hb dX1_tellLowest_79 rfl (lv_at hl 1 rfl) ?_
        exact hJ80 v3 H locs ls hf hW (lv_sub hl [] rfl)
      · replace hf := ifn hc hf
        refine lv_lload_n hx hb dX1_tellLowest_72 rfl (lv_at hl 1 rfl) ?_
        refine lv_lload hx hb dX1_tellLowest_73 (lv_at hl 2 rfl) ?_
        obtain ⟨hz75, hf⟩ := grd_some hf
        refine lv_ldiv hx hb dX1_tellLowest_75 (nzL_ne hz75) ?_
        refine lv_goto (tgt := 80) hx hb dX1_tellLowest_76 (by decide) ?_
        exact hJ80 (v3 / v5_45x) H locs ls hf hW (lv_sub hl [] rfl)
    refine lv_if_le (tgt := 60) hx hb dX1_tellLowest_50 (by decide) (fun hc => ?_) (fun hc => ?_)
    · replace hf := ifp hc hf
      refine lv_lload_n hx hb dX1_tellLowest_60 rfl (lv_at hl 1 rfl) ?_
      exact hJ61 v1 H locs ls hf hW (lv_sub hl [0, 2, 3] rfl)
    · replace hf := ifn hc hf
      refine lv_lload_n hx hb dX1_tellLowest_53 rfl (lv_at hl 1 rfl) ?_
      refine lv_lload hx hb dX1_tellLowest_54 (lv_at hl 3 rfl) ?_
      obtain ⟨hz56, hf⟩ := grd_some hf
      refine lv_ldiv hx hb dX1_tellLowest_56 (nzL_ne hz56) ?_
      refine lv_goto (tgt := 61) hx hb dX1_tellLowest_57 (by decide) ?_
      exact hJ61 (v1 / v5_45x) H locs ls hf hW (lv_sub hl [0, 2, 3] rfl)
  exact hL9 v1 v3 M k45 hJ45 FU v3 v1 0 H locs ls hf hW (lv_sub hl [3, 4, 5, 2, 1, 0] rfl)
